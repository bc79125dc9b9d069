/-! the yarns as a table, what both heaps hold of it -/
abbrev Tb : Type := Nat × (Nat → Nat) × (Nat → Nat → Nat) × (Nat → Nat) × (Nat → Int32) × (Nat → Int32) × (Nat → Int32) × (Nat → Int32)
abbrev yN (T : Tb) : Nat := T.1
abbrev yP (T : Tb) : Nat → Nat := T.2.1
abbrev yQ (T : Tb) : Nat → Nat → Nat := T.2.2.1
abbrev yD (T : Tb) : Nat → Nat := T.2.2.2.1
abbrev yT (T : Tb) : Nat → Int32 := T.2.2.2.2.1
abbrev yW (T : Tb) : Nat → Int32 := T.2.2.2.2.2.1
abbrev yF (T : Tb) : Nat → Int32 := T.2.2.2.2.2.2.1
abbrev yS (T : Tb) : Nat → Int32 := T.2.2.2.2.2.2.2
def okY (T : Tb) (y : Nat) : Prop :=
  okV 0 (yT T y) ∧ okV 3 (yS T y) ∧
  ((yP T y = 0 ∧ yD T y = 0 ∧ okV 1 (yW T y) ∧ okV 2 (yF T y)) ∨
   (2 ≤ yP T y ∧ yP T y ≤ 4 ∧ yD T y ≤ 3 ∧ (∀ p, p < yP T y → yQ T y p < y ∧ yD T (yQ T y p) < yD T y) ∧ (∃ p, p < yP T y ∧ yD T (yQ T y p) + 1 = yD T y) ∧ yW T y = -1 ∧ yF T y = -1))
def okT (T : Tb) : Prop := yN T ≤ 16 ∧ ∀ y, y < yN T → okY T y
-- sums, trees
def sm (f : Nat → Int32) : Nat → Int32
  | 0 => 0
  | k + 1 => sm f k + f k
def sn (f : Nat → Nat) : Nat → Nat
  | 0 => 0
  | k + 1 => sn f k + f k
def orl (f : Nat → Int32) (b : Int32) : Nat → Int32
  | 0 => b
  | k + 1 => orl f b k ||| f k
def ts {σ : Type} (P : Nat → Nat) (Q : Nat → Nat → Nat) (g : Nat → σ → Int32) (nx : Nat → σ → σ) : Nat → Nat → σ → Int32
  | 0, _, _ => 0
  | k + 1, y, s => g y s + sm (fun p => ts P Q g nx k (Q y p) (nx y s)) (P y)
def lf {σ : Type} (P : Nat → Nat) (Q : Nat → Nat → Nat) (nx : Nat → σ → σ) : Nat → Nat → σ → List (Nat × σ)
  | 0, _, _ => []
  | k + 1, y, s => if P y = 0 then [(y, s)] else (List.range (P y)).flatMap fun p => lf P Q nx k (Q y p) (nx y s)
def ln (P : Nat → Nat) (Q : Nat → Nat → Nat) : Nat → Nat → Nat
  | 0, _ => 0
  | k + 1, y => if P y = 0 then 1 else sn (fun p => ln P Q k (Q y p)) (P y)
def bt (P : Nat → Nat) (Q : Nat → Nat → Nat) : Nat → Nat → Int32
  | 0, _ => 0
  | k + 1, y => orl (fun p => bt P Q k (Q y p)) (1 <<< (nI y &&& 31)) (P y)
def ctF (T : Tb) (sz : Int32) (F G : Nat → Int32) : Prop := sz = nI (yN T) ∧ ∀ y, y < yN T →
  (F (8 * y + 0) = yT T y ∧ F (8 * y + 1) = yW T y ∧ F (8 * y + 2) = yF T y ∧ F (8 * y + 3) = yS T y ∧ F (8 * y + 4) = nI (yP T y) ∧ F (8 * y + 5) = nI (yD T y) ∧ F (8 * y + 6) = nI (ln (yP T) (yQ T) 5 y) ∧ F (8 * y + 7) = bt (yP T) (yQ T) 5 y) ∧ ∀ p, p < yP T y → G (4 * y + p) = nI (yQ T y p)
def rtF (T : Tb) (sz : Int32) (rP rQ rF rW rT rS : Nat → Int32) : Prop := sz = nI (yN T) ∧ ∀ y, y < yN T →
  (rP y = nI (yP T y) ∧ rF y = yF T y ∧ rW y = yW T y ∧ rT y = yT T y ∧ rS y = yS T y) ∧ ∀ p, p < yP T y → rQ (4 * y + p) = nI (yQ T y p)
def bnF (T : Tb) (sz : Int32) (B : Nat → Int32) (sz' : Int32) (B' : Nat → Int32) : Prop := ∃ m, m ≤ 4 ∧ sz = nI m ∧ sz' = nI m ∧ ∀ i, i < m → ∃ y, y < yN T ∧ yD T y < 3 ∧ B i = nI y ∧ B' i = nI y
def lyF (n : Nat) (sz : Int32) (C : Nat → Int32) (sz' : Int32) (a b w : Nat → Int32) : Prop := ∃ m, m ≤ 8 ∧ sz = nI m ∧ sz' = nI m ∧ ∀ i, i < m → C (3 * i + 0) = a i ∧ C (3 * i + 1) = b i ∧ C (3 * i + 2) = w i ∧ (∃ y, y < n ∧ a i = nI y) ∧ (1 ≤ b i ∧ b i ≤ 40) ∧ (w i = 0 ∨ w i = 1)
def jbF (T : Tb) (sz : Int32) (C : Nat → Int32) (sz' : Int32) (a b : Nat → Int32) : Prop := ∃ m, m ≤ 8 ∧ sz = nI m ∧ sz' = nI m ∧ ∀ i, i < m → C (3 * i + 0) = a i ∧ C (3 * i + 1) = b i ∧ (∃ y, y < yN T ∧ 2 ≤ yP T y ∧ a i = nI y) ∧ (1 ≤ b i ∧ b i ≤ 9999)
def spF (T : Tb) (sz : Int32) (C : Nat → Int32) (sz' : Int32) (a b w : Nat → Int32) : Prop := ∃ m, m ≤ 10 ∧ sz = nI m ∧ sz' = nI m ∧ ∀ i, i < m → C (3 * i + 0) = a i ∧ C (3 * i + 1) = b i ∧ C (3 * i + 2) = w i ∧ ∃ k y, k < 4 ∧ y < yN T ∧ a i = nI k ∧ b i = nI y ∧ okV k (w i) ∧ ((k = 1 ∨ k = 2) → yP T y = 0)
def tpF (sz : Int32) (C : Nat → Int32) (sz' : Int32) (a : Nat → Int32) : Prop := ∃ m, m ≤ 80 ∧ sz = nI m ∧ sz' = nI m ∧ ∀ i, i < m → C i = a i ∧ 32 ≤ a i ∧ a i ≤ 126
def rwF (s p s' p' : Nat → Int32) : Prop := ∀ k, k < 3 → s k = s' k ∧ (-1 ≤ s k ∧ s k ≤ 40) ∧ ∀ i, i < 40 → nI i < s k → p (40 * k + i) = p' (40 * k + i)
def tlF (a b : Nat → Int32) : Prop := ∀ f, f < 4 → a f = b f
def imF (hc : Int32) (c2 : Int32) (cF cG : Nat → Int32) (cl : Int32) (cL : Nat → Int32) (cj : Int32) (cJ : Nat → Int32) (hr : Int32) (rn : Int32) (rP rQ rF rW rT rS : Nat → Int32) (rl : Int32) (la lb lw : Nat → Int32) (rj : Int32) (ja jb : Nat → Int32) : Prop :=
  hc = hr ∧ (hc = 0 ∨ (hc = 1 ∧ ∃ T, okT T ∧ ctF T c2 cF cG ∧ rtF T rn rP rQ rF rW rT rS ∧ lyF (yN T) cl cL rl la lb lw ∧ jbF T cj cJ rj ja jb))
def SimT (T : Tb) (c r : zz_Hp) : Prop := okT T ∧ ctF T (c.1 2 0) (c.1 3) (c.1 4) ∧ rtF T (r.1 0 0) (r.1 1) (r.1 2) (r.1 3) (r.1 4) (r.1 5) (r.1 6) ∧
  bnF T (c.1 0 4) (c.1 17) (r.1 0 7) (r.1 7) ∧ lyF (yN T) (c.1 5 0) (c.1 6) (r.1 0 9) (r.1 8) (r.1 9) (r.1 10) ∧ jbF T (c.1 7 0) (c.1 8) (r.1 0 13) (r.1 11) (r.1 12) ∧ spF T (c.1 18 0) (c.1 19) (r.1 0 16) (r.1 13) (r.1 14) (r.1 15) ∧
  tpF (c.1 24 0) (c.1 26) (r.1 0 20) (r.1 16) ∧ rwF (c.1 22) (c.1 23) (r.1 17) (r.1 18) ∧ tlF (c.1 20) (r.1 19) ∧
  imF (c.1 0 2) (c.1 10 0) (c.1 11) (c.1 12) (c.1 13 0) (c.1 14) (c.1 15 0) (c.1 16) (r.1 0 25) (r.1 0 26) (r.1 20) (r.1 21) (r.1 22) (r.1 23) (r.1 24) (r.1 25) (r.1 0 33) (r.1 26) (r.1 27) (r.1 28) (r.1 0 37) (r.1 29) (r.1 30)
def Sim (c r : zz_Hp) : Prop := ∃ T, SimT T c r
/-- scratch cells don't matter -/
def sC (c c' : zz_Hp) : Prop := (∀ k, k < 24 ∨ k = 26 → c'.1 k = c.1 k) ∧ c'.1 24 0 = c.1 24 0
def sR (r r' : zz_Hp) : Prop := (∀ k, 1 ≤ k → k ≤ 30 → r'.1 k = r.1 k) ∧ ∀ j, j < 40 → r'.1 0 j = r.1 0 j
theorem SimT_c {T : Tb} {c c' r : zz_Hp} (e : sC c c') (h : SimT T c r) : SimT T c' r := by
  obtain ⟨e1, e2⟩ := e
  unfold SimT at h ⊢
  rw [e1 2 (by omega), e1 3 (by omega), e1 4 (by omega), e1 0 (by omega), e1 17 (by omega), e1 5 (by omega), e1 6 (by omega), e1 7 (by omega), e1 8 (by omega), e1 18 (by omega), e1 19 (by omega), e2, e1 26 (by omega), e1 22 (by omega), e1 23 (by omega), e1 20 (by omega), e1 10 (by omega), e1 11 (by omega), e1 12 (by omega), e1 13 (by omega), e1 14 (by omega), e1 15 (by omega), e1 16 (by omega)]
  exact h
theorem SimT_r {T : Tb} {c r r' : zz_Hp} (e : sR r r') (h : SimT T c r) : SimT T c r' := by
  obtain ⟨e1, e2⟩ := e
  unfold SimT at h ⊢
  rw [e2 0 (by omega), e2 7 (by omega), e2 9 (by omega), e2 13 (by omega), e2 16 (by omega), e2 20 (by omega), e2 25 (by omega), e2 26 (by omega), e2 33 (by omega), e2 37 (by omega), e1 1 (by omega) (by omega), e1 2 (by omega) (by omega), e1 3 (by omega) (by omega), e1 4 (by omega) (by omega), e1 5 (by omega) (by omega), e1 6 (by omega) (by omega), e1 7 (by omega) (by omega), e1 8 (by omega) (by omega), e1 9 (by omega) (by omega), e1 10 (by omega) (by omega), e1 11 (by omega) (by omega), e1 12 (by omega) (by omega), e1 13 (by omega) (by omega), e1 14 (by omega) (by omega), e1 15 (by omega) (by omega), e1 16 (by omega) (by omega), e1 17 (by omega) (by omega), e1 18 (by omega) (by omega), e1 19 (by omega) (by omega), e1 20 (by omega) (by omega), e1 21 (by omega) (by omega), e1 22 (by omega) (by omega), e1 23 (by omega) (by omega), e1 24 (by omega) (by omega), e1 25 (by omega) (by omega), e1 26 (by omega) (by omega), e1 27 (by omega) (by omega), e1 28 (by omega) (by omega), e1 29 (by omega) (by omega), e1 30 (by omega) (by omega)]
  exact h
theorem sC.rf {c : zz_Hp} : sC c c := ⟨fun _ _ => rfl, rfl⟩
theorem sR.rf {r : zz_Hp} : sR r r := ⟨fun _ _ _ => rfl, fun _ _ => rfl⟩
theorem sC.tr {a b c : zz_Hp} (h1 : sC a b) (h2 : sC b c) : sC a c := ⟨fun k hk => (h2.1 k hk).trans (h1.1 k hk), h2.2.trans h1.2⟩
theorem sR.tr {a b c : zz_Hp} (h1 : sR a b) (h2 : sR b c) : sR a c := ⟨fun k h3 h4 => (h2.1 k h3 h4).trans (h1.1 k h3 h4), fun j hj => (h2.2 j hj).trans (h1.2 j hj)⟩
-- tree functions: what they depend on
theorem sm_congr {f g : Nat → Int32} : ∀ {n : Nat}, (∀ i, i < n → f i = g i) → sm f n = sm g n
  | 0, _ => rfl
  | n + 1, h => by simp only [sm]; rw [sm_congr (fun i hi => h i (by omega)), h n (by omega)]
theorem sn_congr {f g : Nat → Nat} : ∀ {n : Nat}, (∀ i, i < n → f i = g i) → sn f n = sn g n
  | 0, _ => rfl
  | n + 1, h => by simp only [sn]; rw [sn_congr (fun i hi => h i (by omega)), h n (by omega)]
theorem orl_congr {f g : Nat → Int32} {b : Int32} : ∀ {n : Nat}, (∀ i, i < n → f i = g i) → orl f b n = orl g b n
  | 0, _ => rfl
  | n + 1, h => by simp only [orl]; rw [orl_congr (fun i hi => h i (by omega)), h n (by omega)]
theorem flat_congr {α : Type} {f g : Nat → List α} : ∀ {n : Nat}, (∀ i, i < n → f i = g i) → (List.range n).flatMap f = (List.range n).flatMap g
  | 0, _ => rfl
  | n + 1, h => by rw [List.range_succ, List.flatMap_append, List.flatMap_append, flat_congr (fun i hi => h i (by omega))]; simp [h n (by omega)]
theorem ts_congr {σ : Type} {P P' : Nat → Nat} {Q Q' : Nat → Nat → Nat} {g : Nat → σ → Int32} {nx : Nat → σ → σ} {n : Nat} (hh : ∀ y, y < n → P' y = P y ∧ ∀ p, p < P y → Q' y p = Q y p ∧ Q y p < n) : ∀ (k y : Nat) (s : σ), y < n → ts P' Q' g nx k y s = ts P Q g nx k y s := by
  intro k
  induction k with
  | zero => intros; rfl
  | succ k ih =>
    intro y s hy
    simp only [ts]
    rw [(hh y hy).1, sm_congr (fun p hp => ?_)]
    rw [((hh y hy).2 p hp).1, ih _ _ ((hh y hy).2 p hp).2]
theorem lf_congr {σ : Type} {P P' : Nat → Nat} {Q Q' : Nat → Nat → Nat} {nx : Nat → σ → σ} {n : Nat} (hh : ∀ y, y < n → P' y = P y ∧ ∀ p, p < P y → Q' y p = Q y p ∧ Q y p < n) : ∀ (k y : Nat) (s : σ), y < n → lf P' Q' nx k y s = lf P Q nx k y s := by
  intro k
  induction k with
  | zero => intros; rfl
  | succ k ih =>
    intro y s hy
    simp only [lf]
    rw [(hh y hy).1, flat_congr (fun p hp => ?_)]
    rw [((hh y hy).2 p hp).1, ih _ _ ((hh y hy).2 p hp).2]
theorem ln_congr {P P' : Nat → Nat} {Q Q' : Nat → Nat → Nat} {n : Nat} (hh : ∀ y, y < n → P' y = P y ∧ ∀ p, p < P y → Q' y p = Q y p ∧ Q y p < n) : ∀ (k y : Nat), y < n → ln P' Q' k y = ln P Q k y := by
  intro k
  induction k with
  | zero => intros; rfl
  | succ k ih =>
    intro y hy
    simp only [ln]
    rw [(hh y hy).1, sn_congr (fun p hp => ?_)]
    rw [((hh y hy).2 p hp).1, ih _ ((hh y hy).2 p hp).2]
theorem bt_congr {P P' : Nat → Nat} {Q Q' : Nat → Nat → Nat} {n : Nat} (hh : ∀ y, y < n → P' y = P y ∧ ∀ p, p < P y → Q' y p = Q y p ∧ Q y p < n) : ∀ (k y : Nat), y < n → bt P' Q' k y = bt P Q k y := by
  intro k
  induction k with
  | zero => intros; rfl
  | succ k ih =>
    intro y hy
    simp only [bt]
    rw [(hh y hy).1, orl_congr (fun p hp => ?_)]
    rw [((hh y hy).2 p hp).1, ih _ ((hh y hy).2 p hp).2]
-- more fuel than the depth doesn't matter
theorem okT.part {T : Tb} (hT : okT T) {y p : Nat} (hy : y < yN T) (hp : p < yP T y) : yQ T y p < y ∧ yQ T y p < yN T ∧ yD T (yQ T y p) < yD T y := by
  obtain ⟨-, -, h | h⟩ := hT.2 y hy
  · omega
  · have := h.2.2.2.1 p hp
    omega
theorem okT.P4 {T : Tb} (hT : okT T) {y : Nat} (hy : y < yN T) : yP T y ≤ 4 := by
  obtain ⟨-, -, h | h⟩ := hT.2 y hy <;> omega
theorem okT.D3 {T : Tb} (hT : okT T) {y : Nat} (hy : y < yN T) : yD T y ≤ 3 := by
  obtain ⟨-, -, h | h⟩ := hT.2 y hy <;> omega
theorem ts_fuel {σ : Type} {T : Tb} (hT : okT T) {g : Nat → σ → Int32} {nx : Nat → σ → σ} : ∀ (k k' y : Nat) (s : σ), y < yN T → yD T y < k → yD T y < k' → ts (yP T) (yQ T) g nx k y s = ts (yP T) (yQ T) g nx k' y s := by
  intro k
  induction k with
  | zero => intro k' y s _ h; omega
  | succ k ih =>
    intro k' y s hy h h'
    cases k' with
    | zero => omega
    | succ k' =>
      simp only [ts]
      congr 1
      refine sm_congr fun p hp => ?_
      have := hT.part hy hp
      exact ih k' _ _ this.2.1 (by omega) (by omega)
theorem lf_fuel {σ : Type} {T : Tb} (hT : okT T) {nx : Nat → σ → σ} : ∀ (k k' y : Nat) (s : σ), y < yN T → yD T y < k → yD T y < k' → lf (yP T) (yQ T) nx k y s = lf (yP T) (yQ T) nx k' y s := by
  intro k
  induction k with
  | zero => intro k' y s _ h; omega
  | succ k ih =>
    intro k' y s hy h h'
    cases k' with
    | zero => omega
    | succ k' =>
      simp only [lf]
      congr 1
      refine flat_congr fun p hp => ?_
      have := hT.part hy hp
      exact ih k' _ _ this.2.1 (by omega) (by omega)
theorem ln_fuel {T : Tb} (hT : okT T) : ∀ (k k' y : Nat), y < yN T → yD T y < k → yD T y < k' → ln (yP T) (yQ T) k y = ln (yP T) (yQ T) k' y := by
  intro k
  induction k with
  | zero => intro k' y _ h; omega
  | succ k ih =>
    intro k' y hy h h'
    cases k' with
    | zero => omega
    | succ k' =>
      simp only [ln]
      congr 1
      refine sn_congr fun p hp => ?_
      have := hT.part hy hp
      exact ih k' _ this.2.1 (by omega) (by omega)
theorem bt_fuel {T : Tb} (hT : okT T) : ∀ (k k' y : Nat), y < yN T → yD T y < k → yD T y < k' → bt (yP T) (yQ T) k y = bt (yP T) (yQ T) k' y := by
  intro k
  induction k with
  | zero => intro k' y _ h; omega
  | succ k ih =>
    intro k' y hy h h'
    cases k' with
    | zero => omega
    | succ k' =>
      simp only [bt]
      refine orl_congr fun p hp => ?_
      have := hT.part hy hp
      exact ih k' _ this.2.1 (by omega) (by omega)
theorem lf_len {σ : Type} {P : Nat → Nat} {Q : Nat → Nat → Nat} {nx : Nat → σ → σ} : ∀ (k y : Nat) (s : σ), (lf P Q nx k y s).length = ln P Q k y := by
  intro k
  induction k with
  | zero => intros; rfl
  | succ k ih =>
    intro y s
    simp only [lf, ln]
    split
    · rfl
    · have : ∀ n, ((List.range n).flatMap fun p => lf P Q nx k (Q y p) (nx y s)).length = sn (fun p => ln P Q k (Q y p)) n := by
        intro n
        induction n with
        | zero => rfl
        | succ n ihn => rw [List.range_succ, List.flatMap_append, List.length_append, ihn]; simp [sn, ih]
      exact this _
theorem sn_le {f : Nat → Nat} {b : Nat} : ∀ {n : Nat}, (∀ i, i < n → f i ≤ b) → sn f n ≤ n * b
  | 0, _ => by simp [sn]
  | n + 1, h => by
    simp only [sn]
    have h1 := sn_le (f := f) (b := b) (n := n) (fun i hi => h i (by omega))
    have h2 := h n (by omega)
    rw [Nat.add_mul]; omega
theorem ln_le {T : Tb} (hT : okT T) : ∀ (k y : Nat), y < yN T → ln (yP T) (yQ T) k y ≤ 4 ^ yD T y := by
  intro k
  induction k with
  | zero => intros; exact Nat.zero_le _
  | succ k ih =>
    intro y hy
    simp only [ln]
    split
    · exact Nat.one_le_pow _ _ (by omega)
    · rename_i h0
      obtain ⟨-, -, h | h⟩ := hT.2 y hy
      · exact absurd h.1 h0
      · have h1 : sn (fun p => ln (yP T) (yQ T) k (yQ T y p)) (yP T y) ≤ yP T y * 4 ^ (yD T y - 1) := by
          refine sn_le fun p hp => ?_
          have := hT.part hy hp
          exact Nat.le_trans (ih _ this.2.1) (Nat.pow_le_pow_right (by omega) (by omega))
        obtain ⟨p, hp, hd⟩ := h.2.2.2.2.1
        have h2 : 4 ^ yD T y = 4 * 4 ^ (yD T y - 1) := by
          rw [show yD T y = (yD T y - 1) + 1 by omega, Nat.pow_succ, Nat.add_sub_cancel]; omega
        rw [h2]
        exact Nat.le_trans h1 (Nat.mul_le_mul_right _ h.2.1)
theorem ln_64 {T : Tb} (hT : okT T) {k y : Nat} (hy : y < yN T) : ln (yP T) (yQ T) k y ≤ 64 :=
  Nat.le_trans (ln_le hT k y hy) (show 4 ^ yD T y ≤ 4 ^ 3 from Nat.pow_le_pow_right (by omega) (hT.D3 hy))
