/-! yards that are needed -/
def gnd (T : Tb) (v u : Nat) (L : Int32) : Int32 := if yP T u = 0 ∧ u = v then L else 0
def nct (T : Tb) (u : Nat) (L : Int32) : Int32 := cut L (byv T u)
abbrev nd (T : Tb) (v y : Nat) (L : Int32) : Int32 := ts (yP T) (yQ T) (gnd T v) (nct T) 5 y L
theorem ts_map {σ τ : Type} {P : Nat → Nat} {Q : Nat → Nat → Nat} {g : Nat → τ → Int32} {nx : Nat → σ → σ} {nx' : Nat → τ → τ} (π : σ → τ) (h : ∀ u s, π (nx u s) = nx' u (π s)) : ∀ (k y : Nat) (s : σ), ts P Q g nx' k y (π s) = ts P Q (fun u s => g u (π s)) nx k y s := by
  intro k
  induction k with
  | zero => intros; rfl
  | succ k ih =>
    intro y s
    simp only [ts]
    congr 1
    refine sm_congr fun p _ => ?_
    rw [← h]; exact ih _ _
def lsm {σ : Type} (g : Nat → σ → Int32) : List (Nat × σ) → Int32
  | [] => 0
  | q :: l => g q.1 q.2 + lsm g l
theorem lsm_app {σ : Type} {g : Nat → σ → Int32} : ∀ l l' : List (Nat × σ), lsm g (l ++ l') = lsm g l + lsm g l'
  | [], l' => by simp [lsm]
  | q :: l, l' => by simp only [List.cons_append, lsm]; rw [lsm_app l l']; grind
theorem lsm_flat {σ : Type} {g : Nat → σ → Int32} {f : Nat → List (Nat × σ)} : ∀ n, lsm g ((List.range n).flatMap f) = sm (fun i => lsm g (f i)) n
  | 0 => rfl
  | n + 1 => by rw [List.range_succ, List.flatMap_append, lsm_app, lsm_flat n]; simp [sm]
theorem ts_lf {σ : Type} {P : Nat → Nat} {Q : Nat → Nat → Nat} {g : Nat → σ → Int32} {nx : Nat → σ → σ} (h : ∀ u s, ¬ P u = 0 → g u s = 0) : ∀ (k y : Nat) (s : σ), ts P Q g nx k y s = lsm g (lf P Q nx k y s) := by
  intro k
  induction k with
  | zero => intros; rfl
  | succ k ih =>
    intro y s
    simp only [ts, lf]
    by_cases h0 : P y = 0
    · rw [if_pos h0, h0]; simp [sm, lsm]
    · rw [if_neg h0, h y s h0, lsm_flat, sm_congr (fun p _ => ih (Q y p) (nx y s))]; simp
theorem sm_shift {f : Nat → Int32} : ∀ n, sm f (n + 1) = f 0 + sm (fun i => f (i + 1)) n
  | 0 => by simp [sm]
  | n + 1 => by
    have := sm_shift (f := f) n
    simp only [sm] at this ⊢
    rw [this]; grind
theorem lsm_sm {σ : Type} {g : Nat → σ → Int32} {f : Nat → Int32} : ∀ {l : List (Nat × σ)}, (∀ i v s, l[i]? = some (v, s) → f i = g v s) → lsm g l = sm f l.length
  | [], _ => rfl
  | q :: l, h => by
    rw [List.length_cons, sm_shift, lsm, ← h 0 q.1 q.2 rfl]
    congr 1
    exact lsm_sm (f := fun i => f (i + 1)) fun i v s hi => h (i + 1) v s (by simpa using hi)
/-- the leaves of a yarn are threads there are -/
theorem lf_mem {σ : Type} {T : Tb} (hT : okT T) {nx : Nat → σ → σ} : ∀ (k y : Nat) (s : σ), y < yN T → ∀ q ∈ lf (yP T) (yQ T) nx k y s, q.1 < yN T ∧ yP T q.1 = 0 := by
  intro k
  induction k with
  | zero => intro y s _ q hq; simp [lf] at hq
  | succ k ih =>
    intro y s hy q hq
    simp only [lf] at hq
    by_cases h0 : yP T y = 0
    · rw [if_pos h0] at hq
      have := List.mem_singleton.mp hq
      subst this; exact ⟨hy, h0⟩
    · rw [if_neg h0] at hq
      obtain ⟨p, hp, hq⟩ := List.mem_flatMap.mp hq
      exact ih _ _ (hT.part hy (List.mem_range.mp hp)).2.1 q hq
/-- needs as a sum over the leaves that the reference walks -/
theorem nd_lf {T : Tb} (hT : okT T) {v y : Nat} {L : Int32} (hy : y < yN T) : nd T v y L = lsm (fun u (s : Ps) => if u = v then s.2.1 else 0) (lf (yP T) (yQ T) (nl T) 5 y (0, L, 1, 1)) := by
  have e1 : nd T v y L = ts (yP T) (yQ T) (fun u (s : Ps) => gnd T v u s.2.1) (nl T) 5 y (0, L, 1, 1) :=
    ts_map (g := gnd T v) (nx := nl T) (nx' := nct T) (fun s : Ps => s.2.1) (fun _ _ => rfl) 5 y (0, L, 1, 1)
  rw [e1, ts_lf (fun u s h => by unfold gnd; rw [if_neg (fun w => h w.1)])]
  have key : ∀ l : List (Nat × Ps), (∀ q ∈ l, yP T q.1 = 0) → lsm (fun u (s : Ps) => gnd T v u s.2.1) l = lsm (fun u (s : Ps) => if u = v then s.2.1 else 0) l := by
    intro l
    induction l with
    | nil => intro _; rfl
    | cons q l ih =>
      intro hq
      simp only [lsm]
      rw [ih (fun q hq' => hq q (List.mem_cons_of_mem _ hq'))]
      congr 1
      unfold gnd
      have := hq q List.mem_cons_self
      by_cases e : q.1 = v
      · rw [if_pos ⟨this, e⟩, if_pos e]
      · rw [if_neg (fun w => e w.2), if_neg e]
  exact key _ fun q hq => (lf_mem hT 5 y _ hy q hq).2
-- as whole numbers
def ctN (L b : Nat) : Nat := (L * 1000 + b - 1) / b
def ndN (T : Tb) (v : Nat) : Nat → Nat → Nat → Nat
  | 0, _, _ => 0
  | k + 1, y, L => if yP T y = 0 then (if y = v then L else 0) else sn (fun p => ndN T v k (yQ T y p) (ctN L (byv T y).toInt.toNat)) (yP T y)
def lmx : Nat → Nat
  | 0 => 46000
  | 1 => 27600
  | 2 => 16600
  | _ => 9999
theorem ct_nat {T : Tb} (hT : okT T) {y L : Nat} (hy : y < yN T) (hL : L ≤ 46000) : cut (nI L) (byv T y) = nI (ctN L (byv T y).toInt.toNat) := by
  have hb := by_toInt hT hy
  obtain ⟨b, hb0, hb1, eb⟩ : ∃ b : Nat, 604 ≤ b ∧ b ≤ 1000 ∧ byv T y = nI b := by
    refine ⟨(byv T y).toInt.toNat, by omega, by omega, ?_⟩
    apply Int32.toInt_inj.mp
    rw [nv_toInt (by omega)]; omega
  rw [eb, nv_toInt (by omega)]
  unfold cut ctN
  rw [show (1000 : Int32) = nI 1000 from rfl, nv_mul, nv_add, lit_1, nv_sub (by omega), nv_div (by omega) (by omega)]
  rfl
theorem ct_mono {L L' b : Nat} (h : L ≤ L') : ctN L b ≤ ctN L' b := by
  unfold ctN; exact Nat.div_le_div_right (by omega)
theorem ct_lmx {L b d d' : Nat} (hd : d < d') (hd3 : d' ≤ 3) (hL : L ≤ lmx d') (hb : 604 ≤ b) : ctN L b ≤ lmx d := by
  have h1 : ctN L b ≤ (lmx d' * 1000 + b - 1) / b := ct_mono hL
  have h2 : (lmx d' * 1000 + b - 1) / b ≤ lmx d' * 1000 / 604 + 1 := by
    have e : lmx d' * 1000 + b - 1 ≤ lmx d' * 1000 + b := by omega
    have e2 : (lmx d' * 1000 + b) / b = lmx d' * 1000 / b + 1 := Nat.add_div_right _ (by omega)
    have e3 : lmx d' * 1000 / b ≤ lmx d' * 1000 / 604 := Nat.div_le_div_left hb (by omega)
    have e4 : (lmx d' * 1000 + b - 1) / b ≤ (lmx d' * 1000 + b) / b := Nat.div_le_div_right e
    omega
  have h3 : lmx d' * 1000 / 604 + 1 ≤ lmx d := by
    have : (d' = 1 ∧ d = 0) ∨ (d' = 2 ∧ (d = 0 ∨ d = 1)) ∨ (d' = 3 ∧ (d = 0 ∨ d = 1 ∨ d = 2)) := by omega
    rcases this with ⟨rfl, rfl⟩ | ⟨rfl, rfl | rfl⟩ | ⟨rfl, rfl | rfl | rfl⟩ <;> decide
  omega
theorem lmx_le {d : Nat} : lmx d ≤ 46000 := by
  unfold lmx; split <;> omega
theorem sm_nI {f : Nat → Int32} {g : Nat → Nat} : ∀ {n : Nat}, (∀ i, i < n → f i = nI (g i)) → sm f n = nI (sn g n)
  | 0, _ => rfl
  | n + 1, h => by simp only [sm, sn]; rw [sm_nI (fun i hi => h i (by omega)), h n (by omega), nv_add]
theorem nd_nat {T : Tb} (hT : okT T) {v : Nat} : ∀ (k y L : Nat), y < yN T → L ≤ lmx (yD T y) → ts (yP T) (yQ T) (gnd T v) (nct T) k y (nI L) = nI (ndN T v k y L) := by
  intro k
  induction k with
  | zero => intros; rfl
  | succ k ih =>
    intro y L hy hL
    have hb := by_toInt hT hy
    have hl := lmx_le (d := yD T y)
    simp only [ts, ndN]
    by_cases h0 : yP T y = 0
    · rw [if_pos h0, h0]
      simp only [sm, Int32.add_zero, gnd]
      by_cases e : y = v
      · rw [if_pos ⟨h0, e⟩, if_pos e]
      · rw [if_neg (fun w => e w.2), if_neg e]; rfl
    · rw [if_neg h0]
      have e1 : gnd T v y (nI L) = 0 := by unfold gnd; rw [if_neg (fun w => h0 w.1)]
      have e2 : nct T y (nI L) = nI (ctN L (byv T y).toInt.toNat) := ct_nat hT hy (by omega)
      rw [e1, e2, Int32.zero_add]
      refine sm_nI fun p hp => ?_
      have hpt := hT.part hy hp
      exact ih _ _ hpt.2.1 (ct_lmx hpt.2.2 (hT.D3 hy) hL (by omega))
theorem sn_mono {f g : Nat → Nat} : ∀ {n : Nat}, (∀ i, i < n → f i ≤ g i) → sn f n ≤ sn g n
  | 0, _ => Nat.le_refl _
  | n + 1, h => by
    simp only [sn]
    have h1 := sn_mono (f := f) (g := g) (n := n) (fun i hi => h i (by omega))
    have h2 := h n (by omega)
    omega
theorem ndN_mono {T : Tb} {v : Nat} : ∀ (k y : Nat) {L L' : Nat}, L ≤ L' → ndN T v k y L ≤ ndN T v k y L' := by
  intro k
  induction k with
  | zero => intros; exact Nat.le_refl _
  | succ k ih =>
    intro y L L' h
    simp only [ndN]
    split
    · split
      · exact h
      · exact Nat.le_refl _
    · exact sn_mono fun p _ => ih _ (ct_mono h)
theorem ndN_bd {T : Tb} (hT : okT T) {v : Nat} : ∀ (k y L : Nat), y < yN T → L ≤ lmx (yD T y) → ndN T v k y L ≤ 4 ^ yD T y * 46000 := by
  intro k
  induction k with
  | zero => intros; exact Nat.zero_le _
  | succ k ih =>
    intro y L hy hL
    have hb := by_toInt hT hy
    have hl := lmx_le (d := yD T y)
    have hp1 : 1 ≤ 4 ^ yD T y := Nat.one_le_pow _ _ (by omega)
    simp only [ndN]
    split
    · have : 1 * 46000 ≤ 4 ^ yD T y * 46000 := Nat.mul_le_mul_right _ hp1
      split <;> omega
    · rename_i h0
      obtain ⟨-, -, h | h⟩ := hT.2 y hy
      · exact absurd h.1 h0
      · have h1 : sn (fun p => ndN T v k (yQ T y p) (ctN L (byv T y).toInt.toNat)) (yP T y) ≤ yP T y * (4 ^ (yD T y - 1) * 46000) := by
          refine sn_le fun p hp => ?_
          have hpt := hT.part hy hp
          refine Nat.le_trans (ih _ _ hpt.2.1 (ct_lmx hpt.2.2 (hT.D3 hy) hL (by omega))) ?_
          exact Nat.mul_le_mul_right _ (Nat.pow_le_pow_right (by omega) (by omega))
        obtain ⟨p, hp, hd⟩ := h.2.2.2.2.1
        have h2 : 4 ^ yD T y = 4 * 4 ^ (yD T y - 1) := by
          rw [show yD T y = (yD T y - 1) + 1 by omega, Nat.pow_succ, Nat.add_sub_cancel]; omega
        rw [h2, Nat.mul_assoc]
        exact Nat.le_trans h1 (Nat.mul_le_mul_right _ h.2.1)
/-- needs for L yards: a number that isn't below 0, and grows with L -/
theorem nd_num {T : Tb} (hT : okT T) {v y L : Nat} (hy : y < yN T) (hL : L ≤ 9999) : nd T v y (nI L) = nI (ndN T v 5 y L) ∧ ndN T v 5 y L < 2147483648 := by
  have hD := hT.D3 hy
  have h1 : L ≤ lmx (yD T y) := by
    have : yD T y = 0 ∨ yD T y = 1 ∨ yD T y = 2 ∨ yD T y = 3 := by omega
    rcases this with e | e | e | e <;> rw [e] <;> simp only [lmx] <;> omega
  refine ⟨nd_nat hT 5 y L hy h1, ?_⟩
  have := ndN_bd hT (v := v) 5 y L hy h1
  have h2 : 4 ^ yD T y * 46000 ≤ 4 ^ 3 * 46000 := Nat.mul_le_mul_right _ (Nat.pow_le_pow_right (by omega) hD)
  omega
-- the component draws
theorem t6_draw {T : Tb} (hT : okT T) {c : zz_Hp} (hc : CT T c) {y : Nat} {at_ L : Int32} (hw : WE T y at_ c) {Q : zz_Hp → Prop} (H : ∀ c', (∀ k, k ≠ 33 → k ≠ 34 → c'.1 k = c.1 k) → (∀ v, v < 16 → c'.1 34 v = nd T v y L) → Q c') : w_X6_draw L c Q := by
  obtain ⟨s, Y, R, h⟩ := hw
  have hn := hT.1
  have hs85 := h.s85
  have hsz := h.1.2.1
  unfold w_X6_draw
  refine lp_cnt 16 (fun i u => u.1 = nI i ∧ (∀ k, k ≠ 34 → u.2.1 k = c.1 k) ∧ ∀ f, f < i → u.2.1 34 f = 0) ?_ _ ⟨rfl, fun _ _ => rfl, fun f hf => by omega⟩
  intro i u hi hu again hag
  obtain ⟨j, c1⟩ := u
  obtain ⟨hj, hf1, hz1⟩ := hu
  dsimp only at hj hf1 hz1
  subst hj
  unfold w_J7_fill_53178_34_l5
  dsimp only
  rw [lit_16]
  refine brc (fun e => ?_) fun e => ?_
  rotate_left
  · have hlt := nv_nle (by omega) (by omega) e
    rw [nv_tn (by omega), nv_1]
    refine ⟨nv_in hlt (by decide), fun c2 e2 => hag hlt _ ⟨rfl, fun k hk => by dsimp only; rw [e2, zu_f hk]; exact hf1 k hk, fun f hf => ?_⟩⟩
    dsimp only
    rw [e2]
    by_cases w : f = i
    · rw [w, zu_eq ⟨rfl, rfl⟩]
    · rw [zu_ne (Or.inr w)]; exact hz1 f (by omega)
  · have := nv_end (by omega) (by omega) hi e
    subst this
    clear hag again
    refine lp_cnt s (fun i u => u.1 = nI i ∧ (∀ k, k ≠ 33 → k ≠ 34 → u.2.1 k = c.1 k) ∧ (∀ j, j < i → (j = 0 → u.2.1 33 j = L) ∧ (1 ≤ j → u.2.1 33 j = cut (u.2.1 33 (R j)) (byv T (Y (R j))))) ∧ ∀ v, v < 16 → u.2.1 34 v = sm (fun j => c.1 30 j * gnd T v (Y j) (u.2.1 33 j)) i) ?_ _ ⟨rfl, fun k _ h2 => hf1 k h2, fun j hj => by omega, fun v hv => hz1 v hv⟩
    intro i u hi hu again hag
    obtain ⟨j, c2⟩ := u
    obtain ⟨hj, hf2, hy2, hz2⟩ := hu
    dsimp only at hj hf2 hy2 hz2
    subst hj
    have hc2 : CT T c2 := by unfold CT; rw [hf2 2 (by decide) (by decide), hf2 3 (by decide) (by decide), hf2 4 (by decide) (by decide)]; exact hc
    unfold w_X6_draw_l10
    dsimp only
    rw [hf2 27 (by decide) (by decide), hsz]
    refine brc (fun e => ?_) fun e => ?_
    · have := nv_end (by omega) (by omega) hi e
      subst this
      refine H _ hf2 fun v hv => ?_
      rw [hz2 v hv]
      obtain ⟨⟨h1, h2, h3, h4, h5⟩, h6, h7, h8, h9, h10, h11⟩ := h
      have := tree_sum hT (g := gnd T v) (nx := nct T) (s := i) (Y := Y) (R := R) (TI := c.1 30) (st := c2.1 33) (by omega) (fun j hj => (h6 j hj).1) (fun j a b => (h7 j a b).1) (fun q hq f => h9 q hq hq f) (fun j a b => (hy2 j b).2 a)
      rw [this, h4, h3, (hy2 0 (by omega)).1 rfl, Int32.one_mul]
    · have hlt := nv_nle (by omega) (by omega) e
      obtain ⟨hYi, hYc, -⟩ := h.2.1 i hlt
      have hii : vp_in (nI i) 85 := nv_in (by omega) (by decide)
      have hin : (nI i).toNatClampNeg = i := nv_tn (by omega)
      have hY16 : vp_in (nI (Y i)) 16 := nv_in (by omega) (by decide)
      have hYn : (nI (Y i)).toNatClampNeg = Y i := nv_tn (by omega)
      have fin : ∀ x : Int32, (i = 0 → x = L) → (1 ≤ i → x = cut (c2.1 33 (R i)) (byv T (Y (R i)))) → w_X6_draw_j65 again Q L (nI i) x (nI i) c2 := by
        intro x hx0 hx1
        unfold w_X6_draw_j65
        rw [hin]
        refine ⟨hii, fun c3 e3 => ⟨hii, ?_⟩⟩
        have hf3 : ∀ k, k ≠ 33 → c3.1 k = c2.1 k := fun k hk => by rw [e3, zu_f hk]
        have hc3 : CT T c3 := by unfold CT; rw [hf3 2 (by decide), hf3 3 (by decide), hf3 4 (by decide)]; exact hc2
        have h33 : ∀ j, j ≠ i → c3.1 33 j = c2.1 33 j := fun j hj => by rw [e3, zu_ne (Or.inr hj)]
        have h33i : c3.1 33 i = x := by rw [e3, zu_eq ⟨rfl, rfl⟩]
        have hyd : ∀ j, j < i + 1 → (j = 0 → c3.1 33 j = L) ∧ (1 ≤ j → c3.1 33 j = cut (c3.1 33 (R j)) (byv T (Y (R j)))) := by
          intro j hj
          by_cases z : j = i
          · subst z
            refine ⟨fun z => by rw [h33i]; exact hx0 z, fun z => ?_⟩
            have := (h.2.2.1 j z hlt).1
            rw [h33i, h33 _ (by omega)]; exact hx1 z
          · have hji : j < i := by omega
            refine ⟨fun z2 => by rw [h33 j z]; exact (hy2 j hji).1 z2, fun z2 => ?_⟩
            have := (h.2.2.1 j z2 (by omega)).1
            rw [h33 j z, h33 _ (by omega)]; exact (hy2 j hji).2 z2
        have hsum : ∀ v, sm (fun j => c.1 30 j * gnd T v (Y j) (c3.1 33 j)) i = sm (fun j => c.1 30 j * gnd T v (Y j) (c2.1 33 j)) i := fun v => sm_congr fun j hj => by rw [h33 j (by omega)]
        rw [hf3 28 (by decide), hf2 28 (by decide) (by decide), hYc]
        refine t7_isThread hT hc3 rfl hYi (fun h0 => bq1 ?_) fun h0 => bq0 ?_
        · rw [hf3 28 (by decide), hf2 28 (by decide) (by decide), hYc, hYn, hf3 34 (by decide), hf3 30 (by decide), hf2 30 (by decide) (by decide), h33i]
          refine ⟨hii, hY16, hii, hii, hY16, fun c4 e4 => ?_⟩
          rw [nv_1]
          have h433 : c4.1 33 = c3.1 33 := by rw [e4, zu_f (by decide)]
          refine hag hlt _ ⟨rfl, fun k a1 a2 => ?_, fun j hj => ?_, fun v hv => ?_⟩
          · dsimp only; rw [e4, zu_f a2, hf3 k a1]; exact hf2 k a1 a2
          · dsimp only; rw [h433]; exact hyd j hj
          · dsimp only
            rw [h433]
            simp only [sm]
            rw [hsum v, h33i, ← hz2 v hv]
            unfold gnd
            rw [e4]
            by_cases z : v = Y i
            · rw [zu_eq ⟨rfl, z⟩, if_pos ⟨h0, z.symm⟩, z]
            · rw [zu_ne (Or.inr z), if_neg (fun w => z w.2.symm), hf3 34 (by decide)]; simp
        · rw [nv_1]
          refine hag hlt _ ⟨rfl, fun k a1 a2 => ?_, hyd, fun v hv => ?_⟩
          · dsimp only; rw [hf3 k a1]; exact hf2 k a1 a2
          · dsimp only
            simp only [sm]
            rw [hsum v, hf3 34 (by decide), hz2 v hv]
            unfold gnd
            rw [if_neg (fun w => h0 w.1)]; simp
      rw [hin, hf2 31 (by decide) (by decide)]
      by_cases hi0 : i = 0
      · subst hi0
        rw [h.1.2.2.2.2]
        exact ⟨hii, brf (by decide) (fin L (fun _ => rfl) fun z => by omega)⟩
      · obtain ⟨r1, r2, r3, r4⟩ := h.2.2.1 i (by omega) hlt
        obtain ⟨hYr, hYrc, -⟩ := h.2.1 (R i) (by omega)
        rw [r4, nv_tn (by omega), hf2 28 (by decide) (by decide), hYrc]
        have hri : vp_in (nI (R i)) 85 := nv_in (by omega) (by decide)
        exact ⟨hii, brt (Int32.not_lt.mp (nv_lt0 (by omega))) ⟨hri, hri, t7_by hT hc2 rfl hYr (t8_cut (by have := by_toInt hT hYr; omega) (fin _ (fun z => absurd z hi0) fun _ => rfl))⟩⟩
