/-! order -/
def ins (M i : Nat) : Nat := M ||| 2 ^ i
theorem ins_bit {M i j : Nat} : (ins M i).testBit j = (M.testBit j || decide (i = j)) := by
  unfold ins; rw [Nat.testBit_or, Nat.testBit_two_pow]
theorem ins_lt {m M i : Nat} (hM : M < 2 ^ m) (hi : i < m) : ins M i < 2 ^ m :=
  Nat.or_lt_two_pow hM (Nat.pow_lt_pow_right (by omega) hi)
theorem ins_gt {M i : Nat} (h : M.testBit i = false) : M < ins M i := by
  rcases Nat.lt_or_eq_of_le (Nat.left_le_or : M ≤ M ||| 2 ^ i) with z | z
  · exact z
  · have : (ins M i).testBit i = M.testBit i := by unfold ins; rw [← z]
    rw [ins_bit, h] at this; simp at this
theorem b_get {M i : Nat} (hM : M < 256) (hi : i < 8) : (nI M >>> (nI i &&& 31)) &&& 1 = if M.testBit i then 1 else 0 := by
  have : ∀ M, M < 256 → ∀ i, i < 8 → (nI M >>> (nI i &&& 31)) &&& 1 = if M.testBit i then 1 else 0 := by decide +kernel
  exact this M hM i hi
theorem b_ins {M i : Nat} (hM : M < 256) (hi : i < 8) : nI M ||| (1 <<< (nI i &&& 31)) = nI (ins M i) := by
  have : ∀ M, M < 256 → ∀ i, i < 8 → nI M ||| (1 <<< (nI i &&& 31)) = nI (ins M i) := by decide +kernel
  exact this M hM i hi
theorem b_full {m : Nat} (hm : m ≤ 8) : ((1 : Int32) <<< (nI m &&& 31)) - 1 = nI (2 ^ m - 1) := by
  have : ∀ m, m < 9 → ((1 : Int32) <<< (nI m &&& 31)) - 1 = nI (2 ^ m - 1) := by decide +kernel
  exact this m (by omega)
theorem b_pow {m : Nat} (hm : m ≤ 8) : 1 ≤ 2 ^ m ∧ 2 ^ m ≤ 256 := by
  have : ∀ m, m < 9 → 1 ≤ 2 ^ m ∧ 2 ^ m ≤ 256 := by decide
  exact this m (by omega)
theorem full_iff {m M : Nat} (hM : M < 2 ^ m) : M = 2 ^ m - 1 ↔ ∀ i, i < m → M.testBit i = true := by
  constructor
  · intro e i hi; rw [e, Nat.testBit_two_pow_sub_one]; simp [hi]
  · intro h
    refine Nat.eq_of_testBit_eq fun i => ?_
    rw [Nat.testBit_two_pow_sub_one]
    by_cases hi : i < m
    · rw [h i hi]; simp [hi]
    · rw [Nat.testBit_lt_two_pow (Nat.lt_of_lt_of_le hM (Nat.pow_le_pow_right (by omega) (by omega)))]; simp [hi]
/-- the sum of a set, its number, the least over what is outside it -/
def sB (f : Nat → Int32) (M : Nat) : Nat → Int32
  | 0 => 0
  | j + 1 => if M.testBit j then sB f M j + f j else sB f M j
def cB (M : Nat) : Nat → Nat
  | 0 => 0
  | j + 1 => if M.testBit j then cB M j + 1 else cB M j
def mB (R : Nat → Int) (M : Nat) (a : Int) : Nat → Int
  | 0 => a
  | j + 1 => if M.testBit j then mB R M a j else min (R (ins M j)) (mB R M a j)
theorem sB_ins {f : Nat → Int32} {M i : Nat} (h : M.testBit i = false) : ∀ j, sB f (ins M i) j = if i < j then sB f M j + f i else sB f M j
  | 0 => by simp [sB]
  | j + 1 => by
    simp only [sB]
    rw [sB_ins h j, ins_bit]
    by_cases e : i = j
    · subst e; simp [h]
    · simp only [e, decide_false, Bool.or_false]
      by_cases hb : M.testBit j = true
      · rw [if_pos hb, if_pos hb]
        by_cases hl : i < j
        · rw [if_pos hl, if_pos (by omega)]; grind
        · rw [if_neg hl, if_neg (by omega)]
      · rw [if_neg hb, if_neg hb]
        by_cases hl : i < j
        · rw [if_pos hl, if_pos (by omega)]
        · rw [if_neg hl, if_neg (by omega)]
theorem cB_ins {M i : Nat} (h : M.testBit i = false) : ∀ j, cB (ins M i) j = if i < j then cB M j + 1 else cB M j
  | 0 => by simp [cB]
  | j + 1 => by
    simp only [cB]
    rw [cB_ins h j, ins_bit]
    by_cases e : i = j
    · subst e; simp [h]
    · simp only [e, decide_false, Bool.or_false]
      by_cases hb : M.testBit j = true
      · rw [if_pos hb, if_pos hb]
        by_cases hl : i < j
        · rw [if_pos hl, if_pos (by omega)]
        · rw [if_neg hl, if_neg (by omega)]
      · rw [if_neg hb, if_neg hb]
        by_cases hl : i < j
        · rw [if_pos hl, if_pos (by omega)]
        · rw [if_neg hl, if_neg (by omega)]
theorem cB_le {M : Nat} : ∀ j, cB M j ≤ j
  | 0 => Nat.le_refl 0
  | j + 1 => by simp only [cB]; have := cB_le (M := M) j; split <;> omega
theorem cB_full {M : Nat} : ∀ j, cB M j = j ↔ ∀ i, i < j → M.testBit i = true
  | 0 => by simp [cB]
  | j + 1 => by
    have := cB_le (M := M) j
    have ih := cB_full (M := M) j
    simp only [cB]
    constructor
    · intro e i hi
      by_cases hb : M.testBit j = true
      · rw [if_pos hb] at e
        by_cases z : i = j
        · rw [z]; exact hb
        · exact ih.mp (by omega) i (by omega)
      · rw [if_neg hb] at e; omega
    · intro h
      rw [if_pos (h j (by omega)), ih.mpr fun i hi => h i (by omega)]
theorem cB_0 : ∀ j, cB 0 j = 0
  | 0 => rfl
  | j + 1 => by simp only [cB]; rw [if_neg (by simp), cB_0 j]
theorem sB_0 {f : Nat → Int32} : ∀ j, sB f 0 j = 0
  | 0 => rfl
  | j + 1 => by simp only [sB]; rw [if_neg (by simp), sB_0 j]
theorem mB_le {R : Nat → Int} {M : Nat} {a : Int} : ∀ {j i : Nat}, i < j → M.testBit i = false → mB R M a j ≤ R (ins M i)
  | j + 1, i, h, hb => by
    simp only [mB]
    by_cases e : i = j
    · subst e; rw [hb]; simp; omega
    · have := mB_le (R := R) (M := M) (a := a) (j := j) (i := i) (by omega) hb
      split <;> omega
theorem mB_ex {R : Nat → Int} {M : Nat} {a : Int} : ∀ {j : Nat}, mB R M a j = a ∨ ∃ i, i < j ∧ M.testBit i = false ∧ mB R M a j = R (ins M i)
  | 0 => Or.inl rfl
  | j + 1 => by
    simp only [mB]
    by_cases hb : M.testBit j = true
    · rw [if_pos hb]
      exact (mB_ex (j := j)).imp id fun ⟨i, h1, h2⟩ => ⟨i, by omega, h2⟩
    · rw [if_neg hb]
      have hb' : M.testBit j = false := by simpa using hb
      by_cases z : R (ins M j) ≤ mB R M a j
      · exact Or.inr ⟨j, by omega, hb', by omega⟩
      · rw [Int.min_eq_right (by omega)]
        exact (mB_ex (j := j)).imp id fun ⟨i, h1, h2⟩ => ⟨i, by omega, h2⟩
theorem mB_all {R : Nat → Int} {M : Nat} {a : Int} : ∀ {j : Nat}, (∀ i, i < j → M.testBit i = true) → mB R M a j = a
  | 0, _ => rfl
  | j + 1, h => by simp only [mB]; rw [if_pos (h j (by omega)), mB_all fun i hi => h i (by omega)]
theorem mB_congr {R R' : Nat → Int} {M : Nat} {a : Int} (h : ∀ N, M < N → R' N = R N) : ∀ j, mB R' M a j = mB R M a j
  | 0 => rfl
  | j + 1 => by
    simp only [mB]
    rw [mB_congr h j]
    by_cases hb : M.testBit j = true
    · rw [if_pos hb, if_pos hb]
    · rw [if_neg hb, if_neg hb, h _ (ins_gt (by simpa using hb))]
/-- what the table of the component says -/
def RP (f : Nat → Int32) (R : Nat → Int) (m : Nat) : Prop := ∀ M, M < 2 ^ m → R M = max (av (sB f M m)).toInt (mB R M (if M = 2 ^ m - 1 then 0 else 2147483647) m)
theorem RP_ge {f : Nat → Int32} {R : Nat → Int} {m M : Nat} (h : RP f R m) (hM : M < 2 ^ m) : (av (sB f M m)).toInt ≤ R M := by
  rw [h M hM]; omega
theorem RP_nf {f : Nat → Int32} {R : Nat → Int} {m M : Nat} (h : RP f R m) (hM : M < 2 ^ m) (hn : cB M m < m) : R M = max (av (sB f M m)).toInt (mB R M 2147483647 m) := by
  rw [h M hM, if_neg]
  intro e
  have := (cB_full m).mpr ((full_iff hM).mp e)
  omega
theorem RP_f {f : Nat → Int32} {R : Nat → Int} {m M : Nat} (h : RP f R m) (hM : M < 2 ^ m) (hn : cB M m = m) : R M = max (av (sB f M m)).toInt 0 := by
  have hf := (cB_full m).mp hn
  rw [h M hM, if_pos ((full_iff hM).mpr hf), mB_all hf]
theorem nf_ex {M m : Nat} (h : cB M m < m) : ∃ i, i < m ∧ M.testBit i = false := by
  refine Classical.byContradiction fun z => ?_
  have : cB M m = m := (cB_full m).mpr fun i hi => by
    cases e : M.testBit i with
    | true => rfl
    | false => exact absurd ⟨i, hi, e⟩ z
  omega
theorem RP_lt {f : Nat → Int32} {R : Nat → Int} {m : Nat} (h : RP f R m) (hb : ∀ M, M < 2 ^ m → (av (sB f M m)).toInt < 2147483647) : ∀ (k M : Nat), M < 2 ^ m → m - cB M m = k → R M < 2147483647
  | 0, M, hM, hk => by
    have := cB_le (M := M) m
    rw [RP_f h hM (by omega)]
    have := hb M hM
    omega
  | k + 1, M, hM, hk => by
    obtain ⟨i, hi, hbi⟩ := nf_ex (M := M) (m := m) (by omega)
    have e := cB_ins hbi m
    rw [if_pos hi] at e
    have := RP_lt h hb k (ins M i) (ins_lt hM hi) (by omega)
    rw [RP_nf h hM (by omega)]
    have h1 := hb M hM
    have h2 := mB_le (R := R) (a := 2147483647) hi hbi
    omega
theorem t4_find {c : zz_Hp} {m : Nat} (hm : c.1 37 0 = nI m) (h8 : m ≤ 8) {Q : zz_Hp → Prop} (H : ∀ c', (∀ k, k ≠ 39 → c'.1 k = c.1 k) → RP (c.1 38) (fun M => (c'.1 39 M).toInt) m → Q c') : w_X4_findReaches c Q := by
  have hp := b_pow h8
  unfold w_X4_findReaches
  rw [hm, b_full h8]
  refine lp_cnt (2 ^ m) (fun i s => s.1 = nI (2 ^ m - 1) - nI i ∧ (∀ k, k ≠ 39 → s.2.1 k = c.1 k) ∧ ∀ M, 2 ^ m - i ≤ M → M < 2 ^ m → (s.2.1 39 M).toInt = max (av (sB (c.1 38) M m)).toInt (mB (fun M => (s.2.1 39 M).toInt) M (if M = 2 ^ m - 1 then 0 else 2147483647) m)) ?_ _ ⟨(Int32.sub_zero _).symm, fun _ _ => rfl, fun M h1 h2 => by omega⟩
  intro i s hi hs again hag
  obtain ⟨u, c1⟩ := s
  obtain ⟨hu, p1, p2⟩ := hs
  dsimp only at hu p1 p2
  subst hu
  unfold w_X4_findReaches_l11
  dsimp only
  by_cases hz : i = 2 ^ m
  · refine brt ?_ (H c1 p1 fun M hM => p2 M (by omega) hM)
    have : nI (2 ^ m - 1) - nI i = -1 := by
      have e : nI i = nI (2 ^ m - 1) + 1 := by rw [nv_1, hz, show 2 ^ m - 1 + 1 = 2 ^ m by omega]
      rw [e]; grind
    rw [this]; decide
  · have hlt : i < 2 ^ m := by omega
    obtain ⟨M, hM⟩ : ∃ M, M = 2 ^ m - 1 - i := ⟨_, rfl⟩
    have eM : nI (2 ^ m - 1) - nI i = nI M := by rw [nv_sub (by omega), hM]
    have eN : nI M + -1 = nI (2 ^ m - 1) - nI (i + 1) := by rw [← eM, ← nv_1]; grind
    rw [eM]
    refine brf (nv_lt0 (by omega)) ?_
    have inner : ∀ a : Int32, a.toInt = (if M = 2 ^ m - 1 then 0 else 2147483647) → lp (fun s ag => w_X4_findReaches_l33 again ag Q (nI (2 ^ m - 1)) (nI M) s.1 s.2.1 s.2.2.1 s.2.2.2) (0, a, 0, c1) := by
      intro a ha
      refine lp_cnt m (fun j s => s.1 = sB (c.1 38) M j ∧ s.2.1.toInt = mB (fun M => (c1.1 39 M).toInt) M (if M = 2 ^ m - 1 then 0 else 2147483647) j ∧ s.2.2.1 = nI j ∧ s.2.2.2 = c1) ?_ _ ⟨rfl, ha, rfl, rfl⟩
      intro j s hj hs again' hag'
      obtain ⟨u, v, w, c2⟩ := s
      obtain ⟨hu, hv, hw, hc2⟩ := hs
      dsimp only at hu hv hw hc2
      subst hu hw hc2
      unfold w_X4_findReaches_l33
      dsimp only
      rw [p1 37 (by decide), hm]
      refine brc (fun e => ?_) fun e => ?_
      · have := nv_end (by omega) (by omega) hj e
        subst this
        refine ⟨nv_in (by omega) (by decide), fun c3 q3 => ?_⟩
        rw [nv_tn (by omega), av_abs] at q3
        rw [eN]
        refine hag hlt _ ⟨rfl, fun k hk => by dsimp only; rw [q3, zu_f hk]; exact p1 k hk, fun N h1 h2 => ?_⟩
        dsimp only
        have hgt : ∀ N', N < N' → ((c3.1 39 N').toInt) = (c2.1 39 N').toInt := fun N' hN' => by rw [q3, zu_ne (Or.inr (by omega))]
        rw [mB_congr (R := fun M => (c2.1 39 M).toInt) hgt]
        by_cases z : N = M
        · subst z
          rw [q3, zu_eq ⟨rfl, rfl⟩, ← hv]
          by_cases w : v < av (sB (c.1 38) N j)
          · rw [if_pos w]; rw [iv_lt] at w; omega
          · rw [if_neg w]; rw [iv_lt] at w; omega
        · rw [q3, zu_ne (Or.inr z)]
          exact p2 N (by omega) h2
      · have hltj := nv_nle (by omega) (by omega) e
        have hins := ins_lt (M := M) (m := m) (by omega) hltj
        rw [b_get (by omega) (by omega), b_ins (by omega) (by omega), nv_1 j]
        by_cases hb : M.testBit j = true
        · rw [if_pos hb]
          refine bnf rfl ⟨nv_in (by omega) (by decide), hag' hltj _ ⟨?_, ?_, rfl, rfl⟩⟩
          · dsimp only; simp only [sB]; rw [if_pos hb, p1 38 (by decide), nv_tn (by omega)]
          · dsimp only; simp only [mB]; rw [if_pos hb]; exact hv
        · rw [if_neg hb]
          refine bnt (by decide) ⟨nv_in (by omega) (by decide), hag' hltj _ ⟨?_, ?_, rfl, rfl⟩⟩
          · dsimp only; simp only [sB]; rw [if_neg hb]
          · dsimp only; simp only [mB]; rw [if_neg hb, nv_tn (by omega), ← hv]
            by_cases w : c2.1 39 (ins M j) < v
            · rw [if_pos w]; rw [iv_lt] at w; omega
            · rw [if_neg w]; rw [iv_lt] at w; omega
    refine bnc (fun e => inner _ ?_) fun e => inner _ ?_
    · rw [if_neg fun z => e (by rw [z])]; rfl
    · have := nv_inj (by omega) (by omega) e
      rw [if_pos this]; rfl
/-- the best order, from a set on -/
def PG (R : Nat → Int) (m : Nat) (t : Int) : Nat → Nat → Nat → (Nat → Int32) → Prop
  | 0, _, _, _ => True
  | k + 1, M, at_, o => ∃ j, j < m ∧ M.testBit j = false ∧ R (ins M j) ≤ t ∧ (∀ i, i < j → M.testBit i = false → ¬ R (ins M i) ≤ t) ∧ o at_ = nI j ∧ PG R m t k (ins M j) (at_ + 1) o
/-- what an arranging leaves -/
def AR (R : Nat → Int) (m M at_ : Nat) (w : Int) (r r' : zz_Hp) : Prop :=
  (∀ k, k ≠ 0 → k ≠ 38 → k ≠ 39 → r'.1 k = r.1 k) ∧ (∀ j, j ≠ 50 → r'.1 0 j = r.1 0 j) ∧ (∀ p, p < at_ → r'.1 38 p = r.1 38 p) ∧
  (r'.1 0 50).toInt = min (r.1 0 50).toInt (max w (R M)) ∧
  (max w (R M) < (r.1 0 50).toInt → (∀ p, p < at_ → r'.1 39 p = r.1 38 p) ∧ PG R m (max w (R M)) (m - at_) M at_ (r'.1 39)) ∧ (¬ max w (R M) < (r.1 0 50).toInt → r'.1 39 = r.1 39)
