/-! the questions: leaves, what is kept, needs -/
theorem ycase (n : Nat) (hn : n < 2147483648) (l : Int32) : (l < 0 ∨ nI n ≤ l) ∨ ∃ y, y < n ∧ l = nI y := by
  by_cases h : l < 0 ∨ nI n ≤ l
  · exact Or.inl h
  · exact Or.inr (nv_ex hn (fun w => h (Or.inl w)) (fun w => h (Or.inr w)))
theorem nv_out {n a : Nat} (hn : n < 2147483648) (ha : a < n) : ¬ (nI a < 0 ∨ nI n ≤ nI a) := by
  rintro (w | w)
  · exact nv_lt0 (by omega) w
  · have := (nv_le hn (by omega)).mp w; omega
theorem t9_idxt {r : zz_Hp} {Q : Int32 → zz_Hp → Prop} {l x : Int32} (n i : Nat) (hx : x = nI n) (hn : n < 2147483648) (hi : i < n) (e : l = nI i) (H : Q 1 r) : w_X9_in l 0 (x - 1) r Q := by
  subst e
  refine t9_int ⟨Int32.not_lt.mp (nv_lt0 (by omega)), ?_⟩ H
  rw [hx, lit_1, nv_sub (by omega), nv_le (by omega) (by omega)]; omega
theorem t9_idxf {r : zz_Hp} {Q : Int32 → zz_Hp → Prop} {l x : Int32} (n : Nat) (hx : x = nI n) (hn : n < 2147483648) (e : l < 0 ∨ nI n ≤ l) (H : Q 0 r) : w_X9_in l 0 (x - 1) r Q := by
  refine t9_inf (fun q => ?_) H
  rw [hx] at q
  rcases e with e | e
  · exact absurd e (Int32.not_lt.mpr q.1)
  · have h1 := iv_le.mp q.2
    have h2 := iv_le.mp e
    have h3 := iv_le.mp q.1
    rw [nv_toInt (by omega)] at h2
    rcases Nat.eq_zero_or_pos n with h0 | h0
    · subst h0
      have e1 : (nI 0 - 1).toInt = -1 := by decide
      rw [e1] at h1
      have e0 : (0 : Int32).toInt = 0 := by decide
      omega
    · rw [lit_1, nv_sub (by omega), nv_toInt (by omega)] at h1
      omega
theorem lfK.sR {m : Nat} {r r' : zz_Hp} (h : lfK m r r') : sR r r' := ⟨fun k h1 h2 => h.1 k h1 (by omega) (by omega) (by omega), fun j hj => h.2.1 j (by omega)⟩
theorem SimT.both {T : Tb} {c c' r r' : zz_Hp} (h : SimT T c r) (e1 : sC c c') (e2 : sR r r') : Sim c' r' := ⟨T, SimT_r e2 (SimT_c e1 h)⟩
theorem eq_leaf {c r : zz_Hp} (h : Sim c r) (l1 l2 l3 : Int32) : w_X8_leaf l1 l2 l3 c (fun a c' => w_X9_leaf l1 l2 l3 r (fun b r' => a = b ∧ Sim c' r')) := by
  obtain ⟨T, h⟩ := h
  have hT := h.1; have hc : CT T c := h.2.1; have hr : RT T r := h.2.2.1; have hn := hT.1
  have end0 : ∀ {a : Int32}, (0 ≤ l3 ∧ l3 ≤ 1) → True := fun _ => trivial
  by_cases h3 : 0 ≤ l3 ∧ l3 ≤ 1
  · refine t8_inRt h3 (bq1 ?_)
    rcases ycase (yN T) (by omega) l1 with hl | ⟨y, hy, rfl⟩
    · refine t2_leadf hT hc (fun y i hy e _ => absurd hl (by rw [e]; exact nv_out (by omega) hy)) (br0 ?_)
      exact t9_isYf (yN T) hr.1 hn hl (bq0 ⟨rfl, T, h⟩)
    · have h64 := ln_64 hT (k := 5) hy
      rcases ycase (ln (yP T) (yQ T) 5 y) (by omega) l2 with hl | ⟨i, hi, rfl⟩
      · refine t2_leadf hT hc (fun y' i' hy' e e2 hi' => ?_) (br0 ?_)
        · have := nv_inj (by omega) (by omega) e
          subst this
          exact absurd hl (by rw [e2]; exact nv_out (by omega) hi')
        · refine t9_isYt (yN T) y hr.1 hn hy rfl (bq1 (t9_int h3 (br1 (t9_walkOver hT hr rfl hy fun r1 hk hm ha => ?_))))
          exact t9_idxf _ hm (by omega) hl (br0 ⟨rfl, h.both sC.rf hk.sR⟩)
      · refine t2_lead hT hc rfl hy rfl hi fun c1 v pa hf hpa hlf => br1 ?_
        have hc1 := CT_fP hf hc
        have fin : ∀ a : Int32, (∀ r1, lfK 0 r r1 → r1.1 31 i = nI v → r1.1 32 i = (fnl T pa (0, 0, 1, 1)).1 + yT T v → (if l3 = 0 then r1.1 31 i else r1.1 32 i) = a) → w_X9_leaf (nI y) (nI i) l3 r (fun b r' => a = b ∧ Sim c1 r') := by
          intro a hfin
          refine t9_isYt (yN T) y hr.1 hn hy rfl (bq1 (t9_int h3 (br1 (t9_walkOver hT hr rfl hy fun r1 hk hm ha => ?_))))
          have hli := ha i v _ (hlf _ (nl T) (0, 0, 1, 1))
          rw [Nat.zero_add] at hli
          refine t9_idxt _ i hm (by omega) hi rfl (br1 ?_)
          rw [nv_tn (by omega)]
          have hv64 : vp_in (nI i) 64 := nv_in (by omega) (by decide)
          have := hfin r1 hk hli.1 hli.2.1
          refine bnc (fun e => ⟨hv64, ?_, h.both hf.sC hk.sR⟩) fun e => ⟨hv64, ?_, h.both hf.sC hk.sR⟩
          · rw [if_neg e] at this; exact this.symm
          · rw [if_pos e] at this; exact this.symm
        refine bnc (fun e => t2_turnOf hT hc1 hpa (L := 0) (u := 1) (w := 1) (fin _ fun r1 _ _ h2 => ?_)) fun e => fin _ fun r1 _ h1 _ => ?_
        · rw [if_neg e, h2]
        · rw [if_pos e, h1, hpa.2.2.1]
  · refine t8_inRf h3 (bq0 ?_)
    rcases ycase (yN T) (by omega) l1 with hl | ⟨y, hy, rfl⟩
    · exact t9_isYf (yN T) hr.1 hn hl (bq0 ⟨rfl, T, h⟩)
    · exact t9_isYt (yN T) y hr.1 hn hy rfl (bq1 (t9_inf h3 (br0 ⟨rfl, T, h⟩)))
theorem eq_needs {c r : zz_Hp} (h : Sim c r) (l1 l2 l3 : Int32) : w_X8_needs l1 l2 l3 c (fun a c' => w_X9_needs l1 l2 l3 r (fun b r' => a = b ∧ Sim c' r')) := by
  obtain ⟨T, h⟩ := h
  have hT := h.1; have hc : CT T c := h.2.1; have hr : RT T r := h.2.2.1; have hn := hT.1
  by_cases h3 : 0 ≤ l3 ∧ l3 ≤ 9999
  · refine t8_inRt h3 (bq1 ?_)
    rcases ycase (yN T) (by omega) l1 with hl | ⟨y, hy, rfl⟩
    · refine t2_leadf hT hc (fun y i hy e _ => absurd hl (by rw [e]; exact nv_out (by omega) hy)) (br0 ?_)
      exact t9_isYf (yN T) hr.1 hn hl (bq0 ⟨rfl, T, h⟩)
    · have h64 := ln_64 hT (k := 5) hy
      rcases ycase (ln (yP T) (yQ T) 5 y) (by omega) l2 with hl | ⟨i, hi, rfl⟩
      · refine t2_leadf hT hc (fun y' i' hy' e e2 hi' => ?_) (br0 ?_)
        · have := nv_inj (by omega) (by omega) e
          subst this
          exact absurd hl (by rw [e2]; exact nv_out (by omega) hi')
        · refine t9_isYt (yN T) y hr.1 hn hy rfl (bq1 (t9_int h3 (br1 (t9_walkOver hT hr rfl hy fun r1 hk hm ha => ?_))))
          exact t9_idxf _ hm (by omega) hl (bq0 ⟨rfl, h.both sC.rf hk.sR⟩)
      · refine t2_lead hT hc rfl hy rfl hi fun c1 v pa hf hpa hlf => br1 ?_
        have hc1 := CT_fP hf hc
        refine t2_needsFor hT hc1 hpa (a := 0) (u := 1) (w := 1) ?_
        refine t9_isYt (yN T) y hr.1 hn hy rfl (bq1 (t9_int h3 (br1 (t9_walkOver hT hr rfl hy fun r1 hk hm ha => ?_))))
        have hli := ha i v _ (hlf _ (nl T) (0, l3, 1, 1))
        rw [Nat.zero_add] at hli
        refine t9_idxt _ i hm (by omega) hi rfl (bq1 ?_)
        rw [nv_tn (by omega)]
        exact ⟨nv_in (by omega) (by decide), hli.2.2.1.symm, h.both hf.sC hk.sR⟩
  · refine t8_inRf h3 (bq0 ?_)
    rcases ycase (yN T) (by omega) l1 with hl | ⟨y, hy, rfl⟩
    · exact t9_isYf (yN T) hr.1 hn hl (bq0 ⟨rfl, T, h⟩)
    · exact t9_isYt (yN T) y hr.1 hn hy rfl (bq1 (t9_inf h3 (br0 ⟨rfl, T, h⟩)))
-- Euclid
theorem lN_ti {n : Nat} (h : n < 2147483648) : (lN n).toInt = (n : Int) := lN_toInt (by simpa using h)
theorem lN_inj0 {n : Nat} (h : n < 2147483648) : lN n = 0 ↔ n = 0 := by
  constructor
  · intro e
    have := congrArg Int64.toInt e
    rw [lN_ti h, show (0 : Int64).toInt = 0 by decide] at this
    omega
  · rintro rfl; rfl
theorem lg0 {n : Nat} (h : n < 2147483648) : lg_cmp (lN n) 0 = 0 ↔ n = 0 := by
  unfold lg_cmp
  by_cases e : n = 0
  · subst e; decide
  · have hne : ¬ lN n = 0 := fun w => e ((lN_inj0 h).mp w)
    have hgt : lN n > 0 := by
      show (0 : Int64) < lN n
      rw [Int64.lt_iff_toInt_lt, lN_ti h, show (0 : Int64).toInt = 0 by decide]; omega
    rw [if_pos hgt]
    constructor
    · intro w; exact absurd w (by decide)
    · intro w; exact absurd w e
theorem lg0p {n : Nat} (h : n < 2147483648) (h0 : 0 < n) : 0 < lg_cmp (lN n) 0 := by
  unfold lg_cmp
  have hgt : lN n > 0 := by
    show (0 : Int64) < lN n
    rw [Int64.lt_iff_toInt_lt, lN_ti h, show (0 : Int64).toInt = 0 by decide]; omega
  rw [if_pos hgt]; decide
theorem lrem {a b : Nat} (ha : a < 2147483648) (hb : b < 2147483648) (h0 : 0 < b) : lN a - lN a / lN b * lN b = lN (a % b) := by
  have hq : a / b ≤ a := Nat.div_le_self a b
  have hm : a / b * b ≤ a := Nat.div_mul_le_self a b
  have hd : lN a / lN b = lN (a / b) := by
    apply Int64.toInt_inj.mp
    rw [Int64.toInt_div, lN_ti ha, lN_ti hb, lN_ti (Nat.lt_of_le_of_lt hq ha), ← Int.ofNat_tdiv]
    generalize a / b = q at hq
    rw [Int.bmod_eq_of_le (by omega) (by omega)]
  rw [hd, lN_mul, lN_sub hm]
  congr 1
  have := Nat.div_add_mod a b
  rw [Nat.mul_comm] at this
  omega
theorem mod_half {a b : Nat} (h : a % b ≠ 0) (hb : 0 < b) : b % (a % b) ≤ (b - 1) / 2 := by
  have h1 : a % b < b := Nat.mod_lt _ hb
  have hr : 0 < a % b := by omega
  have h2 : b % (a % b) < a % b := Nat.mod_lt _ hr
  have h3 : b % (a % b) + (a % b) ≤ b := by
    have := Nat.div_add_mod b (a % b)
    have : 1 ≤ b / (a % b) := (Nat.le_div_iff_mul_le hr).mpr (by omega)
    have : (a % b) * 1 ≤ (a % b) * (b / (a % b)) := Nat.mul_le_mul_left _ this
    omega
  omega
theorem t9_common {c : zz_Hp} {Q : Int64 → zz_Hp → Prop} {A B : Nat} (hA : A < 2147483648) (hB : B < 2147483648) (H : Q (lN (Nat.gcd A B)) c) : w_X9_common (lN A) (lN B) c Q := by
  unfold w_X9_common
  refine lp_ind (I := fun s => ∃ a b : Nat, a < 2147483648 ∧ b < 2147483648 ∧ s = (lN a, lN b, c) ∧ Nat.gcd a b = Nat.gcd A B) (μ := fun s => s.2.1.toInt.toNat) ?_ _ ⟨A, B, hA, hB, rfl, rfl⟩
  rintro s ⟨a, b, ha, hb, rfl, hg⟩ again hag
  unfold w_X9_common_l6
  dsimp only
  refine brc (fun e => ?_) fun e => ?_
  · rw [lg0 hb] at e
    subst e
    rw [Nat.gcd_zero_right] at hg
    rw [hg]; exact H
  · have h0 : 0 < b := by
      rcases Nat.eq_zero_or_pos b with w | w
      · exact absurd ((lg0 hb).mpr w) e
      · exact w
    have hm : a % b < b := Nat.mod_lt _ h0
    refine ⟨fun w => by have := (lN_inj0 hb).mp w; omega, ?_⟩
    rw [lrem ha hb h0]
    refine hag _ ⟨b, a % b, hb, by omega, rfl, ?_⟩ ?_
    · rw [← hg, Nat.gcd_comm a b, Nat.gcd_rec b a, Nat.gcd_comm]
    · simp only
      rw [lN_ti (by omega), lN_ti hb]; omega
theorem t8_common {c : zz_Hp} {Q : Int64 → zz_Hp → Prop} {A B : Nat} (hA : A < 2147483648) (hB : B < 1073741824) (H : Q (lN (Nat.gcd A B)) c) : w_X8_commonDivisor (lN A) (lN B) c Q := by
  unfold w_X8_commonDivisor
  -- behind 2 k rounds: b < 2 ^ (30 - k)
  refine lp_cnt 62 (fun k s => ∃ a b : Nat, a < 2147483648 ∧ s = (lN a, lN b, nI k, c) ∧ Nat.gcd a b = Nat.gcd A B ∧ b < 1073741824 ∧ (b = 0 ∨ b * 2 ^ (k / 2) < 1073741824 ∧ (k % 2 = 1 → b < a ∧ a % b * 2 ^ (k / 2 + 1) < 1073741824))) ?_ _ ⟨A, B, hA, rfl, rfl, hB, Or.inr ⟨by simpa using hB, fun w => by simp at w⟩⟩
  rintro k s hk ⟨a, b, ha, rfl, hg, hb, hbd⟩ again hag
  unfold w_X8_commonDivisor_l9
  dsimp only
  refine brf ?_ (brc (fun e => ?_) fun e => ?_)
  · rw [show (128 : Int32) = nI 128 from rfl, nv_le (by omega) (by omega)]; omega
  · rw [lg0 (by omega)] at e
    subst e
    rw [Nat.gcd_zero_right] at hg
    rw [hg]; exact H
  · have h0 : 0 < b := by
      rcases Nat.eq_zero_or_pos b with w | w
      · exact absurd ((lg0 (by omega)).mpr w) e
      · exact w
    have hm : a % b < b := Nat.mod_lt _ h0
    obtain ⟨hb1, hb2⟩ := hbd.resolve_left (by omega)
    have hk62 : k < 62 := by
      rcases Nat.lt_or_ge k 62 with w | w
      · exact w
      · have : k = 62 := by omega
        subst this
        have : 1 * 2 ^ (62 / 2) ≤ b * 2 ^ (62 / 2) := Nat.mul_le_mul_right _ h0
        have e9 : 2 ^ (62 / 2) = 2147483648 := by decide
        rw [e9] at this hb1
        omega
    refine ⟨fun w => by have := (lN_inj0 (by omega)).mp w; omega, ?_⟩
    rw [lrem ha (by omega) h0, lit_1, nv_add]
    refine hag hk62 _ ⟨b, a % b, by omega, rfl, by rw [← hg, Nat.gcd_comm a b, Nat.gcd_rec b a, Nat.gcd_comm], by omega, ?_⟩
    by_cases hz : a % b = 0
    · exact Or.inl hz
    · right
      rcases Nat.mod_two_eq_zero_or_one k with hk2 | hk2
      · have e1 : (k + 1) / 2 = k / 2 := by omega
        rw [e1]
        refine ⟨Nat.lt_of_le_of_lt (Nat.mul_le_mul_right _ (Nat.le_of_lt hm)) hb1, fun _ => ⟨hm, ?_⟩⟩
        have h2 := mod_half hz h0
        have h3 : b % (a % b) * 2 ≤ b := by omega
        calc b % (a % b) * 2 ^ (k / 2 + 1) = (b % (a % b) * 2) * 2 ^ (k / 2) := by rw [Nat.pow_succ, Nat.mul_comm (2 ^ (k / 2)) 2, Nat.mul_assoc]
          _ ≤ b * 2 ^ (k / 2) := Nat.mul_le_mul_right _ h3
          _ < 1073741824 := hb1
      · have e1 : (k + 1) / 2 = k / 2 + 1 := by omega
        rw [e1]
        exact ⟨(hb2 hk2).2, fun w => by omega⟩
/-- what is kept, as numbers -/
theorem fnl_num {T : Tb} (hT : okT T) {L : Int32} : ∀ {pa : List Nat} {A B : Nat} {a : Int32} , (∀ j, j < pa.length → pa.getD j 0 < yN T) → pa.length ≤ 3 → 0 < A → A ≤ B → ∃ A' , 0 < A' ∧ A' ≤ B * 1000 ^ pa.length ∧ (fnl T pa (a, L, lN A, lN B)).2.2.1 = lN A' ∧ (fnl T pa (a, L, lN A, lN B)).2.2.2 = lN (B * 1000 ^ pa.length) := by
  intro pa
  induction pa generalizing L with
  | nil => intro A B a _ _ hA hAB; exact ⟨A, hA, by simpa using hAB, rfl, by simp [fnl]⟩
  | cons v pa ih =>
    intro A B a hpa hl hA hAB
    have hv : v < yN T := by simpa using hpa 0 (by simp)
    have hby := by_toInt hT hv
    obtain ⟨b, hb, eb⟩ : ∃ b : Nat, b ≤ 1000 ∧ byv T v = nI b := by
      refine ⟨(byv T v).toInt.toNat, by omega, ?_⟩
      apply Int32.toInt_inj.mp
      rw [nv_toInt (by omega)]; omega
    have hb0 : 0 < b := by
      rw [eb, nv_toInt (by omega)] at hby; omega
    have e : nl T v (a, L, lN A, lN B) = (a + yT T v, cut L (byv T v), lN (A * b), lN (B * 1000)) := by
      simp only [nl]
      rw [eb, nI_l (by omega), lN_mul, show (1000 : Int64) = lN 1000 from rfl, lN_mul]
    have := ih (A := A * b) (B := B * 1000) (a := a + yT T v) (L := cut L (byv T v)) (fun j hj => by simpa using hpa (j + 1) (by simpa using hj)) (by simp at hl; omega) (Nat.mul_pos hA hb0) (Nat.mul_le_mul hAB hb)
    obtain ⟨A', h1, h2, h3, h4⟩ := this
    refine ⟨A', h1, ?_, ?_, ?_⟩
    · rw [List.length_cons, Nat.pow_succ, Nat.mul_comm (1000 ^ pa.length) 1000, ← Nat.mul_assoc]; exact h2
    · show (fnl T pa (nl T v (a, L, lN A, lN B))).2.2.1 = _
      rw [e]; exact h3
    · show (fnl T pa (nl T v (a, L, lN A, lN B))).2.2.2 = _
      rw [e, h4, List.length_cons, Nat.pow_succ, Nat.mul_comm (1000 ^ pa.length) 1000, ← Nat.mul_assoc]
theorem eq_kept {c r : zz_Hp} (h : Sim c r) (l1 l2 l3 : Int32) : w_X8_kept l1 l2 l3 c (fun a c' => w_X9_kept l1 l2 l3 r (fun b r' => a = b ∧ Sim c' r')) := by
  obtain ⟨T, h⟩ := h
  have hT := h.1; have hc : CT T c := h.2.1; have hr : RT T r := h.2.2.1; have hn := hT.1
  by_cases h3 : 0 ≤ l3 ∧ l3 ≤ 1
  · refine t8_inRt h3 (bq1 ?_)
    rcases ycase (yN T) (by omega) l1 with hl | ⟨y, hy, rfl⟩
    · refine t2_leadf hT hc (fun y i hy e _ => absurd hl (by rw [e]; exact nv_out (by omega) hy)) (br0 ?_)
      exact t9_isYf (yN T) hr.1 hn hl (bq0 ⟨rfl, T, h⟩)
    · have h64 := ln_64 hT (k := 5) hy
      rcases ycase (ln (yP T) (yQ T) 5 y) (by omega) l2 with hl | ⟨i, hi, rfl⟩
      · refine t2_leadf hT hc (fun y' i' hy' e e2 hi' => ?_) (br0 ?_)
        · have := nv_inj (by omega) (by omega) e
          subst this
          exact absurd hl (by rw [e2]; exact nv_out (by omega) hi')
        · refine t9_isYt (yN T) y hr.1 hn hy rfl (bq1 (t9_int h3 (br1 (t9_walkOver hT hr rfl hy fun r1 hk hm ha => ?_))))
          exact t9_idxf _ hm (by omega) hl (br0 ⟨rfl, h.both sC.rf hk.sR⟩)
      · refine t2_lead hT hc rfl hy rfl hi fun c1 v pa hf hpa hlf => br1 ?_
        have hc1 := CT_fP hf hc
        obtain ⟨A, hA0, hA1, hA2, hA3⟩ := fnl_num hT (pa := pa) (A := 1) (B := 1) (a := 0) (L := 0) (fun j hj => (hpa.2.2.2.2.2 j hj).2) hpa.2.2.2.2.1 (by omega) (by omega)
        rw [Nat.one_mul] at hA1 hA3
        have hpw : 1000 ^ pa.length ≤ 1000000000 := by
          have : 1000 ^ pa.length ≤ 1000 ^ 3 := Nat.pow_le_pow_right (by omega) hpa.2.2.2.2.1
          simpa using this
        have hpw0 : 0 < 1000 ^ pa.length := Nat.pow_pos (by omega)
        have hg0 : 0 < Nat.gcd A (1000 ^ pa.length) := Nat.gcd_pos_of_pos_right _ hpw0
        have hg1 : Nat.gcd A (1000 ^ pa.length) ≤ 1000 ^ pa.length := Nat.gcd_le_right _ hpw0
        refine t2_byOf hT hc1 hpa (a := 0) (L := 0) (w := 1) (t2_wholeOf (T := T) hpa (a := 0) (L := 0) (u := 1) ?_)
        have eA : (fnl T pa (0, 0, 1, 1)).2.2.1 = lN A := hA2
        have eB : (fnl T pa (0, 0, 1, 1)).2.2.2 = lN (1000 ^ pa.length) := hA3
        rw [eA, eB]
        refine t8_common (by omega) (by omega) (brt (lg0p (by omega) hg0) ?_)
        have hgn : ¬ lN (Nat.gcd A (1000 ^ pa.length)) = 0 := fun w => by have := (lN_inj0 (by omega)).mp w; omega
        have hv64 : vp_in (nI i) 64 := nv_in (by omega) (by decide)
        refine bnc (fun e => ⟨hgn, ?_⟩) fun e => ⟨hgn, ?_⟩
        all_goals
          refine t9_isYt (yN T) y hr.1 hn hy rfl (bq1 (t9_int h3 (br1 (t9_walkOver hT hr rfl hy fun r1 hk hm ha => ?_))))
          have hli := ha i v _ (hlf _ (nl T) (0, 0, 1, 1))
          rw [Nat.zero_add] at hli
          refine t9_idxt _ i hm (by omega) hi rfl (br1 ?_)
          rw [nv_tn (by omega), hli.2.2.2.1, hli.2.2.2.2]
          refine ⟨hv64, hv64, ?_⟩
          show w_X9_common (fnl T pa (0, 0, 1, 1)).2.2.1 (fnl T pa (0, 0, 1, 1)).2.2.2 r1 _
          rw [eA, eB]
          refine t9_common (by omega) (by omega) ?_
        · refine bnt e ⟨hv64, hgn, ?_, h.both hf.sC hk.sR⟩
          rw [hli.2.2.2.2]
          show _ = (fnl T pa (0, 0, 1, 1)).2.2.2 / _
          rw [eB]
        · refine bnf e ⟨hv64, hgn, ?_, h.both hf.sC hk.sR⟩
          rw [hli.2.2.2.1]
          show _ = (fnl T pa (0, 0, 1, 1)).2.2.1 / _
          rw [eA]
  · refine t8_inRf h3 (bq0 ?_)
    rcases ycase (yN T) (by omega) l1 with hl | ⟨y, hy, rfl⟩
    · exact t9_isYf (yN T) hr.1 hn hl (bq0 ⟨rfl, T, h⟩)
    · exact t9_isYt (yN T) y hr.1 hn hy rfl (bq1 (t9_inf h3 (br0 ⟨rfl, T, h⟩)))
