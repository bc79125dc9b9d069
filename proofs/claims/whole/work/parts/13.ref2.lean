/-! the reference's walks that write: tallies, leaves -/
/-- nothing but cell a changed -/
def onlyI (a : Nat) (r r' : zz_Hp) : Prop := (∀ k, k ≠ a → r'.1 k = r.1 k) ∧ r'.2 = r.2
def gty (T : Tb) (f : Nat) (y : Nat) (_ : Unit) : Int32 := if yP T y = 0 ∧ yF T y = nI f then 1 else 0
abbrev tly (T : Tb) (f k y : Nat) : Int32 := ts (yP T) (yQ T) (gty T f) (fun _ u => u) k y ()
theorem RT_only {T : Tb} {a : Nat} {r r' : zz_Hp} (h : onlyI a r r') (ha : 6 < a) (hr : RT T r) : RT T r' := by
  obtain ⟨h1, h2⟩ := h
  unfold RT
  rw [h1 0 (by omega), h1 1 (by omega), h1 2 (by omega), h1 3 (by omega), h1 4 (by omega), h1 5 (by omega), h1 6 (by omega)]
  exact hr
theorem okV2 {v : Int32} (h : okV 2 v) : ∃ f, f < 4 ∧ v = nI f := by
  obtain ⟨h1, h2⟩ := h
  have e1 : zz_lt 2 = 0 := rfl
  have e2 : zz_mt 2 = 3 := rfl
  rw [e1] at h1; rw [e2] at h2
  refine nv_ex (n := 4) (by decide) (Int32.not_lt.mpr h1) ?_
  intro q
  have := iv_le.mp (Int32.le_trans q h2)
  revert this; decide
theorem okT.thr {T : Tb} (hT : okT T) {y : Nat} (hy : y < yN T) (h0 : yP T y = 0) : yD T y = 0 ∧ okV 1 (yW T y) ∧ okV 2 (yF T y) := by
  obtain ⟨-, -, h | h⟩ := hT.2 y hy
  · exact h.2
  · omega
theorem t9_tallyIn {T : Tb} (hT : okT T) : ∀ (k y : Nat) {l : Int32} {r : zz_Hp} {Q : zz_Hp → Prop}, RT T r → l = nI y → y < yN T → yD T y < k → (∀ r', onlyI 19 r r' → (∀ f, f < 4 → r'.1 19 f = r.1 19 f + tly T f k y) → Q r') → w_X9_tallyIn k l r Q := by
  intro k
  have hn := hT.1
  induction k with
  | zero => intro y l r Q _ _ _ h; omega
  | succ k ih =>
    intro y l r Q hr e hy hd HQ
    subst e
    have hP := hT.P4 hy
    obtain ⟨hr1, hr2⟩ := hr.2 y hy
    have hin : vp_in (nI y) 16 := nv_in (by omega) (by decide)
    have htn : (nI y).toNatClampNeg = y := nv_tn (by omega)
    unfold w_X9_tallyIn w_X9_tallyIn_b
    rw [htn, hr1.1, hr1.2.1]
    refine ⟨hin, bnc (fun e => ?_) fun e => ?_⟩
    · have h0 : ¬ yP T y = 0 := fun q => e (by rw [q]; rfl)
      refine lp_cnt (yP T y) (fun i s => s.1 = nI i ∧ onlyI 19 r s.2 ∧ ∀ f, f < 4 → s.2.1 19 f = r.1 19 f + sm (fun p => tly T f k (yQ T y p)) i) ?_ _ ⟨rfl, ⟨fun _ _ => rfl, rfl⟩, fun f _ => by simp [sm]⟩
      intro i s hi hs again hag
      obtain ⟨j, r1⟩ := s
      obtain ⟨hj, hon, htl⟩ := hs
      dsimp only at hj hon htl
      subst hj
      have hrt := RT_only hon (by decide) hr
      obtain ⟨hs1, hs2⟩ := hrt.2 y hy
      refine ⟨hin, ?_⟩
      dsimp only
      rw [htn, hs1.1]
      refine brc (fun e => ?_) fun e => ?_
      · have : i = yP T y := by have := (nv_le (by omega) (by omega)).mp e; omega
        subst this
        refine HQ _ hon fun f hf => ?_
        rw [htl f hf]
        simp [tly, ts, gty, h0]
      · have hlt : i < yP T y := by
          rcases Nat.lt_or_ge i (yP T y) with q | q
          · exact q
          · exact absurd ((nv_le (by omega) (by omega)).mpr q) e
        have hpt := hT.part hy hlt
        rw [ix_4', nv_tn (by omega), hs2 i hlt]
        refine ⟨nv_in (by omega) (by decide), ih _ hrt rfl hpt.2.1 (by omega) fun r2 hon2 htl2 => ?_⟩
        rw [lit_1, nv_add]
        refine hag hlt _ ⟨rfl, ⟨fun k hk => (hon2.1 k hk).trans (hon.1 k hk), hon2.2.trans hon.2⟩, fun f hf => ?_⟩
        dsimp only
        rw [htl2 f hf, htl f hf]
        simp only [sm]
        rw [Int32.add_assoc]
    · have h0 : yP T y = 0 := nv_inj (by omega) (by decide) e
      obtain ⟨f0, hf0, ef0⟩ := okV2 (hT.thr hy h0).2.2
      rw [ef0, nv_tn (by omega)]
      refine ⟨hin, nv_in hf0 (by decide), nv_in hf0 (by decide), fun r1 er1 => ?_⟩
      subst er1
      refine lp_cnt 0 (fun i s => s = (nI 0, zz_uI r 19 f0 (r.1 19 f0 + 1))) ?_ _ rfl
      intro i s hi hs again hag
      subst hs
      refine ⟨hin, ?_⟩
      dsimp only
      rw [htn, zu_ne (Or.inl (by decide)), hr1.1, h0]
      refine brt (Int32.le_refl _) (HQ _ ⟨fun k hk => zu_f hk, rfl⟩ fun f hf => ?_)
      have et : tly T f (k + 1) y = if f = f0 then 1 else 0 := by
        simp only [tly, ts, gty, h0, sm, Int32.add_zero, true_and]
        by_cases q : f = f0
        · rw [if_pos q, if_pos (by rw [ef0, q])]
        · rw [if_neg q, if_neg (fun w => q (nv_inj (by omega) (by omega) (ef0.symm.trans w)).symm)]
      rw [et]
      by_cases q : f = f0
      · subst q; rw [zu_eq ⟨rfl, rfl⟩, if_pos rfl]
      · rw [zu_ne (Or.inr q), if_neg q, Int32.add_zero]
/-- what is kept of a plied one's length; yards cut up -/
def av (t : Int32) : Int32 := if 0 ≤ t then t else -t
def byv (T : Tb) (y : Nat) : Int32 := 1000 - av (yT T y) * nI (yP T y)
def cut (L b : Int32) : Int32 := (L * 1000 + b - 1) / b
abbrev Ps : Type := Int32 × Int32 × Int64 × Int64
def nl (T : Tb) (y : Nat) (s : Ps) : Ps := (s.1 + yT T y, cut s.2.1 (byv T y), s.2.2.1 * (byv T y).toInt64, s.2.2.2 * 1000)
theorem av_toInt {t : Int32} (h1 : -1000000 ≤ t.toInt) (h2 : t.toInt ≤ 1000000) : (av t).toInt = if 0 ≤ t.toInt then t.toInt else -t.toInt := by
  unfold av
  by_cases h : 0 ≤ t
  · rw [if_pos h, if_pos (by simpa using iv_le.mp h)]
  · rw [if_neg h, if_neg (fun q => h (iv_le.mpr (by simpa using q)))]
    rw [Int32.toInt_neg, Int.bmod_eq_of_le (by omega) (by omega)]
theorem okV0 {v : Int32} (h : okV 0 v) : -99 ≤ v.toInt ∧ v.toInt ≤ 99 := by
  obtain ⟨h1, h2⟩ := h
  have e1 : (zz_lt 0).toInt = -99 := by decide
  have e2 : (zz_mt 0).toInt = 99 := by decide
  have h1 := iv_le.mp h1; have h2 := iv_le.mp h2
  omega
theorem by_toInt {T : Tb} (hT : okT T) {y : Nat} (hy : y < yN T) : 604 ≤ (byv T y).toInt ∧ (byv T y).toInt ≤ 1000 := by
  have h0 := okV0 (hT.2 y hy).1
  have hP := hT.P4 hy
  have ha := av_toInt (t := yT T y) (by omega) (by omega)
  unfold byv
  have hm : (av (yT T y) * nI (yP T y)).toInt = (av (yT T y)).toInt * (yP T y : Int) := by
    rw [Int32.toInt_mul, nv_toInt (by omega)]
    refine Int.bmod_eq_of_le ?_ ?_
    · have : 0 ≤ (av (yT T y)).toInt * (yP T y : Int) := Int.mul_nonneg (by rw [ha]; split <;> omega) (by omega)
      omega
    · have : (av (yT T y)).toInt * (yP T y : Int) ≤ 99 * 4 := Int.mul_le_mul (by rw [ha]; split <;> omega) (by omega) (by omega) (by omega)
      omega
  have h4 : (av (yT T y)).toInt * (yP T y : Int) ≤ 99 * 4 := Int.mul_le_mul (by rw [ha]; split <;> omega) (by omega) (by omega) (by omega)
  have h5 : 0 ≤ (av (yT T y)).toInt * (yP T y : Int) := Int.mul_nonneg (by rw [ha]; split <;> omega) (by omega)
  rw [Int32.toInt_sub, hm, show (1000 : Int32).toInt = 1000 by decide, Int.bmod_eq_of_le (by omega) (by omega)]
  omega
theorem by_ne {T : Tb} (hT : okT T) {y : Nat} (hy : y < yN T) : ¬ byv T y = 0 := fun e => by
  have := by_toInt hT hy
  rw [e, show (0 : Int32).toInt = 0 by decide] at this
  omega
theorem by_thr {T : Tb} {y : Nat} (h0 : yP T y = 0) : byv T y = 1000 := by
  unfold byv; rw [h0]; simp [nI]
section
variable {T : Tb} {r : zz_Hp}
theorem t9_sizeOf {t : Int32} {Q : Int32 → zz_Hp → Prop} (H : Q (av t) r) : w_X9_sizeOf t r Q := by
  unfold av at H
  refine brc (fun e => ?_) fun e => ?_
  · rwa [if_pos e] at H
  · rwa [if_neg e] at H
theorem t9_byOf (hT : okT T) (hr : RT T r) {y : Nat} {l : Int32} {Q : Int32 → zz_Hp → Prop} (e : l = nI y) (hy : y < yN T) (H : Q (byv T y) r) : w_X9_byOf l r Q := by
  subst e
  have hn := hT.1
  have hP := hT.P4 hy
  obtain ⟨hr1, hr2⟩ := hr.2 y hy
  have hin : vp_in (nI y) 16 := nv_in (by omega) (by decide)
  have htn : (nI y).toNatClampNeg = y := nv_tn (by omega)
  unfold w_X9_byOf
  rw [htn, hr1.1, hr1.2.2.2.1]
  refine ⟨hin, bnc (fun e => ⟨hin, t9_sizeOf ⟨hin, ?_⟩⟩) fun e => ?_⟩
  · rw [hr1.1]; exact H
  · have h0 : yP T y = 0 := nv_inj (by omega) (by decide) e
    rw [by_thr h0] at H; exact H
end
/-- the leaf rows from m on hold this list -/
def lfA (T : Tb) (r : zz_Hp) (m : Nat) (l : List (Nat × Ps)) : Prop := ∀ i v s, l[i]? = some (v, s) → r.1 31 (m + i) = nI v ∧ r.1 32 (m + i) = s.1 + yT T v ∧ r.1 33 (m + i) = s.2.1 ∧ r.2 34 (m + i) = s.2.2.1 ∧ r.2 35 (m + i) = s.2.2.2
/-- rows 31 .. 35 below m and all else stay, but for the count of leaves -/
def lfK (m : Nat) (r r' : zz_Hp) : Prop := (∀ k, 1 ≤ k → k ≠ 31 → k ≠ 32 → k ≠ 33 → r'.1 k = r.1 k) ∧ (∀ j, j ≠ 40 → r'.1 0 j = r.1 0 j) ∧ (∀ i, i < m → r'.1 31 i = r.1 31 i ∧ r'.1 32 i = r.1 32 i ∧ r'.1 33 i = r.1 33 i ∧ r'.2 34 i = r.2 34 i ∧ r'.2 35 i = r.2 35 i)
theorem lfK.tr {m m' : Nat} {a b c : zz_Hp} (h1 : lfK m a b) (h2 : lfK m' b c) (hm : m ≤ m') : lfK m a c :=
  ⟨fun k a1 a2 a3 a4 => (h2.1 k a1 a2 a3 a4).trans (h1.1 k a1 a2 a3 a4), fun j hj => (h2.2.1 j hj).trans (h1.2.1 j hj), fun i hi => by
    obtain ⟨p1, p2, p3, p4, p5⟩ := h1.2.2 i hi
    obtain ⟨q1, q2, q3, q4, q5⟩ := h2.2.2 i (by omega)
    exact ⟨q1.trans p1, q2.trans p2, q3.trans p3, q4.trans p4, q5.trans p5⟩⟩
theorem RT_lfK {T : Tb} {m : Nat} {r r' : zz_Hp} (h : lfK m r r') (hr : RT T r) : RT T r' := by
  obtain ⟨h1, h2, -⟩ := h
  unfold RT
  rw [h2 0 (by omega), h1 1 (by omega) (by omega) (by omega) (by omega), h1 2 (by omega) (by omega) (by omega) (by omega), h1 3 (by omega) (by omega) (by omega) (by omega), h1 4 (by omega) (by omega) (by omega) (by omega), h1 5 (by omega) (by omega) (by omega) (by omega), h1 6 (by omega) (by omega) (by omega) (by omega)]
  exact hr
theorem lfA.app {T : Tb} {r r' : zz_Hp} {m : Nat} {l l' : List (Nat × Ps)} (h : lfA T r m l) (hk : lfK (m + l.length) r r') (h' : lfA T r' (m + l.length) l') : lfA T r' m (l ++ l') := by
  intro i v s hi
  rcases Nat.lt_or_ge i l.length with q | q
  · rw [List.getElem?_append_left q] at hi
    obtain ⟨a1, a2, a3, a4, a5⟩ := h i v s hi
    obtain ⟨b1, b2, b3, b4, b5⟩ := hk.2.2 (m + i) (by omega)
    exact ⟨b1.trans a1, b2.trans a2, b3.trans a3, b4.trans a4, b5.trans a5⟩
  · rw [List.getElem?_append_right q] at hi
    have := h' _ v s hi
    rwa [show m + l.length + (i - l.length) = m + i by omega] at this
theorem t9_walk {T : Tb} (hT : okT T) : ∀ (k y : Nat) {l a L : Int32} {u w : Int64} {r : zz_Hp} {Q : zz_Hp → Prop} (m : Nat), RT T r → l = nI y → y < yN T → yD T y < k → r.1 0 40 = nI m → m + ln (yP T) (yQ T) k y ≤ 64 →
    (∀ r', lfK m r r' → r'.1 0 40 = nI (m + ln (yP T) (yQ T) k y) → lfA T r' m (lf (yP T) (yQ T) (nl T) k y (a, L, u, w)) → Q r') → w_X9_walk k l a L u w r Q := by
  intro k
  have hn := hT.1
  induction k with
  | zero => intro y l a L u w r Q m _ _ _ h; omega
  | succ k ih =>
    intro y l a L u w r Q m hr e hy hd hm h64 HQ
    subst e
    have hP := hT.P4 hy
    obtain ⟨hr1, hr2⟩ := hr.2 y hy
    have hin : vp_in (nI y) 16 := nv_in (by omega) (by decide)
    have htn : (nI y).toNatClampNeg = y := nv_tn (by omega)
    unfold w_X9_walk w_X9_walk_b
    rw [htn, hr1.1, hr1.2.2.2.1]
    refine ⟨hin, hin, bnc (fun e => ?_) fun e => ?_⟩
    · have h0 : ¬ yP T y = 0 := fun q => e (by rw [q]; rfl)
      refine t9_byOf hT hr rfl hy ⟨by_ne hT hy, ?_⟩
      have eL : lf (yP T) (yQ T) (nl T) (k + 1) y (a, L, u, w) = (List.range (yP T y)).flatMap fun p => lf (yP T) (yQ T) (nl T) k (yQ T y p) (nl T y (a, L, u, w)) := by
        simp only [lf, if_neg h0]
      have eN : ln (yP T) (yQ T) (k + 1) y = sn (fun p => ln (yP T) (yQ T) k (yQ T y p)) (yP T y) := by simp only [ln, if_neg h0]
      have mono : ∀ i j, i ≤ j → sn (fun p => ln (yP T) (yQ T) k (yQ T y p)) i ≤ sn (fun p => ln (yP T) (yQ T) k (yQ T y p)) j := by
        intro i j hij
        induction hij with
        | refl => exact Nat.le_refl _
        | step _ ih => exact Nat.le_trans ih (Nat.le_add_right _ _)
      have flen : ∀ i, ((List.range i).flatMap fun p => lf (yP T) (yQ T) (nl T) k (yQ T y p) (nl T y (a, L, u, w))).length = sn (fun p => ln (yP T) (yQ T) k (yQ T y p)) i := by
        intro i
        induction i with
        | zero => rfl
        | succ i ihi => rw [List.range_succ, List.flatMap_append, List.length_append, ihi]; simp [sn, lf_len]
      refine lp_cnt (yP T y) (fun i s => s.1 = nI i ∧ lfK m r s.2 ∧ s.2.1 0 40 = nI (m + sn (fun p => ln (yP T) (yQ T) k (yQ T y p)) i) ∧ lfA T s.2 m ((List.range i).flatMap fun p => lf (yP T) (yQ T) (nl T) k (yQ T y p) (nl T y (a, L, u, w)))) ?_ _ ⟨rfl, ⟨fun _ _ _ _ _ => rfl, fun _ _ => rfl, fun _ _ => ⟨rfl, rfl, rfl, rfl, rfl⟩⟩, hm, fun i v s h => by simp at h⟩
      intro i s hi hs again hag
      obtain ⟨j, r1⟩ := s
      obtain ⟨hj, hk1, hc1, ha1⟩ := hs
      dsimp only at hj hk1 hc1 ha1
      subst hj
      have hrt := RT_lfK hk1 hr
      obtain ⟨hs1, hs2⟩ := hrt.2 y hy
      refine ⟨hin, ?_⟩
      dsimp only
      rw [htn, hs1.1]
      refine brc (fun e => ?_) fun e => ?_
      · have : i = yP T y := by have := (nv_le (by omega) (by omega)).mp e; omega
        subst this
        exact HQ _ hk1 (by rw [eN]; exact hc1) (by rw [eL]; exact ha1)
      · have hlt : i < yP T y := by
          rcases Nat.lt_or_ge i (yP T y) with q | q
          · exact q
          · exact absurd ((nv_le (by omega) (by omega)).mpr q) e
        have hpt := hT.part hy hlt
        have hmo := mono (i + 1) (yP T y) (by omega)
        have hse : sn (fun p => ln (yP T) (yQ T) k (yQ T y p)) (i + 1) = sn (fun p => ln (yP T) (yQ T) k (yQ T y p)) i + ln (yP T) (yQ T) k (yQ T y i) := rfl
        rw [ix_4', nv_tn (by omega), hs2 i hlt]
        refine ⟨nv_in (by omega) (by decide), ih _ _ hrt rfl hpt.2.1 (by omega) hc1 (by omega) fun r2 hk2 hc2 ha2 => ?_⟩
        rw [lit_1, nv_add]
        refine hag hlt _ ⟨rfl, hk1.tr hk2 (by omega), ?_, ?_⟩
        · dsimp only; rw [hc2, hse]; congr 1; omega
        · dsimp only
          rw [List.range_succ, List.flatMap_append]
          refine ha1.app (by rw [flen]; exact hk2) ?_
          rw [flen]
          simpa [nl, cut] using ha2
    · have h0 : yP T y = 0 := nv_inj (by omega) (by decide) e
      have eN : ln (yP T) (yQ T) (k + 1) y = 1 := by simp only [ln, if_pos h0]
      have eL : lf (yP T) (yQ T) (nl T) (k + 1) y (a, L, u, w) = [(y, (a, L, u, w))] := by simp only [lf, if_pos h0]
      rw [eN] at h64 HQ
      rw [eL] at HQ
      have hmi : vp_in (nI m) 64 := nv_in (by omega) (by decide)
      rw [hm, nv_tn (by omega)]
      refine ⟨hmi, fun r1 e1 => ?_⟩
      have f1 : r1.1 0 40 = nI m := by rw [e1, zu_ne (Or.inl (by decide)), hm]
      rw [f1, nv_tn (by omega)]
      refine ⟨hmi, fun r2 e2 => ?_⟩
      have f2 : r2.1 0 40 = nI m := by rw [e2, zu_ne (Or.inl (by decide)), f1]
      rw [f2, nv_tn (by omega)]
      refine ⟨hmi, fun r3 e3 => ?_⟩
      have f3 : r3.1 0 40 = nI m := by rw [e3, zu_ne (Or.inl (by decide)), f2]
      rw [f3, nv_tn (by omega)]
      refine ⟨hmi, fun r4 e4 => ?_⟩
      have f4 : r4.1 0 40 = nI m := by rw [e4, zl_1, f3]
      rw [f4, nv_tn (by omega)]
      refine ⟨hmi, fun r5 e5 r6 e6 => ?_⟩
      have f5 : r5.1 0 40 = nI m := by rw [e5, zl_1, f4]
      rw [f5, lit_1, nv_add] at e6
      subst e6; subst e5; subst e4; subst e3; subst e2; subst e1
      refine HQ _ ⟨fun k a1 a2 a3 a4 => ?_, fun j hj => ?_, fun i hi => ⟨?_, ?_, ?_, ?_, ?_⟩⟩ ?_ ?_
      · simp only [zl_1, zu_f (show k ≠ 0 by omega), zu_f a2, zu_f a3, zu_f a4]
      · simp (disch := omega) only [zl_1, zu_ne]
      · simp (disch := omega) only [zl_1, zu_ne]
      · simp (disch := omega) only [zl_1, zu_ne]
      · simp (disch := omega) only [zl_1, zu_ne]
      · simp (disch := omega) only [zl_1, zu_2, zl_ne]
      · simp (disch := omega) only [zl_1, zu_2, zl_ne]
      · simp (disch := omega) only [zu_eq]
      · intro i v s hi
        cases i with
        | zero =>
          simp only [List.getElem?_cons_zero, Option.some.injEq, Prod.mk.injEq] at hi
          obtain ⟨rfl, rfl⟩ := hi
          refine ⟨?_, ?_, ?_, ?_, ?_⟩
          · simp (disch := omega) only [zl_1, zu_ne, zu_eq]
          · simp (disch := omega) only [zl_1, zu_ne, zu_eq]
          · simp (disch := omega) only [zl_1, zu_ne, zu_eq]
          · simp (disch := omega) only [zl_1, zu_2, zl_ne, zl_eq]
          · simp (disch := omega) only [zl_1, zu_2, zl_ne, zl_eq]
        | succ i => simp at hi
theorem t9_walkOver {T : Tb} (hT : okT T) {y : Nat} {l L : Int32} {r : zz_Hp} {Q : zz_Hp → Prop} (hr : RT T r) (e : l = nI y) (hy : y < yN T)
    (HQ : ∀ r', lfK 0 r r' → r'.1 0 40 = nI (ln (yP T) (yQ T) 5 y) → lfA T r' 0 (lf (yP T) (yQ T) (nl T) 5 y (0, L, 1, 1)) → Q r') : w_X9_walkOver l L r Q := by
  intro r1 e1
  have hk : lfK 0 r r1 := ⟨fun k a1 _ _ _ => by rw [e1, zu_f (by omega)], fun j hj => by rw [e1, zu_ne (Or.inr hj)], fun i hi => by omega⟩
  refine t9_walk hT 5 y 0 (RT_lfK hk hr) e hy (by have := hT.D3 hy; omega) (by rw [e1, zu_eq ⟨rfl, rfl⟩]; rfl) (by have := ln_64 hT (k := 5) hy; omega) fun r2 hk2 hc2 ha2 => HQ _ (hk.tr hk2 (by omega)) (by rw [hc2, Nat.zero_add]) ha2
