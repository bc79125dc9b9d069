/-! the walk's invariant, its end -/
def capm : Nat → Nat
  | 0 => 0
  | 1 => 4
  | 2 => 20
  | _ => 84
theorem capm_lt {a b : Nat} (h : a < b) (hb : b ≤ 3) : 1 + capm a ≤ capm b / 4 := by
  have : (b = 1 ∧ a = 0) ∨ (b = 2 ∧ (a = 0 ∨ a = 1)) ∨ (b = 3 ∧ (a = 0 ∨ a = 1 ∨ a = 2)) := by omega
  rcases this with ⟨rfl, rfl⟩ | ⟨rfl, rfl | rfl⟩ | ⟨rfl, rfl | rfl | rfl⟩ <;> decide
theorem capm_4 {a : Nat} (h : a ≤ 3) : 4 * (capm a / 4) = capm a := by
  have : a = 0 ∨ a = 1 ∨ a = 2 ∨ a = 3 := by omega
  rcases this with rfl | rfl | rfl | rfl <;> decide
def rtn (c : zz_Hp) (j : Nat) (t : Int32) : Int32 := if c.1 32 j = 0 then c.1 29 j else c.1 29 j + t
def twt (T : Tb) (at_ t : Int32) (y : Nat) : Int32 := if nI y = at_ then t else yT T y
def WQ (T : Tb) (y0 : Nat) (at_ : Int32) (c : zz_Hp) (s i q : Nat) (Y R : Nat → Nat) : Prop :=
  (1 ≤ s ∧ c.1 27 0 = nI s ∧ Y 0 = y0 ∧ c.1 30 0 = 1 ∧ c.1 31 0 = -1) ∧
  (∀ j, j < s → Y j < yN T ∧ c.1 28 j = nI (Y j) ∧ (c.1 32 j = 0 ∨ (c.1 32 j = 1 ∧ ∃ a, a < 16 ∧ at_ = nI a ∧ Y j ≤ a))) ∧
  (∀ j, 1 ≤ j → j < s → R j < j ∧ R j ≤ i ∧ (R j = i → 0 < q) ∧ c.1 31 j = nI (R j)) ∧
  (∀ t, rtn c 0 t = twt T at_ t y0 ∧ ∀ j, 1 ≤ j → j < s → rtn c j t = rtn c (R j) t + twt T at_ t (Y j)) ∧
  (∀ i', i' < i → i' < s → ∀ f : Nat → Int32, sm (fun j => if 1 ≤ j ∧ R j = i' then c.1 30 j * f (Y j) else 0) s = c.1 30 i' * sm (fun p => f (yQ T (Y i') p)) (yP T (Y i'))) ∧
  (i < s → ∀ f : Nat → Int32, sm (fun j => if 1 ≤ j ∧ R j = i then c.1 30 j * f (Y j) else 0) s = c.1 30 i * sm (fun p => f (yQ T (Y i) p)) q) ∧
  s + sn (fun j => if i + 1 ≤ j then capm (yD T (Y j)) else 0) s + (if i < s then (4 - q) * (capm (yD T (Y i)) / 4) else 0) ≤ 85
def upn (f : Nat → Nat) (k v : Nat) : Nat → Nat := fun j => if j = k then v else f j
theorem upn_e {f : Nat → Nat} {k v : Nat} : upn f k v k = v := if_pos rfl
theorem upn_n {f : Nat → Nat} {k v j : Nat} (h : j ≠ k) : upn f k v j = f j := if_neg h
theorem WQ.s85 {T : Tb} {y0 : Nat} {at_ : Int32} {c : zz_Hp} {s i q : Nat} {Y R : Nat → Nat} (h : WQ T y0 at_ c s i q Y R) : s ≤ 85 := by
  have := h.2.2.2.2.2.2; omega
/-- like parts: one more time -/
theorem WQ.merge {T : Tb} {y0 : Nat} {at_ : Int32} {c : zz_Hp} {s i q : Nat} {Y R : Nat → Nat} (h : WQ T y0 at_ c s i q Y R) (hi : i < s) {m : Nat} (hm : i < m) (hms : m < s) (hR : R m = i) (hY : Y m = yQ T (Y i) q) : WQ T y0 at_ (zz_uI c 30 m (c.1 30 m + c.1 30 i)) s i (q + 1) Y R := by
  obtain ⟨⟨h1, h2, h3, h4, h5⟩, h6, h7, h8, h9, h10, h11⟩ := h
  have tne : ∀ j, j ≠ m → (zz_uI c 30 m (c.1 30 m + c.1 30 i)).1 30 j = c.1 30 j := fun j hj => zu_ne (Or.inr hj)
  have hr : ∀ j t, rtn (zz_uI c 30 m (c.1 30 m + c.1 30 i)) j t = rtn c j t := fun j t => by
    unfold rtn; rw [zu_ne (Or.inl (by decide)), zu_ne (Or.inl (by decide))]
  refine ⟨⟨h1, by rw [zu_ne (Or.inl (by decide))]; exact h2, h3, by rw [tne 0 (by omega)]; exact h4, by rw [zu_ne (Or.inl (by decide))]; exact h5⟩, fun j hj => ?_, fun j hj1 hj2 => ?_, fun t => ⟨by rw [hr]; exact (h8 t).1, fun j hj1 hj2 => by rw [hr, hr]; exact (h8 t).2 j hj1 hj2⟩, fun i' hi' hs' f => ?_, fun _ f => ?_, ?_⟩
  · rw [zu_ne (Or.inl (by decide)), zu_ne (Or.inl (by decide))]; exact h6 j hj
  · rw [zu_ne (Or.inl (by decide))]
    obtain ⟨a1, a2, a3, a4⟩ := h7 j hj1 hj2
    exact ⟨a1, a2, fun _ => by omega, a4⟩
  · rw [tne i' (by omega), ← h9 i' hi' hs' f]
    refine sm_congr fun j hj => ?_
    by_cases cc : 1 ≤ j ∧ R j = i'
    · rw [if_pos cc, if_pos cc, tne j (fun w => by subst w; omega)]
    · rw [if_neg cc, if_neg cc]
  · rw [tne i (by omega)]
    simp only [sm]
    have hx := h10 hi f
    have e : sm (fun j => if 1 ≤ j ∧ R j = i then (zz_uI c 30 m (c.1 30 m + c.1 30 i)).1 30 j * f (Y j) else 0) s = sm (fun j => (if 1 ≤ j ∧ R j = i then c.1 30 j * f (Y j) else 0) + (if m = j then c.1 30 i * f (Y m) else 0)) s := by
      refine sm_congr fun j hj => ?_
      by_cases cm : m = j
      · subst cm
        rw [if_pos ⟨by omega, hR⟩, if_pos ⟨by omega, hR⟩, if_pos rfl, zu_eq ⟨rfl, rfl⟩]; grind
      · rw [tne j (fun w => cm w.symm), if_neg cm]; simp
    rw [e, sm_add, sm_one hms, hx, hY]; grind
  · rw [if_pos hi] at h11 ⊢
    have : (4 - (q + 1)) * (capm (yD T (Y i)) / 4) ≤ (4 - q) * (capm (yD T (Y i)) / 4) := Nat.mul_le_mul_right _ (by omega)
    omega
theorem sn_upn {f : Nat → Nat} {g : Nat → Nat} {Y : Nat → Nat} {s v : Nat} (hf : ∀ j, j < s → f j = g j) : sn f (s + 1) = sn g s + f s := by
  simp only [sn]; rw [sn_congr hf]
/-- a place more -/
theorem WQ.more {T : Tb} (hT : okT T) {y0 : Nat} {at_ : Int32} {c c' : zz_Hp} {s i q : Nat} {Y R : Nat → Nat} (h : WQ T y0 at_ c s i q Y R) (hi : i < s) (hq : q < yP T (Y i)) (hq4 : q < 4)
    (hp : plc c c' s (nI (yQ T (Y i) q)) (nI i) (twa T at_ (yQ T (Y i) q) + c.1 29 i) (c.1 30 i) (mva at_ (yQ T (Y i) q) ||| c.1 32 i)) : WQ T y0 at_ c' (s + 1) i (q + 1) (upn Y s (yQ T (Y i) q)) (upn R s i) := by
  obtain ⟨⟨h1, h2, h3, h4, h5⟩, h6, h7, h8, h9, h10, h11⟩ := h
  obtain ⟨p1, p2, p3, p4, p5, p6, p7, p8⟩ := hp
  obtain ⟨hYi, hYc, hYm⟩ := h6 i hi
  have hpt := hT.part hYi hq
  have hn := hT.1
  have t30 : ∀ j, j < s → c'.1 30 j = c.1 30 j := fun j hj => (p3 j (by omega)).2.2.1
  have hr : ∀ j t, j < s → rtn c' j t = rtn c j t := fun j t hj => by
    unfold rtn; rw [(p3 j (by omega)).2.1, (p3 j (by omega)).2.2.2.2]
  have uY : ∀ j, j < s → upn Y s (yQ T (Y i) q) j = Y j := fun j hj => upn_n (by omega)
  have uR : ∀ j, j < s → upn R s i j = R j := fun j hj => upn_n (by omega)
  refine ⟨⟨by omega, p2, by rw [uY 0 (by omega)]; exact h3, by rw [t30 0 (by omega)]; exact h4, by rw [(p3 0 (by omega)).2.2.2.1]; exact h5⟩, fun j hj => ?_, fun j hj1 hj2 => ?_, fun t => ⟨by rw [hr 0 t (by omega)]; exact (h8 t).1, fun j hj1 hj2 => ?_⟩, fun i' hi' hs' f => ?_, fun _ f => ?_, ?_⟩
  · by_cases e : j = s
    · subst e
      rw [upn_e]
      refine ⟨hpt.2.1, p4, ?_⟩
      rw [p8]
      rcases hYm with hm | ⟨hm, a, ha, hat, hle⟩
      · rw [hm]
        unfold mva
        by_cases e : nI (yQ T (Y i) q) = at_
        · rw [if_pos e]; exact Or.inr ⟨by decide, _, by omega, e.symm, Nat.le_refl _⟩
        · rw [if_neg e]; exact Or.inl (by decide)
      · rw [hm]
        refine Or.inr ⟨?_, a, ha, hat, by omega⟩
        unfold mva; split <;> decide
    · rw [uY j (by omega), (p3 j e).1, (p3 j e).2.2.2.2]; exact h6 j (by omega)
  · by_cases e : j = s
    · subst e
      rw [upn_e]; exact ⟨hi, Nat.le_refl _, fun _ => by omega, p5⟩
    · rw [uR j (by omega), (p3 j e).2.2.2.1]
      obtain ⟨a1, a2, a3, a4⟩ := h7 j hj1 (by omega)
      exact ⟨a1, a2, fun _ => by omega, a4⟩
  · by_cases e : j = s
    · subst e
      rw [upn_e, upn_e, hr i t hi]
      unfold rtn twt
      rw [p6, p8]
      rcases hYm with hm | ⟨hm, a, ha, hat, hle⟩
      · rw [hm, if_pos rfl]
        unfold mva twa
        by_cases e : nI (yQ T (Y i) q) = at_
        · rw [if_pos e, if_pos e, if_pos e, if_neg (by decide)]; grind
        · rw [if_neg e, if_neg e, if_neg e, if_pos (by decide)]; grind
      · have e : ¬ nI (yQ T (Y i) q) = at_ := fun w => by
          have := nv_inj (by omega) (by omega) (w.trans hat)
          omega
        unfold mva twa
        rw [if_neg e, if_neg e, if_neg e, hm, if_neg (by decide), if_neg (by decide)]; grind
    · rw [uR j (by omega), uY j (by omega), hr j t (by omega), hr _ t (by have := (h7 j hj1 (by omega)).1; omega)]
      exact (h8 t).2 j hj1 (by omega)
  · have hsi : i' < s := by omega
    rw [t30 i' hsi, uY i' hsi, ← h9 i' hi' hsi f]
    simp only [sm]
    rw [upn_e, if_neg (fun w => by omega), Int32.add_zero]
    refine sm_congr fun j hj => ?_
    rw [uR j hj, uY j hj, t30 j hj]
  · rw [t30 i hi, uY i hi]
    simp only [sm]
    rw [upn_e, upn_e, if_pos ⟨by omega, rfl⟩, p7]
    have hx := h10 hi f
    have e : sm (fun j => if 1 ≤ j ∧ upn R s i j = i then c'.1 30 j * f (upn Y s (yQ T (Y i) q) j) else 0) s = sm (fun j => if 1 ≤ j ∧ R j = i then c.1 30 j * f (Y j) else 0) s :=
      sm_congr fun j hj => by rw [uR j hj, uY j hj, t30 j hj]
    rw [e, hx]; grind
  · rw [if_pos hi] at h11
    rw [if_pos (by omega), uY i hi]
    have e : sn (fun j => if i + 1 ≤ j then capm (yD T (upn Y s (yQ T (Y i) q) j)) else 0) (s + 1) = sn (fun j => if i + 1 ≤ j then capm (yD T (Y j)) else 0) s + capm (yD T (yQ T (Y i) q)) := by
      simp only [sn]
      rw [upn_e, if_pos (by omega)]
      congr 1
      exact sn_congr fun j hj => by rw [uY j hj]
    rw [e]
    have hcap := capm_lt hpt.2.2 (hT.D3 hYi)
    have : (4 - q) * (capm (yD T (Y i)) / 4) = (4 - (q + 1)) * (capm (yD T (Y i)) / 4) + capm (yD T (Y i)) / 4 := by
      rw [show 4 - q = (4 - (q + 1)) + 1 by omega, Nat.add_mul, Nat.one_mul]
    omega
/-- the next place -/
theorem WQ.next {T : Tb} (hT : okT T) {y0 : Nat} {at_ : Int32} {c : zz_Hp} {s i : Nat} {Y R : Nat → Nat} (hi : i < s) (h : WQ T y0 at_ c s i (yP T (Y i)) Y R) : WQ T y0 at_ c s (i + 1) 0 Y R := by
  obtain ⟨h1, h6, h7, h8, h9, h10, h11⟩ := h
  refine ⟨h1, h6, fun j hj1 hj2 => ?_, h8, fun i' hi' hs' f => ?_, fun hi1 f => ?_, ?_⟩
  · obtain ⟨a1, a2, a3, a4⟩ := h7 j hj1 hj2
    exact ⟨a1, by omega, fun _ => by omega, a4⟩
  · by_cases e : i' = i
    · subst e; exact h10 hi f
    · exact h9 i' (by omega) hs' f
  · simp only [sm]
    rw [Int32.mul_zero, sm_congr (g := fun _ => 0) (fun j hj => ?_), sm_zero]
    refine if_neg fun w => ?_
    have := (h7 j w.1 hj).2.1
    omega
  · have e : sn (fun j => if i + 1 ≤ j then capm (yD T (Y j)) else 0) s = sn (fun j => if i + 1 + 1 ≤ j then capm (yD T (Y j)) else 0) s + (if i + 1 < s then capm (yD T (Y (i + 1))) else 0) := by
      clear h11 h10 h9 h8 h7 h6 h1 hi
      induction s with
      | zero => rfl
      | succ s ih =>
        simp only [sn]
        rw [ih]
        by_cases c1 : i + 1 < s
        · rw [if_pos c1, if_pos (show i + 1 ≤ s by omega), if_pos (show i + 1 + 1 ≤ s by omega), if_pos (show i + 1 < s + 1 by omega)]; omega
        · by_cases c2 : i + 1 = s
          · rw [if_neg c1, if_pos (show i + 1 ≤ s by omega), if_neg (show ¬ i + 1 + 1 ≤ s by omega), if_pos (show i + 1 < s + 1 by omega), c2]
          · rw [if_neg c1, if_neg (show ¬ i + 1 ≤ s by omega), if_neg (show ¬ i + 1 + 1 ≤ s by omega), if_neg (show ¬ i + 1 < s + 1 by omega)]
    rw [e] at h11
    by_cases c1 : i + 1 < s
    · rw [if_pos c1] at h11 ⊢
      have := capm_4 (hT.D3 (h6 (i + 1) c1).1)
      omega
    · rw [if_neg c1] at h11 ⊢
      omega
theorem t6_addParts {T : Tb} (hT : okT T) {y0 : Nat} {at_ : Int32} {c : zz_Hp} {s i : Nat} {Y R : Nat → Nat} (hc : CT T c) (h : WQ T y0 at_ c s i 0 Y R) (hi : i < s) {Q : zz_Hp → Prop}
    (HQ : ∀ c' s' Y' R', fW c c' → s ≤ s' → WQ T y0 at_ c' s' (i + 1) 0 Y' R' → Q c') : w_X6_addParts (nI i) at_ c Q := by
  have hn := hT.1
  have hs85 := h.s85
  have hsz := h.1.2.1
  obtain ⟨hYi, hYc, -⟩ := h.2.1 i hi
  have hP := hT.P4 hYi
  have hii : vp_in (nI i) 85 := nv_in (by omega) (by decide)
  have hin : (nI i).toNatClampNeg = i := nv_tn (by omega)
  unfold w_X6_addParts
  rw [hin, hYc, hsz]
  refine ⟨hii, t7_fact (Y i) 4 (by omega) (by omega) rfl rfl ?_⟩
  rw [(hc.2 _ hYi).1.2.2.2.2.1]
  refine lp_cnt (yP T (Y i)) (fun q u => u.1 = nI q ∧ fW c u.2 ∧ ∃ s' Y' R', s ≤ s' ∧ (∀ j, j < s → Y' j = Y j) ∧ (∀ j, s ≤ j → j < s' → R' j = i) ∧ WQ T y0 at_ u.2 s' i q Y' R') ?_ _ ⟨rfl, fW.rf, s, Y, R, Nat.le_refl _, fun _ _ => rfl, fun j h1 h2 => by omega, h⟩
  intro q u hq hu again hag
  obtain ⟨j, c1⟩ := u
  obtain ⟨hj, hfw, s1, Y1, R1, hs1, hY1, hR1, hw⟩ := hu
  dsimp only at hj hfw hw
  subst hj
  unfold w_X6_addParts_l22
  dsimp only
  have hYe : Y1 i = Y i := hY1 i hi
  refine brc (fun e => ?_) fun e => ?_
  · have : q = yP T (Y i) := by have := (nv_le (by omega) (by omega)).mp e; omega
    subst this
    refine HQ _ s1 Y1 R1 hfw hs1 (WQ.next hT (by omega) ?_)
    rw [hYe]; exact hw
  · have hlt : q < yP T (Y i) := by
      rcases Nat.lt_or_ge q (yP T (Y i)) with w | w
      · exact w
      · exact absurd ((nv_le (by omega) (by omega)).mpr w) e
    have hpt := hT.part hYi hlt
    have hc1 := CT_fW hfw hc
    have hs185 := hw.s85
    have hsz1 := hw.1.2.1
    have hY1c := (hw.2.1 i (by omega)).2.1
    rw [hin, hY1c, hYe]
    refine ⟨hii, t7_partAt (Y i) q (by omega) (by omega) rfl rfl ?_⟩
    rw [(hc1.2 _ hYi).2 q hlt]
    -- the search for a like part, then j74
    have key : ∀ m, s ≤ m → m ≤ s1 → (m < s1 → Y1 m = yQ T (Y i) q) → w_X6_addParts_j74 again Q (nI i) at_ (nI s) (nI (yP T (Y i))) (nI q) (nI (yQ T (Y i) q)) (nI m) c1 := by
      intro m hm1 hm2 hm3
      unfold w_X6_addParts_j74
      rw [hsz1]
      refine brc (fun e => ?_) fun e => ?_
      · have : m = s1 := by have := (nv_le (by omega) (by omega)).mp e; omega
        subst this
        have hb := hw.2.2.2.2.2.2
        rw [if_pos (show i < m by omega)] at hb
        have hcap := capm_lt hpt.2.2 (hT.D3 hYi)
        have hm85 : m < 85 := by
          rw [hYe] at hb
          have : 1 ≤ (4 - q) * (capm (yD T (Y i)) / 4) := Nat.mul_pos (by omega) (by omega)
          omega
        have hmv := (hw.2.1 i (by omega)).2.2
        refine t6_addPlace hT hc1 hsz1 hm85 rfl hpt.2.1 (Or.inr ⟨i, by omega, rfl, hmv.elim Or.inl fun w => Or.inr w.1⟩) fun c2 hp => ?_
        have hne : ¬ nI i = -1 := fun w => by
          have := iv_eq.mp w
          rw [nv_toInt (by omega), show (-1 : Int32).toInt = -1 by decide] at this
          omega
        rw [if_neg hne, if_neg hne, if_neg hne, hin] at hp
        rw [lit_1, nv_add]
        refine hag hlt _ ⟨rfl, hfw.tr hp.1, m + 1, upn Y1 m (yQ T (Y1 i) q), upn R1 m i, by omega, fun j hj => ?_, fun j hj1 hj2 => ?_, ?_⟩
        · rw [upn_n (by omega)]; exact hY1 j hj
        · by_cases w : j = m
          · rw [w, upn_e]
          · rw [upn_n w]; exact hR1 j hj1 (by omega)
        · exact hw.more hT (by omega) (by rw [hYe]; exact hlt) (by omega) (by rw [hYe]; exact hp)
      · have hlt2 : m < s1 := by
          rcases Nat.lt_or_ge m s1 with w | w
          · exact w
          · exact absurd ((nv_le (by omega) (by omega)).mpr w) e
        have hmi : vp_in (nI m) 85 := nv_in (by omega) (by decide)
        rw [nv_tn (by omega), hin]
        refine ⟨hmi, hii, hmi, fun c2 e2 => ?_⟩
        rw [lit_1, nv_add]
        refine hag hlt _ ⟨rfl, hfw.tr fun k hk => by rw [e2, zu_f (by omega)], s1, Y1, R1, hs1, hY1, hR1, ?_⟩
        dsimp only
        rw [e2]
        exact hw.merge (by omega) (by omega) hlt2 (hR1 m hm1 hlt2) (by rw [hYe]; exact hm3 hlt2)
    refine lp_cnt (s1 - s) (fun k v => v = (nI (s + k), c1)) ?_ _ rfl
    intro k v hk hv again2 hag2
    subst hv
    unfold w_X6_addParts_l47
    dsimp only
    rw [hsz1]
    refine brc (fun e => ?_) fun e => ?_
    · have := (nv_le (by omega) (by omega)).mp e
      exact key _ (by omega) (by omega) (fun w => by omega)
    · have hlt2 : s + k < s1 := by
        rcases Nat.lt_or_ge (s + k) s1 with w | w
        · exact w
        · exact absurd ((nv_le (by omega) (by omega)).mpr w) e
      obtain ⟨hYk, hYkc, -⟩ := hw.2.1 (s + k) hlt2
      rw [nv_tn (by omega), hYkc]
      refine ⟨nv_in (by omega) (by decide), brc (fun e => ?_) fun e => ?_⟩
      · exact key _ (by omega) (by omega) (fun _ => nv_inj (by omega) (by omega) e)
      · rw [lit_1, nv_add]
        exact hag2 (by omega) _ rfl
/-- what stands behind a walk -/
def WE (T : Tb) (y0 : Nat) (at_ : Int32) (c : zz_Hp) : Prop := ∃ s Y R, WQ T y0 at_ c s s 0 Y R
theorem t6_walk {T : Tb} (hT : okT T) {y : Nat} {l at_ : Int32} {c : zz_Hp} (hc : CT T c) (e : l = nI y) (hy : y < yN T) {Q : zz_Hp → Prop}
    (HQ : ∀ c', fW c c' → WE T y at_ c' → Q c') : w_X6_walk l at_ c Q := by
  have hn := hT.1
  intro c1 e1
  have hfw1 : fW c c1 := fun k hk => by rw [e1, zu_f (by omega)]
  refine t6_addPlace hT (CT_fW hfw1 hc) (s := 0) (by rw [e1, zu_eq ⟨rfl, rfl⟩]; rfl) (by omega) e hy (Or.inl rfl) fun c2 hp => ?_
  rw [if_pos rfl, if_pos rfl, if_pos rfl] at hp
  obtain ⟨p1, p2, p3, p4, p5, p6, p7, p8⟩ := hp
  have hfw2 : fW c c2 := hfw1.tr p1
  have hD3 := hT.D3 hy
  have hw0 : WQ T y at_ c2 1 0 0 (fun _ => y) (fun _ => 0) := by
    refine ⟨⟨Nat.le_refl _, p2, rfl, p7, p5⟩, fun j hj => ?_, fun j h1 h2 => by omega, fun t => ⟨?_, fun j h1 h2 => by omega⟩, fun i' h1 => by omega, fun _ f => ?_, ?_⟩
    · have : j = 0 := by omega
      subst this
      refine ⟨hy, p4, ?_⟩
      rw [p8]; unfold mva
      by_cases w : nI y = at_
      · rw [if_pos w]; exact Or.inr ⟨rfl, y, by omega, w.symm, Nat.le_refl _⟩
      · rw [if_neg w]; exact Or.inl rfl
    · unfold rtn twt
      rw [p6, p8]; unfold mva twa
      by_cases w : nI y = at_
      · rw [if_pos w, if_pos w, if_pos w, if_neg (by decide)]; simp
      · rw [if_neg w, if_neg w, if_neg w, if_pos rfl]
    · simp [sm]
    · simp only [sn]
      rw [if_neg (by omega), if_pos (by omega)]
      have : yD T y = 0 ∨ yD T y = 1 ∨ yD T y = 2 ∨ yD T y = 3 := by omega
      rcases this with w | w | w | w <;> rw [w] <;> decide
  refine lp_cnt 85 (fun i u => u.1 = nI i ∧ fW c u.2 ∧ ∃ s Y R, i ≤ s ∧ WQ T y at_ u.2 s i 0 Y R) ?_ _ ⟨rfl, hfw2, 1, _, _, by omega, hw0⟩
  intro i u hi hu again hag
  obtain ⟨j, c3⟩ := u
  obtain ⟨hj, hfw3, s, Y, R, his, hw⟩ := hu
  dsimp only at hj hfw3 hw
  subst hj
  have hs85 := hw.s85
  unfold w_X6_walk_l16
  dsimp only
  rw [hw.1.2.1]
  refine brc (fun e => ?_) fun e => ?_
  · have : i = s := by have := (nv_le (by omega) (by omega)).mp e; omega
    subst this
    exact HQ _ hfw3 ⟨i, Y, R, hw⟩
  · have hlt : i < s := by
      rcases Nat.lt_or_ge i s with w | w
      · exact w
      · exact absurd ((nv_le (by omega) (by omega)).mpr w) e
    refine brf ?_ ?_
    · rw [show (85 : Int32) = nI 85 from rfl, nv_le (by omega) (by omega)]; omega
    · refine t6_addParts hT (CT_fW hfw3 hc) hw hlt fun c4 s' Y' R' hfw4 hss hw4 => ?_
      rw [lit_1, nv_add]
      exact hag (by omega) _ ⟨rfl, hfw3.tr hfw4, s', Y', R', by omega, hw4⟩
