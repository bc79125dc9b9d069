/-! set, back -/
def enS (T : Tb) (C a b w : Nat → Int32) (i : Nat) : Prop := C (3 * i + 0) = a i ∧ C (3 * i + 1) = b i ∧ C (3 * i + 2) = w i ∧ ∃ k y, k < 4 ∧ y < yN T ∧ a i = nI k ∧ b i = nI y ∧ okV k (w i) ∧ ((k = 1 ∨ k = 2) → yP T y = 0)
theorem t9_push {T : Tb} {k y : Nat} {v : Int32} (hT : okT T) (hk : k < 4) (hy : y < yN T) {r : zz_Hp} (hr : RT T r) {m : Nat} (hm : m < 10) (e : r.1 0 16 = nI m) {l1 l2 l6 : Int32} (e1 : l1 = nI k) (e2 : l2 = nI y) {Q : Int32 → zz_Hp → Prop}
    (H : ∀ r', (∀ j, 7 ≤ j → j < 13 ∨ 15 < j → r'.1 j = r.1 j) → (∀ j, j ≠ 16 → r'.1 0 j = r.1 0 j) → r'.1 0 16 = nI (m + 1) → (∀ q, q < m → r'.1 13 q = r.1 13 q ∧ r'.1 14 q = r.1 14 q ∧ r'.1 15 q = r.1 15 q) → r'.1 13 m = l1 → r'.1 14 m = l2 → r'.1 15 m = l6 → RT (setY T k y v) r' → Q l6 r') : w_X9_set_j194 Q l1 l2 v l6 r := by
  unfold w_X9_set_j194
  have hi : vp_in (nI m) 10 := nv_in hm (by decide)
  rw [e, nv_tn (by omega)]
  refine ⟨hi, fun r1 q1 => ?_⟩
  have g1 : r1.1 0 16 = nI m := by rw [q1, zu_f (by decide)]; exact e
  rw [g1, nv_tn (by omega)]
  refine ⟨hi, fun r2 q2 => ?_⟩
  have g2 : r2.1 0 16 = nI m := by rw [q2, zu_f (by decide)]; exact g1
  rw [g2, nv_tn (by omega)]
  refine ⟨hi, fun r3 q3 => ?_⟩
  have g3 : r3.1 0 16 = nI m := by rw [q3, zu_f (by decide)]; exact g2
  rw [g3, nv_1]
  intro r4 q4
  have hr4 : RT T r4 := by
    unfold RT
    subst q4 q3 q2 q1
    have f : ∀ j, 1 ≤ j → j ≤ 6 → (zz_uI (zz_uI (zz_uI (zz_uI r 13 m l1) 14 m l2) 15 m l6) 0 16 (nI (m + 1))).1 j = r.1 j := fun j a b => by
      rw [zu_f (by omega), zu_f (by omega), zu_f (by omega), zu_f (by omega)]
    rw [f 1 (by omega) (by omega), f 2 (by omega) (by omega), f 3 (by omega) (by omega), f 4 (by omega) (by omega), f 5 (by omega) (by omega), f 6 (by omega) (by omega)]
    simp (disch := omega) only [zu_ne]
    exact hr
  refine t9_become hT hk hy hr4 e2 e1 fun r5 p1 p2 => ?_
  subst q4 q3 q2 q1
  refine H r5 (fun j a b => ?_) (fun j hj => ?_) ?_ (fun q hq => ?_) ?_ ?_ ?_ p2
  · rw [p1 j (by omega), zu_f (by omega), zu_f (by omega), zu_f (by omega), zu_f (by omega)]
  · rw [p1 0 (by omega)]; simp (disch := omega) only [zu_ne]
  · rw [p1 0 (by omega), zu_eq ⟨rfl, rfl⟩]
  · rw [p1 13 (by omega), p1 14 (by omega), p1 15 (by omega)]; simp (disch := omega) only [zu_ne]; exact ⟨trivial, trivial, trivial⟩
  · rw [p1 13 (by omega)]; simp (disch := omega) only [zu_ne, zu_eq]
  · rw [p1 14 (by omega)]; simp (disch := omega) only [zu_ne, zu_eq]
  · rw [p1 15 (by omega)]; simp (disch := omega) only [zu_ne, zu_eq]
theorem set_fin {T : Tb} {c c2 r r1 : zz_Hp} (h : SimT T c r) {k y m : Nat} {v : Int32} (hk : k < 4) (hy : y < yN T) (hv : okV k v) (hp : k = 1 ∨ k = 2 → yP T y = 0) (fc : ∀ j, j ≠ 3 → j ≠ 18 → j ≠ 19 → c2.1 j = c.1 j) (hct : CT (setY T k y v) c2) (s2 : c2.1 18 0 = nI (m + 1)) (fr : ∀ j, 1 ≤ j → j < 13 ∨ 15 < j → r1.1 j = r.1 j) (fs : ∀ j, j ≠ 16 → r1.1 0 j = r.1 0 j) (e : r1.1 0 16 = nI m) (hm : m < 10) (hen : ∀ i, i < m → enS T (c2.1 19) (r1.1 13) (r1.1 14) (r1.1 15) i) (h0 : c2.1 19 (3 * m + 0) = nI k) (h1 : c2.1 19 (3 * m + 1) = nI y) (h2 : c2.1 19 (3 * m + 2) = getY T k y) : w_X9_set_j194 (fun b r' => getY T k y = b ∧ Sim c2 r') (nI k) (nI y) v (getY T k y) r1 := by
  have hT := h.1
  have hr : RT T r1 := by
    have := h.2.2.1
    unfold RT
    rw [fs 0 (by omega), fr 1 (by omega) (by omega), fr 2 (by omega) (by omega), fr 3 (by omega) (by omega), fr 4 (by omega) (by omega), fr 5 (by omega) (by omega), fr 6 (by omega) (by omega)]
    exact this
  refine t9_push hT hk hy hr hm e rfl rfl fun r2 p1 p2 p3 p4 p5 p6 p7 p8 => ⟨rfl, setY T k y v, ?_⟩
  apply SimT.step h
  case n_ok => exact okT_set hT hk hy hv hp
  case n_ct => exact hct
  case n_rt => exact p8
  case n_sp =>
    refine ⟨m + 1, by omega, s2, p3, fun i hi => ?_⟩
    by_cases z : i = m
    · subst z
      rw [h0, h1, h2, p5, p6, p7]
      exact ⟨rfl, rfl, rfl, k, y, hk, hy, rfl, rfl, get_ok hT hk hy hp, hp⟩
    · obtain ⟨a, b, d⟩ := p4 i (by omega)
      rw [a, b, d]
      exact hen i (by omega)
  case t_bn => exact fun x => x
  case t_ly => exact fun x => x
  case t_jb => exact fun x => x
  all_goals first
    | exact fc _ (by omega) (by omega) (by omega)
    | exact congrFun (fc _ (by omega) (by omega) (by omega)) _
    | exact (p1 _ (by omega) (by omega)).trans (fr _ (by omega) (by omega))
    | exact (p2 _ (by omega)).trans (fs _ (by omega))
theorem t9_setR {k : Nat} (hk : k < 4) {T : Tb} (hT : okT T) {r : zz_Hp} (hr : RT T r) {y : Nat} (hy : y < yN T) {v : Int32} {Q : Int32 → zz_Hp → Prop} (H0 : ¬ okV k v → Q (-2147483648) r) (H1 : okV k v → ¬ (k = 1 ∨ k = 2 → yP T y = 0) → Q (-10000) r) (H : okV k v → (k = 1 ∨ k = 2 → yP T y = 0) → w_X9_set_j101 Q (nI k) (nI y) v r) : w_X9_set (nI k) (nI y) v r Q := by
  have hn := hT.1
  have hP := hT.P4 hy
  unfold w_X9_set
  refine t9_int ⟨?_, ?_⟩ (bq1 (t9_isYt (yN T) y hr.1 hn hy rfl (br1 ?_)))
  · rw [lit_0, nv_le (by omega) (by omega)]; omega
  · rw [lit_3, nv_le (by omega) (by omega)]; omega
  have J : w_X9_set_j62 Q (nI k) (nI y) v (zz_lt k) (zz_mt k) r := by
    unfold w_X9_set_j62
    by_cases hv : okV k v
    · refine t9_int hv (br1 ⟨nv_in (by omega) (by decide), ?_⟩)
      rw [nv_tn (by omega), (hr.2 y hy).1.1]
      refine brc (fun e => H hv fun _ => ?_) fun e => ?_
      · rw [lit_0, nv_le (by omega) (by omega)] at e; omega
      · have h0 : ¬ yP T y = 0 := fun z => e (by rw [z]; decide)
        rcases kcase hk with rfl | rfl | rfl | rfl
        · exact brf (by decide) (bnt (by decide) (H hv fun w => by omega))
        · exact brt rfl (H1 hv fun w => h0 (w (Or.inl rfl)))
        · exact brf (by decide) (bnf rfl (H1 hv fun w => h0 (w (Or.inr rfl))))
        · exact brf (by decide) (bnt (by decide) (H hv fun w => by omega))
    · exact t9_inf hv (br0 (H0 hv))
  rcases kcase hk with rfl | rfl | rfl | rfl
  · exact bnf rfl (brf (by decide) J)
  · exact bnt (by decide) (bnf rfl (brf (by decide) J))
  · exact bnt (by decide) (bnt (by decide) (brt (by decide) (bnf rfl J)))
  · exact bnt (by decide) (bnt (by decide) (brt (by decide) (bnt (by decide) J)))
theorem set_same {T : Tb} {k y : Nat} (hk : k < 4) : setY T k y (getY T k y) = T := by
  have u : ∀ (f : Nat → Int32), up f y (f y) = f := fun f => funext fun z => by
    unfold up; split
    · next e => rw [e]
    · rfl
  rcases kcase hk with rfl | rfl | rfl | rfl
  all_goals simp [setY, getY, u]
theorem okV_lo {k : Nat} (hk : k < 4) {v : Int32} (h : okV k v) : ¬ v ≤ -10000 := by
  intro z
  have := Int32.le_trans h.1 z
  rcases kcase hk with rfl | rfl | rfl | rfl
  all_goals revert this; decide
theorem eq_set {c r : zz_Hp} (h : Sim c r) (l1 l2 l3 : Int32) : w_X8_set l1 l2 l3 c (fun a c' => w_X9_set l1 l2 l3 r (fun b r' => a = b ∧ Sim c' r')) := by
  obtain ⟨T, h⟩ := h
  have hT := h.1; have hc : CT T c := h.2.1; have hr : RT T r := h.2.2.1; have hn := hT.1
  obtain ⟨m, hm, e1, e2, e3⟩ := h.2.2.2.2.2.2.1
  unfold w_X8_set
  by_cases h1 : 0 ≤ l1 ∧ l1 ≤ 3
  · obtain ⟨k, hk, rfl⟩ : ∃ k, k < 4 ∧ l1 = nI k := by
      refine nv_ex (by omega) (Int32.not_lt.mpr h1.1) fun q => ?_
      have := Int32.le_trans q h1.2
      exact absurd this (by decide)
    rcases ycase (yN T) (by omega) l2 with hl | ⟨y, hy, rfl⟩
    · exact t7_tell0 hT hc (Or.inr hl) (brt (by decide) (t9_int h1 (bq1 (t9_isYf (yN T) hr.1 hn hl (br0 ⟨rfl, T, h⟩)))))
    refine t7_tell hT hk hy hc rfl rfl (fun k1 => brt (by decide) (t9_setR hk hT hr hy (fun _ => ⟨rfl, T, h⟩) (fun w => absurd w k1) fun w => absurd w k1)) (fun k1 k2 => brt (by decide) (t9_setR hk hT hr hy (fun w => absurd k1 w) (fun _ _ => ⟨rfl, T, h⟩) fun _ w => absurd w k2)) fun hv hp c1 f1 ct1 => brf (okV_lo hk (get_ok hT hk hy hp)) ?_
    have c18 : c1.1 18 0 = nI m := by rw [f1 18 (by decide)]; exact e1
    refine brc (fun e => ?_) fun e => ?_
    · refine t9_setR hk hT hr hy (fun w => absurd hv w) (fun _ w => absurd hp w) fun _ _ => ?_
      unfold w_X9_set_j101
      refine t9_toldOf hT hk hy hr rfl rfl (brt e ⟨rfl, T, ?_⟩)
      subst e
      rw [set_same hk] at ct1
      apply SimT.tele h
      case n_ok => exact hT
      case n_ct => exact ct1
      case n_rt => exact hr
      case t_bn => exact fun x => x
      case t_ly => exact fun x => x
      case t_jb => exact fun x => x
      case t_sp => exact fun x => x
      all_goals first
        | rfl
        | exact f1 _ (by decide)
        | exact congrFun (f1 _ (by decide)) _
    · refine t1_full18 c18 hm (fun hlt => bq0 ?_) fun hm10 => bq1 ?_
      · unfold w_X8_set_j47
        refine t1_add18 c18 hlt fun c2 f2 s2 o2 g0 g1 g2 => t9_setR hk hT hr hy (fun w => absurd hv w) (fun _ w => absurd hp w) fun _ _ => ?_
        unfold w_X9_set_j101
        refine t9_toldOf hT hk hy hr rfl rfl (brf e (bnt ?_ ?_))
        · rw [e2]; intro z; have := nv_inj (by omega) (by omega) (z.trans lit_10); omega
        refine set_fin h hk hy hv hp (fun j a b d => (f2 j b d).trans (f1 j a)) ?_ s2 (fun _ _ _ => rfl) (fun _ _ => rfl) e2 hlt (fun i hi => ?_) g0 g1 g2
        · unfold CT; rw [f2 2 (by decide) (by decide), f2 3 (by decide) (by decide), f2 4 (by decide) (by decide)]; exact ct1
        · unfold enS
          rw [o2 _ (by omega), o2 _ (by omega), o2 _ (by omega), f1 19 (by decide)]
          exact e3 i hi
      · subst hm10
        refine t1_drop18 (k := 0) c18 (by omega) (by omega) rfl fun c2 f2 s2 _ d2 => ?_
        unfold w_X8_set_j47
        refine t1_add18 s2 (by omega) fun c3 f3 s3 o3 g0 g1 g2 => t9_setR hk hT hr hy (fun w => absurd hv w) (fun _ w => absurd hp w) fun _ _ => ?_
        unfold w_X9_set_j101
        refine t9_toldOf hT hk hy hr rfl rfl (brf e (bnf (by rw [e2]; rfl) ?_))
        refine lp_cnt 9 (fun i s => s.1 = nI (i + 1) ∧ (∀ j, j < 13 ∨ 15 < j → s.2.1 j = r.1 j) ∧ (∀ q, q < i → s.2.1 13 q = r.1 13 (q + 1) ∧ s.2.1 14 q = r.1 14 (q + 1) ∧ s.2.1 15 q = r.1 15 (q + 1)) ∧ ∀ q, i ≤ q → s.2.1 13 q = r.1 13 q ∧ s.2.1 14 q = r.1 14 q ∧ s.2.1 15 q = r.1 15 q) ?_ _ ⟨rfl, fun _ _ => rfl, fun q hq => by omega, fun q _ => ⟨rfl, rfl, rfl⟩⟩
        intro i s hi hs again hag
        obtain ⟨u, r1⟩ := s
        obtain ⟨hu, p1, p2, p3⟩ := hs
        dsimp only at hu p1 p2 p3
        subst hu
        unfold w_X9_set_l127
        dsimp only
        rw [lit_10, nv_le (by omega) (by omega)]
        refine brc (fun z => ?_) fun z => ?_
        · have : i = 9 := by omega
          subst this
          intro r2 q2
          refine set_fin (m := 9) h hk hy hv hp (fun j a b d => ((f3 j b d).trans (f2 j b d)).trans (f1 j a)) ?_ s3 (fun j a b => ?_) (fun j a => ?_) (by rw [q2, zu_eq ⟨rfl, rfl⟩]; rfl) (by omega) (fun i hi => ?_) g0 g1 g2
          · unfold CT; rw [f3 2 (by decide) (by decide), f3 3 (by decide) (by decide), f3 4 (by decide) (by decide), f2 2 (by decide) (by decide), f2 3 (by decide) (by decide), f2 4 (by decide) (by decide)]; exact ct1
          · rw [q2, zu_f (by omega)]; exact p1 j b
          · rw [q2, zu_ne (Or.inr a), p1 0 (by omega)]
          · unfold enS
            rw [o3 _ (by omega), o3 _ (by omega), o3 _ (by omega), d2 _ (by omega) (by omega), d2 _ (by omega) (by omega), d2 _ (by omega) (by omega), f1 19 (by decide), q2, zu_f (by decide), zu_f (by decide), zu_f (by decide), (p2 i hi).1, (p2 i hi).2.1, (p2 i hi).2.2]
            exact e3 (i + 1) (by omega)
        · have hlt : i < 9 := by omega
          have es : nI (i + 1) - 1 = nI i := by rw [lit_1, nv_sub (by omega)]; rfl
          rw [es, nv_tn (by omega), nv_tn (by omega), nv_1]
          refine ⟨nv_in (by omega) (by decide), nv_in (by omega) (by decide), fun r2 w2 => ⟨nv_in (by omega) (by decide), nv_in (by omega) (by decide), fun r3 w3 => ⟨nv_in (by omega) (by decide), nv_in (by omega) (by decide), fun r4 w4 => hag hlt _ ⟨rfl, fun j hj => ?_, fun q hq => ?_, fun q hq => ?_⟩⟩⟩⟩
          · dsimp only; rw [w4, zu_f (by omega), w3, zu_f (by omega), w2, zu_f (by omega)]; exact p1 j hj
          · dsimp only
            subst w4 w3 w2
            by_cases x : q = i
            · subst x
              simp (disch := omega) only [zu_ne, zu_eq]
              exact p3 (q + 1) (by omega)
            · simp (disch := omega) only [zu_ne]
              exact p2 q (by omega)
          · dsimp only
            subst w4 w3 w2
            simp (disch := omega) only [zu_ne]
            exact p3 q (by omega)
  · exact t7_tell0 hT hc (Or.inl h1) (brt (by decide) (t9_inf h1 (bq0 ⟨rfl, T, h⟩)))
theorem eq_back {c r : zz_Hp} (h : Sim c r) : w_X8_back c (fun a c' => w_X9_back r (fun b r' => a = b ∧ Sim c' r')) := by
  obtain ⟨T, h⟩ := h
  have hT := h.1; have hc : CT T c := h.2.1; have hr : RT T r := h.2.2.1; have hn := hT.1
  obtain ⟨m, hm, e1, e2, e3⟩ := h.2.2.2.2.2.2.1
  unfold w_X8_back w_X9_back
  rw [e1, e2]
  refine bnc (fun e => ?_) fun e => bnf e ⟨rfl, T, h⟩
  have hm0 : 0 < m := by
    rcases Nat.eq_zero_or_pos m with z | z
    · rw [z] at e; exact absurd rfl e
    · exact z
  have em : nI m - 1 = nI (m - 1) := by rw [lit_1, nv_sub (by omega)]
  obtain ⟨k1, k2, k3, k, y, hk, hy, ek, ey, hv, hp⟩ := e3 (m - 1) (by omega)
  rw [em]
  refine t1_at18' rfl rfl (by omega) (by omega : 0 < 3) (t1_at18' rfl rfl (by omega) (by omega : 1 < 3) (t1_at18' rfl rfl (by omega) (by omega : 2 < 3) ?_))
  rw [k1, k2, k3, ek, ey]
  refine t7_tell hT hk hy hc rfl rfl (fun w => absurd hv w) (fun _ w => absurd hp w) fun _ _ c1 f1 ct1 => t1_drop18 (m := m) (k := m - 1) (by rw [f1 18 (by decide)]; exact e1) hm (by omega) rfl fun c2 f2 s2 o2 _ => bnt e fun r1 q1 => ?_
  have g1 : r1.1 0 16 = nI (m - 1) := by rw [q1, zu_eq ⟨rfl, rfl⟩]
  rw [g1, nv_tn (by omega), q1, zu_f (by decide), zu_f (by decide), zu_f (by decide), ek, ey]
  have hi : vp_in (nI (m - 1)) 10 := nv_in (by omega) (by decide)
  have hr1 : RT T (zz_uI r 0 16 (nI (m - 1))) := by
    unfold RT
    rw [zu_ne (by decide), zu_f (by decide), zu_f (by decide), zu_f (by decide), zu_f (by decide), zu_f (by decide), zu_f (by decide)]
    exact hr
  refine ⟨hi, hi, hi, t9_become hT hk hy hr1 rfl rfl fun r2 p1 p2 => ⟨?_, setY T k y (r.1 15 (m - 1)), ?_⟩⟩
  · rw [s2, p1 0 (by omega), zu_eq ⟨rfl, rfl⟩]
  apply SimT.step h
  case n_ok => exact okT_set hT hk hy hv hp
  case n_ct => rw [f2 2 (by decide) (by decide), f2 3 (by decide) (by decide), f2 4 (by decide) (by decide)]; exact ct1
  case n_rt => exact p2
  case n_sp =>
    refine ⟨m - 1, by omega, s2, by rw [p1 0 (by omega), zu_eq ⟨rfl, rfl⟩], fun i hi => ?_⟩
    rw [o2 _ (by omega), o2 _ (by omega), o2 _ (by omega), f1 19 (by decide), p1 13 (by omega), p1 14 (by omega), p1 15 (by omega), zu_f (by decide), zu_f (by decide), zu_f (by decide)]
    exact e3 i (by omega)
  case t_bn => exact fun x => x
  case t_ly => exact fun x => x
  case t_jb => exact fun x => x
  all_goals first
    | exact (f2 _ (by decide) (by decide)).trans (f1 _ (by decide))
    | exact congrFun ((f2 _ (by decide) (by decide)).trans (f1 _ (by decide))) _
    | (rw [p1 _ (by omega), zu_f (by decide)])
    | (rw [p1 0 (by omega), zu_ne (by decide)])
