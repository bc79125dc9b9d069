/-! jobs: do1, strike, about -/
theorem t1_drop7 {c : zz_Hp} {m k : Nat} (e : c.1 7 0 = nI m) (hm : m ≤ 8) (hk : k < m) {l : Int32} (el : l = nI k) {Q : zz_Hp → Prop} (H : ∀ c', (∀ j, j ≠ 7 → j ≠ 8 → c'.1 j = c.1 j) → c'.1 7 0 = nI (m - 1) → (∀ q, q < 3 * k → c'.1 8 q = c.1 8 q) → (∀ q, 3 * k ≤ q → q < 3 * (m - 1) → c'.1 8 q = c.1 8 (q + 3)) → Q c') : w_X1_drop_7 l c Q := by
  subst el
  unfold w_X1_drop_7
  have i0 : (nI k + 1) * 3 = nI (3 * k + 3) := by rw [nv_1, lit_3, nv_mul, show (k + 1) * 3 = 3 * k + 3 by omega]
  have i1 : nI k * 3 = nI (3 * k) := by rw [lit_3, nv_mul, show k * 3 = 3 * k by omega]
  have i2 : (nI m - nI k - 1) * 3 = nI (3 * (m - k - 1)) := by rw [nv_sub (by omega), lit_1, nv_sub (by omega), lit_3, nv_mul, show (m - k - 1) * 3 = 3 * (m - k - 1) by omega]
  refine brf (nv_lt0 (by omega)) ?_
  rw [e, i0, i1, i2, nv_tn (by omega), nv_tn (by omega), nv_tn (by omega)]
  refine brf (fun z => ?_) ⟨nv_lt0 (by omega), nv_lt0 (by omega), nv_lt0 (by omega), by omega, by omega, fun c1 q1 c2 q2 => ?_⟩
  · rw [nv_le (by omega) (by omega)] at z; omega
  have g1 : c1.1 7 0 = nI m := by rw [q1, zc_f (by decide)]; exact e
  rw [g1, lit_1, nv_sub (by omega)] at q2
  subst q2 q1
  refine H _ (fun j a b => ?_) (zu_eq ⟨rfl, rfl⟩) (fun q hq => ?_) fun q hq1 hq2 => ?_
  · rw [zu_f a, zc_f b]
  · rw [zu_f (by decide), zc_b]; unfold va_cpy; rw [if_neg (by omega)]
  · rw [zu_f (by decide), zc_b]; unfold va_cpy; rw [if_pos (by omega), show 3 * k + 3 + (q - 3 * k) = q + 3 by omega]
theorem t1_drop18 {c : zz_Hp} {m k : Nat} (e : c.1 18 0 = nI m) (hm : m ≤ 10) (hk : k < m) {l : Int32} (el : l = nI k) {Q : zz_Hp → Prop} (H : ∀ c', (∀ j, j ≠ 18 → j ≠ 19 → c'.1 j = c.1 j) → c'.1 18 0 = nI (m - 1) → (∀ q, q < 3 * k → c'.1 19 q = c.1 19 q) → (∀ q, 3 * k ≤ q → q < 3 * (m - 1) → c'.1 19 q = c.1 19 (q + 3)) → Q c') : w_X1_drop_18 l c Q := by
  subst el
  unfold w_X1_drop_18
  have i0 : (nI k + 1) * 3 = nI (3 * k + 3) := by rw [nv_1, lit_3, nv_mul, show (k + 1) * 3 = 3 * k + 3 by omega]
  have i1 : nI k * 3 = nI (3 * k) := by rw [lit_3, nv_mul, show k * 3 = 3 * k by omega]
  have i2 : (nI m - nI k - 1) * 3 = nI (3 * (m - k - 1)) := by rw [nv_sub (by omega), lit_1, nv_sub (by omega), lit_3, nv_mul, show (m - k - 1) * 3 = 3 * (m - k - 1) by omega]
  refine brf (nv_lt0 (by omega)) ?_
  rw [e, i0, i1, i2, nv_tn (by omega), nv_tn (by omega), nv_tn (by omega)]
  refine brf (fun z => ?_) ⟨nv_lt0 (by omega), nv_lt0 (by omega), nv_lt0 (by omega), by omega, by omega, fun c1 q1 c2 q2 => ?_⟩
  · rw [nv_le (by omega) (by omega)] at z; omega
  have g1 : c1.1 18 0 = nI m := by rw [q1, zc_f (by decide)]; exact e
  rw [g1, lit_1, nv_sub (by omega)] at q2
  subst q2 q1
  refine H _ (fun j a b => ?_) (zu_eq ⟨rfl, rfl⟩) (fun q hq => ?_) fun q hq1 hq2 => ?_
  · rw [zu_f a, zc_f b]
  · rw [zu_f (by decide), zc_b]; unfold va_cpy; rw [if_neg (by omega)]
  · rw [zu_f (by decide), zc_b]; unfold va_cpy; rw [if_pos (by omega), show 3 * k + 3 + (q - 3 * k) = q + 3 by omega]
theorem eq_do1 {c r : zz_Hp} (h : Sim c r) : w_X8_do1 c (fun a c' => w_X9_do1 r (fun b r' => a = b ∧ Sim c' r')) := by
  obtain ⟨T, h⟩ := h
  have hT := h.1; have hc : CT T c := h.2.1; have hr : RT T r := h.2.2.1; have hn := hT.1
  obtain ⟨m, hm, e1, e2, e3⟩ := h.2.2.2.2.2.1
  unfold w_X8_do1
  rw [e1]
  refine bnc (fun e => ?_) fun e => bnf (by rw [e2]; exact e) ⟨rfl, T, h⟩
  have hm0 : 0 < m := by
    rcases Nat.eq_zero_or_pos m with z | z
    · rw [z] at e; exact absurd rfl e
    · exact z
  obtain ⟨k1, k2, ⟨y, hy, hP, ey⟩, hb⟩ := e3 0 hm0
  obtain ⟨n, hn1, hn9, en, _⟩ := (mcase (r.1 12 0)).resolve_left fun z => z hb
  refine t1_at7' rfl rfl (by omega : 0 < 8) (by omega : 0 < 3) (t1_at7' rfl rfl (by omega : 0 < 8) (by omega : 1 < 3) ?_)
  rw [k1, k2, ey, en]
  have hne : ¬ r.1 0 13 = 0 := by rw [e2]; exact e
  have h0 : ¬ yP T y = 0 := by omega
  have t0 : (0 : Int32).toNatClampNeg = 0 := rfl
  refine t8_makeYards hT hc rfl hy rfl hn1 hn9 (fun c1 hf hx => brf (by decide) (bnt hne ⟨nv_in (n := 0) (by omega) (by decide), nv_in (n := 0) (by omega) (by decide), ?_⟩)) fun c1 hf _ hlk hct => ?_
  · rw [t0, ey, en]
    exact t9_isMade hT hr rfl hy (fun r1 hq _ => br0 ⟨rfl, h.both hf.sC hq.sR⟩) fun r1 _ _ hlk _ => absurd (hx.resolve_left h0) hlk
  obtain ⟨m', hm', em⟩ := mk_ok hT hy h0 hn9 hlk y hy
  refine brt (by rw [em, lit_0, nv_le (by omega) (by omega)]; omega) (t1_drop7 (k := 0) (by rw [hf 7 (by omega) (by omega)]; exact e1) hm hm0 rfl fun c2 f2 s2 _ d2 => fun c3 q3 => bnt hne ⟨nv_in (n := 0) (by omega) (by decide), nv_in (n := 0) (by omega) (by decide), ?_⟩)
  rw [t0, ey, en]
  refine t9_isMade hT hr rfl hy (fun r1 hq w => absurd w hlk) fun r1 hf1 hs1 _ hrt => br1 fun r2 q4 r3 q5 => ?_
  have g3 : r2.1 0 13 = nI m := by rw [q4, zu_ne (by decide)]; rw [hs1 13 (by omega)]; exact e2
  rw [g3, lit_1, nv_sub (by omega)] at q5
  have h7 : c3.1 7 0 = nI (m - 1) := by rw [q3, zu_f (by decide)]; exact s2
  rw [h7]
  refine lp_cnt (m - 1) (fun i s => s.1 = nI i ∧ (∀ k, k ≠ 11 → k ≠ 12 → s.2.1 k = r3.1 k) ∧ (∀ j, j < i → s.2.1 11 j = r.1 11 (j + 1) ∧ s.2.1 12 j = r.1 12 (j + 1)) ∧ ∀ j, i ≤ j → s.2.1 11 j = r.1 11 j ∧ s.2.1 12 j = r.1 12 j) ?_ _ ⟨rfl, fun _ _ _ => rfl, fun j hj => by omega, fun j _ => ?_⟩
  · intro i s hi hs again hag
    obtain ⟨u, r4⟩ := s
    obtain ⟨hu, p1, p2, p3⟩ := hs
    dsimp only at hu p1 p2 p3
    subst hu
    unfold w_X9_do1_l49
    dsimp only
    have h13 : r4.1 0 13 = nI (m - 1) := by rw [p1 0 (by decide) (by decide), q5, zu_eq ⟨rfl, rfl⟩]
    rw [h13]
    refine brc (fun e => ?_) fun e => ?_
    · have := nv_end (by omega) (by omega) hi e
      subst this
      refine ⟨rfl, TS T (mkS T y (nI n)), ?_⟩
      have hok := okT_TS h.1 (S := mkS T y (nI n)) fun k hk => by
        obtain ⟨m, hm, e⟩ := mk_ok h.1 hy h0 hn9 hlk k hk
        rw [e]; exact okV3_of hm
      have cc : ∀ k, k < 27 → k ≠ 3 → k ≠ 7 → k ≠ 8 → k ≠ 18 → c3.1 k = c.1 k := fun k a b d e f => by
        rw [q3, zu_f f, f2 k d e]; exact hf k a b
      have rr : ∀ k, 1 ≤ k → k ≤ 30 → k ≠ 6 → k ≠ 11 → k ≠ 12 → r4.1 k = r.1 k := fun k a b d e f => by
        rw [p1 k e f, q5, zu_f (by omega), q4, zu_f (by omega)]; exact hf1 k a (Or.inl b) d
      have ss : ∀ j, j ≠ 40 → j ≠ 13 → j ≠ 16 → r4.1 0 j = r.1 0 j := fun j a b d => by
        rw [p1 0 (by decide) (by decide), q5, zu_ne (Or.inr b), q4, zu_ne (Or.inr d)]; exact hs1 j a
      apply SimT.jobst h
      case n_ok => exact hok
      case n_ct =>
        rw [q3, zu_f (by decide), zu_f (by decide), zu_f (by decide), f2 2 (by decide) (by decide), f2 3 (by decide) (by decide), f2 4 (by decide) (by decide)]; exact hct
      case n_rt =>
        rw [p1 0 (by decide) (by decide), p1 1 (by decide) (by decide), p1 2 (by decide) (by decide), p1 3 (by decide) (by decide), p1 4 (by decide) (by decide), p1 5 (by decide) (by decide), p1 6 (by decide) (by decide), q5, zu_ne (by decide), zu_f (by decide), zu_f (by decide), zu_f (by decide), zu_f (by decide), zu_f (by decide), zu_f (by decide), q4, zu_ne (by decide), zu_f (by decide), zu_f (by decide), zu_f (by decide), zu_f (by decide), zu_f (by decide), zu_f (by decide)]; exact hrt
      case n_jb =>
        refine ⟨m - 1, by omega, h7, h13, fun i hi => ?_⟩
        rw [q3, zu_f (by decide), d2 _ (by omega) (by omega), d2 _ (by omega) (by omega), hf 8 (by omega) (by omega), (p2 i hi).1, (p2 i hi).2]
        exact e3 (i + 1) (by omega)
      case n_sp =>
        rw [q3, zu_eq ⟨rfl, rfl⟩, p1 0 (by decide) (by decide), q5, zu_ne (by decide), q4, zu_eq ⟨rfl, rfl⟩]
        exact spF_0
      case t_bn => exact fun x => x
      case t_ly => exact fun x => x
      all_goals first
        | exact cc _ (by omega) (by omega) (by omega) (by omega) (by omega)
        | exact rr _ (by omega) (by omega) (by omega) (by omega) (by omega)
        | exact ss _ (by omega) (by omega) (by omega)
        | exact congrFun (cc _ (by omega) (by omega) (by omega) (by omega) (by omega)) _
    · have hlt := nv_nle (by omega) (by omega) e
      rw [nv_1, nv_tn (by omega), nv_tn (by omega)]
      refine ⟨nv_in (by omega) (by decide), nv_in (by omega) (by decide), fun r5 w5 => ⟨nv_in (by omega) (by decide), nv_in (by omega) (by decide), fun r6 w6 => hag hlt _ ⟨rfl, fun k a b => ?_, fun j hj => ?_, fun j hj => ?_⟩⟩⟩
      · dsimp only; rw [w6, zu_f b, w5, zu_f a]; exact p1 k a b
      · dsimp only
        subst w6 w5
        by_cases z : j = i
        · subst z; simp (disch := omega) only [zu_ne, zu_eq]; exact p3 (j + 1) (by omega)
        · simp (disch := omega) only [zu_ne]; exact p2 j (by omega)
      · dsimp only
        subst w6 w5
        simp (disch := omega) only [zu_ne]; exact p3 j (by omega)
  · dsimp only
    rw [q5, zu_f (by decide), zu_f (by decide), q4, zu_f (by decide), zu_f (by decide), hf1 11 (by omega) (by omega) (by omega), hf1 12 (by omega) (by omega) (by omega)]
    exact ⟨rfl, rfl⟩
theorem eq_about {c r : zz_Hp} (h : Sim c r) : w_X8_about c (fun a c' => w_X9_about r (fun b r' => a = b ∧ Sim c' r')) := by
  obtain ⟨T, h⟩ := h
  obtain ⟨m, hm, e1, e2, e3⟩ := h.2.2.2.2.2.1
  unfold w_X8_about w_X1_reverse
  rw [e1]
  refine lp_cnt (m / 2) (fun i s => s.1 = nI i ∧ s.2.1 = nI m - 1 - nI i ∧ (∀ k, k ≠ 8 → s.2.2.1 k = c.1 k) ∧ ∀ j k, j < m → k < 3 → s.2.2.1 8 (3 * j + k) = if j < i ∨ m - 1 - i < j then c.1 8 (3 * (m - 1 - j) + k) else c.1 8 (3 * j + k)) ?_ _ ⟨rfl, by dsimp only; exact (Int32.sub_zero _).symm, fun _ _ => rfl, fun j k hj hk => by rw [if_neg (by omega)]⟩
  intro i s hi hs again hag
  obtain ⟨u, v, c1⟩ := s
  obtain ⟨hu, hv, p1, p2⟩ := hs
  dsimp only at hu hv p1 p2
  subst hu hv
  unfold w_X1_reverse_l9
  dsimp only
  by_cases hz : i < m / 2
  · have ev : nI m - 1 - nI i = nI (m - 1 - i) := by rw [lit_1, nv_sub (by omega), nv_sub (by omega)]
    refine brf (fun z => ?_) ?_
    · rw [ev, nv_le (by omega) (by omega)] at z; omega
    refine lp_cnt 3 (fun k s => s.1 = nI k ∧ (∀ k, k ≠ 8 → s.2.1 k = c.1 k) ∧ ∀ j k', j < m → k' < 3 → s.2.1 8 (3 * j + k') = if j < i ∨ m - 1 - i < j ∨ (k' < k ∧ (j = i ∨ j = m - 1 - i)) then c.1 8 (3 * (m - 1 - j) + k') else c.1 8 (3 * j + k')) ?_ _ ⟨rfl, p1, fun j k hj hk => ?_⟩
    · intro k s hk hs again' hag'
      obtain ⟨u, c2⟩ := s
      obtain ⟨hu, q1, q2⟩ := hs
      dsimp only at hu q1 q2
      subst hu
      unfold w_X1_reverse_l16
      dsimp only
      refine brc (fun e => ?_) fun e => ?_
      · have hk3 : k = 3 := by rw [lit_3, nv_le (by omega) (by omega)] at e; omega
        subst hk3
        refine hag hz _ ⟨nv_1 i, ?_, q1, fun j k hj hk => ?_⟩
        · dsimp only; rw [← nv_1]; grind
        · dsimp only
          rw [q2 j k hj hk]
          by_cases z : j < i + 1 ∨ m - 1 - (i + 1) < j
          · rw [if_pos z, if_pos (by omega)]
          · rw [if_neg z, if_neg (by omega)]
      · have hk3 : k < 3 := by rw [lit_3, nv_le (by omega) (by omega)] at e; omega
        have x1 : nI i * 3 + nI k = nI (3 * i + k) := by rw [lit_3, nv_mul, nv_add, show i * 3 + k = 3 * i + k by omega]
        have x2 : (nI m - 1 - nI i) * 3 + nI k = nI (3 * (m - 1 - i) + k) := by rw [ev, lit_3, nv_mul, nv_add, show (m - 1 - i) * 3 + k = 3 * (m - 1 - i) + k by omega]
        rw [x1, x2, nv_tn (by omega), nv_tn (by omega), nv_1]
        refine ⟨nv_in (by omega) (by decide), nv_in (by omega) (by decide), nv_in (by omega) (by decide), fun c3 w3 => ⟨nv_in (by omega) (by decide), fun c4 w4 => hag' hk3 _ ⟨rfl, fun k hk => ?_, fun j k' hj hk' => ?_⟩⟩⟩
        · dsimp only; rw [w4, zu_f hk, w3, zu_f hk]; exact q1 k hk
        · dsimp only
          subst w4 w3
          rw [q2 i k (by omega) hk3, if_neg (by omega), q2 (m - 1 - i) k (by omega) hk3, if_neg (by omega)]
          by_cases z : k' = k
          · subst z
            by_cases z1 : j = m - 1 - i
            · subst z1
              rw [zu_eq ⟨rfl, rfl⟩, if_pos (by omega), show m - 1 - (m - 1 - i) = i by omega]
            · rw [zu_ne (by omega)]
              by_cases z2 : j = i
              · subst z2; rw [zu_eq ⟨rfl, rfl⟩, if_pos (by omega)]
              · rw [zu_ne (by omega), q2 j k' hj hk']
                by_cases z3 : j < i ∨ m - 1 - i < j
                · rw [if_pos (by omega), if_pos (by omega)]
                · rw [if_neg (by omega), if_neg (by omega)]
          · rw [zu_ne (by omega), zu_ne (by omega), q2 j k' hj hk']
            by_cases z3 : j < i ∨ m - 1 - i < j ∨ (k' < k ∧ (j = i ∨ j = m - 1 - i))
            · rw [if_pos z3, if_pos (by omega)]
            · rw [if_neg z3, if_neg (by omega)]
    · dsimp only
      rw [p2 j k hj hk]
      by_cases z : j < i ∨ m - 1 - i < j
      · rw [if_pos z, if_pos (by omega)]
      · rw [if_neg z, if_neg (by omega)]
  · have hi2 : i = m / 2 := by omega
    have hin : ¬ (∃ j, j < m ∧ ¬ (j < i ∨ m - 1 - i < j) ∧ ¬ j = m - 1 - j) := by rintro ⟨j, a, b, d⟩; omega
    refine brt ?_ ?_
    · rcases Nat.eq_zero_or_pos m with z | z
      · subst z; subst hi2; decide
      · rw [lit_1, nv_sub (by omega), nv_sub (by omega), nv_le (by omega) (by omega)]; omega
    rw [p1 7 (by decide), e1]
    have fin : ∀ j k, j < m → k < 3 → c1.1 8 (3 * j + k) = c.1 8 (3 * (m - 1 - j) + k) := by
      intro j k hj hk
      rw [p2 j k hj hk]
      by_cases z : j < i ∨ m - 1 - i < j
      · rw [if_pos z]
      · rw [if_neg z, show m - 1 - j = j by omega]
    unfold w_X9_about
    refine lp_cnt (m / 2) (fun i s => s.1 = nI i ∧ (∀ k, k ≠ 11 → k ≠ 12 → s.2.1 k = r.1 k) ∧ ∀ j, j < m → s.2.1 11 j = (if j < i ∨ m - 1 - i < j then r.1 11 (m - 1 - j) else r.1 11 j) ∧ s.2.1 12 j = (if j < i ∨ m - 1 - i < j then r.1 12 (m - 1 - j) else r.1 12 j)) ?_ _ ⟨rfl, fun _ _ _ => rfl, fun j hj => by rw [if_neg (by omega), if_neg (by omega)]; exact ⟨rfl, rfl⟩⟩
    intro x s hx hs again' hag'
    obtain ⟨u, r1⟩ := s
    obtain ⟨hu, q1, q2⟩ := hs
    dsimp only at hu q1 q2
    subst hu
    unfold w_X9_about_l2
    dsimp only
    have h13 : r1.1 0 13 = nI m := by rw [q1 0 (by decide) (by decide)]; exact e2
    rw [h13, lit_2, nv_div (by omega) (by omega)]
    refine brc (fun e => ?_) fun e => ?_
    · have := nv_end (by omega) (by omega) hx e
      refine ⟨rfl, T, ?_⟩
      apply SimT.job h
      case n_jb =>
        refine ⟨m, hm, by rw [p1 7 (by decide)]; exact e1, h13, fun j hj => ?_⟩
        rw [fin j 0 hj (by omega), fin j 1 hj (by omega), (q2 j hj).1, (q2 j hj).2]
        have := e3 (m - 1 - j) (by omega)
        by_cases z : j < x ∨ m - 1 - x < j
        · rw [if_pos z, if_pos z]; exact this
        · rw [if_neg z, if_neg z]; rw [show m - 1 - j = j by omega] at this ⊢; exact this
      all_goals first
        | exact p1 _ (by decide)
        | exact congrFun (p1 _ (by decide)) _
        | exact q1 _ (by decide) (by decide)
        | exact congrFun (q1 _ (by decide) (by decide)) _
    · have hlt := nv_nle (by omega) (by omega) e
      have ev : nI m - 1 - nI x = nI (m - 1 - x) := by rw [lit_1, nv_sub (by omega), nv_sub (by omega)]
      rw [ev, nv_tn (by omega), nv_tn (by omega), nv_1]
      refine ⟨nv_in (by omega) (by decide), nv_in (by omega) (by decide), nv_in (by omega) (by decide), nv_in (by omega) (by decide), fun r2 w2 => ?_⟩
      have g2 : r2.1 0 13 = nI m := by rw [w2, zu_f (by decide)]; exact h13
      rw [g2, ev, nv_tn (by omega)]
      refine ⟨nv_in (by omega) (by decide), nv_in (by omega) (by decide), fun r3 w3 => ?_⟩
      have g3 : r3.1 0 13 = nI m := by rw [w3, zu_f (by decide)]; exact g2
      rw [g3, ev, nv_tn (by omega)]
      refine ⟨nv_in (by omega) (by decide), fun r4 w4 => ?_⟩
      have g4 : r4.1 0 13 = nI m := by rw [w4, zu_f (by decide)]; exact g3
      rw [g4, ev, nv_tn (by omega)]
      refine ⟨nv_in (by omega) (by decide), fun r5 w5 => hag' hlt _ ⟨rfl, fun k a b => ?_, fun j hj => ?_⟩⟩
      · dsimp only; rw [w5, zu_f b, w4, zu_f a, w3, zu_f b, w2, zu_f a]; exact q1 k a b
      · dsimp only
        subst w5 w4 w3 w2
        obtain ⟨a1, a2⟩ := q2 x (by omega)
        obtain ⟨b1, b2⟩ := q2 (m - 1 - x) (by omega)
        rw [if_neg (by omega)] at a1 a2 b1 b2
        by_cases z1 : j = m - 1 - x
        · subst z1
          simp (disch := omega) only [zu_ne, zu_eq]
          rw [if_pos (by omega), if_pos (by omega), show m - 1 - (m - 1 - x) = x by omega]
          exact ⟨a1, a2⟩
        · by_cases z2 : j = x
          · subst z2
            simp (disch := omega) only [zu_ne, zu_eq]
            rw [if_pos (by omega), if_pos (by omega)]
            exact ⟨b1, b2⟩
          · simp (disch := omega) only [zu_ne]
            rw [(q2 j hj).1, (q2 j hj).2]
            by_cases z3 : j < x ∨ m - 1 - x < j
            · rw [if_pos z3, if_pos z3, if_pos (by omega), if_pos (by omega)]; exact ⟨rfl, rfl⟩
            · rw [if_neg z3, if_neg z3, if_neg (by omega), if_neg (by omega)]; exact ⟨rfl, rfl⟩
/-- the jobs as a list -/
def jR (L : List (Int32 × Int32)) (C : Nat → Int32) : Prop := ∀ i x, L[i]? = some x → C (3 * i + 0) = x.1 ∧ C (3 * i + 1) = x.2
theorem eq_strike {c r : zz_Hp} (h : Sim c r) (l1 : Int32) : w_X8_strike l1 c (fun a c' => w_X9_strike l1 r (fun b r' => a = b ∧ Sim c' r')) := by
  obtain ⟨T, h⟩ := h
  have hT := h.1; have hc : CT T c := h.2.1; have hr : RT T r := h.2.2.1; have hn := hT.1
  obtain ⟨m, hm, e1, e2, e3⟩ := h.2.2.2.2.2.1
  unfold w_X8_strike
  rcases ycase (yN T) (by omega) l1 with hl | ⟨y, hy, ey⟩
  · exact t7_hasf (yN T) hc.1 hl (br0 (t9_isYf (yN T) hr.1 hn hl (br0 ⟨rfl, T, h⟩)))
  refine t7_hast (yN T) y hc.1 hn hy ey (br1 ?_)
  rw [e1]
  obtain ⟨O, hO⟩ : ∃ O : List (Int32 × Int32), O = (List.range m).map fun i => (r.1 11 i, r.1 12 i) := ⟨_, rfl⟩
  have hOl : O.length = m := by rw [hO]; simp
  have hOg : ∀ i, i < m → O[i]? = some (r.1 11 i, r.1 12 i) := by
    intro i hi; rw [hO]; simp [hi]
  obtain ⟨P, hP⟩ : ∃ P : Int32 × Int32 → Bool, P = fun x => !decide (x.1 = l1) := ⟨_, rfl⟩
  refine lp_cnt m (fun i s => s.1 = nI m - 1 - nI i ∧ (∀ k, k ≠ 7 → k ≠ 8 → s.2.1 k = c.1 k) ∧ s.2.1 7 0 = nI ((O.take (m - i) ++ (O.drop (m - i)).filter P).length) ∧ jR (O.take (m - i) ++ (O.drop (m - i)).filter P) (s.2.1 8)) ?_ _ ⟨by dsimp only; exact (Int32.sub_zero _).symm, fun _ _ _ => rfl, ?_, ?_⟩
  · intro i s hi hs again hag
    obtain ⟨u, c1⟩ := s
    obtain ⟨hu, p1, p2, p3⟩ := hs
    dsimp only at hu p1 p2 p3
    subst hu
    unfold w_X8_strike_l31
    dsimp only
    by_cases hz : i = m
    · subst hz
      rw [Nat.sub_self, List.take_zero, List.drop_zero, List.nil_append] at p2 p3
      have hFl : (O.filter P).length ≤ i := hOl ▸ List.length_filter_le P O
      refine brt ?_ ?_
      · rw [show nI i - 1 - nI i = -1 by grind]; decide
      rw [p2]
      refine t9_isYt (yN T) y hr.1 hn hy ey (br1 ?_)
      refine lp_cnt i (fun j s => s.1 = nI ((O.take j).filter P).length ∧ s.2.1 = nI j ∧ (∀ k, k ≠ 11 → k ≠ 12 → s.2.2.1 k = r.1 k) ∧ (∀ k x, ((O.take j).filter P)[k]? = some x → s.2.2.1 11 k = x.1 ∧ s.2.2.1 12 k = x.2) ∧ ∀ k, j ≤ k → s.2.2.1 11 k = r.1 11 k ∧ s.2.2.1 12 k = r.1 12 k) ?_ _ ⟨rfl, rfl, fun _ _ _ => rfl, fun k x hx => by simp at hx, fun k _ => ⟨rfl, rfl⟩⟩
      intro j s hj hs again' hag'
      obtain ⟨u, v, r1⟩ := s
      obtain ⟨hu, hv, q1, q2, q3⟩ := hs
      dsimp only at hu hv q1 q2 q3
      subst hu hv
      unfold w_X9_strike_l14
      dsimp only
      have h13 : r1.1 0 13 = nI i := by rw [q1 0 (by decide) (by decide)]; exact e2
      rw [h13]
      refine brc (fun e => ?_) fun e => ?_
      · have := nv_end (by omega) (by omega) hj e
        subst this
        rw [← hOl, List.take_length] at q2 ⊢
        rw [hOl]
        intro r2 w2
        refine ⟨rfl, T, ?_⟩
        subst w2
        apply SimT.job h
        case n_jb =>
          refine ⟨(O.filter P).length, by omega, p2, zu_eq ⟨rfl, rfl⟩, fun k hk => ?_⟩
          obtain ⟨x, hx⟩ : ∃ x, (O.filter P)[k]? = some x := ⟨_, List.getElem?_eq_getElem hk⟩
          obtain ⟨a1, a2⟩ := p3 k x hx
          obtain ⟨b1, b2⟩ := q2 k x hx
          rw [zu_f (by decide), zu_f (by decide), a1, a2, b1, b2]
          have hmem : x ∈ O := (List.mem_filter.mp (List.mem_of_getElem? hx)).1
          obtain ⟨k', hk'⟩ := List.getElem?_of_mem hmem
          have hk2 : k' < j := by
            rcases Nat.lt_or_ge k' O.length with z | z
            · omega
            · rw [List.getElem?_eq_none z] at hk'; cases hk'
          rw [hOg k' hk2] at hk'
          have := Option.some.inj hk'
          subst this
          exact ⟨rfl, rfl, (e3 k' hk2).2.2⟩
        all_goals first
          | exact p1 _ (by decide) (by decide)
          | exact congrFun (p1 _ (by decide) (by decide)) _
          | (rw [zu_f (by decide)]; exact q1 _ (by decide) (by decide))
          | (rw [zu_ne (by decide)]; exact congrFun (q1 _ (by decide) (by decide)) _)
      · have hlt := nv_nle (by omega) (by omega) e
        have htk : O.take (j + 1) = O.take j ++ [(r.1 11 j, r.1 12 j)] := by
          rw [List.take_add_one, hOg j hlt]; rfl
        have hfl : ((O.take j).filter P).length ≤ j := by
          have := List.length_filter_le P (O.take j)
          rw [List.length_take] at this; omega
        rw [nv_tn (n := j) (by omega), nv_1, (q3 j (Nat.le_refl j)).1]
        refine ⟨nv_in (by omega) (by decide), brc (fun e => ?_) fun e => ?_⟩
        · have hPf : P (r.1 11 j, r.1 12 j) = false := by rw [hP]; simp [e]
          have ef : (O.take (j + 1)).filter P = (O.take j).filter P := by
            rw [htk, List.filter_append, List.filter_cons_of_neg (by rw [hPf]; decide)]; simp
          refine hag' hlt _ ⟨?_, rfl, q1, ?_, fun k hk => q3 k (by omega)⟩
          · dsimp only; rw [ef]
          · dsimp only; rw [ef]; exact q2
        · have hPt : P (r.1 11 j, r.1 12 j) = true := by rw [hP]; simp [e]
          have ef : (O.take (j + 1)).filter P = (O.take j).filter P ++ [(r.1 11 j, r.1 12 j)] := by
            rw [htk, List.filter_append, List.filter_cons_of_pos hPt]; rfl
          rw [nv_tn (by omega)]
          refine ⟨nv_in (by omega) (by decide), nv_in (by omega) (by decide), fun r2 w2 => ?_⟩
          have g12 : r2.1 12 j = r.1 12 j := by rw [w2, zu_f (by decide)]; exact (q3 j (Nat.le_refl j)).2
          rw [g12, nv_1]
          refine ⟨nv_in (by omega) (by decide), nv_in (by omega) (by decide), fun r3 w3 => hag' hlt _ ⟨?_, rfl, fun k a b => ?_, fun k x hx => ?_, fun k hk => ?_⟩⟩
          · dsimp only; rw [ef, List.length_append]; rfl
          · dsimp only; rw [w3, zu_f b, w2, zu_f a]; exact q1 k a b
          · dsimp only at hx ⊢
            rw [ef] at hx
            subst w3 w2
            rcases Nat.lt_or_ge k ((O.take j).filter P).length with z | z
            · rw [List.getElem?_append_left z] at hx
              simp (disch := omega) only [zu_ne]
              exact q2 k x hx
            · rw [List.getElem?_append_right z] at hx
              have hk0 : k - ((O.take j).filter P).length = 0 := by
                rcases Nat.eq_zero_or_pos (k - ((O.take j).filter P).length) with w | w
                · exact w
                · rw [List.getElem?_eq_none (by simp; omega)] at hx; cases hx
              rw [hk0] at hx
              have := Option.some.inj hx
              subst this
              have hk1 : k = ((O.take j).filter P).length := by omega
              subst hk1
              simp (disch := omega) only [zu_ne, zu_eq]
              exact ⟨trivial, trivial⟩
          · dsimp only
            subst w3 w2
            simp (disch := omega) only [zu_ne]
            exact q3 k (by omega)
    · have him : i < m := by omega
      have eu : nI m - 1 - nI i = nI (m - 1 - i) := by rw [lit_1, nv_sub (by omega), nv_sub (by omega)]
      have eu' : nI m - 1 - nI i + -1 = nI m - 1 - nI (i + 1) := by rw [← nv_1]; grind
      have hd : O.drop (m - (i + 1)) = (r.1 11 (m - 1 - i), r.1 12 (m - 1 - i)) :: O.drop (m - i) := by
        have hlt : m - 1 - i < O.length := by omega
        have := List.drop_eq_getElem_cons (l := O) (i := m - 1 - i) hlt
        rw [show m - (i + 1) = m - 1 - i by omega, this, show m - 1 - i + 1 = m - i by omega]
        congr 1
        have h2 := hOg (m - 1 - i) (by omega)
        rw [List.getElem?_eq_getElem hlt] at h2
        exact Option.some.inj h2
      have htk : O.take (m - i) = O.take (m - (i + 1)) ++ [(r.1 11 (m - 1 - i), r.1 12 (m - 1 - i))] := by
        rw [show m - i = m - 1 - i + 1 by omega, List.take_add_one, hOg (m - 1 - i) (by omega), show m - (i + 1) = m - 1 - i by omega]; rfl
      have hl1 : (O.take (m - (i + 1))).length = m - 1 - i := by rw [List.length_take]; omega
      have hll : (O.take (m - i) ++ (O.drop (m - i)).filter P).length ≤ m := by
        have := List.length_filter_le P (O.drop (m - i))
        rw [List.length_append, List.length_take]; rw [List.length_drop] at this; omega
      have hlg : m - 1 - i < (O.take (m - i) ++ (O.drop (m - i)).filter P).length := by
        rw [List.length_append, List.length_take]; omega
      rw [eu] at eu'
      rw [eu]
      refine brf (nv_lt0 (by omega)) (t1_at7' rfl rfl (by omega) (by omega : 0 < 3) ?_)
      have hx := (p3 (m - 1 - i) (r.1 11 (m - 1 - i), r.1 12 (m - 1 - i)) (by
        rw [htk, List.append_assoc, List.getElem?_append_right (by omega), hl1, Nat.sub_self]; rfl)).1
      rw [hx, eu']
      refine bnc (fun e => ?_) fun e => ?_
      · have hPt : P (r.1 11 (m - 1 - i), r.1 12 (m - 1 - i)) = true := by rw [hP]; simp only [Bool.not_eq_true', decide_eq_false_iff_not]; exact e
        have ef : O.take (m - (i + 1)) ++ (O.drop (m - (i + 1))).filter P = O.take (m - i) ++ (O.drop (m - i)).filter P := by
          rw [hd, List.filter_cons_of_pos hPt, htk, List.append_assoc]; rfl
        refine hag him _ ⟨rfl, p1, ?_, ?_⟩
        · dsimp only; rw [ef]; exact p2
        · dsimp only; rw [ef]; exact p3
      · have hPf : P (r.1 11 (m - 1 - i), r.1 12 (m - 1 - i)) = false := by rw [hP]; simp only [Bool.not_eq_false', decide_eq_true_eq]; exact e
        have ef : O.take (m - (i + 1)) ++ (O.drop (m - (i + 1))).filter P = (O.take (m - i) ++ (O.drop (m - i)).filter P).eraseIdx (m - 1 - i) := by
          rw [hd, List.filter_cons_of_neg (by rw [hPf]; decide), htk, List.append_assoc, List.eraseIdx_append_of_length_le (by omega), hl1, Nat.sub_self]; rfl
        refine t1_drop7 p2 (by omega) hlg rfl fun c2 f2 s2 d1 d2 => hag him _ ⟨rfl, fun k a b => (f2 k a b).trans (p1 k a b), ?_, ?_⟩
        · dsimp only; rw [ef, List.length_eraseIdx, if_pos hlg]; exact s2
        · dsimp only; rw [ef]
          intro k x hx
          rw [List.getElem?_eraseIdx] at hx
          by_cases z : k < m - 1 - i
          · rw [if_pos z] at hx
            rw [d1 _ (by omega), d1 _ (by omega)]; exact p3 k x hx
          · rw [if_neg z] at hx
            have hk : k + 1 < (O.take (m - i) ++ (O.drop (m - i)).filter P).length := by
              rcases Nat.lt_or_ge (k + 1) (O.take (m - i) ++ (O.drop (m - i)).filter P).length with w | w
              · exact w
              · rw [List.getElem?_eq_none w] at hx; cases hx
            rw [d2 _ (by omega) (by omega), d2 _ (by omega) (by omega)]; exact p3 (k + 1) x hx
  · dsimp only; rw [Nat.sub_zero, ← hOl, List.take_length, List.drop_length]; simp only [List.filter_nil, List.append_nil]; rw [hOl]; exact e1
  · dsimp only; rw [Nat.sub_zero, ← hOl, List.take_length, List.drop_length]; simp only [List.filter_nil, List.append_nil]
    intro i x hx
    have hi : i < m := by
      rcases Nat.lt_or_ge i O.length with z | z
      · omega
      · rw [List.getElem?_eq_none z] at hx; cases hx
    rw [hOg i hi] at hx
    have := Option.some.inj hx
    subst this
    exact ⟨(e3 i hi).1, (e3 i hi).2.1⟩
