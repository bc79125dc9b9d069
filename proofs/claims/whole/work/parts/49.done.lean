/-! read: the reference's isDone -/
def hD (r r' : zz_Hp) : Prop := (∀ k, 7 ≤ k → k ≤ 30 ∨ 39 < k → r'.1 k = r.1 k) ∧ ∀ j, j ≠ 0 → j ≠ 40 → r'.1 0 j = r.1 0 j
theorem t9_chk {T : Tb} (hT : okT T) {r : zz_Hp} (hr : RT T r) {k m : Nat} (hk : k < 27) (hm : m ≤ 4) (h41 : r.1 41 k = nI m) {b0 : Int32} (hb : b0 = 0 ∨ b0 = 1) {Q : Int32 → zz_Hp → Prop}
    (Y : b0 = 1 → (∀ i, i < m → cbp T (r.1 42 (5 * k + i))) → lp (fun s ag => w_X9_isDone_l272 ag Q (nI k) (nI (5 * k)) 1 s.1 s.2) (0, r))
    (N : ¬ (b0 = 1 ∧ ∀ i, i < m → cbp T (r.1 42 (5 * k + i))) → Q 0 r) : lp (fun s ag => w_X9_isDone_l202 ag Q (nI k) (nI (5 * k)) s.1 s.2.1 s.2.2) (b0, 0, r) := by
  have hn := hT.1
  refine lp_cnt m (fun i s => s.2.1 = nI i ∧ s.2.2 = r ∧ ((s.1 = 1 ∧ b0 = 1 ∧ ∀ j, j < i → cbp T (r.1 42 (5 * k + j))) ∨ (s.1 = 0 ∧ ¬ (b0 = 1 ∧ ∀ i, i < m → cbp T (r.1 42 (5 * k + i)))))) ?_ _ ⟨rfl, rfl, ?_⟩
  · intro i s hi hs again hag
    obtain ⟨u1, u2, r1⟩ := s
    obtain ⟨e2, e3, e4⟩ := hs
    dsimp only at e2 e3 e4
    subst u2
    subst r1
    unfold w_X9_isDone_l202
    dsimp only
    have fi : nI (5 * k) + nI i = nI (5 * k + i) := nv_add _ _
    rw [nv_tn (show k < 2147483648 by omega), h41, fi, nv_tn (show 5 * k + i < 2147483648 by omega), nv_1]
    refine ⟨nv_in hk (by decide), brc (fun e => ?_) fun e => ?_⟩
    · have := nv_end (by omega) (by omega) hi e
      rcases e4 with ⟨w, a1, a2⟩ | ⟨w, a1⟩
      · subst w; exact brf (by decide) (Y a1 fun j hj => a2 j (by omega))
      · subst w; exact brt rfl ⟨Or.inl rfl, N a1⟩
    · have hlt := nv_nle (by omega) (by omega) e
      rcases e4 with ⟨w, a1, a2⟩ | ⟨w, a1⟩
      · subst w
        have hv : vp_in (nI (5 * k + i)) 135 := nv_in (by omega) (by decide)
        have no : ¬ cbp T (r.1 42 (5 * k + i)) → again (0, nI (i + 1), r) := fun z => hag hlt _ ⟨rfl, rfl, Or.inr ⟨rfl, fun w => z (w.2 i hlt)⟩⟩
        refine brf (by decide) ⟨hv, ?_⟩
        rcases ycase (yN T) (by omega) (r.1 42 (5 * k + i)) with hl | ⟨y, hy, ey⟩
        · refine t9_isYf (yN T) hr.1 hn hl (bq0 (no ?_))
          rintro ⟨y, hy, _, ey⟩
          rw [ey] at hl
          exact nv_out (by omega) hy hl
        · refine t9_isYt (yN T) y hr.1 hn hy ey (bq1 ⟨hv, ?_⟩)
          have hd := hT.D3 hy
          refine t9_depth hT hr 5 y ey hy (by omega) ?_
          rw [lit_3, nv_le (by omega) (by omega)]
          refine brc (fun z => no ?_) fun z => hag hlt _ ⟨rfl, rfl, Or.inl ⟨rfl, a1, fun j hj => ?_⟩⟩
          · rintro ⟨y', hy', hd', ey'⟩
            have := nv_inj (by omega) (by omega) (ey.symm.trans ey')
            subst this; omega
          · by_cases zz : j = i
            · rw [zz]; exact ⟨y, hy, by omega, ey⟩
            · exact a2 j (by omega)
      · subst w
        exact brt rfl (hag hlt _ ⟨rfl, rfl, Or.inr ⟨rfl, a1⟩⟩)
  · rcases hb with hb | hb
    · exact Or.inr ⟨hb, fun w => absurd (hb.symm.trans w.1) (by decide)⟩
    · exact Or.inl ⟨hb, hb, fun j hj => by omega⟩
theorem t9_doP {T : Tb} (hT : okT T) {r : zz_Hp} (hr : RT T r) {k m : Nat} (hk : k < 27) (hm : m ≤ 4) (h41 : r.1 41 k = nI m) {A : Nat → Int32} {t : Int32} (ht : r.1 42 (5 * k + 4) = t) (hA : ∀ i, i < m → r.1 42 (5 * k + i) = nI (pQ A i)) (hn : yN T < 16) {Q : Int32 → zz_Hp → Prop}
    (H : ∀ r', hD r r' → RT (plT T A m t) r' → Q 1 r') : lp (fun s ag => w_X9_isDone_l272 ag Q (nI k) (nI (5 * k)) 1 s.1 s.2) (0, r) := by
  refine lp_cnt m (fun i s => s.1 = nI i ∧ (∀ k, k ≠ 2 → s.2.1 k = r.1 k) ∧ (∀ k, k < 4 * yN T → s.2.1 2 k = r.1 2 k) ∧ ∀ j, j < i → s.2.1 2 (4 * yN T + j) = nI (pQ A j)) ?_ _ ⟨rfl, fun _ _ => rfl, fun _ _ => rfl, fun j hj => by omega⟩
  intro i s hi hs again hag
  obtain ⟨u, r1⟩ := s
  obtain ⟨hu, g1, g2, g3⟩ := hs
  dsimp only at hu g1 g2 g3
  subst u
  unfold w_X9_isDone_l272
  dsimp only
  have fi : nI (5 * k) + nI i = nI (5 * k + i) := nv_add _ _
  have f4 : nI (5 * k) + 4 = nI (5 * k + 4) := nv_add _ 4
  have e4 : 4 * nI (yN T) + nI i = nI (4 * yN T + i) := by rw [lit_4, nv_mul, nv_add]
  rw [nv_tn (show k < 2147483648 by omega), g1 41 (by decide), g1 42 (by decide), g1 0 (by decide), h41, hr.1, fi, f4, e4, nv_tn (show 5 * k + i < 2147483648 by omega), nv_tn (show 5 * k + 4 < 2147483648 by omega), nv_tn (show 4 * yN T + i < 2147483648 by omega), ht, nv_1]
  refine ⟨nv_in hk (by decide), brc (fun e => ?_) fun e => ?_⟩
  · have := nv_end (by omega) (by omega) hi e
    refine ⟨nv_in hk (by decide), nv_in (by omega) (by decide), ?_⟩
    exact t9_plied (A := A) hT hr hn rfl g1 g2 (fun j hj => g3 j (by omega)) fun r2 p1 p2 p3 => ⟨Or.inr rfl, H r2 ⟨fun k a b => p1 k a, fun j a b => p2 j a⟩ p3⟩
  · have hlt := nv_nle (by omega) (by omega) e
    rw [hA i hlt]
    refine ⟨nv_in (by omega) (by decide), nv_in (by omega) (by decide), fun r2 q2 => hag hlt _ ⟨rfl, fun k hk => ?_, fun k hk => ?_, fun j hj => ?_⟩⟩
    · dsimp only; rw [q2, zu_f hk]; exact g1 k hk
    · dsimp only; rw [q2]; simp (disch := omega) only [zu_ne]; exact g2 k hk
    · dsimp only; rw [q2]
      by_cases z : j = i
      · subst z
        simp (disch := omega) only [zu_eq]
      · simp (disch := omega) only [zu_ne]; exact g3 j (by omega)
theorem t9_isDone1 {T T' : Tb} (hT : okT T) {r : zz_Hp} (hr : RT T r) {k : Nat} (hk : k < 27) {kd : Int32} {L : List Int32} (av : AV kd k L r) (hs : acS T kd L T') {Q : Int32 → zz_Hp → Prop} (H : ∀ r', hD r r' → RT T' r' → Q 1 r') : w_X9_isDone (nI k) r Q := by
  have hn := hT.1
  obtain ⟨h40, h42, hp⟩ := av
  have i0 : 5 * nI k = nI (5 * k) := by rw [show (5 : Int32) = nI 5 from rfl, nv_mul]
  have i1 : nI (5 * k) + 1 = nI (5 * k + 1) := nv_1 _
  have i2 : nI (5 * k) + 2 = nI (5 * k + 2) := nv_add _ 2
  have i4 : nI (5 * k) + 4 = nI (5 * k + 4) := nv_add _ 4
  have k0 : vp_in (nI (5 * k)) 135 := nv_in (by omega) (by decide)
  have k1 : vp_in (nI (5 * k + 1)) 135 := nv_in (by omega) (by decide)
  have k2 : vp_in (nI (5 * k + 2)) 135 := nv_in (by omega) (by decide)
  have k4 : vp_in (nI (5 * k + 4)) 135 := nv_in (by omega) (by decide)
  have kk : vp_in (nI k) 27 := nv_in hk (by decide)
  unfold w_X9_isDone
  rw [i0, i1, i2, i4, nv_tn (show k < 2147483648 by omega), nv_tn (show 5 * k < 2147483648 by omega), nv_tn (show 5 * k + 1 < 2147483648 by omega), nv_tn (show 5 * k + 2 < 2147483648 by omega), nv_tn (show 5 * k + 4 < 2147483648 by omega), h40]
  rcases hs with ⟨e, a, b, t, rfl, hok, h16, rfl⟩ | ⟨e, y, b, rfl, hy, hb, rfl⟩ | ⟨e, y, n, rfl, hy, hb, hn9, h0, hlk, rfl⟩ | ⟨e, P, t, A, rfl, h24, hA, ht, hc, h16, rfl⟩
  · have g0 : r.1 42 (5 * k) = a := h42 (by rw [e]; decide) 0 a (by omega) rfl
    have g1 : r.1 42 (5 * k + 1) = b := h42 (by rw [e]; decide) 1 b (by omega) rfl
    have g2 : r.1 42 (5 * k + 2) = t := h42 (by rw [e]; decide) 2 t (by omega) rfl
    rw [g0, g1, g2, e]
    refine ⟨k0, k1, kk, bnf rfl ⟨k2, t9_thread hT hr (fun w => absurd hok w) (fun _ w => by omega) fun _ _ r1 f1 f2 hrt => brf (nv_lt0 (by omega)) (H r1 ⟨fun k a _ => f1 k a, fun j a _ => f2 j a⟩ hrt)⟩⟩
  · have g0 : r.1 42 (5 * k) = nI y := h42 (by rw [e]; decide) 0 (nI y) (by omega) rfl
    have g1 : r.1 42 (5 * k + 1) = b := h42 (by rw [e]; decide) 1 b (by omega) rfl
    rw [g0, g1, e]
    refine ⟨k0, k1, kk, bnt (by decide) ⟨kk, bnf rfl (t9_isYt (yN T) y hr.1 hn hy rfl (bq1 (t9_int hb (bq1 ?_))))⟩⟩
    unfold w_X9_isDone_j91
    rw [nv_tn (show y < 2147483648 by omega)]
    refine brf (by decide) ⟨nv_in (by omega) (by decide), fun r1 q1 => ⟨Or.inr rfl, H r1 ⟨fun k a _ => by rw [q1, zu_f (by omega)], fun j _ _ => by rw [q1, zu_f (by decide)]⟩ ?_⟩⟩
    refine RT_set (k := 3) (by omega) hy hr (by rw [q1, zu_f (by decide)]) (by rw [q1, zu_f (by decide)]) (by rw [q1, zu_f (by decide)]) (fun z => ?_) (fun z => ?_) (fun z => ?_) fun z => ?_
    · rw [q1, zu_f (by decide), if_neg (by omega)]
    · rw [q1, zu_f (by decide), if_neg (by omega)]
    · rw [q1, zu_f (by decide), if_neg (by omega)]
    · rw [q1]
      by_cases w : z = y
      · rw [zu_eq ⟨rfl, w⟩, if_pos ⟨rfl, w⟩]
      · rw [zu_ne (Or.inr w), if_neg fun u => w u.2]
  · have g0 : r.1 42 (5 * k) = nI y := h42 (by rw [e]; decide) 0 (nI y) (by omega) rfl
    have g1 : r.1 42 (5 * k + 1) = nI n := h42 (by rw [e]; decide) 1 (nI n) (by omega) rfl
    have hP := hT.P4 hy
    rw [g0, g1, e, nv_tn (show y < 2147483648 by omega)]
    refine ⟨k0, k1, kk, bnt (by decide) ⟨kk, bnt (by decide) ⟨kk, bnf rfl (t9_isYt (yN T) y hr.1 hn hy rfl (bq1 (t9_int hb (bq1 ⟨nv_in (by omega) (by decide), ?_⟩))))⟩⟩⟩
    rw [(hr.2 y hy).1.1, lit_0, nv_le (by omega) (by omega)]
    exact brf (by omega) (t9_isMade hT hr rfl hy (fun r1 hq w => absurd w hlk) fun r1 f1 s1 _ hrt => bq1 (H r1 ⟨fun k a b => f1 k (by omega) b (by omega), fun j _ a => s1 j a⟩ hrt))
  · obtain ⟨P', t', eL, b1, b2, b3, b4, b5⟩ := hp e
    obtain ⟨q1, q2⟩ := List.append_inj' eL rfl
    cases q2
    subst q1
    have hAr : ∀ i, i < P.length → r.1 42 (5 * k + i) = A i := fun i hi => by
      have w := List.getElem?_eq_getElem hi
      rw [hA i _ w, b4 i _ w]
    rw [b5, e]
    refine ⟨k0, k1, kk, bnt (by decide) ⟨kk, bnt (by decide) ⟨kk, bnt (by decide) ⟨k4, t9_int ht (bq1 (brf ?_ (t9_chk hT hr hk h24.2 b3 (Or.inr rfl) (fun _ _ => t9_doP hT hr hk h24.2 b3 b5 (fun i hi => ?_) h16 H) fun w => absurd ⟨rfl, fun i hi => ?_⟩ w)))⟩⟩⟩⟩
    · rw [hr.1, lit_16, nv_le (by omega) (by omega)]; omega
    · rw [hAr i hi]; exact (cbp_q hT (hc i hi)).2.2
    · rw [hAr i hi]; exact hc i hi
theorem t9_isDone0 {T : Tb} (hT : okT T) {r : zz_Hp} (hr : RT T r) {k : Nat} (hk : k < 27) {kd : Int32} {L : List Int32} (av : AV kd k L r) (hs : acN T kd L) {Q : Int32 → zz_Hp → Prop} (H : ∀ r', sQ r r' → Q 0 r') : w_X9_isDone (nI k) r Q := by
  have hn := hT.1
  obtain ⟨h40, h42, hp⟩ := av
  have i0 : 5 * nI k = nI (5 * k) := by rw [show (5 : Int32) = nI 5 from rfl, nv_mul]
  have i1 : nI (5 * k) + 1 = nI (5 * k + 1) := nv_1 _
  have i2 : nI (5 * k) + 2 = nI (5 * k + 2) := nv_add _ 2
  have i4 : nI (5 * k) + 4 = nI (5 * k + 4) := nv_add _ 4
  have k0 : vp_in (nI (5 * k)) 135 := nv_in (by omega) (by decide)
  have k1 : vp_in (nI (5 * k + 1)) 135 := nv_in (by omega) (by decide)
  have k2 : vp_in (nI (5 * k + 2)) 135 := nv_in (by omega) (by decide)
  have k4 : vp_in (nI (5 * k + 4)) 135 := nv_in (by omega) (by decide)
  have kk : vp_in (nI k) 27 := nv_in hk (by decide)
  unfold w_X9_isDone
  rw [i0, i1, i2, i4, nv_tn (show k < 2147483648 by omega), nv_tn (show 5 * k < 2147483648 by omega), nv_tn (show 5 * k + 1 < 2147483648 by omega), nv_tn (show 5 * k + 2 < 2147483648 by omega), nv_tn (show 5 * k + 4 < 2147483648 by omega), h40]
  have HR := H r sQ.rf
  rcases hs with ⟨e, a, b, t, rfl, hw⟩ | ⟨e, a, b, rfl, hw⟩ | ⟨e, a, b, rfl, hw⟩ | ⟨e, P, t, A, rfl, h24, hA, hw⟩
  · have g0 : r.1 42 (5 * k) = a := h42 (by rw [e]; decide) 0 a (by omega) rfl
    have g1 : r.1 42 (5 * k + 1) = b := h42 (by rw [e]; decide) 1 b (by omega) rfl
    have g2 : r.1 42 (5 * k + 2) = t := h42 (by rw [e]; decide) 2 t (by omega) rfl
    rw [g0, g1, g2, e]
    refine ⟨k0, k1, kk, bnf rfl ⟨k2, t9_thread hT hr (fun _ => brt (by decide) HR) (fun _ _ => brt (by decide) HR) fun w w2 => ?_⟩⟩
    rcases hw with z | z
    · exact absurd w z
    · omega
  · have g0 : r.1 42 (5 * k) = a := h42 (by rw [e]; decide) 0 a (by omega) rfl
    have g1 : r.1 42 (5 * k + 1) = b := h42 (by rw [e]; decide) 1 b (by omega) rfl
    rw [g0, g1, e]
    refine ⟨k0, k1, kk, bnt (by decide) ⟨kk, bnf rfl ?_⟩⟩
    have J : ∀ a b, w_X9_isDone_j90 Q a b r := fun a b => brt rfl ⟨Or.inl rfl, HR⟩
    rcases ycase (yN T) (by omega) a with ha | ⟨y, hy, rfl⟩
    · exact t9_isYf (yN T) hr.1 hn ha (bq0 (J _ _))
    · exact t9_isYt (yN T) y hr.1 hn hy rfl (bq1 (t9_inf (hw.resolve_left (nv_out (by omega) hy)) (bq0 (J _ _))))
  · have g0 : r.1 42 (5 * k) = a := h42 (by rw [e]; decide) 0 a (by omega) rfl
    have g1 : r.1 42 (5 * k + 1) = b := h42 (by rw [e]; decide) 1 b (by omega) rfl
    rw [g0, g1, e]
    refine ⟨k0, k1, kk, bnt (by decide) ⟨kk, bnt (by decide) ⟨kk, bnf rfl ?_⟩⟩⟩
    rcases ycase (yN T) (by omega) a with ha | ⟨y, hy, rfl⟩
    · exact t9_isYf (yN T) hr.1 hn ha (bq0 HR)
    · refine t9_isYt (yN T) y hr.1 hn hy rfl (bq1 ?_)
      by_cases hb : 1 ≤ b ∧ b ≤ 9999
      · refine t9_int hb (bq1 ⟨nv_in (by omega) (by decide), ?_⟩)
        have hP := hT.P4 hy
        rw [nv_tn (show y < 2147483648 by omega), (hr.2 y hy).1.1, lit_0, nv_le (by omega) (by omega)]
        refine brc (fun _ => HR) fun z => t9_isMade hT hr rfl hy (fun r1 hq _ => bq0 (H r1 hq)) fun r1 _ _ hlk _ => ?_
        rcases hw with w | w | ⟨y', hy', ey, w⟩
        · exact absurd w (nv_out (by omega) hy)
        · exact absurd hb w
        · have := nv_inj (by omega) (by omega) ey
          subst this
          rcases w with w | w
          · omega
          · exact absurd w hlk
      · exact t9_inf hb (bq0 HR)
  · obtain ⟨P', t', eL, b1, b2, b3, b4, b5⟩ := hp e
    obtain ⟨q1, q2⟩ := List.append_inj' eL rfl
    cases q2
    subst q1
    have hAr : ∀ i, i < P.length → r.1 42 (5 * k + i) = A i := fun i hi => by
      have w := List.getElem?_eq_getElem hi
      rw [hA i _ w, b4 i _ w]
    rw [b5, e]
    refine ⟨k0, k1, kk, bnt (by decide) ⟨kk, bnt (by decide) ⟨kk, bnt (by decide) ⟨k4, ?_⟩⟩⟩⟩
    have Z : lp (fun s ag => w_X9_isDone_l202 ag Q (nI k) (nI (5 * k)) s.1 s.2.1 s.2.2) (0, 0, r) := t9_chk hT hr hk h24.2 b3 (Or.inl rfl) (fun w => absurd w (by decide)) fun _ => HR
    by_cases ht : okV 0 t
    · refine t9_int ht (bq1 ?_)
      rw [hr.1, lit_16, nv_le (by omega) (by omega)]
      refine brc (fun _ => Z) fun e16 => t9_chk hT hr hk h24.2 b3 (Or.inr rfl) (fun _ hall => ?_) fun _ => HR
      rcases hw with z | z | z
      · exact absurd ht z
      · exact absurd (fun i hi => by rw [← hAr i hi]; exact hall i hi) z
      · omega
    · exact t9_inf ht (bq0 Z)
