/-! read: the reference's acts, and the whole of it -/
theorem t9_doActs {T : Tb} (hT : okT T) {r : zz_Hp} (hr : RT T r) {A D : List Act} {T' : Tb} {a : Int32} (ho : ocm T A D T' a) (hA : A.length ≤ 27) (h54 : r.1 0 54 = nI A.length) (hav : ∀ i kd L, A[i]? = some (kd, L) → AV kd i L r) {Q : Int32 → zz_Hp → Prop}
    (H : ∀ r', RT T' r' → (∀ k, 7 ≤ k → k ≤ 30 → r'.1 k = r.1 k) → (∀ j, j ≠ 0 → j ≠ 16 → j ≠ 40 → r'.1 0 j = r.1 0 j) → (D.length = 0 → r'.1 0 16 = r.1 0 16) → (0 < D.length → r'.1 0 16 = 0) → Q a r') : lp (fun s ag => w_X9_read_l87 ag Q s.1 s.2) (0, r) := by
  obtain ⟨hrn, ho⟩ := ho
  have hDA : D.length ≤ A.length ∧ ∀ i, i < D.length → A[i]? = D[i]? := by
    rcases ho with ⟨e, _⟩ | ⟨kd, L, R, e, _⟩
    · subst e; exact ⟨Nat.le_refl _, fun _ _ => rfl⟩
    · subst e
      refine ⟨by rw [List.length_append]; omega, fun i hi => ?_⟩
      rw [List.getElem?_append_left hi]
  refine lp_cnt D.length (fun i s => s.1 = nI i ∧ ∃ T1, rnS T1 (D.drop i) T' ∧ okT T1 ∧ RT T1 s.2 ∧ ((∀ k, 7 ≤ k → k ≤ 30 ∨ 39 < k → s.2.1 k = r.1 k) ∧ ∀ j, j ≠ 0 → j ≠ 16 → j ≠ 40 → s.2.1 0 j = r.1 0 j) ∧ (i = 0 → s.2.1 0 16 = r.1 0 16) ∧ (0 < i → s.2.1 0 16 = 0)) ?_ _ ⟨rfl, T, hrn, hT, hr, ⟨fun _ _ _ => rfl, fun _ _ _ _ => rfl⟩, fun _ => rfl, fun w => by omega⟩
  intro i s hi hs again hag
  obtain ⟨u, r1⟩ := s
  obtain ⟨hu, T1, hE, hT1, hr1, ⟨f1, f2⟩, s0, s1⟩ := hs
  dsimp only at hu hr1 f1 f2 s0 s1
  subst u
  unfold w_X9_read_l87
  dsimp only
  have av : ∀ kd L, A[i]? = some (kd, L) → AV kd i L r1 := fun kd L w => by
    have := hav i kd L w
    unfold AV at this ⊢
    rw [f1 40 (by omega) (by omega), f1 41 (by omega) (by omega), f1 42 (by omega) (by omega)]; exact this
  rw [f2 54 (by decide) (by decide) (by decide), h54, nv_le (by omega) (by omega)]
  rcases Nat.lt_or_ge i D.length with hlt | hge
  · rw [List.drop_eq_getElem_cons hlt] at hE
    obtain ⟨T2, hs, hE⟩ := hE
    have ei : A[i]? = some (D[i].1, D[i].2) := by rw [hDA.2 i hlt]; exact List.getElem?_eq_getElem hlt
    refine brf (by omega) (t9_isDone1 hT1 hr1 (by omega) (av _ _ ei) hs fun r2 h2 hrt => br1 fun r3 q3 => ?_)
    rw [nv_1]
    refine hag hlt _ ⟨rfl, T2, hE, hs.ok hT1, ?_, ⟨fun k a b => ?_, fun j a b d => ?_⟩, fun w => by omega, fun _ => ?_⟩
    · dsimp only
      unfold RT; rw [q3, zu_ne (by decide), zu_f (by decide), zu_f (by decide), zu_f (by decide), zu_f (by decide), zu_f (by decide), zu_f (by decide)]; exact hrt
    · dsimp only; rw [q3, zu_f (by omega), h2.1 k a b]; exact f1 k a b
    · dsimp only; rw [q3, zu_ne (Or.inr b), h2.2 j a d]; exact f2 j a b d
    · dsimp only; rw [q3, zu_eq ⟨rfl, rfl⟩]
  · have e : i = D.length := by omega
    rw [List.drop_eq_nil_of_le hge] at hE
    have hE : T' = T1 := hE
    subst hE
    rcases ho with ⟨eA, ea⟩ | ⟨kd, L, R, eA, hN, ea⟩
    · refine brt (by rw [eA]; omega) ?_
      have := H r1 hr1 (fun k a b => f1 k a (Or.inl b)) f2 (fun w => s0 (by omega)) fun w => s1 (by omega)
      rw [ea] at this
      rw [eA]; exact this
    · have ei : A[i]? = some (kd, L) := by rw [eA, e, List.getElem?_append_right (Nat.le_refl _), Nat.sub_self]; rfl
      have hl : D.length < A.length := by rw [eA, List.length_append, List.length_cons]; omega
      refine brf (by omega) (t9_isDone0 hT1 hr1 (by omega) (av _ _ ei) hN fun r2 hq => br0 ?_)
      have := H r2 (RT_sQ hq hr1) (fun k a b => (hq.1 k (by omega) (Or.inl b)).trans (f1 k a (Or.inl b))) (fun j a b d => (hq.2 j d).trans (f2 j a b d)) (fun w => (hq.2 16 (by decide)).trans (s0 (by omega))) fun w => (hq.2 16 (by decide)).trans (s1 (by omega))
      rw [ea] at this
      rw [e]; exact this
theorem bnF_g {T T' : Tb} (h : gT T T') {a b : Int32} {A B : Nat → Int32} (k : bnF T a A b B) : bnF T' a A b B := by
  obtain ⟨m, h1, h2, h3, h4⟩ := k
  refine ⟨m, h1, h2, h3, fun i hi => ?_⟩
  obtain ⟨y, k1, k2, k3⟩ := h4 i hi
  exact ⟨y, Nat.lt_of_lt_of_le k1 h.1, by rw [(h.2 y k1).2]; exact k2, k3⟩
theorem lyF_g {T T' : Tb} (h : gT T T') {a b : Int32} {A B C D : Nat → Int32} (k : lyF (yN T) a A b B C D) : lyF (yN T') a A b B C D := by
  obtain ⟨m, h1, h2, h3, h4⟩ := k
  refine ⟨m, h1, h2, h3, fun i hi => ?_⟩
  obtain ⟨k1, k2, k3, ⟨y, k4, k5⟩, k6⟩ := h4 i hi
  exact ⟨k1, k2, k3, ⟨y, Nat.lt_of_lt_of_le k4 h.1, k5⟩, k6⟩
theorem jbF_g {T T' : Tb} (h : gT T T') {a b : Int32} {A B C : Nat → Int32} (k : jbF T a A b B C) : jbF T' a A b B C := by
  obtain ⟨m, h1, h2, h3, h4⟩ := k
  refine ⟨m, h1, h2, h3, fun i hi => ?_⟩
  obtain ⟨k1, k2, ⟨y, k4, k5, k6⟩, k7⟩ := h4 i hi
  exact ⟨k1, k2, ⟨y, Nat.lt_of_lt_of_le k4 h.1, by rw [(h.2 y k4).1]; exact k5, k6⟩, k7⟩
theorem spF_g {T T' : Tb} (h : gT T T') {a b : Int32} {A B C D : Nat → Int32} (k : spF T a A b B C D) : spF T' a A b B C D := by
  obtain ⟨m, h1, h2, h3, h4⟩ := k
  refine ⟨m, h1, h2, h3, fun i hi => ?_⟩
  obtain ⟨k1, k2, k3, k, y, k4, k5, k6, k7, k8, k9⟩ := h4 i hi
  exact ⟨k1, k2, k3, k, y, k4, Nat.lt_of_lt_of_le k5 h.1, k6, k7, k8, fun z => by rw [(h.2 y k5).1]; exact k9 z⟩
theorem SimT.rd {T T' : Tb} {c c' r r' : zz_Hp} (h : SimT T c r) (hok : okT T') (hg : gT T T') (hct : CT T' c') (hrt : RT T' r') (hcc : ∀ k, k < 27 → k ≠ 2 → k ≠ 3 → k ≠ 4 → k ≠ 18 → k ≠ 24 → k ≠ 25 → c'.1 k = c.1 k) (hrr : ∀ k, 7 ≤ k → k ≤ 30 → r'.1 k = r.1 k) (hrs : ∀ j, j < 40 → j ≠ 0 → j ≠ 16 → j ≠ 20 → r'.1 0 j = r.1 0 j) (h24 : c'.1 24 0 = 0) (h20 : r'.1 0 20 = 0) (sp : (c'.1 18 = c.1 18 ∧ r'.1 0 16 = r.1 0 16) ∨ (c'.1 18 0 = 0 ∧ r'.1 0 16 = 0)) : SimT T' c' r' := by
  obtain ⟨a1, a2, a3, a4, a5, a6, a7, a8, a9, a10, a11⟩ := h
  have c_ : ∀ k, (k < 27 ∧ k ≠ 2 ∧ k ≠ 3 ∧ k ≠ 4 ∧ k ≠ 18 ∧ k ≠ 24 ∧ k ≠ 25) → c'.1 k = c.1 k := fun k w => hcc k w.1 w.2.1 w.2.2.1 w.2.2.2.1 w.2.2.2.2.1 w.2.2.2.2.2.1 w.2.2.2.2.2.2
  have r_ : ∀ k, (7 ≤ k ∧ k ≤ 30) → r'.1 k = r.1 k := fun k w => hrr k w.1 w.2
  have s_ : ∀ j, (j < 40 ∧ j ≠ 0 ∧ j ≠ 16 ∧ j ≠ 20) → r'.1 0 j = r.1 0 j := fun j w => hrs j w.1 w.2.1 w.2.2.1 w.2.2.2
  refine ⟨hok, hct, hrt, ?_, ?_, ?_, ?_, ?_, ?_, ?_, ?_⟩
  · rw [c_ 0 (by decide), c_ 17 (by decide), s_ 7 (by decide), r_ 7 (by decide)]; exact bnF_g hg a4
  · rw [c_ 5 (by decide), c_ 6 (by decide), s_ 9 (by decide), r_ 8 (by decide), r_ 9 (by decide), r_ 10 (by decide)]; exact lyF_g hg a5
  · rw [c_ 7 (by decide), c_ 8 (by decide), s_ 13 (by decide), r_ 11 (by decide), r_ 12 (by decide)]; exact jbF_g hg a6
  · rcases sp with ⟨w1, w2⟩ | ⟨w1, w2⟩
    · rw [w1, w2, c_ 19 (by decide), r_ 13 (by decide), r_ 14 (by decide), r_ 15 (by decide)]; exact spF_g hg a7
    · rw [w1, w2]; exact spF_0
  · rw [h24, h20]; exact ⟨0, by omega, rfl, rfl, fun i hi => by omega⟩
  · rw [c_ 22 (by decide), c_ 23 (by decide), r_ 17 (by decide), r_ 18 (by decide)]; exact a9
  · rw [c_ 20 (by decide), r_ 19 (by decide)]; exact a10
  · rw [c_ 0 (by decide), c_ 10 (by decide), c_ 11 (by decide), c_ 12 (by decide), c_ 13 (by decide), c_ 14 (by decide), c_ 15 (by decide), c_ 16 (by decide), s_ 25 (by decide), s_ 26 (by decide), s_ 33 (by decide), s_ 37 (by decide), r_ 20 (by decide), r_ 21 (by decide), r_ 22 (by decide), r_ 23 (by decide), r_ 24 (by decide), r_ 25 (by decide), r_ 26 (by decide), r_ 27 (by decide), r_ 28 (by decide), r_ 29 (by decide), r_ 30 (by decide)]; exact a11
theorem eq_read {c r : zz_Hp} (h : Sim c r) : w_X8_read c (fun a c' => w_X9_read r (fun b r' => a = b ∧ Sim c' r')) := by
  obtain ⟨T, h⟩ := h
  have hT := h.1; have hc : CT T c := h.2.1; have hr : RT T r := h.2.2.1
  obtain ⟨n, hn, e1, e2, e3⟩ := h.2.2.2.2.2.2.2.1
  have RR : ∀ Q : Int32 → zz_Hp → Prop, (∀ r5, RD (r.1 16) n 0 0 r5 → RA [] r5 r5 → (∀ k, k ≠ 0 → r5.1 k = r.1 k) → (∀ j, j < 40 → j ≠ 20 → r5.1 0 j = r.1 0 j) → r5.1 0 20 = 0 → w_X9_readAct r5 (fun h6 => lp (fun s ag => w_X9_read_l32 ag Q s) h6)) → w_X9_read r Q := by
    intro Q HH r1 k1 r2 k2 r3 k3 r4 k4 r5 k5
    have g1 : r1.1 0 20 = nI n := by rw [k1, zu_ne (by decide)]; exact e2
    rw [g1] at k2
    subst k5 k4 k3 k2 k1
    refine HH _ ⟨?_, ?_, ?_, fun i hi => ?_⟩ ⟨fun _ _ _ _ _ => rfl, fun _ _ _ _ => rfl, ?_, fun i kd L w => by simp at w⟩ (fun k hk => ?_) (fun j hj hj2 => ?_) ?_
    · simp (disch := omega) only [zu_ne, zu_eq]
    · simp (disch := omega) only [zu_ne, zu_eq]; rfl
    · simp (disch := omega) only [zu_ne, zu_eq]
    · rw [zu_f (by decide), zu_f (by decide), zu_f (by decide), zu_f (by decide), zu_f (by decide)]
    · simp (disch := omega) only [zu_eq]; rfl
    · rw [zu_f hk, zu_f hk, zu_f hk, zu_f hk, zu_f hk]
    · simp (disch := omega) only [zu_ne]
    · simp (disch := omega) only [zu_ne, zu_eq]
  unfold w_X8_read
  refine t5_fault (x := r.1 16) hn e1 (fun i hi => (e3 i hi).1) (fun A c1 hW f1 g0 => brt rfl ?_) fun e c1 hW he f1 g0 => brf ?_ fun c2 q2 => ?_
  · have hc1 : CT T c1 := by unfold CT; rw [f1 2 (by decide) (by decide), f1 3 (by decide) (by decide), f1 4 (by decide) (by decide)]; exact hc
    refine t8_doActs hT hc1 hn g0 (fun i hi => by rw [f1 26 (by decide) (by decide)]; exact (e3 i hi).1) hW fun a D T' c2 ho hok hct fc s0 s1 s24 => RR _ fun r5 rd ra p1 p2 p3 => ?_
    refine t9_text hn rd ra (fun A' r6 p hW' hl ra' rd' => ?_) fun e r6 hW' _ _ _ _ => ?_
    · rw [hW] at hW'
      cases hW'
      unfold w_X9_read_j70
      have hr6 : RT T r6 := by
        unfold RT
        rw [ra'.2.1 0 (by decide) (by decide) (by decide), p2 0 (by decide) (by decide), ra'.1 1 (by decide) (by decide) (by decide) (by decide), ra'.1 2 (by decide) (by decide) (by decide) (by decide), ra'.1 3 (by decide) (by decide) (by decide) (by decide), ra'.1 4 (by decide) (by decide) (by decide) (by decide), ra'.1 5 (by decide) (by decide) (by decide) (by decide), ra'.1 6 (by decide) (by decide) (by decide) (by decide), p1 1 (by decide), p1 2 (by decide), p1 3 (by decide), p1 4 (by decide), p1 5 (by decide), p1 6 (by decide)]
        exact hr
      refine brt rd'.2.2.1 (t9_doActs hT hr6 ho hl ra'.2.2.1 ra'.2.2.2 fun r7 hrt m1 m2 m3 m4 => ⟨rfl, T', h.rd hok (rnS_g ho.1) ?_ hrt (fun k z1 z2 z3 z4 z5 z6 z7 => ?_) (fun k z1 z2 => ?_) (fun j z1 z2 z3 z4 => ?_) ?_ ?_ ?_⟩)
      · exact hct
      · rw [fc k z1 z2 z3 z4 z5 z6 z7]; exact f1 k z6 z7
      · rw [m1 k z1 z2, ra'.1 k (by omega) (by omega) (by omega) (by omega)]; exact p1 k (by omega)
      · rw [m2 j z2 z3 (by omega), ra'.2.1 j (by omega) (by omega) (by omega)]; exact p2 j z1 z4
      · exact s24
      · rw [m2 20 (by decide) (by decide) (by decide), ra'.2.1 20 (by decide) (by decide) (by decide)]; exact p3
      · rcases Nat.eq_zero_or_pos D.length with z | z
        · refine Or.inl ⟨?_, ?_⟩
          · rw [s0 z]; exact f1 18 (by decide) (by decide)
          · rw [m3 z, ra'.2.1 16 (by decide) (by decide) (by decide)]; exact p2 16 (by decide) (by decide)
        · exact Or.inr ⟨s1 z, m4 z⟩
    · rw [hW] at hW'; cases hW'
  · rw [show (-1 : Int32) = -nI 1 from rfl]
    intro z
    have := congrArg Int32.toInt z
    rw [nv_toInt (by omega), show (-nI 1 : Int32).toInt = -1 by decide] at this
    omega
  · refine RR _ fun r5 rd ra p1 p2 p3 => t9_text hn rd ra (fun A' r6 p hW' hl ra' rd' => ?_) fun e' r6 hW' he' m1 m2 rd' => ?_
    · rw [hW] at hW'; cases hW'
    · rw [hW] at hW'
      cases hW'
      unfold w_X9_read_j70
      refine brf (by rw [rd'.2.2.1]; decide) ⟨by rw [rd'.2.1], T, h.rd hT gT.rf ?_ ?_ (fun k z1 z2 z3 z4 z5 z6 z7 => ?_) (fun k z1 z2 => ?_) (fun j z1 z2 z3 z4 => ?_) ?_ ?_ (Or.inl ⟨?_, ?_⟩)⟩
      · unfold CT; rw [q2, zu_f (by decide), zu_f (by decide), zu_f (by decide), f1 2 (by decide) (by decide), f1 3 (by decide) (by decide), f1 4 (by decide) (by decide)]; exact hc
      · unfold RT
        rw [m2 0 (by decide) (by decide) (by decide), p2 0 (by decide) (by decide), m1 1 (by decide) (by decide) (by decide) (by decide), m1 2 (by decide) (by decide) (by decide) (by decide), m1 3 (by decide) (by decide) (by decide) (by decide), m1 4 (by decide) (by decide) (by decide) (by decide), m1 5 (by decide) (by decide) (by decide) (by decide), m1 6 (by decide) (by decide) (by decide) (by decide), p1 1 (by decide), p1 2 (by decide), p1 3 (by decide), p1 4 (by decide), p1 5 (by decide), p1 6 (by decide)]
        exact hr
      · rw [q2, zu_f z6]; exact f1 k z6 z7
      · rw [m1 k (by omega) (by omega) (by omega) (by omega)]; exact p1 k (by omega)
      · rw [m2 j (by omega) (by omega) (by omega)]; exact p2 j z1 z4
      · rw [q2, zu_eq ⟨rfl, rfl⟩]
      · rw [m2 20 (by decide) (by decide) (by decide)]; exact p3
      · rw [q2, zu_f (by decide)]; exact f1 18 (by decide) (by decide)
      · rw [m2 16 (by decide) (by decide) (by decide)]; exact p2 16 (by decide) (by decide)
