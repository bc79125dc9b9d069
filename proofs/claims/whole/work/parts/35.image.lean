/-! image, undo, count -/
theorem ctF_congr {T : Tb} (hT : okT T) {s : Int32} {F G F' G' : Nat → Int32} (h : ctF T s F G) (hF : ∀ k, k < 128 → F' k = F k) (hG : ∀ k, k < 64 → G' k = G k) : ctF T s F' G' := by
  have hn := hT.1
  refine ⟨h.1, fun y hy => ?_⟩
  have hP := hT.P4 hy
  obtain ⟨a, b⟩ := h.2 y hy
  rw [hF _ (by omega), hF _ (by omega), hF _ (by omega), hF _ (by omega), hF _ (by omega), hF _ (by omega), hF _ (by omega), hF _ (by omega)]
  exact ⟨a, fun p hp => by rw [hG _ (by omega)]; exact b p hp⟩
theorem rtF_congr {T : Tb} (hT : okT T) {s : Int32} {P Q F W U S P' Q' F' W' U' S' : Nat → Int32} (h : rtF T s P Q F W U S) (hP : ∀ k, k < yN T → P' k = P k) (hQ : ∀ k p, k < yN T → p < 4 → Q' (4 * k + p) = Q (4 * k + p)) (hF : ∀ k, k < yN T → F' k = F k) (hW : ∀ k, k < yN T → W' k = W k) (hU : ∀ k, k < yN T → U' k = U k) (hS : ∀ k, k < yN T → S' k = S k) : rtF T s P' Q' F' W' U' S' := by
  refine ⟨h.1, fun y hy => ?_⟩
  have hP4 := hT.P4 hy
  obtain ⟨a, b⟩ := h.2 y hy
  rw [hP y hy, hF y hy, hW y hy, hU y hy, hS y hy]
  exact ⟨a, fun p hp => by rw [hQ y p hy (by omega)]; exact b p hp⟩
theorem lyF_congr {n : Nat} {s s' : Int32} {C a b w C' a' b' w' : Nat → Int32} (h : lyF n s C s' a b w) (hC : ∀ k, k < 24 → C' k = C k) (hr : ∀ i, i < 8 → a' i = a i ∧ b' i = b i ∧ w' i = w i) : lyF n s C' s' a' b' w' := by
  obtain ⟨m, h1, h2, h3, h4⟩ := h
  refine ⟨m, h1, h2, h3, fun i hi => ?_⟩
  obtain ⟨x, y, z⟩ := hr i (by omega)
  rw [hC _ (by omega), hC _ (by omega), hC _ (by omega), x, y, z]
  exact h4 i hi
theorem jbF_congr {T : Tb} {s s' : Int32} {C a b C' a' b' : Nat → Int32} (h : jbF T s C s' a b) (hC : ∀ k, k < 24 → C' k = C k) (hr : ∀ i, i < 8 → a' i = a i ∧ b' i = b i) : jbF T s C' s' a' b' := by
  obtain ⟨m, h1, h2, h3, h4⟩ := h
  refine ⟨m, h1, h2, h3, fun i hi => ?_⟩
  obtain ⟨x, y⟩ := hr i (by omega)
  rw [hC _ (by omega), hC _ (by omega), x, y]
  exact h4 i hi
theorem t0_copy_9_1 {c : zz_Hp} {Q : zz_Hp → Prop} (H : ∀ c', (∀ k, k ≠ 10 → k ≠ 11 → k ≠ 12 → k ≠ 13 → k ≠ 14 → k ≠ 15 → k ≠ 16 → c'.1 k = c.1 k) → c'.1 10 0 = c.1 2 0 → (∀ k, k < 128 → c'.1 11 k = c.1 3 k) → (∀ k, k < 64 → c'.1 12 k = c.1 4 k) → c'.1 13 0 = c.1 5 0 → (∀ k, k < 24 → c'.1 14 k = c.1 6 k) → c'.1 15 0 = c.1 7 0 → (∀ k, k < 24 → c'.1 16 k = c.1 8 k) → Q c') : w_X0_copy_9_1 c Q := by
  intro c1 q1
  refine ⟨by decide, by decide, by decide, by decide, by decide, fun c2 q2 => ⟨by decide, by decide, by decide, by decide, by decide, fun c3 q3 => fun c4 q4 => ⟨by decide, by decide, by decide, by decide, by decide, fun c5 q5 => fun c6 q6 => ⟨by decide, by decide, by decide, by decide, by decide, fun c7 q7 => ?_⟩⟩⟩⟩
  have t0 : (0 : Int32).toNatClampNeg = 0 := rfl
  have t1 : (128 : Int32).toNatClampNeg = 128 := rfl
  have t2 : (64 : Int32).toNatClampNeg = 64 := rfl
  have t3 : (if 24 < (24 : Int32) then 24 else (24 : Int32)).toNatClampNeg = 24 := by decide
  rw [t0, t1] at q2
  rw [t0, t2] at q3
  rw [t0, t3] at q5 q7
  have f1 : ∀ k, k ≠ 10 → c1.1 k = c.1 k := fun k hk => by rw [q1, zu_f hk]
  have f2 : ∀ k, k ≠ 11 → c2.1 k = c1.1 k := fun k hk => by rw [q2, zc_f hk]
  have f3 : ∀ k, k ≠ 12 → c3.1 k = c2.1 k := fun k hk => by rw [q3, zc_f hk]
  have f4 : ∀ k, k ≠ 13 → c4.1 k = c3.1 k := fun k hk => by rw [q4, zu_f hk]
  have f5 : ∀ k, k ≠ 14 → c5.1 k = c4.1 k := fun k hk => by rw [q5, zc_f hk]
  have f6 : ∀ k, k ≠ 15 → c6.1 k = c5.1 k := fun k hk => by rw [q6, zu_f hk]
  have f7 : ∀ k, k ≠ 16 → c7.1 k = c6.1 k := fun k hk => by rw [q7, zc_f hk]
  refine H c7 (fun k a b d e f g i => ?_) ?_ (fun k hk => ?_) (fun k hk => ?_) ?_ (fun k hk => ?_) ?_ fun k hk => ?_
  · rw [f7 k i, f6 k g, f5 k f, f4 k e, f3 k d, f2 k b, f1 k a]
  · rw [f7 _ (by decide), f6 _ (by decide), f5 _ (by decide), f4 _ (by decide), f3 _ (by decide), f2 _ (by decide), q1, zu_eq ⟨rfl, rfl⟩]
  · rw [f7 _ (by decide), f6 _ (by decide), f5 _ (by decide), f4 _ (by decide), f3 _ (by decide), q2, zc_b]
    unfold va_cpy
    rw [if_pos (by omega), f1 _ (by decide), Nat.sub_zero, Nat.zero_add]
  · rw [f7 _ (by decide), f6 _ (by decide), f5 _ (by decide), f4 _ (by decide), q3, zc_b]
    unfold va_cpy
    rw [if_pos (by omega), f2 _ (by decide), f1 _ (by decide), Nat.sub_zero, Nat.zero_add]
  · rw [f7 _ (by decide), f6 _ (by decide), f5 _ (by decide), q4, zu_eq ⟨rfl, rfl⟩, f3 _ (by decide), f2 _ (by decide), f1 _ (by decide)]
  · rw [f7 _ (by decide), f6 _ (by decide), q5, zc_b]
    unfold va_cpy
    rw [if_pos (by omega), f4 _ (by decide), f3 _ (by decide), f2 _ (by decide), f1 _ (by decide), Nat.sub_zero, Nat.zero_add]
  · rw [f7 _ (by decide), q6, zu_eq ⟨rfl, rfl⟩, f5 _ (by decide), f4 _ (by decide), f3 _ (by decide), f2 _ (by decide), f1 _ (by decide)]
  · rw [q7, zc_b]
    unfold va_cpy
    rw [if_pos (by omega), f6 _ (by decide), f5 _ (by decide), f4 _ (by decide), f3 _ (by decide), f2 _ (by decide), f1 _ (by decide), Nat.sub_zero, Nat.zero_add]
theorem t0_copy_1_9 {c : zz_Hp} {Q : zz_Hp → Prop} (H : ∀ c', (∀ k, k ≠ 2 → k ≠ 3 → k ≠ 4 → k ≠ 5 → k ≠ 6 → k ≠ 7 → k ≠ 8 → c'.1 k = c.1 k) → c'.1 2 0 = c.1 10 0 → (∀ k, k < 128 → c'.1 3 k = c.1 11 k) → (∀ k, k < 64 → c'.1 4 k = c.1 12 k) → c'.1 5 0 = c.1 13 0 → (∀ k, k < 24 → c'.1 6 k = c.1 14 k) → c'.1 7 0 = c.1 15 0 → (∀ k, k < 24 → c'.1 8 k = c.1 16 k) → Q c') : w_X0_copy_1_9 c Q := by
  intro c1 q1
  refine ⟨by decide, by decide, by decide, by decide, by decide, fun c2 q2 => ⟨by decide, by decide, by decide, by decide, by decide, fun c3 q3 => fun c4 q4 => ⟨by decide, by decide, by decide, by decide, by decide, fun c5 q5 => fun c6 q6 => ⟨by decide, by decide, by decide, by decide, by decide, fun c7 q7 => ?_⟩⟩⟩⟩
  have t0 : (0 : Int32).toNatClampNeg = 0 := rfl
  have t1 : (128 : Int32).toNatClampNeg = 128 := rfl
  have t2 : (64 : Int32).toNatClampNeg = 64 := rfl
  have t3 : (if 24 < (24 : Int32) then 24 else (24 : Int32)).toNatClampNeg = 24 := by decide
  rw [t0, t1] at q2
  rw [t0, t2] at q3
  rw [t0, t3] at q5 q7
  have f1 : ∀ k, k ≠ 2 → c1.1 k = c.1 k := fun k hk => by rw [q1, zu_f hk]
  have f2 : ∀ k, k ≠ 3 → c2.1 k = c1.1 k := fun k hk => by rw [q2, zc_f hk]
  have f3 : ∀ k, k ≠ 4 → c3.1 k = c2.1 k := fun k hk => by rw [q3, zc_f hk]
  have f4 : ∀ k, k ≠ 5 → c4.1 k = c3.1 k := fun k hk => by rw [q4, zu_f hk]
  have f5 : ∀ k, k ≠ 6 → c5.1 k = c4.1 k := fun k hk => by rw [q5, zc_f hk]
  have f6 : ∀ k, k ≠ 7 → c6.1 k = c5.1 k := fun k hk => by rw [q6, zu_f hk]
  have f7 : ∀ k, k ≠ 8 → c7.1 k = c6.1 k := fun k hk => by rw [q7, zc_f hk]
  refine H c7 (fun k a b d e f g i => ?_) ?_ (fun k hk => ?_) (fun k hk => ?_) ?_ (fun k hk => ?_) ?_ fun k hk => ?_
  · rw [f7 k i, f6 k g, f5 k f, f4 k e, f3 k d, f2 k b, f1 k a]
  · rw [f7 _ (by decide), f6 _ (by decide), f5 _ (by decide), f4 _ (by decide), f3 _ (by decide), f2 _ (by decide), q1, zu_eq ⟨rfl, rfl⟩]
  · rw [f7 _ (by decide), f6 _ (by decide), f5 _ (by decide), f4 _ (by decide), f3 _ (by decide), q2, zc_b]
    unfold va_cpy
    rw [if_pos (by omega), f1 _ (by decide), Nat.sub_zero, Nat.zero_add]
  · rw [f7 _ (by decide), f6 _ (by decide), f5 _ (by decide), f4 _ (by decide), q3, zc_b]
    unfold va_cpy
    rw [if_pos (by omega), f2 _ (by decide), f1 _ (by decide), Nat.sub_zero, Nat.zero_add]
  · rw [f7 _ (by decide), f6 _ (by decide), f5 _ (by decide), q4, zu_eq ⟨rfl, rfl⟩, f3 _ (by decide), f2 _ (by decide), f1 _ (by decide)]
  · rw [f7 _ (by decide), f6 _ (by decide), q5, zc_b]
    unfold va_cpy
    rw [if_pos (by omega), f4 _ (by decide), f3 _ (by decide), f2 _ (by decide), f1 _ (by decide), Nat.sub_zero, Nat.zero_add]
  · rw [f7 _ (by decide), q6, zu_eq ⟨rfl, rfl⟩, f5 _ (by decide), f4 _ (by decide), f3 _ (by decide), f2 _ (by decide), f1 _ (by decide)]
  · rw [q7, zc_b]
    unfold va_cpy
    rw [if_pos (by omega), f6 _ (by decide), f5 _ (by decide), f4 _ (by decide), f3 _ (by decide), f2 _ (by decide), f1 _ (by decide), Nat.sub_zero, Nat.zero_add]
theorem t9_imgA {T : Tb} (hT : okT T) {r : zz_Hp} (h0 : r.1 0 0 = nI (yN T)) {Q : Int32 → zz_Hp → Prop}
    (H : ∀ r', (∀ k, k ≠ 20 → k ≠ 21 → k ≠ 22 → k ≠ 23 → k ≠ 24 → k ≠ 25 → r'.1 k = r.1 k) → (∀ k, k < yN T → r'.1 20 k = r.1 1 k ∧ r'.1 22 k = r.1 3 k ∧ r'.1 23 k = r.1 4 k ∧ r'.1 24 k = r.1 5 k ∧ r'.1 25 k = r.1 6 k) → (∀ k p, k < yN T → p < 4 → r'.1 21 (4 * k + p) = r.1 2 (4 * k + p)) → ∀ r1, r1 = zz_uI r' 0 33 (r'.1 0 9) → ∀ r2, r2 = zz_uI r1 0 37 (r1.1 0 13) → lp (fun s ag => w_X9_image_l140 ag Q s.1 s.2) (0, r2)) : lp (fun s ag => w_X9_image_l15 ag Q s.1 s.2) (0, r) := by
  have hn := hT.1
  refine lp_cnt (yN T) (fun i s => s.1 = nI i ∧ (∀ k, k ≠ 20 → k ≠ 21 → k ≠ 22 → k ≠ 23 → k ≠ 24 → k ≠ 25 → s.2.1 k = r.1 k) ∧ (∀ k, k < i → s.2.1 20 k = r.1 1 k ∧ s.2.1 22 k = r.1 3 k ∧ s.2.1 23 k = r.1 4 k ∧ s.2.1 24 k = r.1 5 k ∧ s.2.1 25 k = r.1 6 k) ∧ ∀ k p, k < i → p < 4 → s.2.1 21 (4 * k + p) = r.1 2 (4 * k + p)) ?_ _ ⟨rfl, fun _ _ _ _ _ _ _ => rfl, fun k hk => by omega, fun k p hk => by omega⟩
  intro i s hi hs again hag
  obtain ⟨u, r1⟩ := s
  obtain ⟨hu, p1, p2, p3⟩ := hs
  dsimp only at hu p1 p2 p3
  subst hu
  unfold w_X9_image_l15
  dsimp only
  rw [p1 0 (by decide) (by decide) (by decide) (by decide) (by decide) (by decide), h0]
  refine brc (fun e => ?_) fun e => ?_
  · have := nv_end (by omega) (by omega) hi e
    subst this
    have := H r1 p1 p2 p3
    rw [p1 0 (by decide) (by decide) (by decide) (by decide) (by decide) (by decide)] at this
    exact this
  · have hlt := nv_nle (by omega) (by omega) e
    have hii : vp_in (nI i) 16 := nv_in (by omega) (by decide)
    rw [nv_tn (by omega)]
    refine ⟨hii, hii, fun r2 w2 => ⟨hii, hii, fun r3 w3 => ⟨hii, hii, fun r4 w4 => ⟨hii, hii, fun r5 w5 => ⟨hii, hii, fun r6 w6 => ?_⟩⟩⟩⟩⟩
    have g6 : ∀ k, k ≠ 20 → k ≠ 22 → k ≠ 23 → k ≠ 24 → k ≠ 25 → r6.1 k = r1.1 k := fun k a b d e f => by
      rw [w6, zu_f f, w5, zu_f e, w4, zu_f d, w3, zu_f b, w2, zu_f a]
    have g7 : ∀ k, k < i + 1 → r6.1 20 k = r.1 1 k ∧ r6.1 22 k = r.1 3 k ∧ r6.1 23 k = r.1 4 k ∧ r6.1 24 k = r.1 5 k ∧ r6.1 25 k = r.1 6 k := by
      intro k hk
      subst w6 w5 w4 w3 w2
      by_cases z : k = i
      · subst z
        simp (disch := omega) only [zu_ne, zu_eq]
        rw [p1 1 (by decide) (by decide) (by decide) (by decide) (by decide) (by decide), p1 3 (by decide) (by decide) (by decide) (by decide) (by decide) (by decide), p1 4 (by decide) (by decide) (by decide) (by decide) (by decide) (by decide), p1 5 (by decide) (by decide) (by decide) (by decide) (by decide) (by decide), p1 6 (by decide) (by decide) (by decide) (by decide) (by decide) (by decide)]
        exact ⟨rfl, rfl, rfl, rfl, rfl⟩
      · simp (disch := omega) only [zu_ne]
        exact p2 k (by omega)
    refine lp_cnt 4 (fun j s => s.1 = nI j ∧ (∀ k, k ≠ 21 → s.2.1 k = r6.1 k) ∧ (∀ k p, k < i → p < 4 → s.2.1 21 (4 * k + p) = r.1 2 (4 * k + p)) ∧ ∀ p, p < j → s.2.1 21 (4 * i + p) = r.1 2 (4 * i + p)) ?_ _ ⟨rfl, fun _ _ => rfl, fun k p hk hp => by dsimp only; rw [g6 21 (by decide) (by decide) (by decide) (by decide) (by decide)]; exact p3 k p hk hp, fun p hp => by omega⟩
    intro j s hj hs again' hag'
    obtain ⟨u, r7⟩ := s
    obtain ⟨hu, x1, x2, x3⟩ := hs
    dsimp only at hu x1 x2 x3
    subst hu
    unfold w_X9_image_l85
    dsimp only
    rw [lit_4, nv_le (by omega) (by omega)]
    refine brc (fun e => ?_) fun e => ?_
    · have : j = 4 := by omega
      subst this
      rw [nv_1]
      refine hag hlt _ ⟨rfl, fun k a b d e f g => ?_, fun k hk => ?_, fun k p hk hp => ?_⟩
      · dsimp only; rw [x1 k b, g6 k a d e f g]; exact p1 k a b d e f g
      · dsimp only; rw [x1 20 (by decide), x1 22 (by decide), x1 23 (by decide), x1 24 (by decide), x1 25 (by decide)]; exact g7 k hk
      · dsimp only
        by_cases z : k = i
        · rw [z]; exact x3 p hp
        · exact x2 k p (by omega) hp
    · have hj4 : j < 4 := by omega
      have e4 : nI 4 * nI i + nI j = nI (4 * i + j) := by rw [nv_mul, nv_add]
      have hij : vp_in (nI (4 * i + j)) 64 := nv_in (by omega) (by decide)
      rw [e4, nv_tn (by omega), nv_1]
      refine ⟨hij, hij, fun r8 w8 => hag' hj4 _ ⟨rfl, fun k hk => ?_, fun k p hk hp => ?_, fun p hp => ?_⟩⟩
      · dsimp only; rw [w8, zu_f hk]; exact x1 k hk
      · dsimp only; rw [w8, zu_ne (by omega)]; exact x2 k p hk hp
      · dsimp only
        by_cases z : p = j
        · rw [w8, zu_eq ⟨rfl, by rw [z]⟩, x1 2 (by decide), g6 2 (by decide) (by decide) (by decide) (by decide) (by decide), p1 2 (by decide) (by decide) (by decide) (by decide) (by decide) (by decide), z]
        · rw [w8, zu_ne (by omega)]; exact x3 p (by omega)
theorem t9_imgB {r : zz_Hp} {Q : Int32 → zz_Hp → Prop} (H : ∀ r', (∀ k, k ≠ 26 → k ≠ 27 → k ≠ 28 → k ≠ 29 → k ≠ 30 → r'.1 k = r.1 k) → (∀ i, i < 8 → (r'.1 26 i = r.1 8 i ∧ r'.1 27 i = r.1 9 i ∧ r'.1 28 i = r.1 10 i) ∧ r'.1 29 i = r.1 11 i ∧ r'.1 30 i = r.1 12 i) → Q (r'.1 0 0) r') : lp (fun s ag => w_X9_image_l140 ag Q s.1 s.2) (0, r) := by
  refine lp_cnt 8 (fun i s => s.1 = nI i ∧ (∀ k, k ≠ 26 → k ≠ 27 → k ≠ 28 → k ≠ 29 → k ≠ 30 → s.2.1 k = r.1 k) ∧ ∀ k, k < i → (s.2.1 26 k = r.1 8 k ∧ s.2.1 27 k = r.1 9 k ∧ s.2.1 28 k = r.1 10 k) ∧ s.2.1 29 k = r.1 11 k ∧ s.2.1 30 k = r.1 12 k) ?_ _ ⟨rfl, fun _ _ _ _ _ _ => rfl, fun k hk => by omega⟩
  intro i s hi hs again hag
  obtain ⟨u, r1⟩ := s
  obtain ⟨hu, p1, p2⟩ := hs
  dsimp only at hu p1 p2
  subst hu
  unfold w_X9_image_l140
  dsimp only
  rw [lit_8, nv_le (by omega) (by omega)]
  refine brc (fun e => ?_) fun e => ?_
  · have : i = 8 := by omega
    subst this
    exact H r1 p1 p2
  · have hlt : i < 8 := by omega
    have hii : vp_in (nI i) 8 := nv_in (by omega) (by decide)
    rw [nv_tn (by omega), nv_1]
    refine ⟨hii, hii, fun r2 w2 => ⟨hii, hii, fun r3 w3 => ⟨hii, hii, fun r4 w4 => ⟨hii, hii, fun r5 w5 => ⟨hii, hii, fun r6 w6 => hag hlt _ ⟨rfl, fun k a b d e f => ?_, fun k hk => ?_⟩⟩⟩⟩⟩⟩
    · dsimp only; rw [w6, zu_f f, w5, zu_f e, w4, zu_f d, w3, zu_f b, w2, zu_f a]; exact p1 k a b d e f
    · dsimp only
      subst w6 w5 w4 w3 w2
      by_cases z : k = i
      · subst z
        simp (disch := omega) only [zu_ne, zu_eq]
        rw [p1 8 (by decide) (by decide) (by decide) (by decide) (by decide), p1 9 (by decide) (by decide) (by decide) (by decide) (by decide), p1 10 (by decide) (by decide) (by decide) (by decide) (by decide), p1 11 (by decide) (by decide) (by decide) (by decide) (by decide), p1 12 (by decide) (by decide) (by decide) (by decide) (by decide)]
        exact ⟨⟨rfl, rfl, rfl⟩, rfl, rfl⟩
      · simp (disch := omega) only [zu_ne]
        exact p2 k (by omega)
theorem t9_undA {T : Tb} (hT : okT T) {r : zz_Hp} (h0 : r.1 0 0 = nI (yN T)) {Q : Int32 → zz_Hp → Prop}
    (H : ∀ r', (∀ k, k ≠ 1 → k ≠ 2 → k ≠ 3 → k ≠ 4 → k ≠ 5 → k ≠ 6 → r'.1 k = r.1 k) → (∀ k, k < yN T → r'.1 1 k = r.1 20 k ∧ r'.1 3 k = r.1 22 k ∧ r'.1 4 k = r.1 23 k ∧ r'.1 5 k = r.1 24 k ∧ r'.1 6 k = r.1 25 k) → (∀ k p, k < yN T → p < 4 → r'.1 2 (4 * k + p) = r.1 21 (4 * k + p)) → ∀ r1, r1 = zz_uI r' 0 9 (r'.1 0 33) → ∀ r2, r2 = zz_uI r1 0 13 (r1.1 0 37) → lp (fun s ag => w_X9_undo_l145 ag Q s.1 s.2) (0, r2)) : lp (fun s ag => w_X9_undo_l20 ag Q s.1 s.2) (0, r) := by
  have hn := hT.1
  refine lp_cnt (yN T) (fun i s => s.1 = nI i ∧ (∀ k, k ≠ 1 → k ≠ 2 → k ≠ 3 → k ≠ 4 → k ≠ 5 → k ≠ 6 → s.2.1 k = r.1 k) ∧ (∀ k, k < i → s.2.1 1 k = r.1 20 k ∧ s.2.1 3 k = r.1 22 k ∧ s.2.1 4 k = r.1 23 k ∧ s.2.1 5 k = r.1 24 k ∧ s.2.1 6 k = r.1 25 k) ∧ ∀ k p, k < i → p < 4 → s.2.1 2 (4 * k + p) = r.1 21 (4 * k + p)) ?_ _ ⟨rfl, fun _ _ _ _ _ _ _ => rfl, fun k hk => by omega, fun k p hk => by omega⟩
  intro i s hi hs again hag
  obtain ⟨u, r1⟩ := s
  obtain ⟨hu, p1, p2, p3⟩ := hs
  dsimp only at hu p1 p2 p3
  subst hu
  unfold w_X9_undo_l20
  dsimp only
  rw [p1 0 (by decide) (by decide) (by decide) (by decide) (by decide) (by decide), h0]
  refine brc (fun e => ?_) fun e => ?_
  · have := nv_end (by omega) (by omega) hi e
    subst this
    have := H r1 p1 p2 p3
    rw [p1 0 (by decide) (by decide) (by decide) (by decide) (by decide) (by decide)] at this
    exact this
  · have hlt := nv_nle (by omega) (by omega) e
    have hii : vp_in (nI i) 16 := nv_in (by omega) (by decide)
    rw [nv_tn (by omega)]
    refine ⟨hii, hii, fun r2 w2 => ⟨hii, hii, fun r3 w3 => ⟨hii, hii, fun r4 w4 => ⟨hii, hii, fun r5 w5 => ⟨hii, hii, fun r6 w6 => ?_⟩⟩⟩⟩⟩
    have g6 : ∀ k, k ≠ 1 → k ≠ 3 → k ≠ 4 → k ≠ 5 → k ≠ 6 → r6.1 k = r1.1 k := fun k a b d e f => by
      rw [w6, zu_f f, w5, zu_f e, w4, zu_f d, w3, zu_f b, w2, zu_f a]
    have g7 : ∀ k, k < i + 1 → r6.1 1 k = r.1 20 k ∧ r6.1 3 k = r.1 22 k ∧ r6.1 4 k = r.1 23 k ∧ r6.1 5 k = r.1 24 k ∧ r6.1 6 k = r.1 25 k := by
      intro k hk
      subst w6 w5 w4 w3 w2
      by_cases z : k = i
      · subst z
        simp (disch := omega) only [zu_ne, zu_eq]
        rw [p1 20 (by decide) (by decide) (by decide) (by decide) (by decide) (by decide), p1 22 (by decide) (by decide) (by decide) (by decide) (by decide) (by decide), p1 23 (by decide) (by decide) (by decide) (by decide) (by decide) (by decide), p1 24 (by decide) (by decide) (by decide) (by decide) (by decide) (by decide), p1 25 (by decide) (by decide) (by decide) (by decide) (by decide) (by decide)]
        exact ⟨rfl, rfl, rfl, rfl, rfl⟩
      · simp (disch := omega) only [zu_ne]
        exact p2 k (by omega)
    refine lp_cnt 4 (fun j s => s.1 = nI j ∧ (∀ k, k ≠ 2 → s.2.1 k = r6.1 k) ∧ (∀ k p, k < i → p < 4 → s.2.1 2 (4 * k + p) = r.1 21 (4 * k + p)) ∧ ∀ p, p < j → s.2.1 2 (4 * i + p) = r.1 21 (4 * i + p)) ?_ _ ⟨rfl, fun _ _ => rfl, fun k p hk hp => by dsimp only; rw [g6 2 (by decide) (by decide) (by decide) (by decide) (by decide)]; exact p3 k p hk hp, fun p hp => by omega⟩
    intro j s hj hs again' hag'
    obtain ⟨u, r7⟩ := s
    obtain ⟨hu, x1, x2, x3⟩ := hs
    dsimp only at hu x1 x2 x3
    subst hu
    unfold w_X9_undo_l90
    dsimp only
    rw [lit_4, nv_le (by omega) (by omega)]
    refine brc (fun e => ?_) fun e => ?_
    · have : j = 4 := by omega
      subst this
      rw [nv_1]
      refine hag hlt _ ⟨rfl, fun k a b d e f g => ?_, fun k hk => ?_, fun k p hk hp => ?_⟩
      · dsimp only; rw [x1 k b, g6 k a d e f g]; exact p1 k a b d e f g
      · dsimp only; rw [x1 1 (by decide), x1 3 (by decide), x1 4 (by decide), x1 5 (by decide), x1 6 (by decide)]; exact g7 k hk
      · dsimp only
        by_cases z : k = i
        · rw [z]; exact x3 p hp
        · exact x2 k p (by omega) hp
    · have hj4 : j < 4 := by omega
      have e4 : nI 4 * nI i + nI j = nI (4 * i + j) := by rw [nv_mul, nv_add]
      have hij : vp_in (nI (4 * i + j)) 64 := nv_in (by omega) (by decide)
      rw [e4, nv_tn (by omega), nv_1]
      refine ⟨hij, hij, fun r8 w8 => hag' hj4 _ ⟨rfl, fun k hk => ?_, fun k p hk hp => ?_, fun p hp => ?_⟩⟩
      · dsimp only; rw [w8, zu_f hk]; exact x1 k hk
      · dsimp only; rw [w8, zu_ne (by omega)]; exact x2 k p hk hp
      · dsimp only
        by_cases z : p = j
        · rw [w8, zu_eq ⟨rfl, by rw [z]⟩, x1 21 (by decide), g6 21 (by decide) (by decide) (by decide) (by decide) (by decide), p1 21 (by decide) (by decide) (by decide) (by decide) (by decide) (by decide), z]
        · rw [w8, zu_ne (by omega)]; exact x3 p (by omega)
theorem t9_undB {r : zz_Hp} {Q : Int32 → zz_Hp → Prop} (H : ∀ r', (∀ k, k ≠ 8 → k ≠ 9 → k ≠ 10 → k ≠ 11 → k ≠ 12 → r'.1 k = r.1 k) → (∀ i, i < 8 → (r'.1 8 i = r.1 26 i ∧ r'.1 9 i = r.1 27 i ∧ r'.1 10 i = r.1 28 i) ∧ r'.1 11 i = r.1 29 i ∧ r'.1 12 i = r.1 30 i) → ∀ r1, r1 = zz_uI r' 0 7 0 → ∀ r2, r2 = zz_uI r1 0 16 0 → Q (r2.1 0 0) r2) : lp (fun s ag => w_X9_undo_l145 ag Q s.1 s.2) (0, r) := by
  refine lp_cnt 8 (fun i s => s.1 = nI i ∧ (∀ k, k ≠ 8 → k ≠ 9 → k ≠ 10 → k ≠ 11 → k ≠ 12 → s.2.1 k = r.1 k) ∧ ∀ k, k < i → (s.2.1 8 k = r.1 26 k ∧ s.2.1 9 k = r.1 27 k ∧ s.2.1 10 k = r.1 28 k) ∧ s.2.1 11 k = r.1 29 k ∧ s.2.1 12 k = r.1 30 k) ?_ _ ⟨rfl, fun _ _ _ _ _ _ => rfl, fun k hk => by omega⟩
  intro i s hi hs again hag
  obtain ⟨u, r1⟩ := s
  obtain ⟨hu, p1, p2⟩ := hs
  dsimp only at hu p1 p2
  subst hu
  unfold w_X9_undo_l145
  dsimp only
  rw [lit_8, nv_le (by omega) (by omega)]
  refine brc (fun e => ?_) fun e => ?_
  · have : i = 8 := by omega
    subst this
    exact H r1 p1 p2
  · have hlt : i < 8 := by omega
    have hii : vp_in (nI i) 8 := nv_in (by omega) (by decide)
    rw [nv_tn (by omega), nv_1]
    refine ⟨hii, hii, fun r2 w2 => ⟨hii, hii, fun r3 w3 => ⟨hii, hii, fun r4 w4 => ⟨hii, hii, fun r5 w5 => ⟨hii, hii, fun r6 w6 => hag hlt _ ⟨rfl, fun k a b d e f => ?_, fun k hk => ?_⟩⟩⟩⟩⟩⟩
    · dsimp only; rw [w6, zu_f f, w5, zu_f e, w4, zu_f d, w3, zu_f b, w2, zu_f a]; exact p1 k a b d e f
    · dsimp only
      subst w6 w5 w4 w3 w2
      by_cases z : k = i
      · subst z
        simp (disch := omega) only [zu_ne, zu_eq]
        rw [p1 26 (by decide) (by decide) (by decide) (by decide) (by decide), p1 27 (by decide) (by decide) (by decide) (by decide) (by decide), p1 28 (by decide) (by decide) (by decide) (by decide) (by decide), p1 29 (by decide) (by decide) (by decide) (by decide) (by decide), p1 30 (by decide) (by decide) (by decide) (by decide) (by decide)]
        exact ⟨⟨rfl, rfl, rfl⟩, rfl, rfl⟩
      · simp (disch := omega) only [zu_ne]
        exact p2 k (by omega)
theorem eq_image {c r : zz_Hp} (h : Sim c r) : w_X8_image c (fun a c' => w_X9_image r (fun b r' => a = b ∧ Sim c' r')) := by
  obtain ⟨T, h⟩ := h
  have hT := h.1; have hc : CT T c := h.2.1; have hr : RT T r := h.2.2.1
  refine t0_copy_9_1 fun c1 fc k1 k2 k3 k4 k5 k6 k7 => fun c2 q2 => fun r1 p1 => fun r2 p2 => t9_imgA hT ?_ fun r3 fr a1 a2 => fun r4 p4 => fun r5 p5 => t9_imgB fun r6 fr6 a6 => ⟨?_, T, ?_⟩
  · rw [p2, zu_ne (by decide), p1, zu_ne (by decide)]; exact hr.1
  all_goals have g2 : ∀ k, 1 ≤ k → r2.1 k = r.1 k := fun k hk => by rw [p2, zu_f (by omega), p1, zu_f (by omega)]
  all_goals have g3 : ∀ k, k < 20 ∨ 25 < k → r3.1 k = r2.1 k := fun k hk => fr k (by omega) (by omega) (by omega) (by omega) (by omega) (by omega)
  all_goals have g5 : ∀ k, 1 ≤ k → r5.1 k = r3.1 k := fun k hk => by rw [p5, zu_f (by omega), p4, zu_f (by omega)]
  all_goals have g6 : ∀ k, k < 26 ∨ 30 < k → r6.1 k = r5.1 k := fun k hk => fr6 k (by omega) (by omega) (by omega) (by omega) (by omega)
  all_goals have s6 : ∀ j, j ≠ 25 → j ≠ 26 → j ≠ 33 → j ≠ 37 → r6.1 0 j = r.1 0 j := fun j a b d e => by rw [g6 0 (by omega), p5, zu_ne (Or.inr e), p4, zu_ne (Or.inr d), g3 0 (by omega), p2, zu_ne (Or.inr b), p1, zu_ne (Or.inr a)]
  all_goals have cc : ∀ k, k < 10 ∨ 16 < k → 1 ≤ k → c2.1 k = c.1 k := fun k a b => by rw [q2, zu_f (by omega)]; exact fc k (by omega) (by omega) (by omega) (by omega) (by omega) (by omega) (by omega)
  · rw [cc 2 (by omega) (by omega), s6 0 (by omega) (by omega) (by omega) (by omega), hc.1, hr.1]
  have lo : ∀ k, 1 ≤ k → k < 20 → r6.1 k = r.1 k := fun k a b => by rw [g6 k (by omega), g5 k (by omega), g3 k (by omega), g2 k (by omega)]
  apply SimT.img h
  case n_im =>
    have e25 : r6.1 0 25 = 1 := by rw [g6 0 (by omega), p5, zu_ne (by decide), p4, zu_ne (by decide), g3 0 (by omega), p2, zu_ne (by decide), p1, zu_eq ⟨rfl, rfl⟩]
    have e26 : r6.1 0 26 = r.1 0 0 := by rw [g6 0 (by omega), p5, zu_ne (by decide), p4, zu_ne (by decide), g3 0 (by omega), p2, zu_eq ⟨rfl, rfl⟩, p1, zu_ne (by decide)]
    have e33 : r6.1 0 33 = r.1 0 9 := by rw [g6 0 (by omega), p5, zu_ne (by decide), p4, zu_eq ⟨rfl, rfl⟩, g3 0 (by omega), p2, zu_ne (by decide), p1, zu_ne (by decide)]
    have e37 : r6.1 0 37 = r.1 0 13 := by rw [g6 0 (by omega), p5, zu_eq ⟨rfl, rfl⟩, p4, zu_ne (by decide), g3 0 (by omega), p2, zu_ne (by decide), p1, zu_ne (by decide)]
    have c0 : c2.1 0 2 = 1 := by rw [q2, zu_eq ⟨rfl, rfl⟩]
    have c' : ∀ k, 1 ≤ k → c2.1 k = c1.1 k := fun k hk => by rw [q2, zu_f (by omega)]
    have mid : ∀ k, 20 ≤ k → k < 26 → r6.1 k = r3.1 k := fun k a b => by rw [g6 k (by omega), g5 k (by omega)]
    have src : ∀ k, 1 ≤ k → k < 20 → r5.1 k = r.1 k := fun k a b => by rw [g5 k a, g3 k (by omega), g2 k a]
    rw [e25, e26, e33, e37, c0]
    refine ⟨rfl, Or.inr ⟨rfl, T, hT, ?_, ?_, ?_, ?_⟩⟩
    · rw [c' 10 (by omega), c' 11 (by omega), c' 12 (by omega), k1]
      exact ctF_congr hT hc k2 k3
    · rw [mid 20 (by omega) (by omega), mid 21 (by omega) (by omega), mid 22 (by omega) (by omega), mid 23 (by omega) (by omega), mid 24 (by omega) (by omega), mid 25 (by omega) (by omega)]
      refine rtF_congr hT hr (fun k hk => ?_) (fun k p hk hp => ?_) (fun k hk => ?_) (fun k hk => ?_) (fun k hk => ?_) (fun k hk => ?_)
      · rw [(a1 k hk).1, g2 1 (by omega)]
      · rw [a2 k p hk hp, g2 2 (by omega)]
      · rw [(a1 k hk).2.1, g2 3 (by omega)]
      · rw [(a1 k hk).2.2.1, g2 4 (by omega)]
      · rw [(a1 k hk).2.2.2.1, g2 5 (by omega)]
      · rw [(a1 k hk).2.2.2.2, g2 6 (by omega)]
    · rw [c' 13 (by omega), c' 14 (by omega), k4]
      refine lyF_congr h.2.2.2.2.1 k5 fun i hi => ?_
      rw [← src 8 (by omega) (by omega), ← src 9 (by omega) (by omega), ← src 10 (by omega) (by omega)]
      exact (a6 i hi).1
    · rw [c' 15 (by omega), c' 16 (by omega), k6]
      refine jbF_congr h.2.2.2.2.2.1 k7 fun i hi => ?_
      rw [← src 11 (by omega) (by omega), ← src 12 (by omega) (by omega)]
      exact (a6 i hi).2
  all_goals first
    | exact cc _ (by omega) (by omega)
    | exact congrFun (cc _ (by omega) (by omega)) _
    | exact lo _ (by omega) (by omega)
    | exact s6 _ (by omega) (by omega) (by omega) (by omega)
    | (rw [q2, zu_ne (by decide)]; exact congrFun (fc _ (by decide) (by decide) (by decide) (by decide) (by decide) (by decide) (by decide)) _)
theorem eq_undo {c r : zz_Hp} (h : Sim c r) : w_X8_undo c (fun a c' => w_X9_undo r (fun b r' => a = b ∧ Sim c' r')) := by
  obtain ⟨T0, h⟩ := h
  obtain ⟨hcr, hx⟩ := h.2.2.2.2.2.2.2.2.2.2
  unfold w_X8_undo
  rcases hx with hx | ⟨hx, T, hT, hct, hrt, hly, hjb⟩
  · exact bnf hx (bnf (by rw [← hcr]; exact hx) ⟨rfl, T0, h⟩)
  refine bnt (by rw [hx]; decide) (t0_copy_1_9 fun c1 fc k1 k2 k3 k4 k5 k6 k7 => fun c2 q2 => fun c3 q3 => bnt (by rw [← hcr, hx]; decide) fun r1 p1 => t9_undA hT ?_ fun r3 fr a1 a2 => fun r4 p4 => fun r5 p5 => t9_undB fun r6 fr6 a6 => fun r7 p7 => fun r8 p8 => ⟨?_, T, ?_⟩)
  · rw [p1, zu_eq ⟨rfl, rfl⟩]; exact hrt.1
  all_goals have g2 : ∀ k, 1 ≤ k → r1.1 k = r.1 k := fun k hk => by rw [p1, zu_f (by omega)]
  all_goals have g3 : ∀ k, k < 1 ∨ 6 < k → r3.1 k = r1.1 k := fun k hk => fr k (by omega) (by omega) (by omega) (by omega) (by omega) (by omega)
  all_goals have g5 : ∀ k, 1 ≤ k → r5.1 k = r3.1 k := fun k hk => by rw [p5, zu_f (by omega), p4, zu_f (by omega)]
  all_goals have g6 : ∀ k, k < 8 ∨ 12 < k → r6.1 k = r5.1 k := fun k hk => fr6 k (by omega) (by omega) (by omega) (by omega) (by omega)
  all_goals have g8 : ∀ k, 1 ≤ k → r8.1 k = r6.1 k := fun k hk => by rw [p8, zu_f (by omega), p7, zu_f (by omega)]
  all_goals have e00 : r8.1 0 0 = r.1 0 26 := by rw [p8, zu_ne (by decide), p7, zu_ne (by decide), g6 0 (by omega), p5, zu_ne (by decide), p4, zu_ne (by decide), g3 0 (by omega), p1, zu_eq ⟨rfl, rfl⟩]
  all_goals have c' : ∀ k, 1 ≤ k → k ≠ 18 → c3.1 k = c1.1 k := fun k a b => by rw [q3, zu_f b, q2, zu_f (by omega)]
  · rw [c' 2 (by omega) (by omega), k1, e00, hct.1, hrt.1]
  have s8 : ∀ j, j ≠ 0 → j ≠ 7 → j ≠ 9 → j ≠ 13 → j ≠ 16 → r8.1 0 j = r.1 0 j := fun j a b d e f => by rw [p8, zu_ne (Or.inr f), p7, zu_ne (Or.inr b), g6 0 (by omega), p5, zu_ne (Or.inr e), p4, zu_ne (Or.inr d), g3 0 (by omega), p1, zu_ne (Or.inr a)]
  have hi : ∀ k, 12 < k ∨ k = 7 → r8.1 k = r.1 k := fun k a => by rw [g8 k (by omega), g6 k (by omega), g5 k (by omega), g3 k (by omega), g2 k (by omega)]
  have lo : ∀ k, 1 ≤ k → k ≤ 6 → r8.1 k = r3.1 k := fun k a b => by rw [g8 k (by omega), g6 k (by omega), g5 k (by omega)]
  have cc : ∀ k, 8 < k → k ≠ 18 → c3.1 k = c.1 k := fun k a b => by rw [c' k (by omega) b]; exact fc k (by omega) (by omega) (by omega) (by omega) (by omega) (by omega) (by omega)
  have src : ∀ k, 12 < k → r5.1 k = r.1 k := fun k a => by rw [g5 k (by omega), g3 k (by omega), g2 k (by omega)]
  apply SimT.clr h
  case n_ok => exact hT
  case n_ct =>
    rw [c' 2 (by omega) (by omega), c' 3 (by omega) (by omega), c' 4 (by omega) (by omega), k1]
    exact ctF_congr hT hct k2 k3
  case n_rt =>
    rw [e00, lo 1 (by omega) (by omega), lo 2 (by omega) (by omega), lo 3 (by omega) (by omega), lo 4 (by omega) (by omega), lo 5 (by omega) (by omega), lo 6 (by omega) (by omega)]
    refine rtF_congr hT hrt (fun k hk => ?_) (fun k p hk hp => ?_) (fun k hk => ?_) (fun k hk => ?_) (fun k hk => ?_) (fun k hk => ?_)
    · rw [(a1 k hk).1, g2 20 (by omega)]
    · rw [a2 k p hk hp, g2 21 (by omega)]
    · rw [(a1 k hk).2.1, g2 22 (by omega)]
    · rw [(a1 k hk).2.2.1, g2 23 (by omega)]
    · rw [(a1 k hk).2.2.2.1, g2 24 (by omega)]
    · rw [(a1 k hk).2.2.2.2, g2 25 (by omega)]
  case n_bn => exact ⟨0, by omega, by rw [q3, zu_ne (by decide), q2, zu_eq ⟨rfl, rfl⟩]; rfl, by rw [p8, zu_ne (by decide), p7, zu_eq ⟨rfl, rfl⟩]; rfl, fun i hi => by omega⟩
  case n_sp => exact ⟨0, by omega, by rw [q3, zu_eq ⟨rfl, rfl⟩]; rfl, by rw [p8, zu_eq ⟨rfl, rfl⟩]; rfl, fun i hi => by omega⟩
  case n_ly =>
    have e9 : r8.1 0 9 = r.1 0 33 := by rw [p8, zu_ne (by decide), p7, zu_ne (by decide), g6 0 (by omega), p5, zu_ne (by decide), p4, zu_eq ⟨rfl, rfl⟩, g3 0 (by omega), p1, zu_ne (by decide)]
    rw [c' 5 (by omega) (by omega), c' 6 (by omega) (by omega), k4, e9, g8 8 (by omega), g8 9 (by omega), g8 10 (by omega)]
    refine lyF_congr hly k5 fun i hi => ?_
    rw [← src 26 (by omega), ← src 27 (by omega), ← src 28 (by omega)]
    exact (a6 i hi).1
  case n_jb =>
    have e13 : r8.1 0 13 = r.1 0 37 := by rw [p8, zu_ne (by decide), p7, zu_ne (by decide), g6 0 (by omega), p5, zu_eq ⟨rfl, rfl⟩, p4, zu_ne (by decide), g3 0 (by omega), p1, zu_ne (by decide)]
    rw [c' 7 (by omega) (by omega), c' 8 (by omega) (by omega), k6, e13, g8 11 (by omega), g8 12 (by omega)]
    refine jbF_congr hjb k7 fun i hi => ?_
    rw [← src 29 (by omega), ← src 30 (by omega)]
    exact (a6 i hi).2
  all_goals first
    | exact cc _ (by omega) (by omega)
    | exact congrFun (cc _ (by omega) (by omega)) _
    | exact hi _ (by omega)
    | exact s8 _ (by omega) (by omega) (by omega) (by omega) (by omega)
    | (rw [q3, zu_ne (by decide), q2, zu_ne (by decide)]; exact congrFun (fc _ (by decide) (by decide) (by decide) (by decide) (by decide) (by decide) (by decide)) _)
theorem eq_count {c r : zz_Hp} (h : Sim c r) (l1 : Int32) : w_X8_count l1 c (fun a c' => w_X9_count l1 r (fun b r' => a = b ∧ Sim c' r')) := by
  obtain ⟨T, h⟩ := h
  have hT := h.1; have hc : CT T c := h.2.1; have hr : RT T r := h.2.2.1; have hn := hT.1
  have S : Sim c r := ⟨T, h⟩
  obtain ⟨m1, _, a1, b1, _⟩ := h.2.2.2.1
  obtain ⟨m2, _, a2, b2, _⟩ := h.2.2.2.2.1
  obtain ⟨m3, _, a3, b3, _⟩ := h.2.2.2.2.2.1
  obtain ⟨m4, _, a4, b4, _⟩ := h.2.2.2.2.2.2.1
  obtain ⟨m5, _, a5, b5, _⟩ := h.2.2.2.2.2.2.2.1
  unfold w_X8_count
  have K : ∀ {v : Int} {a : Int32}, l1.toInt = v → (v = 0 → a = r.1 0 0) → (v = 1 → a = r.1 0 7) → (v = 2 → a = r.1 0 9) → (v = 3 → a = r.1 0 13) → (v = 4 → a = r.1 0 16) → (v = 5 → a = r.1 0 20) → v ≠ 6 → ((v < 0 ∨ 6 < v) → a = -1) → w_X9_count l1 r (fun b r' => a = b ∧ Sim c r') := by
    intro v a e h0 h1 h2 h3 h4 h5 h6 h7
    subst e
    exact ⟨fun z => ⟨h0 z, S⟩, fun z => ⟨h1 z, S⟩, fun z => ⟨h2 z, S⟩, fun z => ⟨h3 z, S⟩, fun z => ⟨h4 z, S⟩, fun z => ⟨h5 z, S⟩, fun z => absurd z h6, fun z => ⟨h7 z, S⟩⟩
  refine ⟨fun z => ?_, fun z => ?_, fun z => ?_, fun z => ?_, fun z => ?_, fun z => ?_, fun z => ?_, fun z => ?_⟩
  · exact K z (fun _ => by rw [hc.1, hr.1]) (fun w => by omega) (fun w => by omega) (fun w => by omega) (fun w => by omega) (fun w => by omega) (by omega) (fun w => by omega)
  · exact K z (fun w => by omega) (fun _ => by rw [a1, b1]) (fun w => by omega) (fun w => by omega) (fun w => by omega) (fun w => by omega) (by omega) (fun w => by omega)
  · exact K z (fun w => by omega) (fun w => by omega) (fun _ => by rw [a2, b2]) (fun w => by omega) (fun w => by omega) (fun w => by omega) (by omega) (fun w => by omega)
  · exact K z (fun w => by omega) (fun w => by omega) (fun w => by omega) (fun _ => by rw [a3, b3]) (fun w => by omega) (fun w => by omega) (by omega) (fun w => by omega)
  · exact K z (fun w => by omega) (fun w => by omega) (fun w => by omega) (fun w => by omega) (fun _ => by rw [a4, b4]) (fun w => by omega) (by omega) (fun w => by omega)
  · exact K z (fun w => by omega) (fun w => by omega) (fun w => by omega) (fun w => by omega) (fun w => by omega) (fun _ => by rw [a5, b5]) (by omega) (fun w => by omega)
  · unfold w_X8_countBalanced
    obtain ⟨cnt, hcnt⟩ : ∃ cnt : Nat → Int32, cnt 0 = 0 ∧ ∀ i, cnt (i + 1) = if tq T 5 i 0 = 0 then cnt i + 1 else cnt i :=
      ⟨fun n => Nat.rec 0 (fun i v => if tq T 5 i 0 = 0 then v + 1 else v) n, rfl, fun i => rfl⟩
    refine lp_cnt (yN T) (fun i s => s.1 = cnt i ∧ s.2.1 = nI i ∧ fV c s.2.2) ?_ _ ⟨hcnt.1.symm, rfl, fV.rf⟩
    intro i s hi hs again hag
    obtain ⟨u, v, c1⟩ := s
    obtain ⟨hu, hv, f1⟩ := hs
    dsimp only at hu hv f1
    subst hu hv
    unfold w_X8_countBalanced_l4
    dsimp only
    have hc1 := CT_fV f1 hc
    rw [hc1.1]
    refine brc (fun e => ?_) fun e => ?_
    · have := nv_end (by omega) (by omega) hi e
      subst this
      refine ⟨fun w => by omega, fun w => by omega, fun w => by omega, fun w => by omega, fun w => by omega, fun w => by omega, fun _ => ?_, fun w => by omega⟩
      refine lp_cnt (yN T) (fun i s => s = (cnt i, nI i, r)) ?_ _ (by rw [hcnt.1]; rfl)
      intro j s hj hs again' hag'
      subst hs
      unfold w_X9_count_l78
      dsimp only
      rw [hr.1]
      refine brc (fun e => ?_) fun e => ?_
      · have := nv_end (by omega) (by omega) hj e
        subst this
        exact ⟨rfl, h.both f1.sC sR.rf⟩
      · have hlt := nv_nle (by omega) (by omega) e
        refine t9_torqueOf hT hr rfl hlt (bnc (fun z => ?_) fun z => ?_)
        · rw [nv_1 j, Int32.add_zero]; refine hag' hlt _ ?_; rw [hcnt.2, if_neg z]
        · rw [nv_1 j]; refine hag' hlt _ ?_; rw [hcnt.2, if_pos z]
    · have hlt := nv_nle (by omega) (by omega) e
      refine t8_torqueOf hT hc1 rfl hlt fun c2 f2 _ => bnc (fun z => ?_) fun z => ?_
      · rw [nv_1 i]; exact hag hlt _ ⟨by rw [hcnt.2, if_neg z], rfl, f1.tr f2.fV⟩
      · rw [nv_1 i]; exact hag hlt _ ⟨by rw [hcnt.2, if_pos z], rfl, f1.tr f2.fV⟩
  · exact K rfl (fun w => by omega) (fun w => by omega) (fun w => by omega) (fun w => by omega) (fun w => by omega) (fun w => by omega) (by omega) (fun _ => rfl)
