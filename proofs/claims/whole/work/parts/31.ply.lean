/-! plying -/
def cbp (T : Tb) (v : Int32) : Prop := ∃ y, y < yN T ∧ yD T y < 3 ∧ v = nI y
theorem cbp_q {T : Tb} (hT : okT T) {v : Int32} (h : cbp T v) : v.toNatClampNeg < yN T ∧ yD T v.toNatClampNeg < 3 ∧ v = nI v.toNatClampNeg := by
  obtain ⟨y, h1, h2, rfl⟩ := h
  have := hT.1
  rw [nv_tn (by omega)]; exact ⟨h1, h2, rfl⟩
theorem t7_canBePart' {T : Tb} (hT : okT T) {c : zz_Hp} (hc : CT T c) {l : Int32} {Q : Int32 → zz_Hp → Prop} (H0 : ¬ cbp T l → Q 0 c) (H1 : cbp T l → Q 1 c) : w_X7_canBePart l c Q := by
  have hn := hT.1
  rcases ycase (yN T) (by omega) l with hl | ⟨y, hy, rfl⟩
  · refine t7_hasf (yN T) hc.1 hl (bq0 (H0 ?_))
    rintro ⟨y, h1, _, rfl⟩
    exact nv_out (by omega) h1 hl
  · refine t7_canBePart hT hc rfl hy (fun d => H0 ?_) fun d => H1 ⟨y, hy, d, rfl⟩
    rintro ⟨z, h1, h2, h3⟩
    have := nv_inj (by omega) (by omega) h3
    subst this; omega
def dmx (D : Nat → Nat) : Nat → Nat
  | 0 => 0
  | k + 1 => if dmx D k < D k + 1 then D k + 1 else dmx D k
theorem dmx_lt {D : Nat → Nat} : ∀ {m i : Nat}, i < m → D i < dmx D m
  | m + 1, i, h => by
    simp only [dmx]
    by_cases e : i = m
    · subst e; split <;> omega
    · have := dmx_lt (D := D) (m := m) (i := i) (by omega)
      split <;> omega
theorem dmx_ex {D : Nat → Nat} : ∀ {m : Nat}, 0 < m → ∃ i, i < m ∧ D i + 1 = dmx D m
  | 0, h => by omega
  | m + 1, _ => by
    simp only [dmx]
    by_cases e : dmx D m < D m + 1
    · exact ⟨m, by omega, by rw [if_pos e]⟩
    · have hm : 0 < m := by
        rcases Nat.eq_zero_or_pos m with z | z
        · subst z; simp only [dmx] at e; omega
        · exact z
      obtain ⟨i, hi, k⟩ := dmx_ex (D := D) hm
      exact ⟨i, by omega, by rw [if_neg e]; exact k⟩
theorem dmx_le {D : Nat → Nat} {b : Nat} : ∀ {m : Nat}, (∀ i, i < m → D i < b) → dmx D m ≤ b
  | 0, _ => Nat.zero_le _
  | m + 1, h => by
    simp only [dmx]
    have := h m (by omega)
    have := dmx_le (D := D) (m := m) fun i hi => h i (by omega)
    split <;> omega
def pQ (A : Nat → Int32) (i : Nat) : Nat := (A i).toNatClampNeg
abbrev plT (T : Tb) (A : Nat → Int32) (m : Nat) (t : Int32) : Tb := addY T m (pQ A) (dmx (fun i => yD T (pQ A i)) m) t (-1) (-1)
theorem okT_pl {T : Tb} (hT : okT T) {A : Nat → Int32} {m : Nat} {t : Int32} (hn : yN T < 16) (ht : okV 0 t) (h2 : 2 ≤ m) (h4 : m ≤ 4) (hA : ∀ i, i < m → cbp T (A i)) : okT (plT T A m t) := by
  refine okT_add hT hn ht (Or.inr ⟨h2, h4, dmx_le fun i hi => (cbp_q hT (hA i hi)).2.1, fun i hi => ⟨(cbp_q hT (hA i hi)).1, dmx_lt (D := fun i => yD T (pQ A i)) hi⟩, ?_, rfl, rfl⟩)
  exact dmx_ex (D := fun i => yD T (pQ A i)) (by omega)
theorem ln_pl {T : Tb} (hT : okT T) {A : Nat → Int32} {m : Nat} {t : Int32} (h2 : 2 ≤ m) (hA : ∀ i, i < m → cbp T (A i)) : ln (yP (plT T A m t)) (yQ (plT T A m t)) 5 (yN T) = sn (fun p => ln (yP T) (yQ T) 5 (pQ A p)) m := by
  rw [ln, if_neg (by rw [aP_eq rfl]; omega), aP_eq rfl]
  refine sn_congr fun i hi => ?_
  have k1 : pQ A i < yN T := (cbp_q hT (hA i hi)).1
  have k2 : yD T (pQ A i) < 3 := (cbp_q hT (hA i hi)).2.1
  rw [aQ_eq rfl, ln_congr (add_old hT) _ _ k1]
  exact ln_fuel hT _ _ _ k1 (by omega) (by omega)
theorem bt_pl {T : Tb} (hT : okT T) {A : Nat → Int32} {m : Nat} {t : Int32} (hA : ∀ i, i < m → cbp T (A i)) : bt (yP (plT T A m t)) (yQ (plT T A m t)) 5 (yN T) = orl (fun p => bt (yP T) (yQ T) 5 (pQ A p)) (1 <<< (nI (yN T) &&& 31)) m := by
  rw [bt, aP_eq rfl]
  refine orl_congr fun i hi => ?_
  have k1 : pQ A i < yN T := (cbp_q hT (hA i hi)).1
  have k2 : yD T (pQ A i) < 3 := (cbp_q hT (hA i hi)).2.1
  rw [aQ_eq rfl, bt_congr (add_old hT) _ _ k1]
  exact bt_fuel hT _ _ _ k1 (by omega) (by omega)
theorem t7_join17 {T : Tb} (hT : okT T) (hn : yN T < 16) {c : zz_Hp} {m : Nat} (hm : m ≤ 4) (hA : ∀ i, i < m → cbp T (c.1 17 i)) (hF : ∀ y, y < yN T → c.1 3 (8 * y + 5) = nI (yD T y) ∧ c.1 3 (8 * y + 6) = nI (ln (yP T) (yQ T) 5 y) ∧ c.1 3 (8 * y + 7) = bt (yP T) (yQ T) 5 y) {l1 l3 : Int32} (e1 : l1 = nI (yN T)) (e3 : l3 = nI m) {Q : zz_Hp → Prop}
    (H : ∀ c', (∀ k, k ≠ 3 → k ≠ 4 → c'.1 k = c.1 k) → (∀ k, k < 8 * yN T + 4 → c'.1 3 k = c.1 3 k) → (∀ k, k < 4 * yN T → c'.1 4 k = c.1 4 k) → c'.1 3 (8 * yN T + 4) = nI m → c'.1 3 (8 * yN T + 5) = nI (dmx (fun i => yD T (pQ (c.1 17) i)) m) → c'.1 3 (8 * yN T + 6) = nI (sn (fun p => ln (yP T) (yQ T) 5 (pQ (c.1 17) p)) m) → c'.1 3 (8 * yN T + 7) = orl (fun p => bt (yP T) (yQ T) 5 (pQ (c.1 17) p)) (1 <<< (nI (yN T) &&& 31)) m → (∀ i, i < m → c'.1 4 (4 * yN T + i) = nI (pQ (c.1 17) i)) → Q c') : w_X7_join_2_17 l1 l3 c Q := by
  subst e1 e3
  unfold w_X7_join_2_17
  refine lp_cnt m (fun i s => s.1 = nI (dmx (fun i => yD T (pQ (c.1 17) i)) i) ∧ s.2.1 = nI (sn (fun p => ln (yP T) (yQ T) 5 (pQ (c.1 17) p)) i) ∧ s.2.2.1 = orl (fun p => bt (yP T) (yQ T) 5 (pQ (c.1 17) p)) (1 <<< (nI (yN T) &&& 31)) i ∧ s.2.2.2.1 = nI i ∧ (∀ k, k ≠ 4 → s.2.2.2.2.1 k = c.1 k) ∧ (∀ k, k < 4 * yN T → s.2.2.2.2.1 4 k = c.1 4 k) ∧ ∀ j, j < i → s.2.2.2.2.1 4 (4 * yN T + j) = nI (pQ (c.1 17) j)) ?_ _ ⟨rfl, rfl, rfl, rfl, fun _ _ => rfl, fun _ _ => rfl, fun j hj => by omega⟩
  intro i s hi hs again hag
  obtain ⟨u1, u2, u3, u4, c1⟩ := s
  obtain ⟨k1, k2, k3, k4, hf, h4, h5⟩ := hs
  dsimp only at k1 k2 k3 k4 hf h4 h5
  subst k1 k2 k3 k4
  unfold w_X7_join_2_17_l14
  dsimp only
  refine brc (fun e => ?_) fun e => ?_
  · have := nv_end (by omega) (by omega) hi e
    subst this
    refine t7_write (yN T) 4 (by omega) (by omega) rfl rfl (t7_write (yN T) 5 (by omega) (by omega) rfl rfl (t7_write (yN T) 6 (by omega) (by omega) rfl rfl (t7_write (yN T) 7 (by omega) (by omega) rfl rfl ?_)))
    refine H _ (fun k a b => ?_) (fun k hk => ?_) (fun k hk => ?_) ?_ ?_ ?_ ?_ fun j hj => ?_
    · rw [zu_f a, zu_f a, zu_f a, zu_f a]; exact hf k b
    · simp (disch := omega) only [zu_ne]; rw [hf 3 (by decide)]
    · simp (disch := omega) only [zu_ne]; exact h4 k hk
    · simp (disch := omega) only [zu_ne, zu_eq]
    · simp (disch := omega) only [zu_ne, zu_eq]
    · simp (disch := omega) only [zu_ne, zu_eq]
    · simp (disch := omega) only [zu_eq]
    · simp (disch := omega) only [zu_ne]; exact h5 j hj
  · have hlt := nv_nle (by omega) (by omega) e
    have hq := cbp_q hT (hA i hlt)
    have eA : c1.1 17 (nI i).toNatClampNeg = nI (pQ (c.1 17) i) := by rw [hf 17 (by decide), nv_tn (by omega)]; exact hq.2.2
    have e4 : nI (yN T) * 4 + nI i = nI (4 * yN T + i) := by rw [lit_4, nv_mul, nv_add, show yN T * 4 + i = 4 * yN T + i by omega]
    have hqn : pQ (c.1 17) i < yN T := hq.1
    rw [eA, e4, nv_tn (by omega)]
    refine ⟨nv_in (by omega) (by decide), nv_in (by omega) (by decide), fun c2 q2 => ?_⟩
    have f3 : c2.1 3 = c.1 3 := by rw [q2, zu_f (by decide)]; exact hf 3 (by decide)
    obtain ⟨g5, g6, g7⟩ := hF _ hqn
    refine t7_fact _ 5 (by omega) (by omega) rfl rfl (t7_fact _ 6 (by omega) (by omega) rfl rfl (t7_fact _ 7 (by omega) (by omega) rfl rfl ?_))
    rw [f3, g5, g6, g7, nv_1 i]
    refine hag hlt _ ⟨?_, ?_, rfl, rfl, fun k hk => ?_, fun k hk => ?_, fun j hj => ?_⟩
    · dsimp only
      have d3 := hq.2.1
      have d3' : yD T (pQ (c.1 17) i) < 3 := hq.2.1
      have dl : dmx (fun i => yD T (pQ (c.1 17) i)) i ≤ 3 := dmx_le fun j hj => (cbp_q hT (hA j (by omega))).2.1
      rw [nv_1]
      simp only [dmx]
      by_cases z : dmx (fun i => yD T (pQ (c.1 17) i)) i < yD T (pQ (c.1 17) i) + 1
      · rw [if_pos z, if_pos ((nv_lt (by omega) (by omega)).mpr z)]
      · rw [if_neg z, if_neg fun w => z ((nv_lt (by omega) (by omega)).mp w)]
    · dsimp only; rw [nv_add]; rfl
    · dsimp only; rw [q2, zu_f hk]; exact hf k hk
    · dsimp only; rw [q2]; simp (disch := omega) only [zu_ne]; exact h4 k hk
    · dsimp only; rw [q2]
      by_cases z : j = i
      · subst z; simp (disch := omega) only [zu_eq]
      · simp (disch := omega) only [zu_ne]; exact h5 j (by omega)
theorem t7_addPlied17 {T : Tb} (hT : okT T) {c : zz_Hp} (hc : CT T c) {m : Nat} (hm : m ≤ 4) {l2 t : Int32} (e2 : l2 = nI m) {Q : Int32 → zz_Hp → Prop} (H1 : ¬ okV 0 t → Q (-1) c) (H5 : okV 0 t → ¬ (2 ≤ m ∧ m ≤ 4) → Q (-5) c) (H5' : okV 0 t → (2 ≤ m ∧ m ≤ 4) → ¬ (∀ i, i < m → cbp T (c.1 17 i)) → Q (-5) c) (H3 : okV 0 t → (2 ≤ m ∧ m ≤ 4) → (∀ i, i < m → cbp T (c.1 17 i)) → yN T = 16 → Q (-3) c)
    (H : okV 0 t → (2 ≤ m ∧ m ≤ 4) → (∀ i, i < m → cbp T (c.1 17 i)) → yN T < 16 → ∀ c', (∀ k, k ≠ 2 → k ≠ 3 → k ≠ 4 → c'.1 k = c.1 k) → okT (plT T (c.1 17) m t) → CT (plT T (c.1 17) m t) c' → Q (nI (yN T)) c') : w_X7_addPlied_2_17 l2 t c Q := by
  have hn := hT.1
  subst e2
  unfold w_X7_addPlied_2_17
  refine t8_told rfl (by omega : 0 < 4) (fun k => br0 (H1 k)) fun ht => br1 ?_
  by_cases h24 : 2 ≤ m ∧ m ≤ 4
  · refine t8_inRt ?_ (bq1 (brt ?_ ?_))
    · rw [lit_2, lit_4, nv_le (by omega) (by omega), nv_le (by omega) (by omega)]; exact h24
    · rw [show (4 : Int32) = nI 4 from rfl, nv_le (by omega) (by omega)]; omega
    refine lp_cnt m (fun i s => s = (nI i, c) ∧ ∀ j, j < i → cbp T (c.1 17 j)) ?_ _ ⟨rfl, fun j hj => by omega⟩
    intro i s hi hs again hag
    obtain ⟨rfl, hs⟩ := hs
    unfold w_X7_addPlied_2_17_l31
    dsimp only
    refine brc (fun e => ?_) fun e => ?_
    · have := nv_end (by omega) (by omega) hi e
      subst this
      rw [hc.1, lit_16, nv_lt (by omega) (by omega)]
      refine brc (fun e => fun c1 k1 => ?_) fun e => H3 ht h24 hs (by omega)
      refine t7_write (yN T) 0 (by omega) (by omega) rfl rfl (t7_write (yN T) 1 (by omega) (by omega) rfl rfl (t7_write (yN T) 2 (by omega) (by omega) rfl rfl (t7_write (yN T) 3 (by omega) (by omega) rfl rfl ?_)))
      subst k1
      have eA : ∀ h5 h6 h7 h8 : Int32, ∀ h9 : Int32, (zz_uI (zz_uI (zz_uI (zz_uI (zz_uI c 2 0 h5) 3 (8 * yN T + 0) h6) 3 (8 * yN T + 1) h7) 3 (8 * yN T + 2) h8) 3 (8 * yN T + 3) h9).1 17 = c.1 17 := by
        intros; rw [zu_f (by decide), zu_f (by decide), zu_f (by decide), zu_f (by decide), zu_f (by decide)]
      refine t7_join17 (T := T) hT e h24.2 (by rw [eA]; exact hs) (fun y hy => ?_) rfl rfl fun c2 hf h3 h4 g4 g5 g6 g7 gq => ?_
      · simp (disch := omega) only [zu_ne]
        exact (hc.2 y hy).1.2.2.2.2.2
      rw [eA] at g5 g6 g7 gq
      refine H ht h24 hs e c2 (fun k a b d => ?_) (okT_pl hT e ht h24.1 h24.2 hs) ?_
      · rw [hf k b d, zu_f b, zu_f b, zu_f b, zu_f b, zu_f a]
      · refine ctF_add hT hc ?_ (fun k hk => ?_) (fun k hk => ?_) ?_ ?_ ?_ ?_ g4 g5 ?_ ?_ h24.2 gq
        · rw [hf 2 (by decide) (by decide), zu_f (by decide), zu_f (by decide), zu_f (by decide), zu_f (by decide), zu_eq ⟨rfl, rfl⟩, nv_1]
        · rw [h3 k (by omega)]; simp (disch := omega) only [zu_ne]
        · rw [h4 k hk]; simp (disch := omega) only [zu_ne]
        · rw [h3 _ (by omega)]; simp (disch := omega) only [zu_ne, zu_eq]
        · rw [h3 _ (by omega)]; simp (disch := omega) only [zu_ne, zu_eq]
        · rw [h3 _ (by omega)]; simp (disch := omega) only [zu_ne, zu_eq]
        · rw [h3 _ (by omega)]; simp (disch := omega) only [zu_eq]
        · rw [g6, ln_pl hT h24.1 hs]
        · rw [g7, bt_pl hT hs]
    · have hlt := nv_nle (by omega) (by omega) e
      refine ⟨nv_in (by omega) (by decide), ?_⟩
      rw [nv_tn (by omega), nv_1]
      refine t7_canBePart' hT hc (fun k => br0 (H5' ht h24 fun z => k (z i hlt))) fun k => br1 (hag hlt _ ⟨rfl, fun j hj => ?_⟩)
      by_cases z : j = i
      · rw [z]; exact k
      · exact hs j (by omega)
  · refine t8_inRf ?_ (bq0 (H5 ht h24))
    rw [lit_2, lit_4, nv_le (by omega) (by omega), nv_le (by omega) (by omega)]; exact h24
theorem t7_join25 {T : Tb} (hT : okT T) (hn : yN T < 16) {c : zz_Hp} {m : Nat} (hm : m ≤ 4) (hA : ∀ i, i < m → cbp T (c.1 25 i)) (hF : ∀ y, y < yN T → c.1 3 (8 * y + 5) = nI (yD T y) ∧ c.1 3 (8 * y + 6) = nI (ln (yP T) (yQ T) 5 y) ∧ c.1 3 (8 * y + 7) = bt (yP T) (yQ T) 5 y) {l1 l3 : Int32} (e1 : l1 = nI (yN T)) (e3 : l3 = nI m) {Q : zz_Hp → Prop}
    (H : ∀ c', (∀ k, k ≠ 3 → k ≠ 4 → c'.1 k = c.1 k) → (∀ k, k < 8 * yN T + 4 → c'.1 3 k = c.1 3 k) → (∀ k, k < 4 * yN T → c'.1 4 k = c.1 4 k) → c'.1 3 (8 * yN T + 4) = nI m → c'.1 3 (8 * yN T + 5) = nI (dmx (fun i => yD T (pQ (c.1 25) i)) m) → c'.1 3 (8 * yN T + 6) = nI (sn (fun p => ln (yP T) (yQ T) 5 (pQ (c.1 25) p)) m) → c'.1 3 (8 * yN T + 7) = orl (fun p => bt (yP T) (yQ T) 5 (pQ (c.1 25) p)) (1 <<< (nI (yN T) &&& 31)) m → (∀ i, i < m → c'.1 4 (4 * yN T + i) = nI (pQ (c.1 25) i)) → Q c') : w_X7_join_2_25 l1 l3 c Q := by
  subst e1 e3
  unfold w_X7_join_2_25
  refine lp_cnt m (fun i s => s.1 = nI (dmx (fun i => yD T (pQ (c.1 25) i)) i) ∧ s.2.1 = nI (sn (fun p => ln (yP T) (yQ T) 5 (pQ (c.1 25) p)) i) ∧ s.2.2.1 = orl (fun p => bt (yP T) (yQ T) 5 (pQ (c.1 25) p)) (1 <<< (nI (yN T) &&& 31)) i ∧ s.2.2.2.1 = nI i ∧ (∀ k, k ≠ 4 → s.2.2.2.2.1 k = c.1 k) ∧ (∀ k, k < 4 * yN T → s.2.2.2.2.1 4 k = c.1 4 k) ∧ ∀ j, j < i → s.2.2.2.2.1 4 (4 * yN T + j) = nI (pQ (c.1 25) j)) ?_ _ ⟨rfl, rfl, rfl, rfl, fun _ _ => rfl, fun _ _ => rfl, fun j hj => by omega⟩
  intro i s hi hs again hag
  obtain ⟨u1, u2, u3, u4, c1⟩ := s
  obtain ⟨k1, k2, k3, k4, hf, h4, h5⟩ := hs
  dsimp only at k1 k2 k3 k4 hf h4 h5
  subst k1 k2 k3 k4
  unfold w_X7_join_2_25_l14
  dsimp only
  refine brc (fun e => ?_) fun e => ?_
  · have := nv_end (by omega) (by omega) hi e
    subst this
    refine t7_write (yN T) 4 (by omega) (by omega) rfl rfl (t7_write (yN T) 5 (by omega) (by omega) rfl rfl (t7_write (yN T) 6 (by omega) (by omega) rfl rfl (t7_write (yN T) 7 (by omega) (by omega) rfl rfl ?_)))
    refine H _ (fun k a b => ?_) (fun k hk => ?_) (fun k hk => ?_) ?_ ?_ ?_ ?_ fun j hj => ?_
    · rw [zu_f a, zu_f a, zu_f a, zu_f a]; exact hf k b
    · simp (disch := omega) only [zu_ne]; rw [hf 3 (by decide)]
    · simp (disch := omega) only [zu_ne]; exact h4 k hk
    · simp (disch := omega) only [zu_ne, zu_eq]
    · simp (disch := omega) only [zu_ne, zu_eq]
    · simp (disch := omega) only [zu_ne, zu_eq]
    · simp (disch := omega) only [zu_eq]
    · simp (disch := omega) only [zu_ne]; exact h5 j hj
  · have hlt := nv_nle (by omega) (by omega) e
    have hq := cbp_q hT (hA i hlt)
    have eA : c1.1 25 (nI i).toNatClampNeg = nI (pQ (c.1 25) i) := by rw [hf 25 (by decide), nv_tn (by omega)]; exact hq.2.2
    have e4 : nI (yN T) * 4 + nI i = nI (4 * yN T + i) := by rw [lit_4, nv_mul, nv_add, show yN T * 4 + i = 4 * yN T + i by omega]
    have hqn : pQ (c.1 25) i < yN T := hq.1
    rw [eA, e4, nv_tn (by omega)]
    refine ⟨nv_in (by omega) (by decide), nv_in (by omega) (by decide), fun c2 q2 => ?_⟩
    have f3 : c2.1 3 = c.1 3 := by rw [q2, zu_f (by decide)]; exact hf 3 (by decide)
    obtain ⟨g5, g6, g7⟩ := hF _ hqn
    refine t7_fact _ 5 (by omega) (by omega) rfl rfl (t7_fact _ 6 (by omega) (by omega) rfl rfl (t7_fact _ 7 (by omega) (by omega) rfl rfl ?_))
    rw [f3, g5, g6, g7, nv_1 i]
    refine hag hlt _ ⟨?_, ?_, rfl, rfl, fun k hk => ?_, fun k hk => ?_, fun j hj => ?_⟩
    · dsimp only
      have d3 := hq.2.1
      have d3' : yD T (pQ (c.1 25) i) < 3 := hq.2.1
      have dl : dmx (fun i => yD T (pQ (c.1 25) i)) i ≤ 3 := dmx_le fun j hj => (cbp_q hT (hA j (by omega))).2.1
      rw [nv_1]
      simp only [dmx]
      by_cases z : dmx (fun i => yD T (pQ (c.1 25) i)) i < yD T (pQ (c.1 25) i) + 1
      · rw [if_pos z, if_pos ((nv_lt (by omega) (by omega)).mpr z)]
      · rw [if_neg z, if_neg fun w => z ((nv_lt (by omega) (by omega)).mp w)]
    · dsimp only; rw [nv_add]; rfl
    · dsimp only; rw [q2, zu_f hk]; exact hf k hk
    · dsimp only; rw [q2]; simp (disch := omega) only [zu_ne]; exact h4 k hk
    · dsimp only; rw [q2]
      by_cases z : j = i
      · subst z; simp (disch := omega) only [zu_eq]
      · simp (disch := omega) only [zu_ne]; exact h5 j (by omega)
theorem t7_addPlied25 {T : Tb} (hT : okT T) {c : zz_Hp} (hc : CT T c) {m : Nat} (hm : m ≤ 5) {l2 t : Int32} (e2 : l2 = nI m) {Q : Int32 → zz_Hp → Prop} (H1 : ¬ okV 0 t → Q (-1) c) (H5 : okV 0 t → ¬ (2 ≤ m ∧ m ≤ 4) → Q (-5) c) (H5' : okV 0 t → (2 ≤ m ∧ m ≤ 4) → ¬ (∀ i, i < m → cbp T (c.1 25 i)) → Q (-5) c) (H3 : okV 0 t → (2 ≤ m ∧ m ≤ 4) → (∀ i, i < m → cbp T (c.1 25 i)) → yN T = 16 → Q (-3) c)
    (H : okV 0 t → (2 ≤ m ∧ m ≤ 4) → (∀ i, i < m → cbp T (c.1 25 i)) → yN T < 16 → ∀ c', (∀ k, k ≠ 2 → k ≠ 3 → k ≠ 4 → c'.1 k = c.1 k) → okT (plT T (c.1 25) m t) → CT (plT T (c.1 25) m t) c' → Q (nI (yN T)) c') : w_X7_addPlied_2_25 l2 t c Q := by
  have hn := hT.1
  subst e2
  unfold w_X7_addPlied_2_25
  refine t8_told rfl (by omega : 0 < 4) (fun k => br0 (H1 k)) fun ht => br1 ?_
  by_cases h24 : 2 ≤ m ∧ m ≤ 4
  · refine t8_inRt ?_ (bq1 (brt ?_ ?_))
    · rw [lit_2, lit_4, nv_le (by omega) (by omega), nv_le (by omega) (by omega)]; exact h24
    · rw [show (5 : Int32) = nI 5 from rfl, nv_le (by omega) (by omega)]; omega
    refine lp_cnt m (fun i s => s = (nI i, c) ∧ ∀ j, j < i → cbp T (c.1 25 j)) ?_ _ ⟨rfl, fun j hj => by omega⟩
    intro i s hi hs again hag
    obtain ⟨rfl, hs⟩ := hs
    unfold w_X7_addPlied_2_25_l31
    dsimp only
    refine brc (fun e => ?_) fun e => ?_
    · have := nv_end (by omega) (by omega) hi e
      subst this
      rw [hc.1, lit_16, nv_lt (by omega) (by omega)]
      refine brc (fun e => fun c1 k1 => ?_) fun e => H3 ht h24 hs (by omega)
      refine t7_write (yN T) 0 (by omega) (by omega) rfl rfl (t7_write (yN T) 1 (by omega) (by omega) rfl rfl (t7_write (yN T) 2 (by omega) (by omega) rfl rfl (t7_write (yN T) 3 (by omega) (by omega) rfl rfl ?_)))
      subst k1
      have eA : ∀ h5 h6 h7 h8 : Int32, ∀ h9 : Int32, (zz_uI (zz_uI (zz_uI (zz_uI (zz_uI c 2 0 h5) 3 (8 * yN T + 0) h6) 3 (8 * yN T + 1) h7) 3 (8 * yN T + 2) h8) 3 (8 * yN T + 3) h9).1 25 = c.1 25 := by
        intros; rw [zu_f (by decide), zu_f (by decide), zu_f (by decide), zu_f (by decide), zu_f (by decide)]
      refine t7_join25 (T := T) hT e h24.2 (by rw [eA]; exact hs) (fun y hy => ?_) rfl rfl fun c2 hf h3 h4 g4 g5 g6 g7 gq => ?_
      · simp (disch := omega) only [zu_ne]
        exact (hc.2 y hy).1.2.2.2.2.2
      rw [eA] at g5 g6 g7 gq
      refine H ht h24 hs e c2 (fun k a b d => ?_) (okT_pl hT e ht h24.1 h24.2 hs) ?_
      · rw [hf k b d, zu_f b, zu_f b, zu_f b, zu_f b, zu_f a]
      · refine ctF_add hT hc ?_ (fun k hk => ?_) (fun k hk => ?_) ?_ ?_ ?_ ?_ g4 g5 ?_ ?_ h24.2 gq
        · rw [hf 2 (by decide) (by decide), zu_f (by decide), zu_f (by decide), zu_f (by decide), zu_f (by decide), zu_eq ⟨rfl, rfl⟩, nv_1]
        · rw [h3 k (by omega)]; simp (disch := omega) only [zu_ne]
        · rw [h4 k hk]; simp (disch := omega) only [zu_ne]
        · rw [h3 _ (by omega)]; simp (disch := omega) only [zu_ne, zu_eq]
        · rw [h3 _ (by omega)]; simp (disch := omega) only [zu_ne, zu_eq]
        · rw [h3 _ (by omega)]; simp (disch := omega) only [zu_ne, zu_eq]
        · rw [h3 _ (by omega)]; simp (disch := omega) only [zu_eq]
        · rw [g6, ln_pl hT h24.1 hs]
        · rw [g7, bt_pl hT hs]
    · have hlt := nv_nle (by omega) (by omega) e
      refine ⟨nv_in (by omega) (by decide), ?_⟩
      rw [nv_tn (by omega), nv_1]
      refine t7_canBePart' hT hc (fun k => br0 (H5' ht h24 fun z => k (z i hlt))) fun k => br1 (hag hlt _ ⟨rfl, fun j hj => ?_⟩)
      by_cases z : j = i
      · rw [z]; exact k
      · exact hs j (by omega)
  · refine t8_inRf ?_ (bq0 (H5 ht h24))
    rw [lit_2, lit_4, nv_le (by omega) (by omega), nv_le (by omega) (by omega)]; exact h24
theorem t9_plied {T : Tb} (hT : okT T) {r r0 : zz_Hp} (hr : RT T r0) (hn : yN T < 16) {m : Nat} {A : Nat → Int32} {t l1 : Int32} (e1 : l1 = nI m) (hf : ∀ k, k ≠ 2 → r.1 k = r0.1 k) (h2 : ∀ k, k < 4 * yN T → r.1 2 k = r0.1 2 k) (hA : ∀ i, i < m → r.1 2 (4 * yN T + i) = nI (pQ A i)) {Q : Int32 → zz_Hp → Prop}
    (H : ∀ r', (∀ k, 7 ≤ k → r'.1 k = r0.1 k) → (∀ j, j ≠ 0 → r'.1 0 j = r0.1 0 j) → RT (plT T A m t) r' → Q (nI (yN T)) r') : w_X9_plied l1 t r Q := by
  subst e1
  unfold w_X9_plied
  have g0 : r.1 0 0 = nI (yN T) := by rw [hf 0 (by decide)]; exact hr.1
  have hi : vp_in (nI (yN T)) 16 := nv_in hn (by decide)
  rw [g0, nv_tn (by omega)]
  refine ⟨hi, fun r1 q1 => ?_⟩
  have g1 : r1.1 0 0 = nI (yN T) := by rw [q1, zu_f (by decide)]; exact g0
  rw [g1, nv_tn (by omega)]
  refine ⟨hi, fun r2 q2 => ?_⟩
  have g2 : r2.1 0 0 = nI (yN T) := by rw [q2, zu_f (by decide)]; exact g1
  rw [g2, nv_tn (by omega)]
  refine ⟨hi, fun r3 q3 => ?_⟩
  have g3 : r3.1 0 0 = nI (yN T) := by rw [q3, zu_f (by decide)]; exact g2
  rw [g3, nv_tn (by omega)]
  refine ⟨hi, fun r4 q4 => ?_⟩
  have g4 : r4.1 0 0 = nI (yN T) := by rw [q4, zu_f (by decide)]; exact g3
  rw [g4, nv_tn (by omega)]
  refine ⟨hi, fun r5 q5 => ?_⟩
  have g5 : r5.1 0 0 = nI (yN T) := by rw [q5, zu_f (by decide)]; exact g4
  rw [g5, nv_1]
  intro r6 q6
  have e6 : r6.1 0 0 - 1 = nI (yN T) := by rw [q6, zu_eq ⟨rfl, rfl⟩, lit_1, nv_sub (by omega)]; rfl
  rw [e6]
  subst q6 q5 q4 q3 q2 q1
  refine H _ (fun k hk => ?_) (fun j hj => ?_) ?_
  · rw [zu_f (by omega), zu_f (by omega), zu_f (by omega), zu_f (by omega), zu_f (by omega), zu_f (by omega)]; exact hf k (by omega)
  · simp (disch := omega) only [zu_ne]; rw [hf 0 (by decide)]
  · refine rtF_add hT hr ?_ (fun k hk => ?_) (fun k hk => ?_) (fun k hk => ?_) (fun k hk => ?_) (fun k hk => ?_) (fun k hk => ?_) ?_ ?_ ?_ ?_ ?_ fun i hi => ?_
    · simp (disch := omega) only [zu_eq]
    · simp (disch := omega) only [zu_ne]; rw [hf 1 (by decide)]
    · simp (disch := omega) only [zu_ne]; exact h2 k hk
    · simp (disch := omega) only [zu_ne]; rw [hf 3 (by decide)]
    · simp (disch := omega) only [zu_ne]; rw [hf 4 (by decide)]
    · simp (disch := omega) only [zu_ne]; rw [hf 5 (by decide)]
    · simp (disch := omega) only [zu_ne]; rw [hf 6 (by decide)]
    · simp (disch := omega) only [zu_ne, zu_eq]
    · simp (disch := omega) only [zu_ne, zu_eq]
    · simp (disch := omega) only [zu_ne, zu_eq]
    · simp (disch := omega) only [zu_ne, zu_eq]
    · simp (disch := omega) only [zu_ne, zu_eq]
    · simp (disch := omega) only [zu_ne]; exact hA i hi
theorem eq_ply {c r : zz_Hp} (h : Sim c r) (l1 : Int32) : w_X8_ply l1 c (fun a c' => w_X9_ply l1 r (fun b r' => a = b ∧ Sim c' r')) := by
  obtain ⟨T, h⟩ := h
  have hT := h.1; have hc : CT T c := h.2.1; have hr : RT T r := h.2.2.1; have hn := hT.1
  obtain ⟨m, hm, e1, e2, e3⟩ := h.2.2.2.1
  unfold w_X8_ply
  have hrng : (2 ≤ r.1 0 7) ↔ 2 ≤ m := by rw [e2, lit_2, nv_le (by omega) (by omega)]
  refine t7_addPlied17 hT hc hm e1 (fun k => brt (by decide) (t9_inf k (br0 ⟨rfl, T, h⟩))) (fun k k2 => brt (by decide) (t9_int k (br1 (brf (by rw [hrng]; omega) ⟨rfl, T, h⟩)))) (fun k k2 k3 => absurd (fun i hi => ?_) k3) (fun k k2 k3 k4 => brt (by decide) (t9_int k (br1 (brt (hrng.mpr k2.1) (bnf ?_ ⟨rfl, T, h⟩))))) fun k k2 k3 k4 c1 hf hok hct => brf (nv_lt0 (by omega)) fun c2 q2 => t9_int k (br1 (brt (hrng.mpr k2.1) (bnt ?_ ?_)))
  · obtain ⟨y, a, b, d, _⟩ := e3 i hi
    exact ⟨y, a, b, d⟩
  · rw [hr.1, k4]; rfl
  · rw [hr.1]; intro z; have := nv_inj (by omega) (by omega) (z.trans lit_16); omega
  refine lp_cnt m (fun i s => s.1 = nI i ∧ (∀ k, k ≠ 2 → s.2.1 k = r.1 k) ∧ (∀ k, k < 4 * yN T → s.2.1 2 k = r.1 2 k) ∧ ∀ j, j < i → s.2.1 2 (4 * yN T + j) = nI (pQ (c.1 17) j)) ?_ _ ⟨rfl, fun _ _ => rfl, fun _ _ => rfl, fun j hj => by omega⟩
  intro i s hi hs again hag
  obtain ⟨u, r1⟩ := s
  obtain ⟨hu, g1, g2, g3⟩ := hs
  dsimp only at hu g1 g2 g3
  subst hu
  unfold w_X9_ply_l38
  dsimp only
  rw [g1 0 (by decide), e2, hr.1]
  refine brc (fun e => ?_) fun e => ?_
  · have := nv_end (by omega) (by omega) hi e
    subst this
    refine t9_plied (A := c.1 17) hT hr k4 rfl g1 g2 g3 fun r2 p1 p2 p3 => fun r3 q3 => ⟨rfl, plT T (c.1 17) i l1, ?_⟩
    subst q2 q3
    apply SimT.yarn h
    case n_ok => exact hok
    case n_ct => rw [zu_f (by decide), zu_f (by decide), zu_f (by decide)]; exact hct
    case n_rt => rw [zu_ne (by decide), zu_f (by decide), zu_f (by decide), zu_f (by decide), zu_f (by decide), zu_f (by decide), zu_f (by decide)]; exact p3
    case n_bn => exact ⟨0, by omega, zu_eq ⟨rfl, rfl⟩, zu_eq ⟨rfl, rfl⟩, fun i hi => by omega⟩
    case t_ly => exact lyF_add
    case t_jb => exact jbF_add
    case t_sp => exact spF_add
    all_goals first
      | (rw [zu_f (by decide)]; exact hf _ (by decide) (by decide) (by decide))
      | (rw [zu_ne (by decide)]; exact congrFun (hf _ (by decide) (by decide) (by decide)) _)
      | (rw [zu_f (by decide)]; exact p1 _ (by decide))
      | (rw [zu_ne (by decide)]; exact p2 _ (by decide))
  · have hlt := nv_nle (by omega) (by omega) e
    have e4 : 4 * nI (yN T) + nI i = nI (4 * yN T + i) := by rw [lit_4, nv_mul, nv_add]
    rw [e4, nv_tn (by omega), nv_tn (by omega), nv_1, g1 7 (by decide)]
    refine ⟨nv_in (by omega) (by decide), nv_in (by omega) (by decide), fun r2 q2 => hag hlt _ ⟨rfl, fun k hk => ?_, fun k hk => ?_, fun j hj => ?_⟩⟩
    · dsimp only; rw [q2, zu_f hk]; exact g1 k hk
    · dsimp only; rw [q2]; simp (disch := omega) only [zu_ne]; exact g2 k hk
    · dsimp only; rw [q2]
      by_cases z : j = i
      · subst z
        simp (disch := omega) only [zu_eq]
        obtain ⟨y, a, b, d, d'⟩ := e3 j hlt
        unfold pQ
        rw [d, d', nv_tn (by omega)]
      · simp (disch := omega) only [zu_ne]; exact g3 j (by omega)
