/-! rows: row, put, get, film -/
theorem SimT.rw {T : Tb} {c c' r r' : zz_Hp} (e1 : ∀ k, (k < 24 ∨ k = 26) → k ≠ 22 → k ≠ 23 → c'.1 k = c.1 k) (e2 : c'.1 24 0 = c.1 24 0) (e3 : ∀ k, 1 ≤ k → k ≤ 30 → k ≠ 17 → k ≠ 18 → r'.1 k = r.1 k) (e4 : ∀ j, j < 40 → r'.1 0 j = r.1 0 j) (tl : rwF (c'.1 22) (c'.1 23) (r'.1 17) (r'.1 18)) (h : SimT T c r) : SimT T c' r' := by
  have h0 : SimT T (fun k => if k = 22 then c.1 22 else if k = 23 then c.1 23 else c'.1 k, c'.2) (fun k => if k = 17 then r.1 17 else if k = 18 then r.1 18 else r'.1 k, r'.2) := by
    refine SimT_r ⟨fun k h1 h2 => ?_, fun j hj => ?_⟩ (SimT_c ⟨fun k hk => ?_, ?_⟩ h)
    · show (if k = 17 then r.1 17 else if k = 18 then r.1 18 else r'.1 k) = r.1 k
      by_cases w : k = 17
      · rw [if_pos w, w]
      · rw [if_neg w]
        by_cases w2 : k = 18
        · rw [if_pos w2, w2]
        · rw [if_neg w2]; exact e3 k h1 h2 w w2
    · show r'.1 0 j = r.1 0 j
      exact e4 j hj
    · show (if k = 22 then c.1 22 else if k = 23 then c.1 23 else c'.1 k) = c.1 k
      by_cases w : k = 22
      · rw [if_pos w, w]
      · rw [if_neg w]
        by_cases w2 : k = 23
        · rw [if_pos w2, w2]
        · rw [if_neg w2]; exact e1 k hk w w2
    · show c'.1 24 0 = c.1 24 0
      exact e2
  obtain ⟨a1, a2, a3, a4, a5, a6, a7, a8, -, a10, a11⟩ := h0
  exact ⟨a1, a2, a3, a4, a5, a6, a7, a8, tl, a10, a11⟩
/-- row k becomes f 0 .. f (n - 1), its size v: cells a (sizes), b (places) -/
def roU (a b : Nat) (c c' : zz_Hp) (k : Nat) (v : Int32) (n : Nat) (f : Nat → Int32) : Prop := (∀ q, q ≠ k → c'.1 a q = c.1 a q) ∧ c'.1 a k = v ∧ (∀ i, i < n → c'.1 b (40 * k + i) = f i) ∧ (∀ q, (q < 40 * k ∨ 40 * k + n ≤ q) → c'.1 b q = c.1 b q)
theorem rwF_roU {c c' r r' : zz_Hp} (h : rwF (c.1 22) (c.1 23) (r.1 17) (r.1 18)) {k n : Nat} {v : Int32} {f : Nat → Int32} (hk : k < 3) (hn : n ≤ 40) (hv : v = nI n ∨ v = -1) (h1 : roU 22 23 c c' k v n f) (h2 : roU 17 18 r r' k v n f) : rwF (c'.1 22) (c'.1 23) (r'.1 17) (r'.1 18) := by
  intro q hq
  obtain ⟨a1, a2, a3, a4⟩ := h1
  obtain ⟨b1, b2, b3, b4⟩ := h2
  by_cases e : q = k
  · subst e
    rw [a2, b2]
    refine ⟨rfl, ?_, fun i hi hlt => ?_⟩
    · rcases hv with rfl | rfl
      · constructor
        · rw [iv_le, nv_toInt (by omega), show (-1 : Int32).toInt = -1 by decide]; omega
        · rw [lit_40, nv_le (by omega) (by omega)]; omega
      · decide
    · rcases hv with rfl | rfl
      · rw [nv_lt (by omega) (by omega)] at hlt
        rw [a3 i hlt, b3 i hlt]
      · rw [iv_lt, nv_toInt (by omega), show (-1 : Int32).toInt = -1 by decide] at hlt
        omega
  · rw [a1 q e, b1 q e]
    obtain ⟨g1, g2, g3⟩ := h q hq
    refine ⟨g1, g2, fun i hi hlt => ?_⟩
    rw [a4 _ (by omega), b4 _ (by omega)]; exact g3 i hi hlt
theorem ix_40 {a w : Nat} : (nI a * 40) + nI w = nI (40 * a + w) := by
  rw [lit_40, nv_mul, nv_add]; congr 1; omega
theorem ix_40' {a w : Nat} : (40 * nI a) + nI w = nI (40 * a + w) := by
  rw [lit_40, nv_mul, nv_add]
theorem t3_hast {c : zz_Hp} {k : Nat} {l : Int32} (e : l = nI k) (hk : k < 3) {Q : Int32 → zz_Hp → Prop} (H : Q 1 c) : w_X3_has l c Q := by
  subst e
  refine brf (nv_lt0 (by omega)) (brf ?_ H)
  rw [lit_3, nv_le (by omega) (by omega)]; omega
theorem t3_hasf {c : zz_Hp} {l : Int32} (e : ¬ (0 ≤ l ∧ l ≤ 2)) {Q : Int32 → zz_Hp → Prop} (H : Q 0 c) : w_X3_has l c Q := by
  refine brc (fun _ => H) fun e0 => brt ?_ H
  have h0 := Int32.not_lt.mp e0
  have h2 : ¬ l ≤ 2 := fun w => e ⟨h0, w⟩
  rw [iv_le, show (2 : Int32).toInt = 2 by decide] at h2
  rw [iv_le, show (3 : Int32).toInt = 3 by decide]; omega
theorem rcase (l : Int32) : ¬ (0 ≤ l ∧ l ≤ 2) ∨ ∃ k, k < 3 ∧ l = nI k ∧ (0 ≤ l ∧ l ≤ 2) := by
  by_cases h : 0 ≤ l ∧ l ≤ 2
  · refine Or.inr ?_
    obtain ⟨k, hk, e⟩ := nv_ex (n := 3) (x := l) (by decide) (Int32.not_lt.mpr h.1) (fun q => by
      have := iv_le.mp (Int32.le_trans q h.2)
      revert this; decide)
    exact ⟨k, hk, e, h⟩
  · exact Or.inl h
theorem t3_write {c : zz_Hp} {k i : Nat} {l m v : Int32} (e : l = nI k) (em : m = nI i) (hk : k < 3) (hi : i < 40) {Q : zz_Hp → Prop} (H : Q (zz_uI c 23 (40 * k + i) v)) : w_X3_write l m v c Q := by
  subst e; subst em
  unfold w_X3_write
  rw [ix_40, nv_tn (by omega)]
  exact ⟨nv_in (by omega) (by decide), fun _ e => e ▸ H⟩
theorem t3_renew {c : zz_Hp} {k n : Nat} {l v : Int32} (e : l = nI k) (hk : k < 3) (hn : n ≤ 40) (hv : v = nI n ∨ (v = -1 ∧ n = 0)) {Q : zz_Hp → Prop} (H : ∀ c', (∀ j, j ≠ 22 → j ≠ 23 → c'.1 j = c.1 j) → roU 22 23 c c' k v n (fun _ => 0) → Q c') : w_X3_renew l v c Q := by
  subst e
  unfold w_X3_renew
  rw [nv_tn (by omega)]
  refine ⟨nv_in hk (by decide), fun c1 e1 => ?_⟩
  refine lp_cnt n (fun i s => s.1 = nI i ∧ (∀ j, j ≠ 22 → j ≠ 23 → s.2.1 j = c.1 j) ∧ roU 22 23 c s.2 k v i (fun _ => 0)) ?_ _ ⟨rfl, fun j h1 h2 => by dsimp only; rw [e1, zu_f h1], ⟨fun q hq => by dsimp only; rw [e1, zu_ne (Or.inr hq)], by dsimp only; rw [e1, zu_eq ⟨rfl, rfl⟩], fun i hi => by omega, fun q _ => by dsimp only; rw [e1, zu_ne (Or.inl (by decide))]⟩⟩
  intro i s hi hs again hag
  obtain ⟨u, c2⟩ := s
  obtain ⟨hu, hf, h1, h2, h3, h4⟩ := hs
  dsimp only at hu hf h1 h2 h3 h4
  subst hu
  unfold w_X3_renew_l9
  dsimp only
  have hend : v ≤ nI i ↔ n ≤ i := by
    rcases hv with rfl | ⟨rfl, rfl⟩
    · exact nv_le (by omega) (by omega)
    · rw [iv_le, nv_toInt (by omega), show (-1 : Int32).toInt = -1 by decide]; omega
  refine brc (fun e => ?_) fun e => ?_
  · rw [hend] at e
    have : i = n := by omega
    subst this
    exact H _ hf ⟨h1, h2, h3, h4⟩
  · rw [hend] at e
    refine t3_write rfl rfl hk (by omega) ?_
    rw [nv_1]
    refine hag (by omega) _ ⟨rfl, fun j a1 a2 => by dsimp only; rw [zu_f a2]; exact hf j a1 a2, fun q hq => by dsimp only; rw [zu_ne (Or.inl (by decide))]; exact h1 q hq, by dsimp only; rw [zu_ne (Or.inl (by decide))]; exact h2, fun j hj => ?_, fun q hq => ?_⟩
    · dsimp only
      by_cases w : j = i
      · rw [zu_eq ⟨rfl, by omega⟩]
      · rw [zu_ne (Or.inr (by omega))]; exact h3 j (by omega)
    · dsimp only; rw [zu_ne (Or.inr (by omega))]; exact h4 q (by omega)
theorem eq_row {c r : zz_Hp} (h : Sim c r) (l1 l2 : Int32) : w_X8_row l1 l2 c (fun a c' => w_X9_row l1 l2 r (fun b r' => a = b ∧ Sim c' r')) := by
  obtain ⟨T, h⟩ := h
  rcases rcase l1 with hr | ⟨k, hk, rfl, hr⟩
  · exact t3_hasf hr (bq0 (t9_inf hr (bq0 ⟨rfl, T, h⟩)))
  · refine t3_hast rfl hk (bq1 ?_)
    refine brc (fun e => ?_) fun e => ?_
    · rcases Int32.lt_or_le (-1) l2 with w | w
      · obtain ⟨n, hn, rfl⟩ : ∃ n, n < 41 ∧ l2 = nI n := by
          refine nv_ex (by omega) (fun z => ?_) fun z => ?_
          · rw [iv_lt, show (-1 : Int32).toInt = -1 by decide] at w
            rw [iv_lt, show (0 : Int32).toInt = 0 by decide] at z
            omega
          · have := (nv_le (a := 41) (b := 40) (by omega) (by omega)).mp (Int32.le_trans z e)
            omega
        refine brt (Int32.le_of_lt w) (t3_renew rfl hk (by omega) (Or.inl rfl) fun c1 hf hu => ?_)
        refine t9_int hr (bq1 (brt e (brt (Int32.le_of_lt w) ?_)))
        rw [nv_tn (by omega)]
        refine ⟨nv_in hk (by decide), fun r1 e1 => ?_⟩
        refine lp_cnt n (fun i s => s.1 = nI i ∧ (∀ j, j ≠ 17 → j ≠ 18 → s.2.1 j = r.1 j) ∧ roU 17 18 r s.2 k (nI n) i (fun _ => 0)) ?_ _ ⟨rfl, fun j h1 h2 => by dsimp only; rw [e1, zu_f h1], ⟨fun q hq => by dsimp only; rw [e1, zu_ne (Or.inr hq)], by dsimp only; rw [e1, zu_eq ⟨rfl, rfl⟩], fun i hi => by omega, fun q _ => by dsimp only; rw [e1, zu_ne (Or.inl (by decide))]⟩⟩
        intro i s hi hs again hag
        obtain ⟨u, r2⟩ := s
        obtain ⟨hu2, hf2, h1, h2, h3, h4⟩ := hs
        dsimp only at hu2 hf2 h1 h2 h3 h4
        subst hu2
        unfold w_X9_row_l34
        dsimp only
        refine brc (fun e => ?_) fun e => ?_
        · have := nv_end (by omega) (by omega) hi e
          subst this
          exact ⟨rfl, T, SimT.rw (fun k _ a b => hf k a b) (by rw [hf 24 (by decide) (by decide)]) (fun k _ _ a b => hf2 k a b) (fun j _ => by rw [hf2 0 (by decide) (by decide)]) (rwF_roU h.2.2.2.2.2.2.2.2.1 hk (by omega) (Or.inl rfl) hu ⟨h1, h2, h3, h4⟩) h⟩
        · have hlt := nv_nle (by omega) (by omega) e
          rw [ix_40', nv_tn (by omega), nv_1]
          refine ⟨nv_in (by omega) (by decide), fun r3 e3 => hag hlt _ ⟨rfl, fun j a1 a2 => by dsimp only; rw [e3, zu_f a2]; exact hf2 j a1 a2, fun q hq => by dsimp only; rw [e3, zu_ne (Or.inl (by decide))]; exact h1 q hq, by dsimp only; rw [e3, zu_ne (Or.inl (by decide))]; exact h2, fun j hj => ?_, fun q hq => ?_⟩⟩
          · dsimp only; rw [e3]
            by_cases w : j = i
            · rw [zu_eq ⟨rfl, by omega⟩]
            · rw [zu_ne (Or.inr (by omega))]; exact h3 j (by omega)
          · dsimp only; rw [e3, zu_ne (Or.inr (by omega))]; exact h4 q (by omega)
      · rcases Int32.lt_or_le l2 (-1) with w2 | w2
        · refine brf (Int32.not_le.mpr w2) (t9_int hr (bq1 (brt e (brf (Int32.not_le.mpr w2) ⟨rfl, T, h⟩))))
        · have el : l2 = -1 := Int32.le_antisymm w w2
          subst el
          refine brt w2 (t3_renew (n := 0) rfl hk (by omega) (Or.inr ⟨rfl, rfl⟩) fun c1 hf hu => ?_)
          refine t9_int hr (bq1 (brt e (brt w2 ?_)))
          rw [nv_tn (by omega)]
          refine ⟨nv_in hk (by decide), fun r1 e1 => ?_⟩
          refine lp_cnt 0 (fun i s => s = (nI 0, r1)) ?_ _ rfl
          intro i s hi hs again hag
          subst hs
          unfold w_X9_row_l34
          dsimp only
          refine brt (by decide) ⟨rfl, T, SimT.rw (fun k _ a b => hf k a b) (by rw [hf 24 (by decide) (by decide)]) (fun k _ _ a b => by rw [e1, zu_f a]) (fun j _ => by rw [e1, zu_ne (Or.inl (by decide))]) (rwF_roU h.2.2.2.2.2.2.2.2.1 hk (by omega) (Or.inr rfl) hu ⟨fun q hq => by rw [e1, zu_ne (Or.inr hq)], by rw [e1, zu_eq ⟨rfl, rfl⟩], fun i hi => by omega, fun q _ => by rw [e1, zu_ne (Or.inl (by decide))]⟩) h⟩
    · exact t9_int hr (bq1 (brf e ⟨rfl, T, h⟩))
theorem szcase {v : Int32} (h : -1 ≤ v ∧ v ≤ 40) : v = -1 ∨ ∃ n, n < 41 ∧ v = nI n := by
  rcases Int32.lt_or_le (-1) v with w | w
  · refine Or.inr (nv_ex (by omega) (fun z => ?_) fun z => ?_)
    · rw [iv_lt, show (-1 : Int32).toInt = -1 by decide] at w
      rw [iv_lt, show (0 : Int32).toInt = 0 by decide] at z
      omega
    · have := (nv_le (a := 41) (b := 40) (by omega) (by omega)).mp (Int32.le_trans z h.2)
      omega
  · exact Or.inl (Int32.le_antisymm w h.1)
/-- a place of a row, in both -/
theorem t3_hasPlace {c : zz_Hp} {k : Nat} {l : Int32} (e : l = nI k) (hk : k < 3) {m : Int32} {Q : Int32 → zz_Hp → Prop} (hz : -1 ≤ c.1 22 k ∧ c.1 22 k ≤ 40) (H1 : ∀ i, i < 40 → m = nI i → nI i < c.1 22 k → Q 1 c) (H0 : (m < 0 ∨ c.1 22 k ≤ m) → Q 0 c) : w_X3_hasPlace l m c Q := by
  subst e
  refine brc (fun e => H0 (Or.inl e)) fun e => ⟨nv_in hk (by decide), ?_⟩
  rw [nv_tn (by omega)]
  refine brc (fun e2 => H0 (Or.inr e2)) fun e2 => ?_
  rcases szcase hz with w | ⟨n, hn, w⟩
  · rw [w] at e2
    refine absurd ?_ e2
    have := Int32.not_lt.mp e
    rw [iv_le, show (0 : Int32).toInt = 0 by decide] at this
    rw [iv_le, show (-1 : Int32).toInt = -1 by decide]; omega
  · rw [w] at e2
    obtain ⟨i, hi, rfl⟩ := nv_ex (by omega) e e2
    refine H1 i (by omega) rfl ?_
    rw [w, nv_lt (by omega) (by omega)]; exact hi
theorem t9_placet {r : zz_Hp} {k i : Nat} {l m : Int32} (e : m = nI i) (hi : i < 40) (hz : -1 ≤ r.1 17 k ∧ r.1 17 k ≤ 40) (hlt : nI i < r.1 17 k) {Q : Int32 → zz_Hp → Prop} (H : Q 1 r) : w_X9_in m 0 (r.1 17 k - 1) r Q := by
  rcases szcase hz with w | ⟨n, hn, w⟩
  · rw [w, iv_lt, nv_toInt (by omega), show (-1 : Int32).toInt = -1 by decide] at hlt
    omega
  · rw [w, nv_lt (by omega) (by omega)] at hlt
    exact t9_idxt n i w (by omega) hlt e H
theorem t9_placef {r : zz_Hp} {k : Nat} {m : Int32} (hz : -1 ≤ r.1 17 k ∧ r.1 17 k ≤ 40) (e : m < 0 ∨ r.1 17 k ≤ m) {Q : Int32 → zz_Hp → Prop} (H : Q 0 r) : w_X9_in m 0 (r.1 17 k - 1) r Q := by
  rcases szcase hz with w | ⟨n, hn, w⟩
  · rw [w]
    refine t9_inf (fun q => ?_) H
    have := iv_le.mp (Int32.le_trans q.1 q.2)
    revert this; decide
  · rw [w] at e
    exact t9_idxf n w (by omega) e H
theorem eq_get {c r : zz_Hp} (h : Sim c r) (l1 l2 : Int32) : w_X8_get l1 l2 c (fun a c' => w_X9_get l1 l2 r (fun b r' => a = b ∧ Sim c' r')) := by
  obtain ⟨T, h⟩ := h
  rcases rcase l1 with hr | ⟨k, hk, rfl, hr⟩
  · exact t3_hasf hr (bq0 (t9_inf hr (bq0 ⟨rfl, T, h⟩)))
  · obtain ⟨g1, g2, g3⟩ := h.2.2.2.2.2.2.2.2.1 k hk
    have g2' : -1 ≤ r.1 17 k ∧ r.1 17 k ≤ 40 := by rw [← g1]; exact g2
    refine t3_hast rfl hk (bq1 (t3_hasPlace rfl hk g2 (fun i hi e hlt => bq1 ?_) fun e => bq0 ?_))
    · subst e
      unfold w_X3_placeAt
      rw [ix_40, nv_tn (by omega)]
      refine ⟨nv_in (by omega) (by decide), t9_int hr (bq1 ⟨nv_in hk (by decide), ?_⟩)⟩
      rw [nv_tn (show k < 2147483648 by omega)]
      refine t9_placet (l := 0) rfl hi g2' (by rw [← g1]; exact hlt) (bq1 ?_)
      rw [ix_40', nv_tn (by omega)]
      exact ⟨nv_in (by omega) (by decide), g3 i hi hlt, T, h⟩
    · refine t9_int hr (bq1 ⟨nv_in hk (by decide), ?_⟩)
      rw [nv_tn (by omega)]
      exact t9_placef g2' (by rw [← g1]; exact e) (bq0 ⟨rfl, T, h⟩)
theorem eq_put {c r : zz_Hp} (h : Sim c r) (l1 l2 l3 : Int32) : w_X8_put l1 l2 l3 c (fun a c' => w_X9_put l1 l2 l3 r (fun b r' => a = b ∧ Sim c' r')) := by
  obtain ⟨T, h⟩ := h
  rcases rcase l1 with hr | ⟨k, hk, rfl, hr⟩
  · exact t3_hasf hr (br0 (t9_inf hr (br0 ⟨rfl, T, h⟩)))
  · have hrw := h.2.2.2.2.2.2.2.2.1
    obtain ⟨g1, g2, g3⟩ := hrw k hk
    have g2' : -1 ≤ r.1 17 k ∧ r.1 17 k ≤ 40 := by rw [← g1]; exact g2
    have hki : vp_in (nI k) 3 := nv_in hk (by decide)
    have hkn : (nI k).toNatClampNeg = k := nv_tn (by omega)
    refine t3_hast rfl hk (br1 ?_)
    unfold w_X3_isMissing
    rw [hkn]
    refine ⟨hki, brc (fun e => bq0 (t3_hasPlace rfl hk g2 (fun i hi e2 hlt => br1 ?_) fun e2 => br0 ?_)) fun e => bq1 ?_⟩
    · subst e2
      refine t3_write rfl rfl hk hi (t9_int hr (br1 ?_))
      rw [hkn]
      refine ⟨hki, brt (by rw [← g1]; exact e) ⟨hki, t9_placet (l := 0) rfl hi g2' (by rw [← g1]; exact hlt) (br1 ?_)⟩⟩
      rw [ix_40', nv_tn (by omega)]
      refine ⟨nv_in (by omega) (by decide), fun r1 e1 => ⟨rfl, T, SimT.rw (fun q _ a b => zu_f b) (by rw [zu_ne (Or.inl (by decide))]) (fun q _ _ a b => by rw [e1, zu_f b]) (fun j _ => by rw [e1, zu_ne (Or.inl (by decide))]) ?_ h⟩⟩
      intro q hq
      obtain ⟨f1, f2, f3⟩ := hrw q hq
      rw [zu_f (by decide), e1, zu_f (by decide)]
      refine ⟨f1, f2, fun j hj hlj => ?_⟩
      by_cases w : 40 * q + j = 40 * k + i
      · rw [zu_eq ⟨rfl, w⟩, zu_eq ⟨rfl, w⟩]
      · rw [zu_ne (Or.inr w), zu_ne (Or.inr w)]; exact f3 j hj hlj
    · refine t9_int hr (br1 ?_)
      rw [hkn]
      refine ⟨hki, brt (by rw [← g1]; exact e) ⟨hki, t9_placef g2' (by rw [← g1]; exact e2) (br0 ⟨rfl, T, h⟩)⟩⟩
    · refine t9_int hr (br1 ?_)
      rw [hkn]
      exact ⟨hki, brf (by rw [← g1]; exact e) ⟨rfl, T, h⟩⟩
theorem eq_film {c r : zz_Hp} (h : Sim c r) (l1 l2 l3 l4 : Int32) : w_X8_film l1 l2 l3 l4 c (fun a c' => w_X9_film l1 l2 l3 l4 r (fun b r' => a = b ∧ Sim c' r')) := by
  obtain ⟨T, h⟩ := h
  have hT := h.1; have hc : CT T c := h.2.1; have hrt : RT T r := h.2.2.1; have hn := hT.1
  rcases rcase l1 with hr | ⟨k, hk, rfl, hr⟩
  · exact t3_hasf hr (bq0 (t9_inf hr (bq0 ⟨rfl, T, h⟩)))
  · refine t3_hast rfl hk (bq1 ?_)
    by_cases h2 : 0 ≤ l2 ∧ l2 ≤ 40
    · refine t8_inRt h2 (bq1 ?_)
      obtain ⟨n, hn4, rfl⟩ : ∃ n, n < 41 ∧ l2 = nI n := by
        refine nv_ex (by omega) (Int32.not_lt.mpr h2.1) fun z => ?_
        have := (nv_le (a := 41) (b := 40) (by omega) (by omega)).mp (Int32.le_trans z h2.2)
        omega
      rcases ycase (yN T) (by omega) l3 with hl | ⟨y, hy, rfl⟩
      · exact t7_hasf (yN T) hc.1 hl (bq0 (t9_int hr (bq1 (t9_int h2 (bq1 (t9_isYf (yN T) hrt.1 hn hl (bq0 ⟨rfl, T, h⟩)))))))
      · refine t7_hast (yN T) y hc.1 hn hy rfl (bq1 ?_)
        rcases ycase (yN T) (by omega) l4 with hl | ⟨a, ha, rfl⟩
        · exact t7_hasf (yN T) hc.1 hl (br0 (t9_int hr (bq1 (t9_int h2 (bq1 (t9_isYt (yN T) y hrt.1 hn hy rfl (bq1 (t9_isYf (yN T) hrt.1 hn hl (br0 ⟨rfl, T, h⟩)))))))))
        · refine t7_hast (yN T) a hc.1 hn ha rfl (br1 ?_)
          by_cases hb : ((bt (yP T) (yQ T) 5 y >>> (nI a &&& 31)) &&& 1) = 1
          · refine t7_isInside (a := a) hT hc rfl hy (fun _ => br1 ?_) fun w => absurd hb w
            refine t6_walk hT hc rfl hy fun c1 hf hw => t3_renew rfl hk (by omega) (Or.inl rfl) fun c2 hf2 hu2 => ?_
            have hki : vp_in (nI k) 3 := nv_in hk (by decide)
            have hkn : (nI k).toNatClampNeg = k := nv_tn (by omega)
            have hai : vp_in (nI a) 16 := nv_in (by omega) (by decide)
            have hat : (nI a).toNatClampNeg = a := nv_tn (by omega)
            -- the walk's cells and the yarns stay
            have keep : ∀ c3 : zz_Hp, (∀ j, j ≠ 22 → j ≠ 23 → c3.1 j = c1.1 j) → CT T c3 ∧ WE T y (nI a) c3 := by
              intro c3 h3
              refine ⟨?_, ?_⟩
              · unfold CT; rw [h3 2 (by decide) (by decide), h3 3 (by decide) (by decide), h3 4 (by decide) (by decide)]; exact CT_fW hf hc
              · obtain ⟨s, Y, R, hq⟩ := hw
                refine ⟨s, Y, R, ?_⟩
                unfold WQ rtn at hq ⊢
                rw [h3 27 (by decide) (by decide), h3 28 (by decide) (by decide), h3 29 (by decide) (by decide), h3 30 (by decide) (by decide), h3 31 (by decide) (by decide), h3 32 (by decide) (by decide)]
                exact hq
            refine lp_cnt n (fun i s => s.1 = nI i ∧ (∀ j, j ≠ 22 → j ≠ 23 → s.2.1 j = c1.1 j) ∧ s.2.1 22 = c2.1 22 ∧ (∀ q, q < i → s.2.1 23 (40 * k + q) = tq (Tat T (nI a) (nI q)) 5 y 0) ∧ (∀ q, (q < 40 * k ∨ 40 * k + n ≤ q) → s.2.1 23 q = c1.1 23 q)) ?_ _ ⟨rfl, hf2, rfl, fun q hq => by omega, hu2.2.2.2⟩
            intro i s hi hs again hag
            obtain ⟨u, c3⟩ := s
            obtain ⟨hu, hf3, h22, h23, h23o⟩ := hs
            dsimp only at hu hf3 h22 h23 h23o
            subst hu
            unfold w_X8_film_l100
            dsimp only
            refine brc (fun e => ?_) fun e => ?_
            · have := nv_end (by omega) (by omega) hi e
              subst this
              -- the reference
              refine t9_int hr (bq1 (t9_int h2 (bq1 (t9_isYt (yN T) y hrt.1 hn hy rfl (bq1 (t9_isYt (yN T) a hrt.1 hn ha rfl (br1 (t9_isIn hT hrt rfl hy (fun _ => br1 ?_) fun w => absurd hb w))))))))
              rw [hkn, hat]
              refine ⟨hki, fun r1 e1 => ⟨hai, ?_⟩⟩
              have f5 : r1.1 5 = r.1 5 := by rw [e1, zu_f (by decide)]
              rw [f5]
              refine lp_cnt i (fun j s => s.1 = nI j ∧ (∀ q, q ≠ 5 → q ≠ 17 → q ≠ 18 → s.2.1 q = r.1 q) ∧ (∀ q, q ≠ a → s.2.1 5 q = r.1 5 q) ∧ s.2.1 17 = r1.1 17 ∧ (∀ q, q < j → s.2.1 18 (40 * k + q) = tq (Tat T (nI a) (nI q)) 5 y 0) ∧ (∀ q, (q < 40 * k ∨ 40 * k + i ≤ q) → s.2.1 18 q = r.1 18 q)) ?_ _ ⟨rfl, fun q _ q2 _ => by dsimp only; rw [e1, zu_f q2], fun q _ => by dsimp only; rw [f5], rfl, fun q hq => by omega, fun q _ => by dsimp only; rw [e1, zu_ne (Or.inl (by decide))]⟩
              intro j s hj hs again hag
              obtain ⟨u, r2⟩ := s
              obtain ⟨hu, k1, k2, k3, k4, k5⟩ := hs
              dsimp only at hu k1 k2 k3 k4 k5
              subst hu
              unfold w_X9_film_l70
              dsimp only
              rw [hat]
              refine brc (fun e => ⟨hai, fun r3 e3 => ⟨rfl, T, SimT.rw (fun q hq a1 a2 => ?_) ?_ (fun q q1 q2 a1 a2 => ?_) (fun q _ => ?_) (rwF_roU h.2.2.2.2.2.2.2.2.1 hk (by omega) (Or.inl rfl) (v := nI i) (n := i) (f := fun q => tq (Tat T (nI a) (nI q)) 5 y 0) ⟨fun q hq => ?_, ?_, h23, fun q hq => ?_⟩ ⟨fun q hq => ?_, ?_, fun q hq => ?_, fun q hq => ?_⟩) h⟩⟩) fun e => ?_
              · rw [hf3 q a1 a2]; exact hf q (by omega)
              · rw [hf3 24 (by decide) (by decide)]; rw [hf 24 (by omega)]
              · by_cases w : q = 5
                · subst w
                  funext z
                  rw [e3]
                  by_cases z2 : z = a
                  · rw [zu_eq ⟨rfl, z2⟩, z2]
                  · rw [zu_ne (Or.inr z2)]; exact k2 z z2
                · rw [e3, zu_f w]; exact k1 q w a1 a2
              · rw [e3, zu_ne (Or.inl (by decide)), k1 0 (by decide) (by decide) (by decide)]
              · rw [h22, hu2.1 q hq, hf 22 (by omega)]
              · rw [h22, hu2.2.1]
              · rw [h23o q hq, hf 23 (by omega)]
              · rw [e3, zu_f (by decide), k3, e1, zu_ne (Or.inr hq)]
              · rw [e3, zu_f (by decide), k3, e1, zu_eq ⟨rfl, rfl⟩]
              · have := nv_end (by omega) (by omega) hj e
                rw [e3, zu_f (by decide)]; exact k4 q (by omega)
              · rw [e3, zu_f (by decide)]; exact k5 q hq
              · have hlt := nv_nle (by omega) (by omega) e
                refine ⟨hai, fun r3 e3 => ?_⟩
                have hok : okV 0 (nI j) := okV0_of (by rw [nv_toInt (by omega)]; omega) (by rw [nv_toInt (by omega)]; omega)
                have hr3 : RT (Tat T (nI a) (nI j)) r3 := by
                  refine atS.rt (r := r) hT hrt ha (r' := ((fun q => if q = 17 then r.1 17 else if q = 18 then r.1 18 else r3.1 q), r3.2)) ⟨fun q hq => ?_, fun q hq => ?_, ?_⟩
                  · show (if q = 17 then r.1 17 else if q = 18 then r.1 18 else r3.1 q) = r.1 q
                    by_cases w : q = 17
                    · rw [if_pos w, w]
                    · rw [if_neg w]
                      by_cases w2 : q = 18
                      · rw [if_pos w2, w2]
                      · rw [if_neg w2, e3, zu_f hq]; exact k1 q hq w w2
                  · show r3.1 5 q = r.1 5 q
                    rw [e3, zu_ne (Or.inr hq)]; exact k2 q hq
                  · show r3.1 5 a = nI j
                    rw [e3, zu_eq ⟨rfl, rfl⟩]
                refine t9_torqueOf (okT_Tat hT hok) hr3 rfl hy ?_
                rw [ix_40', nv_tn (by omega), nv_1]
                refine ⟨nv_in (by omega) (by decide), fun r4 e4 => hag hlt _ ⟨rfl, fun q a1 a2 a3 => ?_, fun q hq => ?_, ?_, fun q hq => ?_, fun q hq => ?_⟩⟩
                · dsimp only; rw [e4, zu_f a3, e3, zu_f a1]; exact k1 q a1 a2 a3
                · dsimp only; rw [e4, zu_ne (Or.inl (by decide)), e3, zu_ne (Or.inr hq)]; exact k2 q hq
                · dsimp only; rw [e4, zu_f (by decide), e3, zu_f (by decide)]; exact k3
                · dsimp only; rw [e4]
                  by_cases w : q = j
                  · rw [zu_eq ⟨rfl, by omega⟩, w]
                  · rw [zu_ne (Or.inr (by omega)), e3, zu_ne (Or.inl (by decide))]; exact k4 q (by omega)
                · dsimp only; rw [e4, zu_ne (Or.inr (by omega)), e3, zu_ne (Or.inl (by decide))]; exact k5 q hq
            · have hlt := nv_nle (by omega) (by omega) e
              obtain ⟨hc3, hw3⟩ := keep c3 hf3
              refine t6_torqueBy hT hc3 hy hw3 (t3_write rfl rfl hk (by omega) ?_)
              rw [nv_1]
              refine hag hlt _ ⟨rfl, fun j a1 a2 => ?_, ?_, fun q hq => ?_, fun q hq => ?_⟩
              · dsimp only; rw [zu_f a2]; exact hf3 j a1 a2
              · dsimp only; rw [zu_f (by decide)]; exact h22
              · dsimp only
                by_cases w : q = i
                · rw [zu_eq ⟨rfl, by omega⟩, w]
                · rw [zu_ne (Or.inr (by omega))]; exact h23 q (by omega)
              · dsimp only; rw [zu_ne (Or.inr (by omega))]; exact h23o q hq
          · exact t7_isInside (a := a) hT hc rfl hy (fun w => absurd w hb) fun _ => br0 (t9_int hr (bq1 (t9_int h2 (bq1 (t9_isYt (yN T) y hrt.1 hn hy rfl (bq1 (t9_isYt (yN T) a hrt.1 hn ha rfl (br1 (t9_isIn hT hrt rfl hy (fun w => absurd w hb) fun _ => br0 ⟨rfl, T, h⟩)))))))))
    · exact t8_inRf h2 (bq0 (t9_int hr (bq1 (t9_inf h2 (bq0 ⟨rfl, T, h⟩)))))
