/-! layers: skew, worst, turned -/
theorem nv_nle {i n : Nat} (hi : i < 2147483648) (hn : n < 2147483648) (e : ¬ nI n ≤ nI i) : i < n := by
  rcases Nat.lt_or_ge i n with q | q
  · exact q
  · exact absurd ((nv_le hn hi).mpr q) e
theorem nv_end {i n : Nat} (hi : i < 2147483648) (hn : n < 2147483648) (h : i ≤ n) (e : nI n ≤ nI i) : i = n := by
  have := (nv_le hn hi).mp e; omega
theorem nv_1 (i : Nat) : nI i + 1 = nI (i + 1) := nv_add i 1
def fV (c c' : zz_Hp) : Prop := ∀ k, k < 27 → c'.1 k = c.1 k
theorem fV.rf {c : zz_Hp} : fV c c := fun _ _ => rfl
theorem fV.tr {a b c : zz_Hp} (h1 : fV a b) (h2 : fV b c) : fV a c := fun k hk => (h2 k hk).trans (h1 k hk)
theorem fV.sC {c c' : zz_Hp} (h : fV c c') : sC c c' := ⟨fun k hk => h k (by omega), by rw [h 24 (by omega)]⟩
theorem fW.fV {c c' : zz_Hp} (h : fW c c') : fV c c' := fun k hk => h k (by omega)
theorem CT_fV {T : Tb} {c c' : zz_Hp} (h : fV c c') (hc : CT T c) : CT T c' := by
  unfold CT; rw [h 2 (by omega), h 3 (by omega), h 4 (by omega)]; exact hc
/-- what a layer adds -/
def skw (T : Tb) (a b w : Nat → Int32) (i : Nat) : Int32 := if w i = 1 then -(tq T 5 (a i).toNatClampNeg 0 * b i) else tq T 5 (a i).toNatClampNeg 0 * b i
def LYy (T : Tb) (m : Nat) (a : Nat → Int32) : Prop := m ≤ 8 ∧ ∀ i, i < m → ∃ y, y < yN T ∧ a i = nI y
section
variable {T : Tb}
theorem t9_skewOf (hT : okT T) {r : zz_Hp} (hr : RT T r) {m i : Nat} (hl : LYy T m (r.1 8)) (hi : i < m) {l : Int32} (e : l = nI i) {Q : Int32 → zz_Hp → Prop} (H : Q (skw T (r.1 8) (r.1 9) (r.1 10) i) r) : w_X9_skewOf l r Q := by
  subst e
  have hn := hT.1
  obtain ⟨y, hy, ey⟩ := hl.2 i hi
  have h8 := hl.1
  have hi8 : vp_in (nI i) 8 := nv_in (by omega) (by decide)
  unfold w_X9_skewOf
  unfold skw at H
  rw [nv_tn (by omega), ey]
  rw [ey, nv_tn (by omega)] at H
  refine ⟨hi8, t9_torqueOf hT hr rfl hy ⟨hi8, hi8, bnc (fun e => ?_) fun e => ?_⟩⟩
  · rwa [if_neg e] at H
  · rwa [if_pos e] at H
theorem t1_at5 {c : zz_Hp} {i k : Nat} {l w : Int32} (e : l = nI i) (ew : w = nI k) (hi : i < 8) (hk : k < 3) {Q : Int32 → zz_Hp → Prop} (H : Q (c.1 6 (3 * i + k)) c) : w_X1_at_5 l w c Q := by
  subst e; subst ew
  unfold w_X1_at_5
  rw [ix_3, nv_tn (by omega)]
  exact ⟨nv_in (by omega) (by decide), H⟩
theorem t8_weigh (hT : okT T) {c : zz_Hp} (hc : CT T c) {m : Nat} {a b w : Nat → Int32} (hm : c.1 5 0 = nI m) (hl : LYy T m a) (hC : ∀ i, i < m → c.1 6 (3 * i + 0) = a i ∧ c.1 6 (3 * i + 1) = b i ∧ c.1 6 (3 * i + 2) = w i) {Q : zz_Hp → Prop}
    (H : ∀ c', fV c c' → c'.1 37 0 = nI m → (∀ i, i < m → c'.1 38 i = skw T a b w i) → Q c') : w_X8_weighLayers c Q := by
  have hn := hT.1
  have h8 := hl.1
  intro c1 e1
  refine lp_cnt m (fun i s => s.1 = nI i ∧ fV c s.2 ∧ s.2.1 37 0 = nI m ∧ ∀ j, j < i → s.2.1 38 j = skw T a b w j) ?_ _ ⟨rfl, fun k hk => by dsimp only; rw [e1, zu_f (by omega)], by dsimp only; rw [e1, zu_eq ⟨rfl, rfl⟩]; exact hm, fun j hj => by omega⟩
  intro i s hi hs again hag
  obtain ⟨j, c2⟩ := s
  obtain ⟨hj, hf, h37, h38⟩ := hs
  dsimp only at hj hf h37 h38
  subst hj
  unfold w_X8_weighLayers_l21
  dsimp only
  rw [hf 5 (by omega), hm]
  refine brc (fun e => ?_) fun e => ?_
  · have := nv_end (by omega) (by omega) hi e
    subst this; exact H _ hf h37 h38
  · have hlt := nv_nle (by omega) (by omega) e
    obtain ⟨y, hy, ey⟩ := hl.2 i hlt
    obtain ⟨q1, q2, q3⟩ := hC i hlt
    refine t1_at5 (k := 0) rfl rfl (by omega) (by omega) ?_
    rw [hf 6 (by omega), q1, ey]
    refine t8_torqueOf hT (CT_fV hf hc) rfl hy fun c3 hw3 _ => ?_
    have hf3 : fV c c3 := hf.tr hw3.fV
    refine t1_at5 (k := 1) rfl rfl (by omega) (by omega) (t1_at5 (k := 2) rfl rfl (by omega) (by omega) ?_)
    rw [hf3 6 (by omega), q2, q3]
    have hi8 : vp_in (nI i) 8 := nv_in (by omega) (by decide)
    have fin : ∀ v : Int32, v = skw T a b w i → ∀ c4, c4 = zz_uI c3 38 i v → again (nI (i + 1), c4) := by
      intro v hv c4 e4
      refine hag hlt _ ⟨rfl, fun k hk => by dsimp only; rw [e4, zu_f (by omega)]; exact hf3 k hk, ?_, fun j hj => ?_⟩
      · dsimp only; rw [e4, zu_ne (Or.inl (by decide)), hw3 37 (by omega)]; exact h37
      · dsimp only; rw [e4]
        by_cases z : j = i
        · rw [zu_eq ⟨rfl, z⟩, hv, z]
        · rw [zu_ne (Or.inr z), hw3 38 (by omega)]; exact h38 j (by omega)
    rw [nv_tn (by omega), nv_1]
    refine bnc (fun e => ⟨hi8, fun c4 e4 => fin _ ?_ c4 e4⟩) fun e => ⟨hi8, fun c4 e4 => fin _ ?_ c4 e4⟩
    · unfold skw; rw [if_neg e, ey, nv_tn (by omega)]
    · unfold skw; rw [if_pos e, ey, nv_tn (by omega)]
/-- sums and the worst of them -/
def wsF (f : Nat → Int32) : Nat → Int32 × Int32
  | 0 => (0, 0)
  | k + 1 => ((wsF f k).1 + f k, if (wsF f k).2 < av ((wsF f k).1 + f k) then av ((wsF f k).1 + f k) else (wsF f k).2)
theorem wsF_congr {f g : Nat → Int32} : ∀ {n : Nat}, (∀ i, i < n → f i = g i) → wsF f n = wsF g n
  | 0, _ => rfl
  | n + 1, h => by simp only [wsF]; rw [wsF_congr (fun i hi => h i (by omega)), h n (by omega)]
theorem wsF_sm {f : Nat → Int32} : ∀ n, (wsF f n).1 = sm f n
  | 0 => rfl
  | n + 1 => by simp only [wsF, sm]; rw [wsF_sm n]
theorem t4_worst {c : zz_Hp} {m : Nat} (hm : c.1 37 0 = nI m) (h8 : m ≤ 8) {Q : Int32 → zz_Hp → Prop} (H : Q (wsF (c.1 38) m).2 c) : w_X4_worstBehind c Q := by
  unfold w_X4_worstBehind
  refine lp_cnt m (fun i s => s = ((wsF (c.1 38) i).1, (wsF (c.1 38) i).2, nI i, c)) ?_ _ rfl
  intro i s hi hs again hag
  subst hs
  unfold w_X4_worstBehind_l6
  dsimp only
  rw [hm]
  refine brc (fun e => ?_) fun e => ?_
  · have := nv_end (by omega) (by omega) hi e
    subst this; exact H
  · have hlt := nv_nle (by omega) (by omega) e
    rw [nv_tn (by omega), lit_1, nv_add, av_abs]
    exact ⟨nv_in (by omega) (by decide), hag hlt _ rfl⟩
theorem t9_worst (hT : okT T) {r : zz_Hp} (hr : RT T r) {m : Nat} (hm : r.1 0 9 = nI m) (hl : LYy T m (r.1 8)) {Q : Int32 → zz_Hp → Prop} (H : Q (wsF (skw T (r.1 8) (r.1 9) (r.1 10)) m).2 r) : w_X9_worst r Q := by
  have h8 := hl.1
  unfold w_X9_worst
  refine lp_cnt m (fun i s => s = ((wsF (skw T (r.1 8) (r.1 9) (r.1 10)) i).2, (wsF (skw T (r.1 8) (r.1 9) (r.1 10)) i).1, nI i, r)) ?_ _ rfl
  intro i s hi hs again hag
  subst hs
  unfold w_X9_worst_l6
  dsimp only
  rw [hm]
  refine brc (fun e => ?_) fun e => ?_
  · have := nv_end (by omega) (by omega) hi e
    subst this; exact H
  · have hlt := nv_nle (by omega) (by omega) e
    refine t9_skewOf hT hr hl hlt rfl (t9_sizeOf (brc (fun e => ?_) fun e => t9_sizeOf ?_))
    · rw [lit_1, nv_add]
      refine hag hlt _ ?_
      simp only [wsF]; rw [if_neg (Int32.not_lt.mpr e)]
    · rw [lit_1, nv_add]
      refine hag hlt _ ?_
      simp only [wsF]; rw [if_pos (Int32.not_le.mp e)]
end
/-- what Sim says of the layers -/
theorem SimT.ly {T : Tb} {c r : zz_Hp} (h : SimT T c r) : ∃ m, m ≤ 8 ∧ c.1 5 0 = nI m ∧ r.1 0 9 = nI m ∧ LYy T m (r.1 8) ∧ (∀ i, i < m → c.1 6 (3 * i + 0) = r.1 8 i ∧ c.1 6 (3 * i + 1) = r.1 9 i ∧ c.1 6 (3 * i + 2) = r.1 10 i) ∧ ∀ i, i < m → (1 ≤ r.1 9 i ∧ r.1 9 i ≤ 40) ∧ (r.1 10 i = 0 ∨ r.1 10 i = 1) := by
  obtain ⟨m, h1, h2, h3, h4⟩ := h.2.2.2.2.1
  exact ⟨m, h1, h2, h3, ⟨h1, fun i hi => (h4 i hi).2.2.2.1⟩, fun i hi => ⟨(h4 i hi).1, (h4 i hi).2.1, (h4 i hi).2.2.1⟩, fun i hi => (h4 i hi).2.2.2.2⟩
theorem eq_skew {c r : zz_Hp} (h : Sim c r) (l1 : Int32) : w_X8_skew l1 c (fun a c' => w_X9_skew l1 r (fun b r' => a = b ∧ Sim c' r')) := by
  obtain ⟨T, h⟩ := h
  have hT := h.1; have hc : CT T c := h.2.1; have hr : RT T r := h.2.2.1; have hn := hT.1
  obtain ⟨m, h8, hm, hm', hly, hC, -⟩ := h.ly
  unfold w_X8_skew w_X9_skew
  rw [hm, hm']
  by_cases hk : 0 ≤ l1 ∧ l1 ≤ nI m
  · obtain ⟨k, hk2, rfl⟩ : ∃ k, k < m + 1 ∧ l1 = nI k := by
      refine nv_ex (by omega) (Int32.not_lt.mpr hk.1) fun q => ?_
      have := (nv_le (a := m + 1) (b := m) (by omega) (by omega)).mp (Int32.le_trans q hk.2)
      omega
    refine t8_inRt hk (br1 (t8_weigh hT hc hm hly hC fun c1 hf h37 h38 => ?_))
    unfold w_X4_behind
    refine lp_cnt k (fun i s => s = (sm (c1.1 38) i, nI i, c1)) ?_ _ rfl
    intro i s hi hs again hag
    subst hs
    unfold w_X4_behind_l4
    dsimp only
    refine brc (fun e => ?_) fun e => ?_
    · have := nv_end (by omega) (by omega) hi e
      subst this
      refine t9_int hk (br1 ?_)
      refine lp_cnt i (fun i s => s = (sm (skw T (r.1 8) (r.1 9) (r.1 10)) i, nI i, r)) ?_ _ rfl
      intro j s hj hs again hag
      subst hs
      unfold w_X9_skew_l19
      dsimp only
      refine brc (fun e => ?_) fun e => ?_
      · have := nv_end (by omega) (by omega) hj e
        subst this
        exact ⟨sm_congr fun i hi => h38 i (by omega), h.both hf.sC sR.rf⟩
      · have hlt := nv_nle (by omega) (by omega) e
        refine t9_skewOf hT hr hly (by omega) rfl ?_
        rw [lit_1, nv_add]; exact hag hlt _ rfl
    · have hlt := nv_nle (by omega) (by omega) e
      rw [h37]
      refine brf (by rw [nv_le (by omega) (by omega)]; omega) ⟨nv_in (by omega) (by decide), ?_⟩
      rw [nv_tn (by omega), lit_1, nv_add]
      exact hag hlt _ rfl
  · exact t8_inRf hk (br0 (t9_inf hk (br0 ⟨rfl, T, h⟩)))
theorem eq_worst {c r : zz_Hp} (h : Sim c r) : w_X8_worst c (fun a c' => w_X9_worst r (fun b r' => a = b ∧ Sim c' r')) := by
  obtain ⟨T, h⟩ := h
  have hT := h.1; have hc : CT T c := h.2.1; have hr : RT T r := h.2.2.1; have hn := hT.1
  obtain ⟨m, h8, hm, hm', hly, hC, -⟩ := h.ly
  refine t8_weigh hT hc hm hly hC fun c1 hf h37 h38 => t4_worst h37 h8 (t9_worst hT hr hm' hly ⟨?_, h.both hf.sC sR.rf⟩)
  rw [wsF_congr h38]
/-- one of them turned -/
def ngN (f : Nat → Int32) (k : Nat) : Nat → Int32 := fun j => if j = k then -f j else f j
def tnF (f : Nat → Int32) (m : Nat) : Nat → Int32 × Int32
  | 0 => (-2, (wsF f m).2)
  | k + 1 => if (tnF f m k).2 ≤ (wsF (ngN f k) m).2 then tnF f m k else (nI k, (wsF (ngN f k) m).2)
theorem tnF_congr {f g : Nat → Int32} {m : Nat} (h : ∀ i, i < m → f i = g i) : ∀ {k : Nat}, k ≤ m → tnF f m k = tnF g m k
  | 0, _ => by simp only [tnF]; rw [wsF_congr h]
  | k + 1, hk => by
    simp only [tnF]
    rw [tnF_congr h (by omega), wsF_congr (f := ngN f k) (g := ngN g k) (fun i hi => by unfold ngN; rw [h i hi])]
theorem eq_turned {c r : zz_Hp} (h : Sim c r) : w_X8_turned c (fun a c' => w_X9_turned r (fun b r' => a = b ∧ Sim c' r')) := by
  obtain ⟨T, h⟩ := h
  have hT := h.1; have hc : CT T c := h.2.1; have hr : RT T r := h.2.2.1; have hn := hT.1
  obtain ⟨m, h8, hm, hm', hly, hC, hwy⟩ := h.ly
  refine t8_weigh hT hc hm hly hC fun c1 hf h37 h38 => ?_
  unfold w_X4_bestToTurn
  refine t4_worst h37 h8 ?_
  refine lp_cnt m (fun i s => s.1 = (tnF (c1.1 38) m i).2 ∧ s.2.1 = (tnF (c1.1 38) m i).1 ∧ s.2.2.1 = nI i ∧ fV c s.2.2.2 ∧ s.2.2.2.1 37 = c1.1 37 ∧ s.2.2.2.1 38 = c1.1 38) ?_ _ ⟨rfl, rfl, rfl, hf, rfl, rfl⟩
  intro i s hi hs again hag
  obtain ⟨u1, u2, u3, c2⟩ := s
  obtain ⟨e1, e2, e3, hf2, g37, g38⟩ := hs
  dsimp only at e1 e2 e3 hf2 g37 g38
  subst e1; subst e2; subst e3
  unfold w_X4_bestToTurn_l10
  dsimp only
  rw [g37, h37, g38]
  refine brc (fun e => ?_) fun e => ?_
  · have := nv_end (by omega) (by omega) hi e
    subst this
    rw [tnF_congr h38 (Nat.le_refl _)]
    -- the reference
    unfold w_X9_turned
    refine t9_worst hT hr hm' hly ?_
    refine lp_cnt i (fun j s => s = ((tnF (skw T (r.1 8) (r.1 9) (r.1 10)) i j).1, (tnF (skw T (r.1 8) (r.1 9) (r.1 10)) i j).2, nI j, s.2.2.2) ∧ (∀ k, s.2.2.2.1 k = r.1 k)) ?_ _ ⟨rfl, fun _ => rfl⟩
    intro j s hj hs again hag
    obtain ⟨u1, u2, u3, r2⟩ := s
    obtain ⟨es, hr2⟩ := hs
    dsimp only at es hr2
    simp only [Prod.mk.injEq, and_true] at es
    obtain ⟨rfl, rfl, rfl⟩ := es
    unfold w_X9_turned_l10
    dsimp only
    rw [hr2 0, hm']
    refine brc (fun e => ?_) fun e => ?_
    · have := nv_end (by omega) (by omega) hj e
      subst this
      exact ⟨rfl, h.both hf2.sC ⟨fun k _ _ => hr2 k, fun j _ => by rw [hr2 0]⟩⟩
    · have hlt := nv_nle (by omega) (by omega) e
      have hj8 : vp_in (nI j) 8 := nv_in (by omega) (by decide)
      rw [nv_tn (by omega), hr2 10]
      refine ⟨hj8, hj8, fun r3 e3 => ?_⟩
      have f8 : r3.1 8 = r.1 8 := by rw [e3, zu_f (by decide), hr2 8]
      have f9 : r3.1 9 = r.1 9 := by rw [e3, zu_f (by decide), hr2 9]
      have f0 : r3.1 0 = r.1 0 := by rw [e3, zu_f (by decide), hr2 0]
      have hr3 : RT T r3 := by
        unfold RT; rw [f0, e3, zu_f (by decide), zu_f (by decide), zu_f (by decide), zu_f (by decide), zu_f (by decide), zu_f (by decide), hr2 1, hr2 2, hr2 3, hr2 4, hr2 5, hr2 6]; exact hr
      have f10 : ∀ q, r3.1 10 q = if q = j then 1 - r.1 10 j else r.1 10 q := by
        intro q
        rw [e3]
        by_cases z : q = j
        · rw [zu_eq ⟨rfl, z⟩, if_pos z]
        · rw [zu_ne (Or.inr z), if_neg z, hr2 10]
      refine t9_worst hT hr3 (by rw [f0]; exact hm') (by rw [f8]; exact hly) ?_
      have ew : wsF (skw T (r3.1 8) (r3.1 9) (r3.1 10)) i = wsF (ngN (skw T (r.1 8) (r.1 9) (r.1 10)) j) i := by
        refine wsF_congr fun q hq => ?_
        unfold ngN skw
        rw [f8, f9, f10]
        by_cases z : q = j
        · subst z
          rw [if_pos rfl, if_pos rfl]
          rcases (hwy q hq).2 with w | w <;> rw [w]
          · rw [if_pos (by decide), if_neg (by decide)]
          · rw [if_neg (by decide), if_pos rfl]; exact (Int32.neg_neg).symm
        · rw [if_neg z, if_neg z]
      rw [ew, f10 j, if_pos rfl]
      refine ⟨hj8, hj8, fun r4 e4 => ?_⟩
      have hr4 : ∀ k, r4.1 k = r.1 k := by
        intro k
        rw [e4]
        by_cases z : k = 10
        · subst z
          funext q
          by_cases z2 : q = j
          · rw [zu_eq ⟨rfl, z2⟩, z2]; grind
          · rw [zu_ne (Or.inr z2), f10 q, if_neg z2]
        · rw [zu_f z, e3, zu_f z, hr2 k]
      rw [lit_1, nv_add]
      refine brc (fun e => hag hlt _ ⟨?_, hr4⟩) fun e => hag hlt _ ⟨?_, hr4⟩
      · simp only [tnF]; rw [if_pos e]
      · simp only [tnF]; rw [if_neg e]
  · have hlt := nv_nle (by omega) (by omega) e
    have hi8 : vp_in (nI i) 8 := nv_in (by omega) (by decide)
    rw [nv_tn (by omega)]
    refine ⟨hi8, hi8, fun c3 e3 => ?_⟩
    have f37 : c3.1 37 = c1.1 37 := by rw [e3, zu_f (by decide), g37]
    have f38 : c3.1 38 = ngN (c1.1 38) i := by
      funext q; rw [e3]; unfold ngN
      by_cases z : q = i
      · rw [zu_eq ⟨rfl, z⟩, if_pos z, z]
      · rw [zu_ne (Or.inr z), if_neg z, g38]
    refine t4_worst (by rw [f37]; exact h37) h8 ⟨hi8, hi8, fun c4 e4 => ?_⟩
    have f4 : fV c c4 ∧ c4.1 37 = c1.1 37 ∧ c4.1 38 = c1.1 38 := by
      refine ⟨fun k hk => ?_, ?_, ?_⟩
      · rw [e4, zu_f (by omega), e3, zu_f (by omega)]; exact hf2 k hk
      · rw [e4, zu_f (by decide), f37]
      · funext q; rw [e4, f38]; unfold ngN
        by_cases z : q = i
        · rw [zu_eq ⟨rfl, z⟩, if_pos rfl, z]; exact Int32.neg_neg
        · rw [zu_ne (Or.inr z), f38]; unfold ngN; rw [if_neg z]
    rw [f38, lit_1, nv_add]
    refine brc (fun e => hag hlt _ ⟨?_, ?_, rfl, f4⟩) fun e => hag hlt _ ⟨?_, ?_, rfl, f4⟩
    · simp only [tnF]; rw [if_pos e]
    · simp only [tnF]; rw [if_pos e]
    · simp only [tnF]; rw [if_neg e]
    · simp only [tnF]; rw [if_neg e]
