/-! the way to a leaf -/
theorem okT.D0 {T : Tb} (hT : okT T) {y : Nat} (hy : y < yN T) (h0 : yD T y = 0) : yP T y = 0 := by
  obtain ⟨-, -, h | h⟩ := hT.2 y hy
  · exact h.1
  · obtain ⟨p, hp, hd⟩ := h.2.2.2.2.1; omega
theorem flat_at {α : Type} {f : Nat → List α} : ∀ {n p a : Nat}, p < n → a < (f p).length → ((List.range n).flatMap f)[sn (fun q => (f q).length) p + a]? = (f p)[a]? := by
  intro n
  have hl : ∀ m, ((List.range m).flatMap f).length = sn (fun q => (f q).length) m := by
    intro m
    induction m with
    | zero => rfl
    | succ m ih => rw [List.range_succ, List.flatMap_append, List.length_append, ih]; simp [sn]
  induction n with
  | zero => intro p a h; omega
  | succ n ih =>
    intro p a hp ha
    rw [List.range_succ, List.flatMap_append]
    rcases Nat.lt_or_ge p n with q | q
    · rw [List.getElem?_append_left, ih q ha]
      rw [hl]
      have mono : ∀ i j, i ≤ j → sn (fun q => (f q).length) i ≤ sn (fun q => (f q).length) j := by
        intro i j hij
        induction hij with
        | refl => exact Nat.le_refl _
        | step _ ih => exact Nat.le_trans ih (Nat.le_add_right _ _)
      have h1 := mono (p + 1) n (by omega)
      simp only [sn] at h1
      omega
    · have : p = n := by omega
      subst this
      rw [List.getElem?_append_right (by rw [hl]; omega), hl, Nat.add_sub_cancel_left]
      simp
theorem sn_len_lf {σ : Type} {P : Nat → Nat} {Q : Nat → Nat → Nat} {nx : Nat → σ → σ} {k y p : Nat} {s : σ} : sn (fun q => (lf P Q nx k (Q y q) s).length) p = sn (fun q => ln P Q k (Q y q)) p := sn_congr fun q _ => lf_len _ _ _
/-- one step down: the leaf a of y is the leaf a' of its part p -/
theorem lf_down {σ : Type} {T : Tb} (hT : okT T) {nx : Nat → σ → σ} {s : σ} {y p a : Nat} (hy : y < yN T) (h0 : ¬ yP T y = 0) (hp : p < yP T y) (ha : a < ln (yP T) (yQ T) 5 (yQ T y p)) :
    (lf (yP T) (yQ T) nx 5 y s)[sn (fun q => ln (yP T) (yQ T) 5 (yQ T y q)) p + a]? = (lf (yP T) (yQ T) nx 5 (yQ T y p) (nx y s))[a]? := by
  have hD := hT.D3 hy
  rw [lf_fuel hT 5 6 y s hy (by omega) (by omega)]
  have e : lf (yP T) (yQ T) nx 6 y s = (List.range (yP T y)).flatMap fun p => lf (yP T) (yQ T) nx 5 (yQ T y p) (nx y s) := by
    simp only [lf, if_neg h0]
  rw [e, ← sn_len_lf (nx := nx) (s := nx y s)]
  exact flat_at hp (by rw [lf_len]; exact ha)
theorem ln_up {T : Tb} (hT : okT T) {y : Nat} (hy : y < yN T) (h0 : ¬ yP T y = 0) : ln (yP T) (yQ T) 5 y = sn (fun q => ln (yP T) (yQ T) 5 (yQ T y q)) (yP T y) := by
  have hD := hT.D3 hy
  rw [ln_fuel hT 5 6 y hy (by omega) (by omega)]
  simp only [ln, if_neg h0]
theorem ln_thr {T : Tb} {y : Nat} (h0 : yP T y = 0) : ln (yP T) (yQ T) 5 y = 1 := by simp only [ln, if_pos h0]
theorem lf_thr {σ : Type} {T : Tb} {nx : Nat → σ → σ} {s : σ} {y : Nat} (h0 : yP T y = 0) : lf (yP T) (yQ T) nx 5 y s = [(y, s)] := by simp only [lf, if_pos h0]
def fP (c c' : zz_Hp) : Prop := ∀ k, k ≠ 35 → k ≠ 36 → c'.1 k = c.1 k
theorem fP.sC {c c' : zz_Hp} (h : fP c c') : sC c c' := ⟨fun k hk => h k (by omega) (by omega), by rw [h 24 (by omega) (by omega)]⟩
theorem CT_fP {T : Tb} {c c' : zz_Hp} (h : fP c c') (hc : CT T c) : CT T c' := by
  unfold CT; rw [h 2 (by omega) (by omega), h 3 (by omega) (by omega), h 4 (by omega) (by omega)]; exact hc
/-- the path that stands in the cells 35, 36 -/
def PA (T : Tb) (c : zz_Hp) (v : Nat) (pa : List Nat) : Prop := v < yN T ∧ yP T v = 0 ∧ c.1 35 0 = nI v ∧ c.1 35 1 = nI pa.length ∧ pa.length ≤ 3 ∧ ∀ j, j < pa.length → c.1 36 j = nI (pa.getD j 0) ∧ pa.getD j 0 < yN T
theorem t7_isThread {T : Tb} (hT : okT T) {c : zz_Hp} (hc : CT T c) {y : Nat} {l : Int32} {Q : Int32 → zz_Hp → Prop} (e : l = nI y) (hy : y < yN T) (H1 : yP T y = 0 → Q 1 c) (H0 : ¬ yP T y = 0 → Q 0 c) : w_X7_isThread l c Q := by
  have hn := hT.1
  have hP := hT.P4 hy
  refine t7_hast (yN T) y hc.1 hn hy e (bq1 (t7_fact y 4 (by omega) (by omega) e rfl ?_))
  rw [(hc.2 y hy).1.2.2.2.2.1]
  refine bnc (fun w => H0 fun z => w (by rw [z]; rfl)) fun w => H1 (nv_inj (by omega) (by omega) w)
theorem t2_lead {T : Tb} (hT : okT T) {c : zz_Hp} (hc : CT T c) {y i : Nat} {l m : Int32} {Q : Int32 → zz_Hp → Prop} (e : l = nI y) (hy : y < yN T) (em : m = nI i) (hi : i < ln (yP T) (yQ T) 5 y)
    (HQ : ∀ c' v pa, fP c c' → PA T c' v pa → (∀ (σ : Type) (nx : Nat → σ → σ) (s : σ), (lf (yP T) (yQ T) nx 5 y s)[i]? = some (v, pa.foldl (fun s u => nx u s) s)) → Q 1 c') : w_X2_lead l m c Q := by
  subst e; subst em
  have hn := hT.1
  have h64 := ln_64 hT (k := 5) hy
  refine t7_hast (yN T) y hc.1 hn hy rfl (bq1 (brf (nv_lt0 (by omega)) (t7_fact y 6 (by omega) (by omega) rfl rfl ?_)))
  rw [(hc.2 y hy).1.2.2.2.2.2.2.1]
  refine brt ((nv_lt (by omega) (by omega)).mpr hi) fun c1 e1 c2 e2 => ?_
  have hf2 : fP c c2 := fun k h1 h2 => by rw [e2, zu_f h1, e1, zu_f h1]
  refine lp_cnt 3 (fun k u => ∃ a ee pa, u.1 = nI a ∧ fP c u.2 ∧ ee < yN T ∧ u.2.1 35 0 = nI ee ∧ u.2.1 35 1 = nI k ∧ pa.length = k ∧ (∀ j, j < k → u.2.1 36 j = nI (pa.getD j 0) ∧ pa.getD j 0 < yN T) ∧ yD T ee + k ≤ 3 ∧ a < ln (yP T) (yQ T) 5 ee ∧
    ∀ (σ : Type) (nx : Nat → σ → σ) (s : σ), (lf (yP T) (yQ T) nx 5 y s)[i]? = (lf (yP T) (yQ T) nx 5 ee (pa.foldl (fun s u => nx u s) s))[a]?) ?_ _
    ⟨i, y, [], rfl, hf2, hy, by rw [e2, zu_ne (Or.inr (by decide)), e1, zu_eq ⟨rfl, rfl⟩], by rw [e2, zu_eq ⟨rfl, rfl⟩]; rfl, rfl, fun j hj => by omega, by have := hT.D3 hy; omega, hi, fun _ _ _ => rfl⟩
  intro k u hk hu again hag
  obtain ⟨a0, c3⟩ := u
  obtain ⟨a, ee, pa, ha0, hf3, hee, h350, h351, hpl, hpa, hD, ha, hlf⟩ := hu
  dsimp only at ha0 hf3 h350 h351 hpa
  subst ha0
  have hc3 := CT_fP hf3 hc
  have fin : yP T ee = 0 → Q 1 c3 := by
    intro h0
    rw [ln_thr h0] at ha
    have : a = 0 := by omega
    subst this
    refine HQ c3 ee pa hf3 ⟨hee, h0, h350, by rw [h351, hpl], by omega, fun j hj => hpa j (by omega)⟩ fun σ nx s => ?_
    rw [hlf, lf_thr h0]; rfl
  unfold w_X2_lead_l38
  dsimp only
  rw [h350, h351]
  refine brc (fun e3 => ?_) fun e3 => ?_
  · rw [lit_3, nv_le (by omega) (by omega)] at e3
    exact fin (hT.D0 hee (by omega))
  · rw [lit_3, nv_le (by omega) (by omega)] at e3
    refine t7_isThread hT hc3 rfl hee (fun h0 => br1 (fin h0)) fun h0 => br0 ?_
    rw [h351, h350, nv_tn (by omega)]
    refine ⟨nv_in (by omega) (by decide), fun c4 e4 c5 e5 => ?_⟩
    have h451 : c4.1 35 1 = nI k := by rw [e4, zu_ne (Or.inl (by decide)), h351]
    rw [h451, lit_1, nv_add] at e5
    have hf5 : fP c c5 := fun k h1 h2 => by rw [e5, zu_f h1, e4, zu_f h2]; exact hf3 k h1 h2
    have hc5 := CT_fP hf5 hc
    have hP4 := hT.P4 hee
    have hP2 : 2 ≤ yP T ee := by
      obtain ⟨-, -, h | h⟩ := hT.2 ee hee <;> omega
    refine t7_partAt ee 0 (by omega) (by omega) rfl rfl ?_
    rw [(hc5.2 ee hee).2 0 (by omega)]
    intro c6 e6
    have base : ∀ c7 : zz_Hp, fP c c7 → c7.1 35 1 = nI (k + 1) → (∀ j, c7.1 36 j = c5.1 36 j) → ∀ j, j < k + 1 → c7.1 36 j = nI ((pa ++ [ee]).getD j 0) ∧ (pa ++ [ee]).getD j 0 < yN T := by
      intro c7 _ _ h36 j hj
      rw [h36 j, e5, zu_ne (Or.inl (by decide)), e4]
      by_cases w : j = k
      · subst w
        rw [zu_eq ⟨rfl, rfl⟩]
        have : (pa ++ [ee]).getD j 0 = ee := by rw [List.getD_eq_getElem?_getD, List.getElem?_append_right (by omega)]; simp [hpl]
        rw [this]; exact ⟨rfl, hee⟩
      · rw [zu_ne (Or.inr w)]
        have : (pa ++ [ee]).getD j 0 = pa.getD j 0 := by rw [List.getD_eq_getElem?_getD, List.getElem?_append_left (by omega), ← List.getD_eq_getElem?_getD]
        rw [this]; exact hpa j (by omega)
    have lns : ∀ q, q < yP T ee → ln (yP T) (yQ T) 5 (yQ T ee q) ≤ 64 := fun q hq => ln_64 hT (hT.part hee hq).2.1
    refine lp_cnt (yP T ee - 1) (fun p w => ∃ a', w.1 = nI a' ∧ w.2.1 = nI p ∧ a = sn (fun q => ln (yP T) (yQ T) 5 (yQ T ee q)) p + a' ∧ fP c w.2.2 ∧ w.2.2.1 35 0 = nI (yQ T ee p) ∧ w.2.2.1 35 1 = nI (k + 1) ∧ ∀ j, w.2.2.1 36 j = c5.1 36 j) ?_ _
      ⟨a, rfl, rfl, by simp [sn], fun k h1 h2 => by dsimp only; rw [e6, zu_f h1]; exact hf5 k h1 h2, by dsimp only; rw [e6, zu_eq ⟨rfl, rfl⟩], by dsimp only; rw [e6, zu_ne (Or.inr (by decide)), e5, zu_eq ⟨rfl, rfl⟩], fun j => by dsimp only; rw [e6, zu_ne (Or.inl (by decide))]⟩
    intro p w hp hw again2 hag2
    obtain ⟨b1, b2, c7⟩ := w
    obtain ⟨a', hb1, hb2, haa, hf7, h70, h71, h36⟩ := hw
    dsimp only at hb1 hb2 hf7 h70 h71 h36
    subst hb1; subst hb2
    have hc7 := CT_fP hf7 hc
    have hpp : p < yP T ee := by omega
    have hpt := hT.part hee hpp
    have hln := lns p hpp
    have h64e := ln_64 hT (k := 5) hee
    unfold w_X2_lead_l99
    dsimp only
    have fin2 : a' < ln (yP T) (yQ T) 5 (yQ T ee p) → again (nI a', c7) := by
      intro hlt
      refine hag (by omega) _ ⟨a', yQ T ee p, pa ++ [ee], rfl, hf7, hpt.2.1, h70, h71, by rw [List.length_append, hpl]; rfl, base c7 hf7 h71 h36, by omega, hlt, fun σ nx s => ?_⟩
      rw [hlf σ nx s, haa, lf_down hT hee h0 hpp hlt, List.foldl_append]
      rfl
    refine t7_fact ee 4 (by omega) (by omega) rfl rfl ?_
    rw [(hc7.2 ee hee).1.2.2.2.2.1, lit_1, nv_add]
    refine brc (fun e8 => ?_) fun e8 => ?_
    · rw [nv_le (by omega) (by omega)] at e8
      refine fin2 ?_
      have hup := ln_up hT hee h0
      have hpe : yP T ee = p + 1 := by omega
      rw [hpe] at hup
      simp only [sn] at hup
      omega
    · rw [nv_le (by omega) (by omega)] at e8
      rw [h70]
      refine t7_fact (yQ T ee p) 6 (by omega) (by omega) rfl rfl ?_
      rw [(hc7.2 _ hpt.2.1).1.2.2.2.2.2.2.1]
      refine brc (fun e9 => ?_) fun e9 => ?_
      · rw [nv_lt (by omega) (by omega)] at e9
        exact fin2 e9
      · rw [nv_lt (by omega) (by omega)] at e9
        rw [h70]
        refine t7_fact (yQ T ee p) 6 (by omega) (by omega) rfl rfl ?_
        rw [(hc7.2 _ hpt.2.1).1.2.2.2.2.2.2.1]
        refine t7_partAt ee (p + 1) (by omega) (by omega) rfl rfl ?_
        rw [(hc7.2 ee hee).2 (p + 1) (by omega)]
        intro c8 e10
        rw [nv_sub (by omega)]
        refine hag2 (by omega) _ ⟨a' - ln (yP T) (yQ T) 5 (yQ T ee p), rfl, rfl, by simp only [sn]; omega, fun k h1 h2 => by dsimp only; rw [e10, zu_f h1]; exact hf7 k h1 h2, by dsimp only; rw [e10, zu_eq ⟨rfl, rfl⟩], by dsimp only; rw [e10, zu_ne (Or.inr (by decide))]; exact h71, fun j => by dsimp only; rw [e10, zu_ne (Or.inl (by decide))]; exact h36 j⟩
theorem t2_leadf {T : Tb} (hT : okT T) {c : zz_Hp} (hc : CT T c) {l m : Int32} {Q : Int32 → zz_Hp → Prop} (e : ∀ y i, y < yN T → l = nI y → m = nI i → ¬ i < ln (yP T) (yQ T) 5 y) (HQ : Q 0 c) : w_X2_lead l m c Q := by
  have hn := hT.1
  by_cases hl : l < 0 ∨ nI (yN T) ≤ l
  · exact t7_hasf (yN T) hc.1 hl (bq0 HQ)
  · obtain ⟨y, hy, rfl⟩ := nv_ex (n := yN T) (by omega) (fun w => hl (Or.inl w)) (fun w => hl (Or.inr w))
    refine t7_hast (yN T) y hc.1 hn hy rfl (bq1 (brc (fun _ => HQ) fun h0 => t7_fact y 6 (by omega) (by omega) rfl rfl ?_))
    have h64 := ln_64 hT (k := 5) hy
    rw [(hc.2 y hy).1.2.2.2.2.2.2.1]
    refine brc (fun w => ?_) fun _ => HQ
    obtain ⟨i, hi, rfl⟩ := nv_ex (n := ln (yP T) (yQ T) 5 y) (by omega) h0 (Int32.not_le.mpr w)
    exact absurd hi (e y i hy rfl rfl)
theorem fold_take {α β : Type} {f : β → α → β} {b : β} {l : List α} {k : Nat} {d : α} (h : k < l.length) : (l.take (k + 1)).foldl f b = f ((l.take k).foldl f b) (l.getD k d) := by
  rw [List.take_succ_eq_append_getElem h, List.foldl_append, List.getD_eq_getElem?_getD, List.getElem?_eq_getElem h]; rfl
section
variable {T : Tb} {c : zz_Hp}
/-- the length that is kept, by the component -/
theorem t7_by (hT : okT T) (hc : CT T c) {y : Nat} {l : Int32} {Q : Int32 → zz_Hp → Prop} (e : l = nI y) (hy : y < yN T) (H : Q (byv T y) c) : w_X7_by l c Q := by
  have hn := hT.1
  refine t7_fact y 0 (by omega) (by omega) e rfl (t7_fact y 4 (by omega) (by omega) e rfl ?_)
  rw [(hc.2 y hy).1.1, (hc.2 y hy).1.2.2.2.2.1]
  have ea : (if 0 ≤ yT T y then yT T y else 0 - yT T y) = av (yT T y) := by
    unfold av; split
    · rfl
    · exact Int32.zero_sub _
  show Q (1000 - ((if 0 ≤ yT T y then yT T y else 0 - yT T y) * nI (yP T y))) c
  rw [ea]; exact H
theorem t8_cut {L b : Int32} {Q : Int32 → zz_Hp → Prop} (hb : 0 < b.toInt) (H : Q (cut L b) c) : w_X8_cutUp (L * 1000) b c Q := by
  refine brt (iv_lt.mpr (by simpa using hb)) ⟨fun e => ?_, H⟩
  rw [e] at hb; revert hb; decide
abbrev fnl (T : Tb) (pa : List Nat) (s : Ps) : Ps := pa.foldl (fun s u => nl T u s) s
theorem fnl_take {pa : List Nat} {k : Nat} {s : Ps} (h : k < pa.length) : fnl T (pa.take (k + 1)) s = nl T (pa.getD k 0) (fnl T (pa.take k) s) := fold_take h
theorem t2_turnOf (hT : okT T) (hc : CT T c) {v : Nat} {pa : List Nat} (h : PA T c v pa) {L : Int32} {u w : Int64} {Q : Int32 → zz_Hp → Prop} (H : Q ((fnl T pa (0, L, u, w)).1 + yT T v) c) : w_X2_turnOf c Q := by
  have hn := hT.1
  obtain ⟨hv, h0, h350, h351, h3, hpa⟩ := h
  unfold w_X2_turnOf
  rw [h350]
  refine t7_fact v 0 (by omega) (by omega) rfl rfl ?_
  rw [(hc.2 v hv).1.1]
  refine lp_cnt pa.length (fun k s => s = ((fnl T (pa.take k) (0, L, u, w)).1 + yT T v, nI k, c)) ?_ _ (by simp [fnl]; rfl)
  intro k s hk hs again hag
  subst hs
  unfold w_X2_turnOf_l12
  dsimp only
  rw [h351]
  refine brc (fun e => ?_) fun e => ?_
  · have : k = pa.length := by have := (nv_le (by omega) (by omega)).mp e; omega
    subst this
    rw [List.take_length]; exact H
  · have hlt : k < pa.length := by
      rcases Nat.lt_or_ge k pa.length with z | z
      · exact z
      · exact absurd ((nv_le (by omega) (by omega)).mpr z) e
    rw [nv_tn (by omega), (hpa k hlt).1]
    refine ⟨nv_in (by omega) (by decide), t7_fact _ 0 (by have := (hpa k hlt).2; omega) (by omega) rfl rfl ?_⟩
    rw [(hc.2 _ (hpa k hlt).2).1.1, lit_1, nv_add]
    refine hag hlt _ ?_
    rw [fnl_take hlt]
    simp only [nl]; grind
theorem t2_byOf (hT : okT T) (hc : CT T c) {v : Nat} {pa : List Nat} (h : PA T c v pa) {a L : Int32} {w : Int64} {Q : Int64 → zz_Hp → Prop} (H : Q (fnl T pa (a, L, 1, w)).2.2.1 c) : w_X2_byOf c Q := by
  have hn := hT.1
  obtain ⟨hv, h0, h350, h351, h3, hpa⟩ := h
  unfold w_X2_byOf
  refine lp_cnt pa.length (fun k s => s = ((fnl T (pa.take k) (a, L, 1, w)).2.2.1, nI k, c)) ?_ _ rfl
  intro k s hk hs again hag
  subst hs
  unfold w_X2_byOf_l5
  dsimp only
  rw [h351]
  refine brc (fun e => ?_) fun e => ?_
  · have : k = pa.length := by have := (nv_le (by omega) (by omega)).mp e; omega
    subst this
    rw [List.take_length]; exact H
  · have hlt : k < pa.length := by
      rcases Nat.lt_or_ge k pa.length with z | z
      · exact z
      · exact absurd ((nv_le (by omega) (by omega)).mpr z) e
    rw [nv_tn (by omega), (hpa k hlt).1]
    refine ⟨nv_in (by omega) (by decide), t7_by hT hc rfl (hpa k hlt).2 ?_⟩
    rw [lit_1, nv_add]
    refine hag hlt _ ?_
    rw [fnl_take hlt]
    rfl
theorem t2_wholeOf {v : Nat} {pa : List Nat} (h : PA T c v pa) {a L : Int32} {u : Int64} {Q : Int64 → zz_Hp → Prop} (H : Q (fnl T pa (a, L, u, 1)).2.2.2 c) : w_X2_wholeOf c Q := by
  obtain ⟨hv, h0, h350, h351, h3, hpa⟩ := h
  unfold w_X2_wholeOf
  refine lp_cnt pa.length (fun k s => s = ((fnl T (pa.take k) (a, L, u, 1)).2.2.2, nI k, c)) ?_ _ rfl
  intro k s hk hs again hag
  subst hs
  unfold w_X2_wholeOf_l4
  dsimp only
  rw [h351]
  refine brc (fun e => ?_) fun e => ?_
  · have : k = pa.length := by have := (nv_le (by omega) (by omega)).mp e; omega
    subst this
    rw [List.take_length]; exact H
  · have hlt : k < pa.length := by
      rcases Nat.lt_or_ge k pa.length with z | z
      · exact z
      · exact absurd ((nv_le (by omega) (by omega)).mpr z) e
    rw [lit_1, nv_add]
    refine hag hlt _ ?_
    rw [fnl_take hlt]
    rfl
theorem t2_needsFor (hT : okT T) (hc : CT T c) {v : Nat} {pa : List Nat} (h : PA T c v pa) {a L : Int32} {u w : Int64} {Q : Int32 → zz_Hp → Prop} (H : Q (fnl T pa (a, L, u, w)).2.1 c) : w_X2_needsFor L c Q := by
  have hn := hT.1
  obtain ⟨hv, h0, h350, h351, h3, hpa⟩ := h
  unfold w_X2_needsFor
  refine lp_cnt pa.length (fun k s => s = ((fnl T (pa.take k) (a, L, u, w)).2.1, nI k, c)) ?_ _ rfl
  intro k s hk hs again hag
  subst hs
  unfold w_X2_needsFor_l5
  dsimp only
  rw [h351]
  refine brc (fun e => ?_) fun e => ?_
  · have : k = pa.length := by have := (nv_le (by omega) (by omega)).mp e; omega
    subst this
    rw [List.take_length]; exact H
  · have hlt : k < pa.length := by
      rcases Nat.lt_or_ge k pa.length with z | z
      · exact z
      · exact absurd ((nv_le (by omega) (by omega)).mpr z) e
    rw [nv_tn (by omega), (hpa k hlt).1]
    refine ⟨nv_in (by omega) (by decide), t7_by hT hc rfl (hpa k hlt).2 (t8_cut (by have := by_toInt hT (hpa k hlt).2; omega) ?_)⟩
    rw [lit_1, nv_add]
    refine hag hlt _ ?_
    rw [fnl_take hlt]
    rfl
end
