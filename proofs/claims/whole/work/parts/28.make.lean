/-! making: make, do1 -/
def TS (T : Tb) (S : Nat → Int32) : Tb := (T.1, T.2.1, T.2.2.1, T.2.2.2.1, T.2.2.2.2.1, T.2.2.2.2.2.1, T.2.2.2.2.2.2.1, S)
def mkS (T : Tb) (y : Nat) (L : Int32) (k : Nat) : Int32 := (yS T k - nd T k y L) + (if k = y then L else 0)
theorem nd_pl {T : Tb} (hT : okT T) {y : Nat} {L : Int32} (hy : y < yN T) (h0 : ¬ yP T y = 0) {v : Nat} (hv : ¬ yP T v = 0) : nd T v y L = 0 := by
  have : ∀ (k y : Nat) (L : Int32), ts (yP T) (yQ T) (gnd T v) (nct T) k y L = 0 := by
    intro k
    induction k with
    | zero => intros; rfl
    | succ k ih =>
      intro y L
      simp only [ts]
      have e : gnd T v y L = 0 := by
        unfold gnd; rw [if_neg]; rintro ⟨a, b⟩; rw [b] at a; exact hv a
      rw [e, sm_congr (fun p _ => ih _ _), sm_zero]; rfl
  exact this 5 y L
theorem okT_TS {T : Tb} (hT : okT T) {S : Nat → Int32} (h : ∀ k, k < yN T → okV 3 (S k)) : okT (TS T S) :=
  ⟨hT.1, fun y hy => ⟨(hT.2 y hy).1, h y hy, (hT.2 y hy).2.2⟩⟩
theorem okV3_of {n : Nat} (h : n ≤ 99999) : okV 3 (nI n) := by
  constructor
  · rw [show zz_lt 3 = nI 0 from rfl, nv_le (by omega) (by omega)]; omega
  · rw [show zz_mt 3 = nI 99999 from rfl, nv_le (by omega) (by omega)]; omega
theorem mk_ok {T : Tb} (hT : okT T) {y n : Nat} (hy : y < yN T) (h0 : ¬ yP T y = 0) (hn : n ≤ 9999) (hlk : ¬ lkP T y (nI n)) : ∀ k, k < yN T → ∃ m, m ≤ 99999 ∧ mkS T y (nI n) k = nI m := by
  intro k hk
  have hs : stkP T y (nI n) := Classical.byContradiction fun z => hlk (Or.inr z)
  have hS : yS T y + nI n ≤ 99999 := Classical.byContradiction fun z => hlk (Or.inl z)
  obtain ⟨S, hS1, eS⟩ := okV3 (hT.2 k hk).2.1
  unfold mkS
  by_cases e : k = y
  · subst e
    rw [eS, show (99999 : Int32) = nI 99999 from rfl, nv_add, nv_le (by omega) (by omega)] at hS
    rw [if_pos rfl, nd_pl hT hy h0 h0, eS, Int32.sub_zero, nv_add]
    exact ⟨_, hS, rfl⟩
  · obtain ⟨e1, e2⟩ := nd_num hT (v := k) hy hn
    have := hs k hk
    rw [e1, eS, nv_le e2 (by omega)] at this
    rw [if_neg e, e1, eS, nv_sub this, Int32.add_zero]
    exact ⟨_, by omega, rfl⟩
section
variable {T : Tb}
theorem t8_makeYards (hT : okT T) {c : zz_Hp} (hc : CT T c) {y n : Nat} {l L : Int32} (e : l = nI y) (hy : y < yN T) (eL : L = nI n) (hn1 : 1 ≤ n) (hn9 : n ≤ 9999) {Q : Int32 → zz_Hp → Prop}
    (H5 : ∀ c', fV c c' → (yP T y = 0 ∨ lkP T y L) → Q (-5) c') (Hok : ∀ c', (∀ k, k < 27 → k ≠ 3 → c'.1 k = c.1 k) → ¬ yP T y = 0 → ¬ lkP T y L → CT (TS T (mkS T y L)) c' → Q (mkS T y L y) c') : w_X8_makeYards l L c Q := by
  have hn := hT.1
  subst e
  unfold w_X8_makeYards
  refine t7_hast (yN T) y hc.1 hn hy rfl (bq1 (t8_inRt ?_ (br1 ?_)))
  · rw [eL, lit_1, show (9999 : Int32) = nI 9999 from rfl, nv_le (by omega) (by omega), nv_le (by omega) (by omega)]; omega
  refine t7_isThread hT hc rfl hy (fun h0 => br1 (H5 _ fV.rf (Or.inl h0))) fun h0 => br0 (t7_fact y 3 (by omega) (by omega) rfl rfl ?_)
  rw [(hc.2 y hy).1.2.2.2.1]
  refine brc (fun e1 => ?_) fun e1 => H5 _ fV.rf (Or.inr (Or.inl e1))
  refine t6_walk hT hc rfl hy fun c1 hf hw => t6_draw hT (CT_fW hf hc) hw fun c2 hf2 hnd => ?_
  have hc1 := CT_fW hf hc
  have hc2 : CT T c2 := by unfold CT; rw [hf2 2 (by decide) (by decide), hf2 3 (by decide) (by decide), hf2 4 (by decide) (by decide)]; exact hc1
  have hv2 : fV c c2 := hf.fV.tr fun k hk => hf2 k (by omega) (by omega)
  refine t6_isInStock hT hc2 hnd (fun hst => br1 ?_) fun hst => br0 (H5 _ hv2 (Or.inr (Or.inr hst)))
  have hlk : ¬ lkP T y L := fun w => w.elim (fun z => z e1) fun z => z hst
  unfold w_X6_takeFromStock
  refine lp_cnt (yN T) (fun i u => u.1 = nI i ∧ (∀ k, k ≠ 3 → u.2.1 k = c2.1 k) ∧ (∀ q, (∀ k, k < i → q ≠ 8 * k + 3) → u.2.1 3 q = c2.1 3 q) ∧ ∀ k, k < i → u.2.1 3 (8 * k + 3) = yS T k - nd T k y L) ?_ _ ⟨rfl, fun _ _ => rfl, fun _ _ => rfl, fun k hk => by omega⟩
  intro i u hi hu again hag
  obtain ⟨j, c3⟩ := u
  obtain ⟨hj, hf3, h3o, h3s⟩ := hu
  dsimp only at hj hf3 h3o h3s
  subst hj
  unfold w_X6_takeFromStock_l2
  dsimp only
  rw [hf3 2 (by decide), hc2.1]
  refine brc (fun e => ?_) fun e => ?_
  · have := nv_end (by omega) (by omega) hi e
    subst this
    refine t7_fact y 3 (by omega) (by omega) rfl rfl (t7_write y 3 (by omega) (by omega) rfl rfl (t7_fact y 3 (by omega) (by omega) rfl rfl ?_))
    rw [zu_eq ⟨rfl, rfl⟩, h3s y hy]
    have eS : yS T y - nd T y y L + L = mkS T y L y := by unfold mkS; rw [if_pos rfl]
    rw [eS]
    refine Hok _ (fun k hk hk3 => ?_) h0 hlk ?_
    · rw [zu_f hk3, hf3 k hk3]; exact hv2 k hk
    · unfold CT
      have f3 : ∀ k, k ≠ 3 → (zz_uI c3 3 (8 * y + 3) (mkS T y L y)).1 k = c2.1 k := fun k hk => by rw [zu_f hk]; exact hf3 k hk
      rw [f3 2 (by decide), f3 4 (by decide)]
      refine ⟨hc2.1, fun k hk => ?_⟩
      have hk' : k < yN T := hk
      obtain ⟨⟨a0, a1, a2, a3, a4, a5, a6, a7⟩, b⟩ := hc2.2 k hk'
      have oth : ∀ j, j < 8 → j ≠ 3 → (zz_uI c3 3 (8 * y + 3) (mkS T y L y)).1 3 (8 * k + j) = c2.1 3 (8 * k + j) := by
        intro j hj hj3
        rw [zu_ne (Or.inr (by omega))]
        exact h3o _ fun q _ => by omega
      refine ⟨⟨?_, ?_, ?_, ?_, ?_, ?_, ?_, ?_⟩, b⟩
      · rw [oth 0 (by omega) (by omega)]; exact a0
      · rw [oth 1 (by omega) (by omega)]; exact a1
      · rw [oth 2 (by omega) (by omega)]; exact a2
      · show _ = mkS T y L k
        by_cases z : k = y
        · rw [z, zu_eq ⟨rfl, rfl⟩]
        · rw [zu_ne (Or.inr (by omega)), h3s k hk']
          unfold mkS; rw [if_neg z, Int32.add_zero]
      · rw [oth 4 (by omega) (by omega)]; exact a4
      · rw [oth 5 (by omega) (by omega)]; exact a5
      · rw [oth 6 (by omega) (by omega)]; exact a6
      · rw [oth 7 (by omega) (by omega)]; exact a7
  · have hlt := nv_nle (by omega) (by omega) e
    refine t7_fact i 3 (by omega) (by omega) rfl rfl ⟨nv_in (by omega) (by decide), ?_⟩
    rw [h3o (8 * i + 3) (fun k hk => by omega), (hc2.2 i hlt).1.2.2.2.1, nv_tn (by omega), hf3 34 (by decide), hnd i (by omega)]
    refine t7_write i 3 (by omega) (by omega) rfl rfl ?_
    rw [nv_1]
    refine hag hlt _ ⟨rfl, fun k hk => by dsimp only; rw [zu_f hk]; exact hf3 k hk, fun q hq => ?_, fun k hk => ?_⟩
    · dsimp only; rw [zu_ne (Or.inr (hq i (by omega)))]; exact h3o q fun k hk => hq k (by omega)
    · dsimp only
      by_cases z : k = i
      · rw [z, zu_eq ⟨rfl, rfl⟩]
      · rw [zu_ne (Or.inr (by omega))]; exact h3s k (by omega)
theorem t9_isMade (hT : okT T) {r : zz_Hp} (hr : RT T r) {y : Nat} {l L : Int32} (e : l = nI y) (hy : y < yN T) {Q : Int32 → zz_Hp → Prop}
    (H0 : ∀ r', sQ r r' → lkP T y L → Q 0 r') (H1 : ∀ r', (∀ k, 1 ≤ k → k ≤ 30 ∨ 39 < k → k ≠ 6 → r'.1 k = r.1 k) → (∀ j, j ≠ 40 → r'.1 0 j = r.1 0 j) → ¬ lkP T y L → RT (TS T (mkS T y L)) r' → Q 1 r') : w_X9_isMade l L r Q := by
  have hn := hT.1
  unfold w_X9_isMade
  refine t9_lacks hT hr e hy (fun r1 hq hlk => bq1 (H0 _ hq hlk)) fun r1 hq hnd hlk => bq0 ?_
  subst e
  have hr1 := RT_sQ hq hr
  have hyi : vp_in (nI y) 16 := nv_in (by omega) (by decide)
  have hyn : (nI y).toNatClampNeg = y := nv_tn (by omega)
  refine lp_cnt (yN T) (fun i u => u.1 = nI i ∧ (∀ k, k ≠ 6 → u.2.1 k = r1.1 k) ∧ ∀ k, k < yN T → u.2.1 6 k = if k < i then yS T k - nd T k y L else yS T k) ?_ _ ⟨rfl, fun _ _ => rfl, fun k hk => by rw [if_neg (by omega)]; exact (hr1.2 k hk).1.2.2.2.2⟩
  intro i u hi hu again hag
  obtain ⟨j, r2⟩ := u
  obtain ⟨hj, hf2, h6⟩ := hu
  dsimp only at hj hf2 h6
  subst hj
  unfold w_X9_isMade_l13
  dsimp only
  rw [hf2 0 (by decide), hr1.1, hyn]
  refine brc (fun e => ?_) fun e => ?_
  · have := nv_end (by omega) (by omega) hi e
    subst this
    refine ⟨hyi, hyi, fun r3 e3 => H1 _ (fun k a b h => ?_) (fun j hj => ?_) hlk ?_⟩
    · rw [e3, zu_f h, hf2 k h]; exact hq.1 k a b
    · rw [e3, zu_f (by decide), hf2 0 (by decide)]; exact hq.2 j hj
    · have f3 : ∀ k, k ≠ 6 → r3.1 k = r1.1 k := fun k hk => by rw [e3, zu_f hk]; exact hf2 k hk
      unfold RT
      rw [f3 0 (by decide), f3 1 (by decide), f3 2 (by decide), f3 3 (by decide), f3 4 (by decide), f3 5 (by decide)]
      refine ⟨hr1.1, fun k hk => ?_⟩
      have hk' : k < yN T := hk
      obtain ⟨⟨a1, a2, a3, a4, a5⟩, b⟩ := hr1.2 k hk'
      refine ⟨⟨a1, a2, a3, a4, ?_⟩, b⟩
      show r3.1 6 k = mkS T y L k
      rw [e3]; unfold mkS
      by_cases z : k = y
      · rw [zu_eq ⟨rfl, z⟩, if_pos z, h6 y hy, if_pos hy, z]
      · rw [zu_ne (Or.inr z), if_neg z, h6 k hk', if_pos hk', Int32.add_zero]
  · have hlt := nv_nle (by omega) (by omega) e
    have hii : vp_in (nI i) 16 := nv_in (by omega) (by decide)
    rw [nv_tn (by omega), h6 i hlt, if_neg (by omega), hf2 36 (by decide), hnd i hlt, nv_1]
    refine ⟨hii, hii, hii, fun r3 e3 => hag hlt _ ⟨rfl, fun k hk => by dsimp only; rw [e3, zu_f hk]; exact hf2 k hk, fun k hk => ?_⟩⟩
    dsimp only; rw [e3]
    by_cases z : k = i
    · rw [zu_eq ⟨rfl, z⟩, if_pos (by omega), z]
    · rw [zu_ne (Or.inr z), h6 k hk]
      by_cases w : k < i
      · rw [if_pos w, if_pos (by omega)]
      · rw [if_neg w, if_neg (by omega)]
end
/-- no steps -/
theorem spF_0 {T : Tb} {C a b w : Nat → Int32} : spF T 0 C 0 a b w := ⟨0, by omega, rfl, rfl, fun i hi => by omega⟩
/-- Sim behind a making: stock, no steps -/
theorem SimT.made {T : Tb} {c c' r r' : zz_Hp} (h : SimT T c r) {y n : Nat} (hy : y < yN T) (h0 : ¬ yP T y = 0) (hn : n ≤ 9999) (hlk : ¬ lkP T y (nI n)) (hc : ∀ k, k < 27 → k ≠ 3 → k ≠ 18 → c'.1 k = c.1 k) (hct : CT (TS T (mkS T y (nI n))) c') (hr : ∀ k, 1 ≤ k → k ≤ 30 → k ≠ 6 → r'.1 k = r.1 k) (hs : ∀ j, j ≠ 40 → j ≠ 16 → r'.1 0 j = r.1 0 j) (hrt : RT (TS T (mkS T y (nI n))) r') (sp : spF T (c'.1 18 0) (c'.1 19) (r'.1 0 16) (r'.1 13) (r'.1 14) (r'.1 15)) : SimT (TS T (mkS T y (nI n))) c' r' := by
  have hok := okT_TS h.1 (S := mkS T y (nI n)) fun k hk => by
    obtain ⟨m, hm, e⟩ := mk_ok h.1 hy h0 hn hlk k hk
    rw [e]; exact okV3_of hm
  apply SimT.stk h
  case n_ok => exact hok
  case n_ct => exact hct
  case n_rt => exact hrt
  case n_sp => exact sp
  case t_bn => exact fun x => x
  case t_ly => exact fun x => x
  case t_jb => exact fun x => x
  all_goals first
    | exact hc _ (by omega) (by omega) (by omega)
    | exact hr _ (by omega) (by omega) (by omega)
    | exact hs _ (by omega) (by omega)
    | exact congrFun (hc _ (by omega) (by omega) (by omega)) _
theorem mcase (l : Int32) : ¬ (1 ≤ l ∧ l ≤ 9999) ∨ ∃ n, 1 ≤ n ∧ n ≤ 9999 ∧ l = nI n ∧ (1 ≤ l ∧ l ≤ 9999) := by
  by_cases h : 1 ≤ l ∧ l ≤ 9999
  · refine Or.inr ?_
    have h1 := iv_le.mp h.1
    have h2 := iv_le.mp h.2
    rw [show (1 : Int32).toInt = 1 by decide] at h1
    rw [show (9999 : Int32).toInt = 9999 by decide] at h2
    refine ⟨l.toInt.toNat, by omega, by omega, ?_, h⟩
    apply Int32.toInt_inj.mp
    rw [nv_toInt (by omega)]; omega
  · exact Or.inl h
theorem t8_makeYards1 {T : Tb} (hT : okT T) {c : zz_Hp} (hc : CT T c) {l L : Int32} (e : (l < 0 ∨ nI (yN T) ≤ l) ∨ ¬ (1 ≤ L ∧ L ≤ 9999)) {Q : Int32 → zz_Hp → Prop} (H : Q (-1) c) : w_X8_makeYards l L c Q := by
  have hn := hT.1
  unfold w_X8_makeYards
  rcases ycase (yN T) (by omega) l with hl | ⟨y, hy, rfl⟩
  · exact t7_hasf (yN T) hc.1 hl (bq0 H)
  · refine t7_hast (yN T) y hc.1 hn hy rfl (bq1 (t8_inRf ?_ (br0 H)))
    exact e.resolve_left (nv_out (by omega) hy)
theorem eq_make {c r : zz_Hp} (h : Sim c r) (l1 l2 : Int32) : w_X8_make l1 l2 c (fun a c' => w_X9_make l1 l2 r (fun b r' => a = b ∧ Sim c' r')) := by
  obtain ⟨T, h⟩ := h
  have hT := h.1; have hc : CT T c := h.2.1; have hr : RT T r := h.2.2.1; have hn := hT.1
  unfold w_X8_make
  rcases ycase (yN T) (by omega) l1 with hl | ⟨y, hy, rfl⟩
  · exact t8_makeYards1 hT hc (Or.inl hl) (brt (by decide) (t9_isYf (yN T) hr.1 hn hl (bq0 ⟨rfl, T, h⟩)))
  · have hP := hT.P4 hy
    have hyi : vp_in (nI y) 16 := nv_in (by omega) (by decide)
    have hyn : (nI y).toNatClampNeg = y := nv_tn (by omega)
    rcases mcase l2 with hl | ⟨n, hn1, hn9, rfl, h2⟩
    · exact t8_makeYards1 hT hc (Or.inr hl) (brt (by decide) (t9_isYt (yN T) y hr.1 hn hy rfl (bq1 (t9_inf hl (br0 ⟨rfl, T, h⟩)))))
    · refine t8_makeYards hT hc rfl hy rfl hn1 hn9 (fun c1 hf hx => brt (by decide) ?_) fun c1 hf h0 hlk hct => ?_
      · refine t9_isYt (yN T) y hr.1 hn hy rfl (bq1 (t9_int h2 (br1 ⟨hyi, ?_⟩)))
        rw [hyn, (hr.2 y hy).1.1]
        refine brc (fun e => ⟨rfl, h.both hf.sC sR.rf⟩) fun e => ?_
        have h0 : ¬ yP T y = 0 := fun w => e (by rw [w]; rfl)
        exact t9_isMade hT hr rfl hy (fun r1 hq _ => br0 ⟨rfl, h.both hf.sC hq.sR⟩) fun r1 _ _ hlk _ => absurd (hx.resolve_left h0) hlk
      · obtain ⟨m, hm, em⟩ := mk_ok hT hy h0 hn9 hlk y hy
        refine brf (by rw [em]; exact nv_lt0 (by omega)) fun c2 e2 => ?_
        refine t9_isYt (yN T) y hr.1 hn hy rfl (bq1 (t9_int h2 (br1 ⟨hyi, ?_⟩)))
        rw [hyn, (hr.2 y hy).1.1]
        refine brf (nI_ne0' (by omega) (by omega)) (t9_isMade hT hr rfl hy (fun r1 hq w => absurd w hlk) fun r1 hf1 hs1 _ hrt => br1 fun r2 e3 => ⟨hyi, ?_, TS T (mkS T y (nI n)), ?_⟩)
        · rw [e3, zu_f (by decide)]
          exact ((hrt.2 y hy).1.2.2.2.2).symm
        · refine h.made hy h0 hn9 hlk (fun k a b d => ?_) ?_ (fun k a b d => ?_) (fun j a b => ?_) ?_ ?_
          · rw [e2, zu_f d]; exact hf k a b
          · unfold CT; rw [e2, zu_f (by decide), zu_f (by decide), zu_f (by decide)]; exact hct
          · rw [e3, zu_f (by omega)]; exact hf1 k a (Or.inl b) d
          · rw [e3, zu_ne (Or.inr b)]; exact hs1 j a
          · unfold RT; rw [e3, zu_ne (Or.inr (by decide)), zu_f (by decide), zu_f (by decide), zu_f (by decide), zu_f (by decide), zu_f (by decide), zu_f (by decide)]; exact hrt
          · rw [e2, zu_eq ⟨rfl, rfl⟩, e3, zu_eq ⟨rfl, rfl⟩]; exact spF_0
