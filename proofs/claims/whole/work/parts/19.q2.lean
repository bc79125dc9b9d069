/-! the questions: torque, tallies, what is inside, of, partOf, alike, plan -/
theorem SimT.tl {T : Tb} {c c' r r' : zz_Hp} (e1 : ∀ k, (k < 24 ∨ k = 26) → k ≠ 20 → c'.1 k = c.1 k) (e2 : c'.1 24 0 = c.1 24 0) (e3 : ∀ k, 1 ≤ k → k ≤ 30 → k ≠ 19 → r'.1 k = r.1 k) (e4 : ∀ j, j < 40 → r'.1 0 j = r.1 0 j) (tl : tlF (c'.1 20) (r'.1 19)) (h : SimT T c r) : SimT T c' r' := by
  have h0 : SimT T (fun k => if k = 20 then c.1 20 else c'.1 k, c'.2) (fun k => if k = 19 then r.1 19 else r'.1 k, r'.2) := by
    refine SimT_r ⟨fun k h1 h2 => ?_, fun j hj => ?_⟩ (SimT_c ⟨fun k hk => ?_, ?_⟩ h)
    · show (if k = 19 then r.1 19 else r'.1 k) = r.1 k
      by_cases w : k = 19
      · rw [if_pos w, w]
      · rw [if_neg w]; exact e3 k h1 h2 w
    · show (if 0 = 19 then r.1 19 else r'.1 0) j = r.1 0 j
      rw [if_neg (by decide)]; exact e4 j hj
    · show (if k = 20 then c.1 20 else c'.1 k) = c.1 k
      by_cases w : k = 20
      · rw [if_pos w, w]
      · rw [if_neg w]; exact e1 k hk w
    · show (if 24 = 20 then c.1 20 else c'.1 24) 0 = c.1 24 0
      rw [if_neg (by decide)]; exact e2
  obtain ⟨a1, a2, a3, a4, a5, a6, a7, a8, a9, -, a11⟩ := h0
  exact ⟨a1, a2, a3, a4, a5, a6, a7, a8, a9, tl, a11⟩
theorem eq_torque {c r : zz_Hp} (h : Sim c r) (l1 : Int32) : w_X8_torque l1 c (fun a c' => w_X9_torque l1 r (fun b r' => a = b ∧ Sim c' r')) := by
  obtain ⟨T, h⟩ := h
  have hT := h.1; have hc : CT T c := h.2.1; have hr : RT T r := h.2.2.1; have hn := hT.1
  rcases ycase (yN T) (by omega) l1 with hl | ⟨y, hy, rfl⟩
  · exact t7_hasf (yN T) hc.1 hl (br0 (t9_isYf (yN T) hr.1 hn hl (br0 ⟨rfl, T, h⟩)))
  · refine t7_hast (yN T) y hc.1 hn hy rfl (br1 (t8_torqueOf hT hc rfl hy fun c1 hf hw => t6_countFibres hT (CT_fW hf hc) hw fun c2 hf2 ht2 => ?_))
    refine t9_isYt (yN T) y hr.1 hn hy rfl (br1 ?_)
    refine lp_cnt 4 (fun i u => u.1 = nI i ∧ onlyI 19 r u.2 ∧ ∀ f, f < i → u.2.1 19 f = 0) ?_ _ ⟨rfl, ⟨fun _ _ => rfl, rfl⟩, fun f hf => by omega⟩
    intro i u hi hu again hag
    obtain ⟨j, r1⟩ := u
    obtain ⟨hj, hon, hz⟩ := hu
    dsimp only at hj hon hz
    subst hj
    unfold w_X9_torque_l13
    dsimp only
    refine brc (fun e => ?_) fun e => ?_
    · rw [lit_4, nv_le (by omega) (by omega)] at e
      have hr1 := RT_only hon (by decide) hr
      have hD := hT.D3 hy
      refine t9_tallyIn hT 5 y hr1 rfl hy (by omega) fun r2 hon2 ht => ?_
      refine t9_torqueOf hT (RT_only hon2 (by decide) hr1) rfl hy ⟨rfl, T, SimT.tl (fun k hk h20 => ?_) ?_ (fun k h1 h2 h19 => ?_) (fun j hj => ?_) (fun f hf => ?_) h⟩
      · rw [hf2 k h20]; exact hf k (by omega)
      · rw [hf2 24 (by omega), hf 24 (by omega)]
      · rw [hon2.1 k h19, hon.1 k h19]
      · rw [hon2.1 0 (by omega), hon.1 0 (by omega)]
      · rw [ht2 f hf, ht f hf, hz f (by omega)]; simp
    · rw [lit_4, nv_le (by omega) (by omega)] at e
      rw [nv_tn (by omega), lit_1, nv_add]
      refine ⟨nv_in (by omega) (by decide), fun r2 e2 => hag (by omega) _ ⟨rfl, ⟨fun k hk => ?_, ?_⟩, fun f hf => ?_⟩⟩
      · dsimp only; rw [e2, zu_f hk]; exact hon.1 k hk
      · dsimp only; rw [e2, zu_2]; exact hon.2
      · dsimp only; rw [e2]
        by_cases w : f = i
        · rw [zu_eq ⟨rfl, w⟩]
        · rw [zu_ne (Or.inr w)]; exact hz f (by omega)
theorem eq_tally {c r : zz_Hp} (h : Sim c r) (l1 : Int32) : w_X8_tally l1 c (fun a c' => w_X9_tally l1 r (fun b r' => a = b ∧ Sim c' r')) := by
  by_cases h3 : 0 ≤ l1 ∧ l1 ≤ 3
  · obtain ⟨f, hf, rfl⟩ : ∃ f, f < 4 ∧ l1 = nI f := okV2 h3
    obtain ⟨T, h⟩ := h
    refine t8_inRt h3 (bq1 ⟨nv_in hf (by decide), t9_int h3 (bq1 ⟨nv_in hf (by decide), ?_, T, h⟩)⟩)
    rw [nv_tn (by omega)]
    exact h.2.2.2.2.2.2.2.2.2.1 f hf
  · exact t8_inRf h3 (bq0 (t9_inf h3 (bq0 ⟨rfl, h⟩)))
theorem eq_inside {c r : zz_Hp} (h : Sim c r) (l1 : Int32) : w_X8_inside l1 c (fun a c' => w_X9_inside l1 r (fun b r' => a = b ∧ Sim c' r')) := by
  obtain ⟨T, h⟩ := h
  have hT := h.1; have hc : CT T c := h.2.1; have hr : RT T r := h.2.2.1; have hn := hT.1
  rcases ycase (yN T) (by omega) l1 with hl | ⟨y, hy, rfl⟩
  · exact t7_hasf (yN T) hc.1 hl (bq0 (t9_isYf (yN T) hr.1 hn hl (bq0 ⟨rfl, T, h⟩)))
  · have hD := hT.D3 hy
    refine t7_hast (yN T) y hc.1 hn hy rfl (bq1 (t7_fact y 7 (by omega) (by omega) rfl rfl ?_))
    refine t9_isYt (yN T) y hr.1 hn hy rfl (bq1 (t9_bits hT hr 5 y rfl hy (by omega) ⟨?_, T, h⟩))
    exact (hc.2 y hy).1.2.2.2.2.2.2.2
theorem eq_of {c r : zz_Hp} (h : Sim c r) (l1 l2 : Int32) : w_X8_of l1 l2 c (fun a c' => w_X9_of l1 l2 r (fun b r' => a = b ∧ Sim c' r')) := by
  obtain ⟨T, h⟩ := h
  have hT := h.1; have hc : CT T c := h.2.1; have hr : RT T r := h.2.2.1; have hn := hT.1
  rcases ycase (yN T) (by omega) l1 with hl | ⟨y, hy, rfl⟩
  · exact t7_hasf (yN T) hc.1 hl (bq0 (t9_isYf (yN T) hr.1 hn hl (bq0 ⟨rfl, T, h⟩)))
  · have hD := hT.D3 hy
    refine t7_hast (yN T) y hc.1 hn hy rfl (bq1 ?_)
    by_cases h7 : 0 ≤ l2 ∧ l2 ≤ 7
    · refine t8_inRt h7 (br1 ?_)
      obtain ⟨k, hk, rfl⟩ : ∃ k, k < 8 ∧ l2 = nI k := by
        refine nv_ex (n := 8) (by decide) (Int32.not_lt.mpr h7.1) fun q => ?_
        have := iv_le.mp (Int32.le_trans q h7.2)
        revert this; decide
      have hin : vp_in (nI y) 16 := nv_in (by omega) (by decide)
      have htn : (nI y).toNatClampNeg = y := nv_tn (by omega)
      obtain ⟨hf, -⟩ := hc.2 y hy
      obtain ⟨hg, -⟩ := hr.2 y hy
      have hki : (nI k).toInt = (k : Int) := nv_toInt (by omega)
      have told : ∀ v : Int32, k < 4 → v = c.1 3 (8 * y + k) → w_X9_toldOf (nI y) (nI k) r (fun b r' => v = b ∧ Sim c r') := by
        intro v hk4 hv
        have hk' : k = 0 ∨ k = 1 ∨ k = 2 ∨ k = 3 := by omega
        unfold w_X9_toldOf
        rw [htn]
        rcases hk' with rfl | rfl | rfl | rfl
        · refine bnf (by rfl) ⟨hin, ?_, T, h⟩
          rw [hv, hf.1, hg.2.2.2.1]
        · refine bnt (by decide) (bnf (by rfl) ⟨hin, ?_, T, h⟩)
          rw [hv, hf.2.1, hg.2.2.1]
        · refine bnt (by decide) (bnt (by decide) (bnf (by rfl) ⟨hin, ?_, T, h⟩))
          rw [hv, hf.2.2.1, hg.2.1]
        · refine bnt (by decide) (bnt (by decide) (bnt (by decide) ⟨hin, ?_, T, h⟩))
          rw [hv, hf.2.2.2.1, hg.2.2.2.2]
      have ref : ∀ v : Int32, (k = 7 → v = byv T y) → (k < 7 → v = c.1 3 (8 * y + k)) → w_X9_of (nI y) (nI k) r (fun b r' => v = b ∧ Sim c r') := by
        intro v hv7 hv
        refine t9_isYt (yN T) y hr.1 hn hy rfl (bq1 (t9_int h7 (br1 ?_)))
        rw [htn, hki]
        refine ⟨fun e => ⟨hin, ?_, T, h⟩, fun e => t9_depth hT hr 5 y rfl hy (by omega) ⟨?_, T, h⟩, fun e => t9_walkOver hT hr rfl hy fun r1 hk1 hm _ => ⟨?_, h.both sC.rf hk1.sR⟩, fun e => t9_byOf hT hr rfl hy ⟨hv7 (by omega), T, h⟩, fun e => told v (by omega) (hv (by omega))⟩
        · rw [hv (by omega), hg.1]
          have : k = 4 := by omega
          subst this; exact hf.2.2.2.2.1
        · rw [hv (by omega)]
          have : k = 5 := by omega
          subst this; exact hf.2.2.2.2.2.1
        · rw [hv (by omega), hm]
          have : k = 6 := by omega
          subst this; exact hf.2.2.2.2.2.2.1
      refine bnc (fun e => t7_fact y k (by omega) hk rfl rfl (ref _ (fun w => absurd (by rw [w]; rfl) e) fun _ => rfl)) fun e => t7_by hT hc rfl hy (ref _ (fun _ => rfl) fun w => ?_)
      have := nv_inj (a := k) (b := 7) (by omega) (by omega) e
      omega
    · exact t8_inRf h7 (br0 (t9_isYt (yN T) y hr.1 hn hy rfl (bq1 (t9_inf h7 (br0 ⟨rfl, T, h⟩)))))
theorem eq_partOf {c r : zz_Hp} (h : Sim c r) (l1 l2 : Int32) : w_X8_partOf l1 l2 c (fun a c' => w_X9_partOf l1 l2 r (fun b r' => a = b ∧ Sim c' r')) := by
  obtain ⟨T, h⟩ := h
  have hT := h.1; have hc : CT T c := h.2.1; have hr : RT T r := h.2.2.1; have hn := hT.1
  rcases ycase (yN T) (by omega) l1 with hl | ⟨y, hy, rfl⟩
  · exact t7_hasf (yN T) hc.1 hl (bq0 (t9_isYf (yN T) hr.1 hn hl (bq0 ⟨rfl, T, h⟩)))
  · have hP := hT.P4 hy
    have hin : vp_in (nI y) 16 := nv_in (by omega) (by decide)
    have htn : (nI y).toNatClampNeg = y := nv_tn (by omega)
    refine t7_hast (yN T) y hc.1 hn hy rfl (bq1 (brc (fun e => t7_fact y 4 (by omega) (by omega) rfl rfl ?_) fun e => t9_isYt (yN T) y hr.1 hn hy rfl (bq1 (brf e ⟨rfl, T, h⟩))))
    rw [(hc.2 y hy).1.2.2.2.2.1]
    refine brc (fun e2 => ?_) fun e2 => ?_
    · refine t9_isYt (yN T) y hr.1 hn hy rfl (bq1 (brt e ⟨hin, ?_⟩))
      rw [htn, (hr.2 y hy).1.1]
      exact t9_idxf (yP T y) rfl (by omega) (Or.inr e2) (bq0 ⟨rfl, T, h⟩)
    · obtain ⟨i, hi, rfl⟩ := nv_ex (n := yP T y) (by omega) (Int32.not_lt.mpr e) e2
      refine t7_partAt y i (by omega) (by omega) rfl rfl (t9_isYt (yN T) y hr.1 hn hy rfl (bq1 (brt e ⟨hin, ?_⟩)))
      rw [htn, (hr.2 y hy).1.1]
      refine t9_idxt (yP T y) i rfl (by omega) hi rfl (bq1 ?_)
      rw [ix_4', nv_tn (by omega)]
      exact ⟨nv_in (by omega) (by decide), by rw [(hc.2 y hy).2 i hi, (hr.2 y hy).2 i hi], T, h⟩
-- alike
def alB (f : Nat → Bool) : Nat → Bool
  | 0 => true
  | k + 1 => alB f k && f k
def alk (T : Tb) (sg : Int32) : Nat → Nat → Nat → Bool
  | 0, _, _ => false
  | k + 1, a, b => decide (yP T a = yP T b) && (decide (yT T a = sg * yT T b) && (decide (yF T a = yF T b) && (decide (yW T a = yW T b) && alB (fun p => alk T sg k (yQ T a p) (yQ T b p)) (yP T a))))
theorem alB_le {f : Nat → Bool} {i n : Nat} (h : i ≤ n) (hf : alB f i = false) : alB f n = false := by
  induction h with
  | refl => exact hf
  | step _ ih => simp [alB, ih]
theorem t8_areAlike {T : Tb} (hT : okT T) {c : zz_Hp} (hc : CT T c) {sg : Int32} : ∀ (k a b : Nat) {l1 l2 lv : Int32} (v : Nat) {Q : Int32 → zz_Hp → Prop}, l1 = nI a → l2 = nI b → lv = nI v → v + yD T a ≤ 3 → a < yN T → b < yN T → yD T a < k → (alk T sg k a b = true → Q 1 c) → (alk T sg k a b = false → Q 0 c) → w_X8_areAlike k l1 l2 sg lv c Q := by
  have hn := hT.1
  intro k
  induction k with
  | zero => intro a b l1 l2 lv v Q _ _ _ _ _ _ h; omega
  | succ k ih =>
    intro a b l1 l2 lv v Q e1 e2 e3 hv ha hb hD H1 H0
    subst e1; subst e2; subst e3
    obtain ⟨fa, fa2⟩ := hc.2 a ha
    obtain ⟨fb, fb2⟩ := hc.2 b hb
    have hPa := hT.P4 ha; have hPb := hT.P4 hb
    unfold w_X8_areAlike w_X8_areAlike_b
    refine t7_fact a 4 (by omega) (by omega) rfl rfl (brf (by rw [lit_3, nv_lt (by omega) (by omega)]; omega) (t7_fact b 4 (by omega) (by omega) rfl rfl ?_))
    rw [fa.2.2.2.2.1, fb.2.2.2.2.1]
    refine bnc (fun e => H0 ?_) fun e => ?_
    · have : ¬ yP T a = yP T b := fun w => e (by rw [w])
      simp [alk, this]
    · have eP := nv_inj (by omega) (by omega) e
      refine t7_fact a 0 (by omega) (by omega) rfl rfl (t7_fact b 0 (by omega) (by omega) rfl rfl ?_)
      rw [fa.1, fb.1]
      refine bnc (fun e => H0 ?_) fun eT => ?_
      · simp [alk, e]
      · refine t7_fact a 2 (by omega) (by omega) rfl rfl (t7_fact b 2 (by omega) (by omega) rfl rfl ?_)
        rw [fa.2.2.1, fb.2.2.1]
        refine bnc (fun e => H0 ?_) fun eF => ?_
        · simp [alk, e]
        · refine t7_fact a 1 (by omega) (by omega) rfl rfl (t7_fact b 1 (by omega) (by omega) rfl rfl ?_)
          rw [fa.2.1, fb.2.1]
          refine brc (fun eW => ?_) fun e => H0 ?_
          · have eA : alk T sg (k + 1) a b = alB (fun p => alk T sg k (yQ T a p) (yQ T b p)) (yP T a) := by simp [alk, eP, eT, eF, eW]
            rw [eA] at H1 H0
            refine lp_cnt (yP T a) (fun i s => s = (nI i, c) ∧ alB (fun p => alk T sg k (yQ T a p) (yQ T b p)) i = true) ?_ _ ⟨rfl, rfl⟩
            rintro i s hi ⟨rfl, hal⟩ again hag
            unfold w_X8_areAlike_l77
            dsimp only
            refine brc (fun e => ?_) fun e => ?_
            · have : i = yP T a := by have := (nv_le (by omega) (by omega)).mp e; omega
              subst this; exact H1 hal
            · have hlt : i < yP T a := by
                rcases Nat.lt_or_ge i (yP T a) with q | q
                · exact q
                · exact absurd ((nv_le (by omega) (by omega)).mpr q) e
              have hpa := hT.part ha hlt
              have hpb := hT.part hb (show i < yP T b by omega)
              refine t7_partAt a i (by omega) (by omega) rfl rfl (t7_partAt b i (by omega) (by omega) rfl rfl ?_)
              rw [fa2 i hlt, fb2 i (by omega), lit_1, nv_add]
              refine ih _ _ (v + 1) rfl rfl rfl (by omega) hpa.2.1 hpb.2.1 (by omega) (fun w => br1 ?_) fun w => br0 ?_
              · rw [nv_add]
                exact hag hlt _ ⟨rfl, by simp [alB, hal, w]⟩
              · exact H0 (alB_le (i := i + 1) (by omega) (by simp [alB, w]))
          · simp [alk, e]
theorem t9_areAlike {T : Tb} (hT : okT T) {r : zz_Hp} (hr : RT T r) {sg : Int32} : ∀ (k a b : Nat) {l1 l2 : Int32} {Q : Int32 → zz_Hp → Prop}, l1 = nI a → l2 = nI b → a < yN T → b < yN T → yD T a < k → (alk T sg k a b = true → Q 1 r) → (alk T sg k a b = false → Q 0 r) → w_X9_areAlike k l1 l2 sg r Q := by
  have hn := hT.1
  intro k
  induction k with
  | zero => intro a b l1 l2 Q _ _ _ _ h; omega
  | succ k ih =>
    intro a b l1 l2 Q e1 e2 ha hb hD H1 H0
    subst e1; subst e2
    obtain ⟨fa, fa2⟩ := hr.2 a ha
    obtain ⟨fb, fb2⟩ := hr.2 b hb
    have hPa := hT.P4 ha; have hPb := hT.P4 hb
    have hia : vp_in (nI a) 16 := nv_in (by omega) (by decide)
    have hib : vp_in (nI b) 16 := nv_in (by omega) (by decide)
    have hta : (nI a).toNatClampNeg = a := nv_tn (by omega)
    have htb : (nI b).toNatClampNeg = b := nv_tn (by omega)
    unfold w_X9_areAlike w_X9_areAlike_b
    rw [hta, htb, fa.1, fb.1, fa.2.2.2.1, fb.2.2.2.1, fa.2.1, fb.2.1, fa.2.2.1, fb.2.2.1]
    refine ⟨hia, hib, bnc (fun e => H0 ?_) fun e => ⟨hia, hib, brc (fun eT => ⟨hia, bnc (fun e0 => ?_) fun e0 => ⟨hia, hib, bnc (fun e => H0 ?_) fun eF => ⟨hia, hib, bnc (fun e => H0 ?_) fun eW => H1 ?_⟩⟩⟩) fun e => H0 ?_⟩⟩
    · have : ¬ yP T a = yP T b := fun w => e (by rw [w])
      simp [alk, this]
    · have eP := nv_inj (by omega) (by omega) e
      have h0 : ¬ yP T a = 0 := fun w => e0 (by rw [w]; rfl)
      have pl : ∀ y, y < yN T → ¬ yP T y = 0 → yW T y = -1 ∧ yF T y = -1 := by
        intro y hy h0
        obtain ⟨-, -, q | q⟩ := hT.2 y hy
        · omega
        · exact ⟨q.2.2.2.2.2.1, q.2.2.2.2.2.2⟩
      have pa := pl a ha h0; have pb := pl b hb (by omega)
      have eA : alk T sg (k + 1) a b = alB (fun p => alk T sg k (yQ T a p) (yQ T b p)) (yP T a) := by simp [alk, eP, eT, pa, pb]
      rw [eA] at H1 H0
      refine lp_cnt (yP T a) (fun i s => s = (nI i, r) ∧ alB (fun p => alk T sg k (yQ T a p) (yQ T b p)) i = true) ?_ _ ⟨rfl, rfl⟩
      rintro i s hi ⟨rfl, hal⟩ again hag
      unfold w_X9_areAlike_l82
      dsimp only
      rw [hta, fa.1]
      refine ⟨hia, brc (fun e => ?_) fun e => ?_⟩
      · have : i = yP T a := by have := (nv_le (by omega) (by omega)).mp e; omega
        subst this; exact H1 hal
      · have hlt : i < yP T a := by
          rcases Nat.lt_or_ge i (yP T a) with q | q
          · exact q
          · exact absurd ((nv_le (by omega) (by omega)).mpr q) e
        have hpa := hT.part ha hlt
        have hpb := hT.part hb (show i < yP T b by omega)
        rw [ix_4', ix_4', nv_tn (by omega), nv_tn (by omega), fa2 i hlt, fb2 i (by omega), lit_1, nv_add]
        refine ⟨nv_in (by omega) (by decide), nv_in (by omega) (by decide), ih _ _ rfl rfl hpa.2.1 hpb.2.1 (by omega) (fun w => br1 ?_) fun w => br0 ?_⟩
        · exact hag hlt _ ⟨rfl, by simp [alB, hal, w]⟩
        · exact H0 (alB_le (i := i + 1) (by omega) (by simp [alB, w]))
    · simp [alk, e]
    · simp [alk, e]
    · have eP := nv_inj (by omega) (by omega) e
      have h0 : yP T a = 0 := nv_inj (by omega) (by omega) e0
      have h0b : yP T b = 0 := by omega
      simp [alk, h0, h0b, eT, eF, eW, alB]
    · simp [alk, e]
