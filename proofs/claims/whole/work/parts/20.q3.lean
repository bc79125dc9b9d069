/-! alike, plan -/
theorem eq_alike {c r : zz_Hp} (h : Sim c r) (l1 l2 l3 : Int32) : w_X8_alike l1 l2 l3 c (fun a c' => w_X9_alike l1 l2 l3 r (fun b r' => a = b ∧ Sim c' r')) := by
  obtain ⟨T, h⟩ := h
  have hT := h.1; have hc : CT T c := h.2.1; have hr : RT T r := h.2.2.1; have hn := hT.1
  rcases ycase (yN T) (by omega) l1 with hl | ⟨a, ha, rfl⟩
  · exact t7_hasf (yN T) hc.1 hl (bq0 (t9_isYf (yN T) hr.1 hn hl (bq0 ⟨rfl, T, h⟩)))
  · refine t7_hast (yN T) a hc.1 hn ha rfl (bq1 ?_)
    rcases ycase (yN T) (by omega) l2 with hl | ⟨b, hb, rfl⟩
    · exact t7_hasf (yN T) hc.1 hl (bq0 (t9_isYt (yN T) a hr.1 hn ha rfl (bq1 (t9_isYf (yN T) hr.1 hn hl (bq0 ⟨rfl, T, h⟩)))))
    · refine t7_hast (yN T) b hc.1 hn hb rfl (bq1 ?_)
      have hD := hT.D3 ha
      by_cases h3 : 0 ≤ l3 ∧ l3 ≤ 1
      · have ref : ∀ (sg v : Int32), (sg = if l3 = 0 then 1 else -1) → (alk T sg 5 a b = true → v = 1) → (alk T sg 5 a b = false → v = 0) → w_X9_alike (nI a) (nI b) l3 r (fun x r' => v = x ∧ Sim c r') := by
          intro sg v hsg H1 H0
          refine t9_isYt (yN T) a hr.1 hn ha rfl (bq1 (t9_isYt (yN T) b hr.1 hn hb rfl (bq1 (t9_int h3 (br1 ?_)))))
          have fin : w_X9_alike_j39 (fun x r' => v = x ∧ Sim c r') sg (nI b) (nI a) r := by
            refine t9_areAlike hT hr 5 a b rfl rfl ha hb (by omega) (fun w => bq1 ⟨H1 w, T, h⟩) fun w => bq0 ⟨H0 w, T, h⟩
          refine bnc (fun e => ?_) fun e => ?_
          · rw [if_neg e] at hsg; subst hsg; exact fin
          · rw [if_pos e] at hsg; subst hsg; exact fin
        refine t8_inRt h3 (br1 (bnc (fun e => ?_) fun e => ?_))
        · refine t8_areAlike hT hc 5 a b 0 rfl rfl rfl (by omega) ha hb (by omega) (fun w => bq1 (ref (-1) 1 (by rw [if_neg e]) (fun _ => rfl) fun z => ?_)) fun w => bq0 (ref (-1) 0 (by rw [if_neg e]) (fun z => ?_) fun _ => rfl)
          · rw [w] at z; cases z
          · rw [w] at z; cases z
        · refine t8_areAlike hT hc 5 a b 0 rfl rfl rfl (by omega) ha hb (by omega) (fun w => bq1 (ref 1 1 (by rw [if_pos e]) (fun _ => rfl) fun z => ?_)) fun w => bq0 (ref 1 0 (by rw [if_pos e]) (fun z => ?_) fun _ => rfl)
          · rw [w] at z; cases z
          · rw [w] at z; cases z
      · exact t8_inRf h3 (br0 (t9_isYt (yN T) a hr.1 hn ha rfl (bq1 (t9_isYt (yN T) b hr.1 hn hb rfl (bq1 (t9_inf h3 (br0 ⟨rfl, T, h⟩)))))))
/-- how heavy n times a thread of weight w are, plied by t -/
def hvy (w t n : Int32) : Int32 := (n * w * ((100000 + (1000 - av t * n) - 1) / (1000 - av t * n))) / 100
theorem av_abs (t : Int32) : (if 0 ≤ t then t else 0 - t) = av t := by
  unfold av; split
  · rfl
  · exact Int32.zero_sub _
theorem by_num {t : Int32} {n : Nat} (ht : okV 0 t) (hn : n ≤ 4) : 0 < (1000 - av t * nI n).toInt := by
  have h0 := okV0 ht
  have ha := av_toInt (t := t) (by omega) (by omega)
  have h4 : (av t).toInt * (n : Int) ≤ 99 * 4 := Int.mul_le_mul (by rw [ha]; split <;> omega) (by omega) (by omega) (by omega)
  have h5 : 0 ≤ (av t).toInt * (n : Int) := Int.mul_nonneg (by rw [ha]; split <;> omega) (by omega)
  have hm : (av t * nI n).toInt = (av t).toInt * (n : Int) := by
    rw [Int32.toInt_mul, nv_toInt (by omega)]
    exact Int.bmod_eq_of_le (by omega) (by omega)
  rw [Int32.toInt_sub, hm, show (1000 : Int32).toInt = 1000 by decide, Int.bmod_eq_of_le (by omega) (by omega)]
  omega
theorem t8_plannedHeavy {c : zz_Hp} {w t m : Int32} {n : Nat} (em : m = nI n) (hn : n ≤ 4) (ht : okV 0 t) {Q : Int32 → zz_Hp → Prop} (H : Q (hvy w t m) c) : w_X8_plannedHeavy w t m c Q := by
  unfold w_X8_plannedHeavy w_X8_byOfPlied w_X8_cutUp
  rw [av_abs]
  have hb := by_num ht hn
  rw [← em] at hb
  refine brt (iv_lt.mpr (by simpa using hb)) ⟨fun e => ?_, H⟩
  rw [e] at hb; revert hb; decide
/-- the best of 2, 3, .. n by the wish -/
def bstN (w t wish : Int32) : Nat → Int32
  | 0 => 2
  | k + 1 => if av (hvy w t (bstN w t wish k) - wish) ≤ av (hvy w t (nI (k + 3)) - wish) then bstN w t wish k else nI (k + 3)
theorem bst_ok {w t wish : Int32} : ∀ k, k ≤ 2 → ∃ n, 2 ≤ n ∧ n ≤ 4 ∧ bstN w t wish k = nI n
  | 0, _ => ⟨2, by omega, by omega, rfl⟩
  | k + 1, h => by
    simp only [bstN]; split
    · exact bst_ok k (by omega)
    · exact ⟨k + 3, by omega, by omega, rfl⟩
theorem t7_isThread0 {T : Tb} {c : zz_Hp} (hc : CT T c) {l : Int32} {Q : Int32 → zz_Hp → Prop} (hl : l < 0 ∨ nI (yN T) ≤ l) (H0 : Q 0 c) : w_X7_isThread l c Q := by
  unfold w_X7_isThread
  exact t7_hasf (yN T) hc.1 hl (bq0 H0)
theorem t9_isThread0 {T : Tb} (hT : okT T) {r : zz_Hp} (hr : RT T r) {l : Int32} {Q : Int32 → zz_Hp → Prop} (hl : l < 0 ∨ nI (yN T) ≤ l) (H0 : Q 0 r) : w_X9_isThread l r Q := by
  unfold w_X9_isThread
  exact t9_isYf (yN T) hr.1 hT.1 hl (bq0 H0)
theorem t9_isThread {T : Tb} (hT : okT T) {r : zz_Hp} (hr : RT T r) {y : Nat} {l : Int32} {Q : Int32 → zz_Hp → Prop} (e : l = nI y) (hy : y < yN T) (H1 : yP T y = 0 → Q 1 r) (H0 : ¬ yP T y = 0 → Q 0 r) : w_X9_isThread l r Q := by
  have hn := hT.1
  have hP := hT.P4 hy
  subst e
  unfold w_X9_isThread
  refine t9_isYt (yN T) y hr.1 hn hy rfl (bq1 ⟨nv_in (by omega) (by decide), ?_⟩)
  rw [nv_tn (by omega), (hr.2 y hy).1.1]
  exact bnc (fun w => H0 fun z => w (by rw [z]; rfl)) fun w => H1 (nv_inj (by omega) (by omega) w)
theorem eq_plan {c r : zz_Hp} (h : Sim c r) (l1 l2 l3 l4 : Int32) : w_X8_plan l1 l2 l3 l4 c (fun a c' => w_X9_plan l1 l2 l3 l4 r (fun b r' => a = b ∧ Sim c' r')) := by
  obtain ⟨T, h⟩ := h
  have hT := h.1; have hc : CT T c := h.2.1; have hr : RT T r := h.2.2.1; have hn := hT.1
  rcases ycase (yN T) (by omega) l1 with hl | ⟨y, hy, rfl⟩
  · exact t7_isThread0 hc hl (bq0 (t9_isThread0 hT hr hl (bq0 ⟨rfl, T, h⟩)))
  · have hP := hT.P4 hy
    have hin : vp_in (nI y) 16 := nv_in (by omega) (by decide)
    have htn : (nI y).toNatClampNeg = y := nv_tn (by omega)
    by_cases h0 : yP T y = 0
    · have thr : ∀ {Q : Int32 → zz_Hp → Prop}, Q 1 r → w_X9_isThread (nI y) r Q := fun HQ => t9_isThread hT hr rfl hy (fun _ => HQ) fun w => absurd h0 w
      refine t7_isThread hT hc rfl hy (fun _ => bq1 ?_) fun w => absurd h0 w
      by_cases ht : okV 0 l2
      · refine t8_toldt 0 (by omega) rfl ht (bq1 ?_)
        by_cases hw : 0 ≤ l3 ∧ l3 ≤ 9999
        · refine t8_inRt hw (bq1 ?_)
          by_cases h4 : 0 ≤ l4 ∧ l4 ≤ 1
          · refine t8_inRt h4 (br1 (t7_fact y 1 (by omega) (by omega) rfl rfl ?_))
            rw [(hc.2 y hy).1.2.1]
            have ref : ∀ v : Int32, (v = if l4 = 0 then bstN (yW T y) l2 l3 2 else hvy (yW T y) l2 (bstN (yW T y) l2 l3 2)) → w_X9_plan (nI y) l2 l3 l4 r (fun b r' => v = b ∧ Sim c r') := by
              intro v hv
              refine thr (bq1 (t9_int ht (bq1 (t9_int hw (bq1 (t9_int h4 (br1 ?_)))))))
              refine lp_cnt 3 (fun k s => (k = 0 ∧ s = (0, 0, 2, r)) ∨ (∃ j, k = j + 1 ∧ s = (bstN (yW T y) l2 l3 j, hvy (yW T y) l2 (bstN (yW T y) l2 l3 j), nI (j + 3), r))) ?_ _ (Or.inl ⟨rfl, rfl⟩)
              intro k s hk hs again hag
              have step : ∀ (b wg : Int32) (m : Nat), s = (b, wg, nI m, r) → m = k + 2 → (b = 0 ↔ k = 0) → (k < 3 → ∀ nb, (nb = if b = 0 ∨ ¬ (av (wg - l3) ≤ av (hvy (yW T y) l2 (nI m) - l3)) then (nI m, hvy (yW T y) l2 (nI m)) else (b, wg)) → again (nb.1, nb.2, nI (m + 1), r)) → (¬ k < 3 → (if l4 = 0 then b else wg) = v) → w_X9_plan_l51 again (fun b r' => v = b ∧ Sim c r') (nI y) l2 l3 l4 s.1 s.2.1 s.2.2.1 s.2.2.2 := by
                intro b wg m es em hb0 hst hend
                subst es
                unfold w_X9_plan_l51
                dsimp only
                rw [htn]
                refine brc (fun e => ?_) fun e => ?_
                · rw [lit_4, nv_lt (by omega) (by omega)] at e
                  have := hend (by omega)
                  refine bnc (fun e4 => ⟨?_, T, h⟩) fun e4 => ⟨?_, T, h⟩
                  · rw [if_neg e4] at this; exact this.symm
                  · rw [if_pos e4] at this; exact this.symm
                · rw [lit_4, nv_lt (by omega) (by omega)] at e
                  have hk3 : k < 3 := by omega
                  refine t9_sizeOf ⟨fun w => ?_, hin, ?_⟩
                  · have := by_num ht (n := m) (by omega)
                    rw [w] at this; revert this; decide
                  · rw [(hr.2 y hy).1.2.2.1]
                    have eh : ((nI m * yW T y) * (((100000 + (1000 - (av l2 * nI m))) - 1) / (1000 - (av l2 * nI m)))) / 100 = hvy (yW T y) l2 (nI m) := rfl
                    rw [eh, lit_1, nv_add]
                    have hj : ∀ q, w_X9_plan_j121 again q (nI y) l2 l3 l4 (nI m) (hvy (yW T y) l2 (nI m)) r ↔ again (nI m, hvy (yW T y) l2 (nI m), nI (m + 1), r) := by
                      intro q; unfold w_X9_plan_j121; rw [lit_1, nv_add]
                    rw [hj]
                    refine brc (fun eb => ?_) fun eb => ?_
                    · have := hst hk3 _ rfl
                      rw [if_pos (Or.inl eb)] at this
                      exact this
                    · refine t9_sizeOf (t9_sizeOf ?_)
                      rw [hj]
                      have := hst hk3 _ rfl
                      refine brc (fun e5 => ?_) fun e5 => ?_
                      · rw [if_neg (fun z => z.elim eb (fun z => z e5))] at this; exact this
                      · rw [if_pos (Or.inr e5)] at this; exact this
              rcases hs with ⟨rfl, rfl⟩ | ⟨j, rfl, rfl⟩
              · refine step 0 0 2 rfl rfl ⟨fun _ => rfl, fun _ => rfl⟩ (fun _ nb enb => ?_) (fun w => by omega)
                rw [if_pos (Or.inl rfl)] at enb
                subst enb
                exact hag (by omega) _ (Or.inr ⟨0, rfl, rfl⟩)
              · obtain ⟨n, hn2, hn4, en⟩ := bst_ok (w := yW T y) (t := l2) (wish := l3) j (by omega)
                refine step _ _ (j + 3) rfl (by omega) ⟨fun w => ?_, fun w => by omega⟩ (fun hk3 nb enb => ?_) fun w => ?_
                · rw [en] at w; exact absurd w (nI_ne0' (by omega) (by omega))
                · refine hag (by omega) _ (Or.inr ⟨j + 1, rfl, ?_⟩)
                  have e0 : ¬ bstN (yW T y) l2 l3 j = 0 := by rw [en]; exact nI_ne0' (by omega) (by omega)
                  by_cases e5 : av (hvy (yW T y) l2 (bstN (yW T y) l2 l3 j) - l3) ≤ av (hvy (yW T y) l2 (nI (j + 3)) - l3)
                  · rw [if_neg (fun z => z.elim e0 (fun z => z e5))] at enb
                    subst enb
                    have : bstN (yW T y) l2 l3 (j + 1) = bstN (yW T y) l2 l3 j := by simp only [bstN]; rw [if_pos e5]
                    rw [this]
                  · rw [if_pos (Or.inr e5)] at enb
                    subst enb
                    have : bstN (yW T y) l2 l3 (j + 1) = nI (j + 3) := by simp only [bstN]; rw [if_neg e5]
                    rw [this]
                · have : j = 2 := by omega
                  subst this
                  exact hv.symm
            refine lp_cnt 2 (fun k s => s = (bstN (yW T y) l2 l3 k, nI (k + 3), c)) ?_ _ rfl
            intro k s hk hs again hag
            subst hs
            obtain ⟨n, hn2, hn4, en⟩ := bst_ok (w := yW T y) (t := l2) (wish := l3) k hk
            unfold w_X8_plan_l65
            dsimp only
            refine brc (fun e => ?_) fun e => ?_
            · rw [lit_4, nv_lt (by omega) (by omega)] at e
              have : k = 2 := by omega
              subst this
              refine bnc (fun e4 => t8_plannedHeavy en (by omega) ht (ref _ ?_)) fun e4 => ref _ ?_
              · rw [if_neg e4]
              · rw [if_pos e4]
            · rw [lit_4, nv_lt (by omega) (by omega)] at e
              refine t8_plannedHeavy rfl (by omega) ht (t8_plannedHeavy en (by omega) ht ?_)
              rw [av_abs, av_abs, lit_1, nv_add]
              refine brc (fun e5 => hag (by omega) _ ?_) fun e5 => hag (by omega) _ ?_
              · simp only [bstN]; rw [if_pos e5]
              · simp only [bstN]; rw [if_neg e5]
          · exact t8_inRf h4 (br0 (thr (bq1 (t9_int ht (bq1 (t9_int hw (bq1 (t9_inf h4 (br0 ⟨rfl, T, h⟩)))))))))
        · exact t8_inRf hw (bq0 (thr (bq1 (t9_int ht (bq1 (t9_inf hw (bq0 ⟨rfl, T, h⟩)))))))
      · exact t8_toldf 0 (by omega) rfl ht (bq0 (thr (bq1 (t9_inf ht (bq0 ⟨rfl, T, h⟩)))))
    · exact t7_isThread hT hc rfl hy (fun w => absurd w h0) fun _ => bq0 (t9_isThread hT hr rfl hy (fun w => absurd w h0) fun _ => bq0 ⟨rfl, T, h⟩)
