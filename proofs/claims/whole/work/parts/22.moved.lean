/-! balance, film: the twist of one within moved -/
theorem okT_Tat {T : Tb} (hT : okT T) {at_ t : Int32} (ht : okV 0 t) : okT (Tat T at_ t) := by
  refine ⟨hT.1, fun y hy => ?_⟩
  obtain ⟨h1, h2⟩ := hT.2 y hy
  refine ⟨?_, h2⟩
  show okV 0 (twt T at_ t y)
  unfold twt; split
  · exact ht
  · exact h1
/-- the reference's heap, with the twist of a being t -/
def atS (a : Nat) (t : Int32) (r r' : zz_Hp) : Prop := (∀ k, k ≠ 5 → r'.1 k = r.1 k) ∧ (∀ q, q ≠ a → r'.1 5 q = r.1 5 q) ∧ r'.1 5 a = t
theorem atS.put {a : Nat} {t t' : Int32} {r r' : zz_Hp} (h : atS a t r r') : atS a t' r (zz_uI r' 5 a t') :=
  ⟨fun k hk => by rw [zu_f hk]; exact h.1 k hk, fun q hq => by rw [zu_ne (Or.inr hq)]; exact h.2.1 q hq, zu_eq ⟨rfl, rfl⟩⟩
theorem atS.rf {a : Nat} {r : zz_Hp} : atS a (r.1 5 a) r r := ⟨fun _ _ => rfl, fun _ _ => rfl, rfl⟩
theorem atS.back {a : Nat} {r r' : zz_Hp} (h : atS a (r.1 5 a) r r') : ∀ k, r'.1 k = r.1 k := by
  intro k
  by_cases hk : k = 5
  · subst hk
    funext q
    by_cases hq : q = a
    · rw [hq, h.2.2]
    · exact h.2.1 q hq
  · exact h.1 k hk
theorem atS.rt {T : Tb} (hT : okT T) {a : Nat} {t : Int32} {r r' : zz_Hp} (hr : RT T r) (ha : a < yN T) (h : atS a t r r') : RT (Tat T (nI a) t) r' := by
  have hn := hT.1
  unfold RT
  rw [h.1 0 (by decide), h.1 1 (by decide), h.1 2 (by decide), h.1 3 (by decide), h.1 4 (by decide), h.1 6 (by decide)]
  refine ⟨hr.1, fun y hy => ?_⟩
  have hy' : y < yN T := hy
  obtain ⟨⟨h1, h2, h3, h4, h5⟩, h6⟩ := hr.2 y hy'
  refine ⟨⟨h1, h2, h3, ?_, h5⟩, h6⟩
  show r'.1 5 y = twt T (nI a) t y
  unfold twt
  by_cases e : y = a
  · rw [e, if_pos rfl, h.2.2]
  · rw [if_neg (fun w => e (nv_inj (by omega) (by omega) w)), h.2.1 y e, h4]
theorem t7_isInside {T : Tb} (hT : okT T) {c : zz_Hp} (hc : CT T c) {y a : Nat} {l m : Int32} (el : l = nI y) (hy : y < yN T) {Q : Int32 → zz_Hp → Prop} (H1 : ((bt (yP T) (yQ T) 5 y >>> (m &&& 31)) &&& 1) = 1 → Q 1 c) (H0 : ¬ ((bt (yP T) (yQ T) 5 y >>> (m &&& 31)) &&& 1) = 1 → Q 0 c) : w_X7_isInside m l c Q := by
  have hn := hT.1
  refine t7_fact y 7 (by omega) (by omega) el rfl ?_
  rw [(hc.2 y hy).1.2.2.2.2.2.2.2]
  exact bnc H0 H1
theorem t9_isIn {T : Tb} (hT : okT T) {r : zz_Hp} (hr : RT T r) {y : Nat} {l m : Int32} (el : l = nI y) (hy : y < yN T) {Q : Int32 → zz_Hp → Prop} (H1 : ((bt (yP T) (yQ T) 5 y >>> (m &&& 31)) &&& 1) = 1 → Q 1 r) (H0 : ¬ ((bt (yP T) (yQ T) 5 y >>> (m &&& 31)) &&& 1) = 1 → Q 0 r) : w_X9_isIn l m r Q :=
  t9_bits hT hr 5 y el hy (by have := hT.D3 hy; omega) (bnc H0 H1)
theorem nv_div {a b : Nat} (ha : a < 2147483648) (hb : b < 2147483648) : nI a / nI b = nI (a / b) := by
  have hq : a / b ≤ a := Nat.div_le_self a b
  apply Int32.toInt_inj.mp
  rw [Int32.toInt_div, nv_toInt ha, nv_toInt hb, nv_toInt (Nat.lt_of_le_of_lt hq ha), ← Int.ofNat_tdiv]
  generalize a / b = q at hq
  rw [Int.bmod_eq_of_le (by omega) (by omega)]
theorem nv_neg {n : Nat} (h : n < 2147483648) : (-nI n).toInt = -(n : Int) := by
  rw [Int32.toInt_neg, nv_toInt h, Int.bmod_eq_of_le (by omega) (by omega)]
theorem okV0_of {t : Int32} (h1 : -99 ≤ t.toInt) (h2 : t.toInt ≤ 99) : okV 0 t := by
  constructor
  · exact iv_le.mpr (by rw [show (zz_lt 0).toInt = -99 by decide]; exact h1)
  · exact iv_le.mpr (by rw [show (zz_mt 0).toInt = 99 by decide]; exact h2)
/-- the twists in the order in which they are tried -/
def sq (j : Nat) : Int32 := if j % 2 = 0 then -nI (j / 2 + 1) else nI (j / 2 + 1)
theorem sq_ok {j : Nat} (h : j < 198) : okV 0 (sq j) := by
  unfold sq; split
  · refine okV0_of ?_ ?_ <;> rw [nv_neg (by omega)] <;> omega
  · refine okV0_of ?_ ?_ <;> rw [nv_toInt (by omega)] <;> omega
def blF (g : Int32 → Int32) : Nat → Int32 × Int32
  | 0 => (0, g 0)
  | j + 1 => if av (blF g j).2 ≤ av (g (sq j)) then blF g j else (sq j, g (sq j))
theorem eq_balance {c r : zz_Hp} (h : Sim c r) (l1 l2 l3 : Int32) : w_X8_balance l1 l2 l3 c (fun a c' => w_X9_balance l1 l2 l3 r (fun b r' => a = b ∧ Sim c' r')) := by
  obtain ⟨T, h⟩ := h
  have hT := h.1; have hc : CT T c := h.2.1; have hr : RT T r := h.2.2.1; have hn := hT.1
  rcases ycase (yN T) (by omega) l1 with hl | ⟨y, hy, rfl⟩
  · exact t7_hasf (yN T) hc.1 hl (bq0 (t9_isYf (yN T) hr.1 hn hl (bq0 ⟨rfl, T, h⟩)))
  · refine t7_hast (yN T) y hc.1 hn hy rfl (bq1 ?_)
    rcases ycase (yN T) (by omega) l2 with hl | ⟨a, ha, rfl⟩
    · exact t7_hasf (yN T) hc.1 hl (bq0 (t9_isYt (yN T) y hr.1 hn hy rfl (bq1 (t9_isYf (yN T) hr.1 hn hl (bq0 ⟨rfl, T, h⟩)))))
    · refine t7_hast (yN T) a hc.1 hn ha rfl (bq1 ?_)
      by_cases h3 : 0 ≤ l3 ∧ l3 ≤ 1
      · refine t8_inRt h3 (br1 ?_)
        by_cases hb : ((bt (yP T) (yQ T) 5 y >>> (nI a &&& 31)) &&& 1) = 1
        · refine t7_isInside (a := a) hT hc rfl hy (fun _ => br1 ?_) fun w => absurd hb w
          refine t6_walk hT hc rfl hy fun c1 hf hw => t6_torqueBy hT (CT_fW hf hc) hy hw ?_
          have hc1 := CT_fW hf hc
          have ref : ∀ v : Int32, (v = if l3 = 0 then (blF (fun t => tq (Tat T (nI a) t) 5 y 0) 198).1 else (blF (fun t => tq (Tat T (nI a) t) 5 y 0) 198).2) → w_X9_balance (nI y) (nI a) l3 r (fun b r' => v = b ∧ Sim c1 r') := by
            intro v hv
            have hai : vp_in (nI a) 16 := nv_in (by omega) (by decide)
            have hat : (nI a).toNatClampNeg = a := nv_tn (by omega)
            refine t9_isYt (yN T) y hr.1 hn hy rfl (bq1 (t9_isYt (yN T) a hr.1 hn ha rfl (bq1 (t9_int h3 (br1 (t9_isIn hT hr rfl hy (fun _ => br1 ?_) fun w => absurd hb w))))))
            rw [hat]
            refine ⟨hai, hai, fun r1 e1 => ?_⟩
            have ha1 : atS a 0 r r1 := by rw [e1]; exact atS.rf.put
            have h00 : okV 0 0 := okV0_of (by decide) (by decide)
            refine t9_torqueOf (okT_Tat hT h00) (ha1.rt hT hr ha) rfl hy ?_
            refine lp_cnt 198 (fun j s => s.1 = (blF (fun t => tq (Tat T (nI a) t) 5 y 0) j).1 ∧ s.2.1 = (blF (fun t => tq (Tat T (nI a) t) 5 y 0) j).2 ∧ s.2.2.1 = nI (j + 2) ∧ ∃ t, atS a t r s.2.2.2) ?_ _ ⟨rfl, rfl, rfl, 0, ha1⟩
            intro j s hj hs again hag
            obtain ⟨u1, u2, u3, r2⟩ := s
            obtain ⟨q1, q2, q3, t, q4⟩ := hs
            dsimp only at q1 q2 q3 q4
            subst q1; subst q2; subst q3
            unfold w_X9_balance_l68
            dsimp only
            rw [hat]
            refine brc (fun e => ⟨hai, fun r3 e3 => ?_⟩) fun e => ?_
            · rw [show (200 : Int32) = nI 200 from rfl, nv_le (by omega) (by omega)] at e
              have : j = 198 := by omega
              subst this
              have hback : ∀ k, r3.1 k = r.1 k := by
                have : atS a (r.1 5 a) r r3 := by rw [e3]; exact q4.put
                exact this.back
              have hs' : Sim c1 r3 := h.both hf.sC ⟨fun k _ _ => hback k, fun j _ => by rw [hback 0]⟩
              refine bnc (fun e => ⟨?_, hs'⟩) fun e => ⟨?_, hs'⟩
              · rw [hv, if_neg e]
              · rw [hv, if_pos e]
            · rw [show (200 : Int32) = nI 200 from rfl, nv_le (by omega) (by omega)] at e
              have hlt : j < 198 := by omega
              have fin : ∀ t', t' = sq j → w_X9_balance_j95 again (fun b r' => v = b ∧ Sim c1 r') (nI y) (nI a) l3 (r.1 5 a) (blF (fun t => tq (Tat T (nI a) t) 5 y 0) j).1 (blF (fun t => tq (Tat T (nI a) t) 5 y 0) j).2 (nI (j + 2)) t' r2 := by
                intro t' ht'
                subst ht'
                unfold w_X9_balance_j95
                rw [hat]
                refine ⟨hai, fun r3 e3 => ?_⟩
                have q5 : atS a (sq j) r r3 := by rw [e3]; exact q4.put
                refine t9_torqueOf (okT_Tat hT (sq_ok hlt)) (q5.rt hT hr ha) rfl hy (t9_sizeOf (t9_sizeOf ?_))
                rw [nv_1]
                refine brc (fun e => hag hlt _ ⟨?_, ?_, rfl, _, q5⟩) fun e => hag hlt _ ⟨?_, ?_, rfl, _, q5⟩
                · simp only [blF]; rw [if_pos e]
                · simp only [blF]; rw [if_pos e]
                · simp only [blF]; rw [if_neg e]
                · simp only [blF]; rw [if_neg e]
              have ed : nI (j + 2) / 2 = nI (j / 2 + 1) := by
                rw [lit_2, nv_div (by omega) (by omega)]; congr 1; omega
              have em : nI (j + 2) - nI (j / 2 + 1) * 2 = nI (j % 2) := by
                rw [lit_2, nv_mul, nv_sub (by omega)]; congr 1; omega
              rw [ed, em]
              refine bnc (fun e => fin _ ?_) fun e => fin _ ?_
              · have : ¬ j % 2 = 0 := fun w => e (by rw [w]; rfl)
                unfold sq; rw [if_neg this]
              · have : j % 2 = 0 := nv_inj (by omega) (by omega) e
                unfold sq; rw [if_pos this]
          refine lp_cnt 99 (fun i s => s = ((blF (fun t => tq (Tat T (nI a) t) 5 y 0) (2 * i)).1, (blF (fun t => tq (Tat T (nI a) t) 5 y 0) (2 * i)).2, nI (i + 1), c1)) ?_ _ rfl
          intro i s hi hs again hag
          subst hs
          unfold w_X8_balance_l97
          dsimp only
          refine brc (fun e => ?_) fun e => ?_
          · rw [show (99 : Int32) = nI 99 from rfl, nv_lt (by omega) (by omega)] at e
            have : i = 99 := by omega
            subst this
            refine bnc (fun e => ref _ ?_) fun e => ref _ ?_
            · rw [if_neg e]
            · rw [if_pos e]
          · rw [show (99 : Int32) = nI 99 from rfl, nv_lt (by omega) (by omega)] at e
            have hlt : i < 99 := by omega
            refine lp_cnt 2 (fun k s => s = ((blF (fun t => tq (Tat T (nI a) t) 5 y 0) (2 * i + k)).1, (blF (fun t => tq (Tat T (nI a) t) 5 y 0) (2 * i + k)).2, nI (2 * k) - 1, c1)) ?_ _ rfl
            intro k s hk hs again2 hag2
            subst hs
            unfold w_X8_balance_l107
            dsimp only
            have hk3 : k = 0 ∨ k = 1 ∨ k = 2 := by omega
            have fin : ∀ t', t' = sq (2 * i + k) → k < 2 → w_X6_torqueBy t' c1 (fun r14 h13 => ((if 0 ≤ (blF (fun t => tq (Tat T (nI a) t) 5 y 0) (2 * i + k)).2 then (blF (fun t => tq (Tat T (nI a) t) 5 y 0) (2 * i + k)).2 else 0 - (blF (fun t => tq (Tat T (nI a) t) 5 y 0) (2 * i + k)).2) ≤ (if 0 ≤ r14 then r14 else 0 - r14) → again2 ((blF (fun t => tq (Tat T (nI a) t) 5 y 0) (2 * i + k)).1, (blF (fun t => tq (Tat T (nI a) t) 5 y 0) (2 * i + k)).2, nI (2 * k) - 1 + 2, h13)) ∧ (¬ ((if 0 ≤ (blF (fun t => tq (Tat T (nI a) t) 5 y 0) (2 * i + k)).2 then (blF (fun t => tq (Tat T (nI a) t) 5 y 0) (2 * i + k)).2 else 0 - (blF (fun t => tq (Tat T (nI a) t) 5 y 0) (2 * i + k)).2) ≤ (if 0 ≤ r14 then r14 else 0 - r14)) → again2 (t', r14, nI (2 * k) - 1 + 2, h13))) := by
              intro t' ht' hk2
              subst ht'
              refine t6_torqueBy hT hc1 hy hw ?_
              rw [av_abs, av_abs]
              have ek : nI (2 * k) - 1 + 2 = nI (2 * (k + 1)) - 1 := by
                rw [show 2 * (k + 1) = 2 * k + 2 by omega, ← nv_add, lit_2]; grind
              rw [ek]
              refine brc (fun e => hag2 hk2 _ ?_) fun e => hag2 hk2 _ ?_
              · show _ = ((blF (fun t => tq (Tat T (nI a) t) 5 y 0) (2 * i + k + 1)).1, (blF (fun t => tq (Tat T (nI a) t) 5 y 0) (2 * i + k + 1)).2, _, _)
                simp only [blF]; rw [if_pos e]
              · show _ = ((blF (fun t => tq (Tat T (nI a) t) 5 y 0) (2 * i + k + 1)).1, (blF (fun t => tq (Tat T (nI a) t) 5 y 0) (2 * i + k + 1)).2, _, _)
                simp only [blF]; rw [if_neg e]
            rcases hk3 with rfl | rfl | rfl
            · refine brf (by decide) ?_
              have e9 : (nI (2 * 0) - 1) * nI (i + 1) = sq (2 * i + 0) := by
                unfold sq
                rw [if_pos (by omega), show (2 * i + 0) / 2 + 1 = i + 1 by omega, show nI (2 * 0) - 1 = -1 by decide]
                grind
              rw [e9]
              exact fin _ rfl (by omega)
            · refine brf (by decide) ?_
              have e9 : (nI (2 * 1) - 1) * nI (i + 1) = sq (2 * i + 1) := by
                unfold sq
                rw [if_neg (by omega), show (2 * i + 1) / 2 + 1 = i + 1 by omega, show nI (2 * 1) - 1 = 1 by decide]
                exact Int32.one_mul _
              rw [e9]
              exact fin _ rfl (by omega)
            · refine brt (by decide) ?_
              rw [nv_1]
              exact hag hlt _ rfl
        · refine t7_isInside (a := a) hT hc rfl hy (fun w => absurd w hb) fun _ => br0 ?_
          refine t9_isYt (yN T) y hr.1 hn hy rfl (bq1 (t9_isYt (yN T) a hr.1 hn ha rfl (bq1 (t9_int h3 (br1 (t9_isIn hT hr rfl hy (fun w => absurd w hb) fun _ => br0 ⟨rfl, T, h⟩))))))
      · exact t8_inRf h3 (br0 (t9_isYt (yN T) y hr.1 hn hy rfl (bq1 (t9_isYt (yN T) a hr.1 hn ha rfl (bq1 (t9_inf h3 (br0 ⟨rfl, T, h⟩)))))))
