/-! fits -/
/-- the table, were the thread th of fibre fb and weight wt, the twist of 'at' t -/
def Tfw (T : Tb) (th : Nat) (fb wt at_ t : Int32) : Tb := (T.1, T.2.1, T.2.2.1, T.2.2.2.1, twt T at_ t, (fun y => if y = th then wt else yW T y), (fun y => if y = th then fb else yF T y), yS T)
theorem okT_Tfw {T : Tb} (hT : okT T) {th : Nat} {fb wt at_ t : Int32} (h0 : yP T th = 0) (hf : okV 2 fb) (hw : okV 1 wt) (ht : okV 0 t) : okT (Tfw T th fb wt at_ t) := by
  refine ⟨hT.1, fun y hy => ?_⟩
  have hy' : y < yN T := hy
  obtain ⟨h1, h2, h3⟩ := hT.2 y hy'
  refine ⟨?_, h2, ?_⟩
  · show okV 0 (twt T at_ t y)
    unfold twt; split
    · exact ht
    · exact h1
  · rcases h3 with h3 | h3
    · refine Or.inl ⟨h3.1, h3.2.1, ?_, ?_⟩
      · show okV 1 (if y = th then wt else yW T y)
        split
        · exact hw
        · exact h3.2.2.1
      · show okV 2 (if y = th then fb else yF T y)
        split
        · exact hf
        · exact h3.2.2.2
    · have hne : ¬ y = th := fun w => by rw [w] at h3; omega
      refine Or.inr ⟨h3.1, h3.2.1, h3.2.2.1, h3.2.2.2.1, h3.2.2.2.2.1, ?_, ?_⟩
      · show (if y = th then wt else yW T y) = -1
        rw [if_neg hne]; exact h3.2.2.2.2.2.1
      · show (if y = th then fb else yF T y) = -1
        rw [if_neg hne]; exact h3.2.2.2.2.2.2
/-- without the thread, and the thread -/
theorem tq_split {T : Tb} (hT : okT T) {th : Nat} {fb wt at_ t : Int32} (hth : th < yN T) (h0 : yP T th = 0) (hf : okV 2 fb) : ∀ (k y : Nat) (a : Int32), y < yN T →
    tq (Tfw T th fb wt at_ t) k y a = ts (yP T) (yQ T) (fun y a => gwo T (nI th) y (a + twt T at_ t y)) (fun y a => a + twt T at_ t y) k y a + ts (yP T) (yQ T) (fun y a => gpo (nI th) fb wt y (a + twt T at_ t y)) (fun y a => a + twt T at_ t y) k y a := by
  have hn := hT.1
  intro k
  induction k with
  | zero => intro y a _; simp [ts]
  | succ k ih =>
    intro y a hy
    have e1 : gq (Tfw T th fb wt at_ t) y a = gwo T (nI th) y (a + twt T at_ t y) + gpo (nI th) fb wt y (a + twt T at_ t y) := by
      unfold gq gwo gpo
      show (if yP T y = 0 then pul (if y = th then fb else yF T y) (if y = th then wt else yW T y) (a + twt T at_ t y) else (a + twt T at_ t y) * nI (yP T y)) = _
      by_cases e : y = th
      · subst e
        rw [if_pos h0, if_pos rfl, if_pos rfl, if_pos rfl, if_pos rfl, fpl_pul hf]; simp
      · have e' : ¬ nI y = nI th := fun w => e (nv_inj (by omega) (by omega) w)
        rw [if_neg e, if_neg e, if_neg e', if_neg e']; simp
    have e2 : sm (fun p => tq (Tfw T th fb wt at_ t) k (yQ T y p) (nq (Tfw T th fb wt at_ t) y a)) (yP T y) = sm (fun p => ts (yP T) (yQ T) (fun y a => gwo T (nI th) y (a + twt T at_ t y)) (fun y a => a + twt T at_ t y) k (yQ T y p) (a + twt T at_ t y) + ts (yP T) (yQ T) (fun y a => gpo (nI th) fb wt y (a + twt T at_ t y)) (fun y a => a + twt T at_ t y) k (yQ T y p) (a + twt T at_ t y)) (yP T y) := by
      refine sm_congr fun p hp => ?_
      exact ih _ _ (hT.part hy hp).2.1
    have e3 : tq (Tfw T th fb wt at_ t) (k + 1) y a = gq (Tfw T th fb wt at_ t) y a + sm (fun p => tq (Tfw T th fb wt at_ t) k (yQ T y p) (nq (Tfw T th fb wt at_ t) y a)) (yP T y) := rfl
    rw [e3, e1, e2, sm_add]
    simp only [ts]
    grind
/-- whether all n places are so -/
def fitF (T : Tb) (th y : Nat) (at_ : Int32) (row : Nat → Int32) (n : Nat) (fb wt : Int32) : Prop := ∀ i, i < n → tq (Tfw T th fb wt at_ (nI i)) 5 y 0 = row i
section
variable {T : Tb}
theorem t8_isFitting (hT : okT T) {c : zz_Hp} (hc : CT T c) {y th n : Nat} {at_ fb wt l : Int32} {row : Nat → Int32} (hy : y < yN T) (hth : th < yN T) (h0 : yP T th = 0) (hf : okV 2 fb) (hw : WE T y at_ c) (hn4 : n ≤ 40) (el : l = nI th)
    (hrest : ∀ i, i < n → c.1 40 i = row i - ts (yP T) (yQ T) (fun y a => gwo T (nI th) y (a + twt T at_ (nI i) y)) (fun y a => a + twt T at_ (nI i) y) 5 y 0) {Q : Int32 → zz_Hp → Prop} (H1 : fitF T th y at_ row n fb wt → Q 1 c) (H0 : ¬ fitF T th y at_ row n fb wt → Q 0 c) : w_X8_isFitting l fb wt (nI n) c Q := by
  subst el
  have hn := hT.1
  unfold w_X8_isFitting
  refine lp_cnt n (fun i s => s = (nI i, c) ∧ fitF T th y at_ row i fb wt) ?_ _ ⟨rfl, fun i hi => by omega⟩
  rintro i s hi ⟨rfl, hfit⟩ again hag
  unfold w_X8_isFitting_l3
  dsimp only
  refine brc (fun e => ?_) fun e => ?_
  · have := nv_end (by omega) (by omega) hi e
    subst this; exact H1 hfit
  · have hlt := nv_nle (by omega) (by omega) e
    refine t6_pullsOf hT hc hw ?_
    have hs := tq_split hT (fb := fb) (wt := wt) (at_ := at_) (t := nI i) hth h0 hf 5 y 0 hy
    rw [nv_tn (by omega), hrest i hlt, nv_1]
    refine ⟨nv_in (by omega) (by decide), brc (fun e => hag hlt _ ⟨rfl, fun j hj => ?_⟩) fun e => H0 fun w => e ?_⟩
    · by_cases z : j = i
      · subst z; rw [hs, e]; grind
      · exact hfit j (by omega)
    · have := w i hlt
      rw [hs] at this
      rw [← this]; grind
/-- the reference's heap with fibre, weight, twist moved -/
def fwS (th a : Nat) (fb wt t : Int32) (r r' : zz_Hp) : Prop := (∀ k, k ≠ 3 → k ≠ 4 → k ≠ 5 → r'.1 k = r.1 k) ∧ (∀ q, q ≠ th → r'.1 3 q = r.1 3 q) ∧ r'.1 3 th = fb ∧ (∀ q, q ≠ th → r'.1 4 q = r.1 4 q) ∧ r'.1 4 th = wt ∧ (∀ q, q ≠ a → r'.1 5 q = r.1 5 q) ∧ r'.1 5 a = t
theorem fwS.rf {th a : Nat} {r : zz_Hp} : fwS th a (r.1 3 th) (r.1 4 th) (r.1 5 a) r r := ⟨fun _ _ _ _ => rfl, fun _ _ => rfl, rfl, fun _ _ => rfl, rfl, fun _ _ => rfl, rfl⟩
theorem fwS.p3 {th a : Nat} {fb wt t v : Int32} {r r' : zz_Hp} (h : fwS th a fb wt t r r') : fwS th a v wt t r (zz_uI r' 3 th v) := by
  obtain ⟨h1, h2, h3, h4, h5, h6, h7⟩ := h
  exact ⟨fun k a1 a2 a3 => by rw [zu_f a1]; exact h1 k a1 a2 a3, fun q hq => by rw [zu_ne (Or.inr hq)]; exact h2 q hq, zu_eq ⟨rfl, rfl⟩, fun q hq => by rw [zu_ne (Or.inl (by decide))]; exact h4 q hq, by rw [zu_ne (Or.inl (by decide))]; exact h5, fun q hq => by rw [zu_ne (Or.inl (by decide))]; exact h6 q hq, by rw [zu_ne (Or.inl (by decide))]; exact h7⟩
theorem fwS.p4 {th a : Nat} {fb wt t v : Int32} {r r' : zz_Hp} (h : fwS th a fb wt t r r') : fwS th a fb v t r (zz_uI r' 4 th v) := by
  obtain ⟨h1, h2, h3, h4, h5, h6, h7⟩ := h
  exact ⟨fun k a1 a2 a3 => by rw [zu_f a2]; exact h1 k a1 a2 a3, fun q hq => by rw [zu_ne (Or.inl (by decide))]; exact h2 q hq, by rw [zu_ne (Or.inl (by decide))]; exact h3, fun q hq => by rw [zu_ne (Or.inr hq)]; exact h4 q hq, zu_eq ⟨rfl, rfl⟩, fun q hq => by rw [zu_ne (Or.inl (by decide))]; exact h6 q hq, by rw [zu_ne (Or.inl (by decide))]; exact h7⟩
theorem fwS.p5 {th a : Nat} {fb wt t v : Int32} {r r' : zz_Hp} (h : fwS th a fb wt t r r') : fwS th a fb wt v r (zz_uI r' 5 a v) := by
  obtain ⟨h1, h2, h3, h4, h5, h6, h7⟩ := h
  exact ⟨fun k a1 a2 a3 => by rw [zu_f a3]; exact h1 k a1 a2 a3, fun q hq => by rw [zu_ne (Or.inl (by decide))]; exact h2 q hq, by rw [zu_ne (Or.inl (by decide))]; exact h3, fun q hq => by rw [zu_ne (Or.inl (by decide))]; exact h4 q hq, by rw [zu_ne (Or.inl (by decide))]; exact h5, fun q hq => by rw [zu_ne (Or.inr hq)]; exact h6 q hq, zu_eq ⟨rfl, rfl⟩⟩
theorem fwS.back {th a : Nat} {r r' : zz_Hp} (h : fwS th a (r.1 3 th) (r.1 4 th) (r.1 5 a) r r') : ∀ k, r'.1 k = r.1 k := by
  obtain ⟨h1, h2, h3, h4, h5, h6, h7⟩ := h
  intro k
  by_cases k3 : k = 3
  · subst k3; funext q
    by_cases e : q = th
    · rw [e, h3]
    · exact h2 q e
  · by_cases k4 : k = 4
    · subst k4; funext q
      by_cases e : q = th
      · rw [e, h5]
      · exact h4 q e
    · by_cases k5 : k = 5
      · subst k5; funext q
        by_cases e : q = a
        · rw [e, h7]
        · exact h6 q e
      · exact h1 k k3 k4 k5
theorem fwS.rt (hT : okT T) {th a : Nat} {fb wt t : Int32} {r r' : zz_Hp} (hr : RT T r) (hth : th < yN T) (ha : a < yN T) (h : fwS th a fb wt t r r') : RT (Tfw T th fb wt (nI a) t) r' := by
  have hn := hT.1
  obtain ⟨g1, g2, g3, g4, g5, g6, g7⟩ := h
  unfold RT
  rw [g1 0 (by decide) (by decide) (by decide), g1 1 (by decide) (by decide) (by decide), g1 2 (by decide) (by decide) (by decide), g1 6 (by decide) (by decide) (by decide)]
  refine ⟨hr.1, fun y hy => ?_⟩
  have hy' : y < yN T := hy
  obtain ⟨⟨h1, h2, h3, h4, h5⟩, h6⟩ := hr.2 y hy'
  refine ⟨⟨h1, ?_, ?_, ?_, h5⟩, h6⟩
  · show r'.1 3 y = if y = th then fb else yF T y
    by_cases e : y = th
    · rw [if_pos e, e, g3]
    · rw [if_neg e, g2 y e, h2]
  · show r'.1 4 y = if y = th then wt else yW T y
    by_cases e : y = th
    · rw [if_pos e, e, g5]
    · rw [if_neg e, g4 y e, h3]
  · show r'.1 5 y = twt T (nI a) t y
    unfold twt
    by_cases e : y = a
    · rw [e, if_pos rfl, g7]
    · rw [if_neg (fun w => e (nv_inj (by omega) (by omega) w)), g6 y e, h4]
theorem t9_isTold (hT : okT T) {r r0 : zz_Hp} (hr : RT T r) {y th a k n : Nat} {fb wt l1 l3 l4 : Int32} (hy : y < yN T) (hth : th < yN T) (h0 : yP T th = 0) (ha : a < yN T) (hf : okV 2 fb) (hw : okV 1 wt) (hk : k < 3) (hn4 : n ≤ 40) (e1 : l1 = nI k) (e3 : l3 = nI y) (e4 : l4 = nI a) (hs : fwS th a fb wt (r.1 5 a) r r0) {Q : Int32 → zz_Hp → Prop}
    (H1 : ∀ r', fwS th a fb wt (r.1 5 a) r r' → fitF T th y (nI a) (fun i => r.1 18 (40 * k + i)) n fb wt → Q 1 r') (H0 : ∀ r', fwS th a fb wt (r.1 5 a) r r' → ¬ fitF T th y (nI a) (fun i => r.1 18 (40 * k + i)) n fb wt → Q 0 r') : w_X9_isTold l1 (nI n) l3 l4 r0 Q := by
  subst e1; subst e3; subst e4
  have hn := hT.1
  have hai : vp_in (nI a) 16 := nv_in (by omega) (by decide)
  have hat : (nI a).toNatClampNeg = a := nv_tn (by omega)
  unfold w_X9_isTold
  rw [hat]
  refine ⟨hai, ?_⟩
  have e5 : r0.1 5 a = r.1 5 a := hs.2.2.2.2.2.2
  rw [e5]
  refine lp_cnt n (fun i s => s.2.1 = nI i ∧ (∃ t, fwS th a fb wt t r s.2.2) ∧ ((s.1 = 1 ∧ fitF T th y (nI a) (fun i => r.1 18 (40 * k + i)) i fb wt) ∨ (s.1 = 0 ∧ ¬ fitF T th y (nI a) (fun i => r.1 18 (40 * k + i)) n fb wt))) ?_ _ ⟨rfl, ⟨_, hs⟩, Or.inl ⟨rfl, fun i hi => by omega⟩⟩
  intro i s hi hs again hag
  obtain ⟨u1, u2, r1⟩ := s
  obtain ⟨q2, ⟨t, q3⟩, q4⟩ := hs
  dsimp only at q2 q3 q4
  subst q2
  have fin : (u1 = 1 → fitF T th y (nI a) (fun i => r.1 18 (40 * k + i)) n fb wt) → w_X9_isTold_j68 Q (nI a) (r.1 5 a) u1 r1 := by
    intro hfin
    unfold w_X9_isTold_j68
    rw [hat]
    refine ⟨hai, fun r2 e2 => ?_⟩
    have q5 : fwS th a fb wt (r.1 5 a) r r2 := by rw [e2]; exact q3.p5
    rcases q4 with ⟨e, w⟩ | ⟨e, w⟩
    · rw [e]; exact ⟨Or.inr rfl, H1 _ q5 (hfin e)⟩
    · rw [e]; exact ⟨Or.inl rfl, H0 _ q5 w⟩
  unfold w_X9_isTold_l15
  dsimp only
  refine brc (fun e => fin fun e1 => ?_) fun e => ?_
  · have := nv_end (by omega) (by omega) hi e
    subst this
    rcases q4 with ⟨_, w⟩ | ⟨e2, w⟩
    · exact w
    · rw [e1] at e2; exact absurd e2 (by decide)
  · have hlt := nv_nle (by omega) (by omega) e
    refine brc (fun e0 => fin fun e1 => by rw [e0] at e1; exact absurd e1 (by decide)) fun e0 => ?_
    rw [hat]
    refine ⟨hai, fun r2 e2 => ?_⟩
    have q5 : fwS th a fb wt (nI i) r r2 := by rw [e2]; exact q3.p5
    have hok : okV 0 (nI i) := okV0_of (by rw [nv_toInt (by omega)]; omega) (by rw [nv_toInt (by omega)]; omega)
    refine t9_torqueOf (okT_Tfw hT h0 hf hw hok) (q5.rt hT hr hth ha) rfl hy ?_
    rw [ix_40', nv_tn (by omega), q5.1 18 (by decide) (by decide) (by decide), nv_1]
    have q6 : fitF T th y (nI a) (fun i => r.1 18 (40 * k + i)) i fb wt := by
      rcases q4 with ⟨_, w⟩ | ⟨e2, w⟩
      · exact w
      · exact absurd e2 e0
    refine ⟨nv_in (by omega) (by decide), bnc (fun e => hag hlt _ ⟨rfl, ⟨_, q5⟩, Or.inr ⟨rfl, fun w => e (w i hlt)⟩⟩) fun e => hag hlt _ ⟨rfl, ⟨_, q5⟩, Or.inl ⟨rfl, fun j hj => ?_⟩⟩⟩
    by_cases z : j = i
    · rw [z]; exact e
    · exact q6 j (by omega)
end
theorem okV1_of {n : Nat} (h1 : 1 ≤ n) (h2 : n ≤ 99) : okV 1 (nI n) := by
  constructor
  · rw [show zz_lt 1 = nI 1 from rfl, nv_le (by omega) (by omega)]; exact h1
  · rw [show zz_mt 1 = nI 99 from rfl, nv_le (by omega) (by omega)]; exact h2
theorem okV2_of {n : Nat} (h2 : n < 4) : okV 2 (nI n) := by
  constructor
  · rw [show zz_lt 2 = nI 0 from rfl, nv_le (by omega) (by omega)]; omega
  · rw [show zz_mt 2 = nI 3 from rfl, nv_le (by omega) (by omega)]; omega
noncomputable def ftB (p : Nat → Prop) : Nat → Int32
  | 0 => 0
  | k + 1 => by
    classical
    exact if p k then ftB p k ||| (1 <<< (nI k &&& 31)) else ftB p k
noncomputable def ftW (p : Nat → Prop) : Nat → Int32 × Int32
  | 0 => (0, -2)
  | k + 1 => by
    classical
    exact if p (99 - k) then ((ftW p k).1 + 1, nI (99 - k)) else ftW p k
theorem ftB_t {p : Nat → Prop} {k : Nat} (h : p k) : ftB p (k + 1) = ftB p k ||| (1 <<< (nI k &&& 31)) := by simp [ftB, h]
theorem ftB_f {p : Nat → Prop} {k : Nat} (h : ¬ p k) : ftB p (k + 1) = ftB p k := by simp [ftB, h]
theorem ftW_t {p : Nat → Prop} {k : Nat} (h : p (99 - k)) : ftW p (k + 1) = ((ftW p k).1 + 1, nI (99 - k)) := by simp [ftW, h]
theorem ftW_f {p : Nat → Prop} {k : Nat} (h : ¬ p (99 - k)) : ftW p (k + 1) = ftW p k := by simp [ftW, h]
theorem eq_fits {c r : zz_Hp} (h : Sim c r) (l1 l2 l3 l4 l5 : Int32) : w_X8_fits l1 l2 l3 l4 l5 c (fun a c' => w_X9_fits l1 l2 l3 l4 l5 r (fun b r' => a = b ∧ Sim c' r')) := by
  obtain ⟨T, h⟩ := h
  have hT := h.1; have hc : CT T c := h.2.1; have hrt : RT T r := h.2.2.1; have hn := hT.1
  rcases rcase l1 with hr | ⟨k, hk, rfl, hr⟩
  · exact t3_hasf hr (bq0 (t9_inf hr (bq0 ⟨rfl, T, h⟩)))
  · refine t3_hast rfl hk (bq1 ?_)
    by_cases h2 : 0 ≤ l2 ∧ l2 ≤ 40
    · refine t8_inRt h2 (bq1 ?_)
      obtain ⟨n, hn4, rfl⟩ : ∃ n, n < 41 ∧ l2 = nI n := by
        refine nv_ex (by omega) (Int32.not_lt.mpr h2.1) fun z => ?_
        have := (nv_le (a := 41) (b := 40) (by omega) (by omega)).mp (Int32.le_trans z h2.2)
        omega
      rcases ycase (yN T) (by omega) l3 with hl | ⟨y, hy, rfl⟩
      · exact t7_hasf (yN T) hc.1 hl (bq0 (t9_int hr (bq1 (t9_int h2 (bq1 (t9_isYf (yN T) hrt.1 hn hl (bq0 ⟨rfl, T, h⟩)))))))
      · refine t7_hast (yN T) y hc.1 hn hy rfl (bq1 ?_)
        by_cases h4 : l4 < 0
        · exact brt h4 (t9_int hr (bq1 (t9_int h2 (bq1 (t9_isYt (yN T) y hrt.1 hn hy rfl (bq1 (brt h4 ⟨rfl, T, h⟩)))))))
        · refine brf h4 ?_
          have pre : ∀ {Q : Int32 → zz_Hp → Prop} {X : Int32 → zz_Hp → Prop}, True := trivial
          rcases ycase (yN T) (by omega) (l4 / 16) with hl | ⟨th, hth, eth⟩
          · exact t7_isThread0 hc hl (bq0 (t9_int hr (bq1 (t9_int h2 (bq1 (t9_isYt (yN T) y hrt.1 hn hy rfl (bq1 (brf h4 (t9_isThread0 hT hrt hl (bq0 ⟨rfl, T, h⟩))))))))))
          · by_cases h0 : yP T th = 0
            · refine t7_isThread hT hc eth hth (fun _ => bq1 ?_) fun w => absurd h0 w
              rcases ycase (yN T) (by omega) (l4 - l4 / 16 * 16) with hl | ⟨a, ha, ea⟩
              · exact t7_hasf (yN T) hc.1 hl (bq0 (t9_int hr (bq1 (t9_int h2 (bq1 (t9_isYt (yN T) y hrt.1 hn hy rfl (bq1 (brf h4 (t9_isThread hT hrt eth hth (fun _ => bq1 (t9_isYf (yN T) hrt.1 hn hl (bq0 ⟨rfl, T, h⟩))) fun w => absurd h0 w)))))))))
              · refine t7_hast (yN T) a hc.1 hn ha ea (bq1 ?_)
                -- the reference up to here
                have rp : ∀ {v : Int32} {c' : zz_Hp}, w_X9_in l5 0 2 r (fun r12 h11 => ((¬ r12 = 0 → w_X9_isIn (nI y) (l4 - l4 / 16 * 16) h11 (fun r14 h13 =>
                    ((¬ r14 = 0 → vp_in (nI k) 3 ∧
                      ((0 ≤ (h13.1 17 (Int32.toNatClampNeg (nI k))) → vp_in (nI k) 3 ∧
                        ((nI n ≤ (h13.1 17 (Int32.toNatClampNeg (nI k))) →
                          ((¬ l5 = 0 → vp_in (l4 / 16) 16 ∧ lp (fun s ag => w_X9_fits_l218 ag (fun b r' => v = b ∧ Sim c' r') (nI k) (nI n) (nI y) l5 (l4 / 16) (l4 - l4 / 16 * 16) (h13.1 4 (Int32.toNatClampNeg (l4 / 16))) s.1 s.2.1 s.2.2.1 s.2.2.2) (0, (-2), 99, h13)) ∧
                          (l5 = 0 → vp_in (l4 / 16) 16 ∧ lp (fun s ag => w_X9_fits_l140 ag (fun b r' => v = b ∧ Sim c' r') (nI k) (nI n) (nI y) (l4 / 16) (l4 - l4 / 16 * 16) (h13.1 3 (Int32.toNatClampNeg (l4 / 16))) s.1 s.2.1 s.2.2) (0, 0, h13)))) ∧
                        (¬ (nI n ≤ (h13.1 17 (Int32.toNatClampNeg (nI k)))) → v = (-13) ∧ Sim c' h13))) ∧
                      (¬ (0 ≤ (h13.1 17 (Int32.toNatClampNeg (nI k)))) → v = (-11) ∧ Sim c' h13))) ∧
                    (r14 = 0 → v = (-5) ∧ Sim c' h13)))) ∧
                  (r12 = 0 → v = (-1) ∧ Sim c' h11))) → w_X9_fits (nI k) (nI n) (nI y) l4 l5 r (fun b r' => v = b ∧ Sim c' r') := by
                  intro v c' H
                  exact t9_int hr (bq1 (t9_int h2 (bq1 (t9_isYt (yN T) y hrt.1 hn hy rfl (bq1 (brf h4 (t9_isThread hT hrt eth hth (fun _ => bq1 (t9_isYt (yN T) a hrt.1 hn ha ea (bq1 H))) fun w => absurd h0 w)))))))
                by_cases h5 : 0 ≤ l5 ∧ l5 ≤ 2
                · refine t8_inRt h5 (br1 ?_)
                  by_cases hb : ((bt (yP T) (yQ T) 5 y >>> ((l4 - l4 / 16 * 16) &&& 31)) &&& 1) = 1
                  · refine t7_isInside (a := a) hT hc rfl hy (fun _ => br1 ?_) fun w => absurd hb w
                    have hki : vp_in (nI k) 3 := nv_in hk (by decide)
                    have hkn : (nI k).toNatClampNeg = k := nv_tn (by omega)
                    obtain ⟨g1, g2, g3⟩ := h.2.2.2.2.2.2.2.2.1 k hk
                    unfold w_X3_isMissing
                    rw [hkn]
                    refine ⟨hki, brc (fun e => bq0 ?_) fun e => bq1 ?_⟩
                    · unfold w_X3_sizeOf
                      rw [hkn]
                      refine ⟨hki, brc (fun e2 => ?_) fun e2 => ?_⟩
                      · rw [ea, eth]
                        refine t6_walk hT hc rfl hy fun c1 hf hw => ?_
                        have hc1 := CT_fW hf hc
                        refine lp_cnt n (fun i s => s.1 = nI i ∧ (∀ q, q ≠ 40 → s.2.1 q = c1.1 q) ∧ ∀ q, q < i → s.2.1 40 q = r.1 18 (40 * k + q) - ts (yP T) (yQ T) (fun y b => gwo T (nI th) y (b + twt T (nI a) (nI q) y)) (fun y b => b + twt T (nI a) (nI q) y) 5 y 0) ?_ _ ⟨rfl, fun _ _ => rfl, fun q hq => by omega⟩
                        intro i s hi hs again hag
                        obtain ⟨u, c2⟩ := s
                        obtain ⟨hu, hf2, h40⟩ := hs
                        dsimp only at hu hf2 h40
                        subst hu
                        have hc2 : CT T c2 := by unfold CT; rw [hf2 2 (by decide), hf2 3 (by decide), hf2 4 (by decide)]; exact hc1
                        have hw2 : WE T y (nI a) c2 := by
                          obtain ⟨s, Y, R, hq⟩ := hw
                          refine ⟨s, Y, R, ?_⟩
                          unfold WQ rtn at hq ⊢
                          rw [hf2 27 (by decide), hf2 28 (by decide), hf2 29 (by decide), hf2 30 (by decide), hf2 31 (by decide), hf2 32 (by decide)]
                          exact hq
                        have hsC : sC c c2 := hf.sC.tr ⟨fun q hq => hf2 q (by omega), by rw [hf2 24 (by decide)]⟩
                        unfold w_X8_fits_l154
                        dsimp only
                        refine brc (fun e3 => ?_) fun e3 => ?_
                        · have := nv_end (by omega) (by omega) hi e3
                          subst this
                          obtain ⟨hD0, hW0, hF0⟩ := hT.thr hth h0
                          have hti : vp_in (nI th) 16 := nv_in (by omega) (by decide)
                          have htn : (nI th).toNatClampNeg = th := nv_tn (by omega)
                          have ew : r.1 4 th = yW T th := (hrt.2 th hth).1.2.2.1
                          have ef : r.1 3 th = yF T th := (hrt.2 th hth).1.2.1
                          have hbk : ∀ r', fwS th a (r.1 3 th) (r.1 4 th) (r.1 5 a) r r' → Sim c2 r' := fun r' hq => h.both hsC ⟨fun q _ _ => hq.back q, fun j _ => by rw [hq.back 0]⟩
                          refine bnc (fun e5 => ?_) fun e5 => ?_
                          · -- weights
                            unfold w_X8_fittingWeights
                            refine lp_cnt 99 (fun j s => s = ((ftW (fun w => fitF T th y (nI a) (fun i => r.1 18 (40 * k + i)) i (yF T th) (nI w)) j).1, (ftW (fun w => fitF T th y (nI a) (fun i => r.1 18 (40 * k + i)) i (yF T th) (nI w)) j).2, nI (99 - j), c2)) ?_ _ rfl
                            intro j s hj hs again hag
                            subst hs
                            unfold w_X8_fittingWeights_l11
                            dsimp only
                            refine brc (fun e6 => ?_) fun e6 => ?_
                            · rw [lit_1, nv_lt (by omega) (by omega)] at e6
                              have : j = 99 := by omega
                              subst this
                              have ref : ∀ v : Int32, (v = if l5 = 1 then (ftW (fun w => fitF T th y (nI a) (fun i => r.1 18 (40 * k + i)) i (yF T th) (nI w)) 99).1 else (ftW (fun w => fitF T th y (nI a) (fun i => r.1 18 (40 * k + i)) i (yF T th) (nI w)) 99).2) → w_X9_fits (nI k) (nI i) (nI y) l4 l5 r (fun b r' => v = b ∧ Sim c2 r') := by
                                intro v hv
                                refine rp (t9_int h5 (br1 (t9_isIn hT hrt rfl hy (fun _ => br1 ?_) fun w => absurd hb w)))
                                rw [hkn, ea, eth, htn]
                                refine ⟨hki, brt (by rw [← g1]; exact e) ⟨hki, brt (by rw [← g1]; exact e2) (bnt e5 ⟨hti, ?_⟩)⟩⟩
                                refine lp_cnt 99 (fun j s => s.1 = (ftW (fun w => fitF T th y (nI a) (fun i => r.1 18 (40 * k + i)) i (yF T th) (nI w)) j).1 ∧ s.2.1 = (ftW (fun w => fitF T th y (nI a) (fun i => r.1 18 (40 * k + i)) i (yF T th) (nI w)) j).2 ∧ s.2.2.1 = nI (99 - j) ∧ ∃ w, fwS th a (yF T th) w (r.1 5 a) r s.2.2.2) ?_ _ ⟨rfl, rfl, rfl, _, by rw [← ef]; exact fwS.rf⟩
                                intro j s hj hs again hag
                                obtain ⟨u1, u2, u3, r2⟩ := s
                                obtain ⟨q1, q2, q3, w, q4⟩ := hs
                                dsimp only at q1 q2 q3 q4
                                subst q1; subst q2; subst q3
                                unfold w_X9_fits_l218
                                dsimp only
                                rw [htn]
                                refine brc (fun e7 => ⟨hti, fun r3 e8 => ?_⟩) fun e7 => ?_
                                · rw [lit_1, nv_lt (by omega) (by omega)] at e7
                                  have : j = 99 := by omega
                                  subst this
                                  have hs3 : Sim c2 r3 := hbk r3 (by rw [e8, ef]; exact q4.p4)
                                  refine bnc (fun e9 => ⟨?_, hs3⟩) fun e9 => ⟨?_, hs3⟩
                                  · rw [hv, if_neg e9]
                                  · rw [hv, if_pos e9]
                                · rw [lit_1, nv_lt (by omega) (by omega)] at e7
                                  refine ⟨hti, fun r3 e8 => ?_⟩
                                  have q5 : fwS th a (yF T th) (nI (99 - j)) (r.1 5 a) r r3 := by rw [e8]; exact q4.p4
                                  have en : nI (99 - j) + -1 = nI (99 - (j + 1)) := by
                                    have : nI (99 - j) = nI (99 - (j + 1)) + 1 := by rw [nv_1]; congr 1; omega
                                    rw [this]; grind
                                  rw [en]
                                  refine t9_isTold hT hrt hy hth h0 ha hF0 (okV1_of (by omega) (by omega)) hk (by omega) rfl rfl rfl q5 (fun r4 q6 hfit => bq1 (hag (by omega) _ ⟨?_, ?_, rfl, _, q6⟩)) fun r4 q6 hfit => bq0 (hag (by omega) _ ⟨?_, ?_, rfl, _, q6⟩)
                                  · rw [ftW_t hfit]
                                  · rw [ftW_t hfit]
                                  · rw [ftW_f hfit]
                                  · rw [ftW_f hfit]
                              refine bnc (fun e9 => ref _ ?_) fun e9 => ref _ ?_
                              · rw [if_neg e9]
                              · rw [if_pos e9]
                            · rw [lit_1, nv_lt (by omega) (by omega)] at e6
                              refine t7_fact th 2 (by omega) (by omega) rfl rfl ?_
                              rw [(hc2.2 th hth).1.2.2.1]
                              have en : nI (99 - j) + -1 = nI (99 - (j + 1)) := by
                                have : nI (99 - j) = nI (99 - (j + 1)) + 1 := by rw [nv_1]; congr 1; omega
                                rw [this]; grind
                              rw [en]
                              refine t8_isFitting hT hc2 hy hth h0 hF0 hw2 (by omega) rfl (row := fun i => r.1 18 (40 * k + i)) h40 (fun hfit => bq1 (hag (by omega) _ ?_)) fun hfit => bq0 (hag (by omega) _ ?_)
                              · rw [ftW_t hfit]
                              · rw [ftW_f hfit]
                          · -- fibres
                            unfold w_X8_fittingFibres
                            refine lp_cnt 4 (fun j s => s = (ftB (fun f => fitF T th y (nI a) (fun i => r.1 18 (40 * k + i)) i (nI f) (yW T th)) j, nI j, c2)) ?_ _ rfl
                            intro j s hj hs again hag
                            subst hs
                            unfold w_X8_fittingFibres_l5
                            dsimp only
                            refine brc (fun e6 => ?_) fun e6 => ?_
                            · rw [lit_4, nv_le (by omega) (by omega)] at e6
                              have : j = 4 := by omega
                              subst this
                              refine rp (t9_int h5 (br1 (t9_isIn hT hrt rfl hy (fun _ => br1 ?_) fun w => absurd hb w)))
                              rw [hkn, ea, eth, htn]
                              refine ⟨hki, brt (by rw [← g1]; exact e) ⟨hki, brt (by rw [← g1]; exact e2) (bnf e5 ⟨hti, ?_⟩)⟩⟩
                              refine lp_cnt 4 (fun j s => s.1 = ftB (fun f => fitF T th y (nI a) (fun i => r.1 18 (40 * k + i)) i (nI f) (yW T th)) j ∧ s.2.1 = nI j ∧ ∃ f, fwS th a f (yW T th) (r.1 5 a) r s.2.2) ?_ _ ⟨rfl, rfl, _, by rw [← ew]; exact fwS.rf⟩
                              intro j s hj hs again hag
                              obtain ⟨u1, u2, r2⟩ := s
                              obtain ⟨q1, q2, f, q4⟩ := hs
                              dsimp only at q1 q2 q4
                              subst q1; subst q2
                              unfold w_X9_fits_l140
                              dsimp only
                              rw [htn]
                              refine brc (fun e7 => ⟨hti, fun r3 e8 => ?_⟩) fun e7 => ?_
                              · rw [lit_4, nv_le (by omega) (by omega)] at e7
                                have : j = 4 := by omega
                                subst this
                                exact ⟨rfl, hbk r3 (by rw [e8, ew]; exact q4.p3)⟩
                              · rw [lit_4, nv_le (by omega) (by omega)] at e7
                                refine ⟨hti, fun r3 e8 => ?_⟩
                                have q5 : fwS th a (nI j) (yW T th) (r.1 5 a) r r3 := by rw [e8]; exact q4.p3
                                rw [nv_1]
                                refine t9_isTold hT hrt hy hth h0 ha (okV2_of (by omega)) hW0 hk (by omega) rfl rfl rfl q5 (fun r4 q6 hfit => bq1 (hag (by omega) _ ⟨?_, rfl, _, q6⟩)) fun r4 q6 hfit => bq0 (hag (by omega) _ ⟨?_, rfl, _, q6⟩)
                                · rw [ftB_t hfit]
                                · rw [ftB_f hfit]; exact Int32.or_zero
                            · rw [lit_4, nv_le (by omega) (by omega)] at e6
                              refine t7_fact th 1 (by omega) (by omega) rfl rfl ?_
                              rw [(hc2.2 th hth).1.2.1, nv_1]
                              refine t8_isFitting hT hc2 hy hth h0 (okV2_of (by omega)) hw2 (by omega) rfl (row := fun i => r.1 18 (40 * k + i)) h40 (fun hfit => bq1 (hag (by omega) _ ?_)) fun hfit => bq0 (hag (by omega) _ ?_)
                              · rw [ftB_t hfit]
                              · rw [ftB_f hfit]
                        · have hlt := nv_nle (by omega) (by omega) e3
                          unfold w_X3_placeAt
                          rw [ix_40, nv_tn (show 40 * k + i < 2147483648 by omega)]
                          refine ⟨nv_in (by omega) (by decide), t6_torqueWithout hT hc2 hw2 ⟨nv_in (by omega) (by decide), fun c3 e4 => ?_⟩⟩
                          rw [nv_tn (show i < 2147483648 by omega)] at e4
                          rw [nv_1]
                          refine hag hlt _ ⟨rfl, fun q hq => ?_, fun q hq => ?_⟩
                          · dsimp only; rw [e4, zu_f hq]; exact hf2 q hq
                          · dsimp only; rw [e4]
                            by_cases z : q = i
                            · rw [zu_eq ⟨rfl, z⟩, z, hf2 23 (by decide), hf 23 (by omega)]
                              congr 1
                              refine g3 i (by omega) ?_
                              exact Int32.lt_of_lt_of_le ((nv_lt (by omega) (by omega)).mpr hlt) e2
                            · rw [zu_ne (Or.inr z)]; exact h40 q (by omega)
                      · refine rp (t9_int h5 (br1 (t9_isIn hT hrt rfl hy (fun _ => br1 ?_) fun w => absurd hb w)))
                        rw [hkn]
                        exact ⟨hki, brt (by rw [← g1]; exact e) ⟨hki, brf (by rw [← g1]; exact e2) ⟨rfl, T, h⟩⟩⟩
                    · refine rp (t9_int h5 (br1 (t9_isIn hT hrt rfl hy (fun _ => br1 ?_) fun w => absurd hb w)))
                      rw [hkn]
                      exact ⟨hki, brf (by rw [← g1]; exact e) ⟨rfl, T, h⟩⟩
                  · exact t7_isInside (a := a) hT hc rfl hy (fun w => absurd w hb) fun _ => br0 (rp (t9_int h5 (br1 (t9_isIn hT hrt rfl hy (fun w => absurd w hb) fun _ => br0 ⟨rfl, T, h⟩))))
                · exact t8_inRf h5 (br0 (rp (t9_inf h5 (br0 ⟨rfl, T, h⟩))))
            · exact t7_isThread hT hc eth hth (fun w => absurd w h0) fun _ => bq0 (t9_int hr (bq1 (t9_int h2 (bq1 (t9_isYt (yN T) y hrt.1 hn hy rfl (bq1 (brf h4 (t9_isThread hT hrt eth hth (fun w => absurd w h0) fun _ => bq0 ⟨rfl, T, h⟩))))))))
    · exact t8_inRf h2 (bq0 (t9_int hr (bq1 (t9_inf h2 (bq0 ⟨rfl, T, h⟩)))))
