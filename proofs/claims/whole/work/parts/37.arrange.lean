/-! order: the reference's arranging, the component's best order -/
theorem i32_max (x : Int32) : x.toInt ≤ 2147483647 := by
  have := Int32.toInt_lt x; omega
/-- what is found so far, when one was found -/
def XG (R : Nat → Int) (m M at_ : Nat) (t : Int) (i : Nat) (q o : Nat → Int32) : Prop := (∀ p, p < at_ → o p = q p) ∧ ∃ j, j < i ∧ M.testBit j = false ∧ R (ins M j) ≤ t ∧ (∀ i', i' < j → M.testBit i' = false → ¬ R (ins M i') ≤ t) ∧ o at_ = nI j ∧ PG R m t (m - (at_ + 1)) (ins M j) (at_ + 1) o
theorem t9_arrange {f : Nat → Int32} {R : Nat → Int} {m : Nat} (h8 : m ≤ 8) (hR : RP f R m) : ∀ (k M at_ : Nat) {l1 l2 l3 w : Int32} {r : zz_Hp} {Q : zz_Hp → Prop}, l1 = nI at_ → l2 = nI M → l3 = sB f M m → M < 2 ^ m → cB M m = at_ → m - at_ < k → r.1 0 9 = nI m → (∀ i, i < m → r.1 37 i = f i) → 0 ≤ w.toInt → (av (sB f M m)).toInt ≤ w.toInt → (∀ r', AR R m M at_ w.toInt r r' → Q r') → w_X9_arrange k l1 l2 l3 w r Q := by
  intro k
  induction k with
  | zero => intros; omega
  | succ k ih =>
    intro M at_ l1 l2 l3 w r Q e1 e2 e3 hM hat hk h9 h37 hw0 hwS H
    subst e1 e2 e3
    have hp := b_pow h8
    have hatm := cB_le (M := M) m
    show w_X9_arrange_b (w_X9_arrange k) _ _ _ _ r Q
    unfold w_X9_arrange_b
    refine brc (fun hw => ?_) fun hw => ?_
    · rw [iv_lt] at hw
      rw [h9]
      refine bnc (fun e => ?_) fun e => ?_
      · have hlt : at_ < m := by
          rcases Nat.lt_or_ge at_ m with z | z
          · exact z
          · exact absurd (by rw [show at_ = m by omega]) e
        have eR := RP_nf hR hM (by omega)
        have mxb := i32_max (r.1 0 50)
        refine lp_cnt m (fun i s => s.1 = nI i ∧ (∀ k, k ≠ 0 → k ≠ 38 → k ≠ 39 → s.2.1 k = r.1 k) ∧ (∀ j, j ≠ 50 → s.2.1 0 j = r.1 0 j) ∧ (∀ p, p < at_ → s.2.1 38 p = r.1 38 p) ∧ (s.2.1 0 50).toInt = min (r.1 0 50).toInt (max w.toInt (mB R M 2147483647 i)) ∧
          (max w.toInt (mB R M 2147483647 i) < (r.1 0 50).toInt → XG R m M at_ (max w.toInt (mB R M 2147483647 i)) i (r.1 38) (s.2.1 39)) ∧
          (¬ max w.toInt (mB R M 2147483647 i) < (r.1 0 50).toInt → s.2.1 39 = r.1 39)) ?_ _ ⟨rfl, fun _ _ _ _ => rfl, fun _ _ => rfl, fun _ _ => rfl, ?_, fun z => ?_, fun _ => rfl⟩
        · intro i s hi hs again hag
          obtain ⟨u, r1⟩ := s
          obtain ⟨hu, p1, p2, p3, p4, p5, p6⟩ := hs
          dsimp only at hu p1 p2 p3 p4 p5 p6
          subst hu
          unfold w_X9_arrange_l60
          dsimp only
          rw [p2 9 (by decide), h9]
          refine brc (fun e => ?_) fun e => ?_
          · have := nv_end (by omega) (by omega) hi e
            subst this
            have eM : max w.toInt (R M) = max w.toInt (mB R M 2147483647 i) := by clear p5; omega
            refine H r1 ⟨p1, p2, p3, by rw [eM]; exact p4, fun z => ?_, fun z => ?_⟩
            · rw [eM] at z ⊢
              obtain ⟨q1, j, q2, q3, q4, q5, q6, q7⟩ := p5 z
              refine ⟨q1, ?_⟩
              rw [show i - at_ = (i - (at_ + 1)) + 1 by clear p5; omega]
              exact ⟨j, q2, q3, q4, q5, q6, q7⟩
            · rw [eM] at z; exact p6 z
          · have hlti := nv_nle (by omega) (by omega) e
            have hins := ins_lt hM hlti
            rw [b_get (by omega) (by omega)]
            by_cases hb : M.testBit i = true
            · rw [if_pos hb, nv_1]
              have em : mB R M 2147483647 (i + 1) = mB R M 2147483647 i := by simp only [mB]; rw [if_pos hb]
              refine bnt (by decide) (hag hlti _ ⟨rfl, p1, p2, p3, by rw [em]; exact p4, fun z => ?_, fun z => ?_⟩)
              · rw [em] at z ⊢
                obtain ⟨q1, j, q2, q3⟩ := p5 z
                exact ⟨q1, j, by omega, q3⟩
              · rw [em] at z; exact p6 z
            · have hb' : M.testBit i = false := by simpa using hb
              have em : mB R M 2147483647 (i + 1) = min (R (ins M i)) (mB R M 2147483647 i) := by simp only [mB]; rw [if_neg hb]
              have eS : sB f (ins M i) m = sB f M m + f i := by rw [sB_ins hb', if_pos hlti]
              have eC : cB (ins M i) m = at_ + 1 := by rw [cB_ins hb', if_pos hlti, hat]
              rw [if_neg hb]
              refine bnf rfl ⟨nv_in (by omega) (by decide), fun r2 q2 => ⟨nv_in (by omega) (by decide), ?_⟩⟩
              rw [nv_tn (by omega)] at q2
              have e37 : r2.1 37 (nI i).toNatClampNeg = f i := by rw [nv_tn (by omega), q2, zu_f (by decide), p1 37 (by decide) (by decide) (by decide)]; exact h37 i hlti
              rw [e37, ← eS]
              have recu : ∀ w1 : Int32, w1.toInt = max w.toInt (av (sB f (ins M i) m)).toInt → w_X9_arrange k (nI at_ + 1) (nI M ||| (1 <<< (nI i &&& 31))) (sB f (ins M i) m) w1 r2 (fun h4 => again (nI i + 1, h4)) := by
                intro w1 hw1
                have hge := RP_ge hR hins
                refine ih (ins M i) (at_ + 1) (nv_1 _) (b_ins (by omega) (by omega)) rfl hins eC (by omega) ?_ (fun x hx => ?_) (by omega) (by omega) fun r3 hA => ?_
                · rw [q2, zu_f (by decide), p2 9 (by decide)]; exact h9
                · rw [q2, zu_f (by decide), p1 37 (by decide) (by decide) (by decide)]; exact h37 x hx
                · obtain ⟨a1, a2, a3, a4, a5, a6⟩ := hA
                  have ev : max w1.toInt (R (ins M i)) = max w.toInt (R (ins M i)) := by omega
                  rw [ev] at a4 a5 a6
                  have e50 : r2.1 0 50 = r1.1 0 50 := by rw [q2, zu_f (by decide)]
                  rw [e50] at a4 a5 a6
                  have e38 : ∀ p, p < at_ → r2.1 38 p = r.1 38 p := fun p hp => by rw [q2, zu_ne (Or.inr (by omega))]; exact p3 p hp
                  rw [nv_1]
                  refine hag hlti _ ⟨rfl, fun k x y z => ?_, fun j hj => ?_, fun p hp => ?_, ?_, ?_, ?_⟩
                  · dsimp only; rw [a1 k x y z, q2, zu_f y]; exact p1 k x y z
                  · dsimp only; rw [a2 j hj, q2, zu_f (by decide)]; exact p2 j hj
                  · dsimp only; rw [a3 p (by omega)]; exact e38 p hp
                  · dsimp only; rw [a4, p4, em]; omega
                  · dsimp only
                    rw [em]
                    intro z
                    by_cases hv : max w.toInt (R (ins M i)) < (r1.1 0 50).toInt
                    · obtain ⟨x1, x2⟩ := a5 hv
                      have et : max w.toInt (min (R (ins M i)) (mB R M 2147483647 i)) = max w.toInt (R (ins M i)) := by omega
                      rw [et]
                      refine ⟨fun p hp => ?_, i, by omega, hb', by omega, fun i' hi' hbi => ?_, ?_, x2⟩
                      · rw [x1 p (by omega)]; exact e38 p hp
                      · have := mB_le (R := R) (a := 2147483647) hi' hbi
                        omega
                      · rw [x1 at_ (by omega), q2, zu_eq ⟨rfl, rfl⟩]
                    · have e39 : r3.1 39 = r1.1 39 := by rw [a6 hv, q2, zu_f (by decide)]
                      have et : max w.toInt (min (R (ins M i)) (mB R M 2147483647 i)) = max w.toInt (mB R M 2147483647 i) := by omega
                      rw [et] at z ⊢
                      rw [e39]
                      obtain ⟨x1, j, x2, x3⟩ := p5 z
                      exact ⟨x1, j, by omega, x3⟩
                  · dsimp only
                    rw [em]
                    intro z
                    have hv : ¬ max w.toInt (R (ins M i)) < (r1.1 0 50).toInt := by omega
                    rw [a6 hv, q2, zu_f (by decide)]
                    exact p6 (by omega)
              refine t9_sizeOf (brc (fun e => ?_) fun e => t9_sizeOf ?_)
              · rw [iv_le] at e
                exact recu w (by clear p5; omega)
              · rw [iv_le] at e
                exact recu _ (by clear p5; omega)
        · dsimp only; simp only [mB]; omega
        · simp only [mB] at z; omega
      · have hfm : at_ = m := nv_inj (by omega) (by omega) e
        have eR := RP_f hR hM (by omega)
        have eM : max w.toInt (R M) = w.toInt := by omega
        intro r1 q1
        refine lp_cnt m (fun i s => s.1 = nI i ∧ (∀ k, k ≠ 39 → s.2.1 k = r1.1 k) ∧ ∀ p, p < i → s.2.1 39 p = r.1 38 p) ?_ _ ⟨rfl, fun _ _ => rfl, fun p hp => by omega⟩
        intro i s hi hs again hag
        obtain ⟨u, r2⟩ := s
        obtain ⟨hu, p1, p2⟩ := hs
        dsimp only at hu p1 p2
        subst hu
        unfold w_X9_arrange_l27
        dsimp only
        have e9 : r2.1 0 9 = nI m := by rw [p1 0 (by decide), q1, zu_ne (by decide)]; exact h9
        rw [e9]
        refine brc (fun e => ?_) fun e => ?_
        · have := nv_end (by omega) (by omega) hi e
          subst this
          refine H r2 ⟨fun k a b d => ?_, fun j hj => ?_, fun p hp => ?_, ?_, fun z => ⟨fun p hp => p2 p (by omega), ?_⟩, fun z => absurd (by omega) z⟩
          · rw [p1 k d, q1, zu_f a]
          · rw [p1 0 (by decide), q1, zu_ne (Or.inr hj)]
          · rw [p1 38 (by decide), q1, zu_f (by decide)]
          · rw [p1 0 (by decide), q1, zu_eq ⟨rfl, rfl⟩]; omega
          · rw [hfm, Nat.sub_self]; trivial
        · have hlt := nv_nle (by omega) (by omega) e
          have hi8 : vp_in (nI i) 8 := nv_in (by omega) (by decide)
          rw [nv_tn (by omega), nv_1]
          refine ⟨hi8, hi8, fun r3 q3 => hag hlt _ ⟨rfl, fun k hk => by dsimp only; rw [q3, zu_f hk]; exact p1 k hk, fun p hp => ?_⟩⟩
          dsimp only
          by_cases z : p = i
          · rw [q3, zu_eq ⟨rfl, z⟩, p1 38 (by decide), q1, zu_f (by decide), z]
          · rw [q3, zu_ne (Or.inr z)]; exact p2 p (by omega)
    · rw [iv_lt] at hw
      exact H r ⟨fun _ _ _ _ => rfl, fun _ _ => rfl, fun _ _ => rfl, by omega, fun z => by omega, fun _ => rfl⟩
theorem t4_inBest {c : zz_Hp} {m k : Nat} (hm : c.1 37 0 = nI m) (h8 : m ≤ 8) {o : Nat → Int32} (ho : PG (fun M => (c.1 39 M).toInt) m (c.1 39 0).toInt m 0 0 o) (hk : k < m) {l : Int32} (el : l = nI k) {Q : Int32 → zz_Hp → Prop} (H : Q (o k) c) : w_X4_inBestOrder l c Q := by
  have hp := b_pow h8
  subst el
  unfold w_X4_inBestOrder
  refine lp_cnt (k + 1) (fun i s => (∃ M, s.1 = nI M ∧ M < 2 ^ m ∧ PG (fun M => (c.1 39 M).toInt) m (c.1 39 0).toInt (m - i) M i o) ∧ (1 ≤ i → s.2.1 = o (i - 1)) ∧ s.2.2.1 = nI i ∧ s.2.2.2 = c) ?_ _ ⟨⟨0, rfl, by omega, ho⟩, fun z => absurd z (by omega), rfl, rfl⟩
  intro i s hi hs again hag
  obtain ⟨u, v, w, c1⟩ := s
  obtain ⟨⟨M, hu, hM, hP⟩, hv, hw, hc⟩ := hs
  dsimp only at hu hv hw hc
  subst hu hw hc
  unfold w_X4_inBestOrder_l8
  dsimp only
  rw [nv_lt (by omega) (by omega)]
  refine brc (fun e => ?_) fun e => ?_
  · rw [hv (by omega), show i - 1 = k by omega]; exact H
  · have hik : i < k + 1 := by omega
    rw [hm, nv_le (by omega) (by omega)]
    refine brf (by omega) ?_
    rw [show m - i = (m - (i + 1)) + 1 by omega] at hP
    obtain ⟨j, j1, j2, j3, j4, j5, j6⟩ := hP
    have fin : w_X4_inBestOrder_j50 again Q (nI k) (nI M) (nI j) (nI i) c1 := by
      unfold w_X4_inBestOrder_j50
      rw [b_ins (by omega) (by omega), nv_1]
      exact hag hik _ ⟨⟨ins M j, rfl, ins_lt hM j1, j6⟩, fun _ => j5.symm, rfl, rfl⟩
    refine lp_cnt j (fun x s => s = (nI x, c1)) ?_ _ rfl
    intro x s hx hs again' hag'
    subst hs
    unfold w_X4_inBestOrder_l25
    dsimp only
    rw [hm, nv_1, nv_le (by omega) (by omega)]
    refine brc (fun e => ?_) fun e => ?_
    · rw [show x = j by omega]; exact fin
    · unfold w_X4_isBest
      have hins := ins_lt (i := x) hM (by omega)
      rw [b_get (by omega) (by omega), b_ins (by omega) (by omega), nv_tn (by omega), show (0 : Int32).toNatClampNeg = 0 from rfl]
      by_cases hb : M.testBit x = true
      · rw [if_pos hb]
        refine bnt (by decide) (br0 (hag' ?_ _ rfl))
        rcases Nat.lt_or_eq_of_le hx with z | z
        · exact z
        · rw [z, j2] at hb; cases hb
      · have hb' : M.testBit x = false := by simpa using hb
        rw [if_neg hb]
        refine bnf rfl ⟨nv_in (by omega) (by decide), nv_in (n := 0) (by omega) (by decide), brc (fun e => br0 (hag' ?_ _ rfl)) fun e => br1 ?_⟩
        · rcases Nat.lt_or_eq_of_le hx with z | z
          · exact z
          · rw [z, iv_lt] at e; dsimp only at j3; omega
        · rw [iv_lt] at e
          rcases Nat.lt_or_eq_of_le hx with z | z
          · exact absurd (by dsimp only; omega) (j4 x z hb')
          · rw [z]; exact fin
