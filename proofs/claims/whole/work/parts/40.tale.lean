/-! read: the reference's reading -/
/-- the reference's state: place p, fault e -/
def RD (x : Nat → Int32) (n p : Nat) (e : Int32) (r : zz_Hp) : Prop := r.1 0 52 = nI n ∧ r.1 0 51 = nI p ∧ r.1 0 53 = e ∧ ∀ i, i < n → r.1 16 i = x i
def gR (r r' : zz_Hp) : Prop := (∀ k, k ≠ 0 → r'.1 k = r.1 k) ∧ ∀ j, j ≠ 51 → j ≠ 53 → r'.1 0 j = r.1 0 j
theorem gR.rf {r : zz_Hp} : gR r r := ⟨fun _ _ => rfl, fun _ _ _ => rfl⟩
theorem gR.tr {a b c : zz_Hp} (h1 : gR a b) (h2 : gR b c) : gR a c := ⟨fun k x => (h2.1 k x).trans (h1.1 k x), fun j x y => (h2.2 j x y).trans (h1.2 j x y)⟩
section
variable {x : Nat → Int32} {n p : Nat} {e : Int32} {r : zz_Hp}
theorem RD_p (h : RD x n p e r) {q : Nat} {r' : zz_Hp} (k : r' = zz_uI r 0 51 (nI q)) : gR r r' ∧ RD x n q e r' := by
  obtain ⟨h1, h2, h3, h4⟩ := h
  subst k
  exact ⟨⟨fun k hk => zu_f hk, fun j a b => zu_ne (Or.inr a)⟩, by rw [zu_ne (by decide)]; exact h1, zu_eq ⟨rfl, rfl⟩, by rw [zu_ne (by decide)]; exact h3, fun i hi => by rw [zu_f (by decide)]; exact h4 i hi⟩
theorem RD_e (h : RD x n p e r) {d : Int32} {r' : zz_Hp} (k : r' = zz_uI r 0 53 d) : gR r r' ∧ RD x n p d r' := by
  obtain ⟨h1, h2, h3, h4⟩ := h
  subst k
  exact ⟨⟨fun k hk => zu_f hk, fun j a b => zu_ne (Or.inr b)⟩, by rw [zu_ne (by decide)]; exact h1, by rw [zu_ne (by decide)]; exact h2, zu_eq ⟨rfl, rfl⟩, fun i hi => by rw [zu_f (by decide)]; exact h4 i hi⟩
theorem t9_here (hn : n ≤ 80) (hp : p ≤ n) (h : RD x n p e r) {Q : Int32 → zz_Hp → Prop} (H1 : p < n → Q (x p) r) (H0 : p = n → Q (-1) r) : w_X9_here r Q := by
  obtain ⟨h1, h2, h3, h4⟩ := h
  unfold w_X9_here
  rw [h1, h2, nv_le (by omega) (by omega)]
  refine brc (fun z => H0 (by omega)) fun z => ⟨nv_in (by omega) (by decide), ?_⟩
  rw [nv_tn (by omega), h4 p (by omega)]
  exact H1 (by omega)
theorem t9_want (hn : n ≤ 80) (hp : p ≤ n) (h : RD x n p 0 r) {ch : Int32} (hc : ¬ -1 = ch) {Q : zz_Hp → Prop} (H1 : ∀ r', p < n → x p = ch → gR r r' → RD x n (p + 1) 0 r' → Q r') (H0 : ∀ r', ¬ (p < n ∧ x p = ch) → gR r r' → RD x n p 1 r' → Q r') : w_X9_want ch r Q := by
  unfold w_X9_want
  refine bnf h.2.2.1 ?_
  have bad : ¬ (p < n ∧ x p = ch) → w_X9_want_j21 Q 1 r := by
    intro z
    refine ⟨Or.inr rfl, fun r1 k1 => ?_⟩
    obtain ⟨g1, d1⟩ := RD_e h k1
    refine brf (by rw [d1.2.2.1]; decide) fun r2 k2 => ?_
    rw [d1.2.1, Int32.add_zero] at k2
    obtain ⟨g2, d2⟩ := RD_p d1 k2
    exact H0 r2 z (g1.tr g2) d2
  refine t9_here hn hp h (fun hlt => brc (fun k => ?_) fun k => bad fun z => k z.2) fun hpn => brf hc (bad (by omega))
  refine ⟨Or.inl rfl, fun r1 k1 => ?_⟩
  obtain ⟨g1, d1⟩ := RD_e h k1
  refine brt d1.2.2.1 fun r2 k2 => ?_
  rw [d1.2.1, nv_1] at k2
  obtain ⟨g2, d2⟩ := RD_p d1 k2
  exact H1 r2 hlt k (g1.tr g2) d2
theorem t9_want1 (h : RD x n p 1 r) {ch : Int32} {Q : zz_Hp → Prop} (H : Q r) : w_X9_want ch r Q := by
  unfold w_X9_want
  exact bnt (by rw [h.2.2.1]; decide) H
theorem t9_number1 (h : RD x n p 1 r) {l : Int32} {Q : Int32 → zz_Hp → Prop} (H : Q 0 r) : w_X9_number l r Q := by
  unfold w_X9_number
  exact brf (by rw [h.2.2.1]; decide) H
/-- the figures, behind the sign s -/
theorem t9_figs (hn : n ≤ 80) (hp : p ≤ n) (h : RD x n p 0 r) {s : Int32} {Q : Int32 → zz_Hp → Prop} (H1 : ∀ v q r', pN x n p = .ok (v, q) → gR r r' → RD x n q 0 r' → Q (if s = 0 then v else -v) r') (H0 : ∀ v r', pN x n p = .error p → gR r r' → RD x n p 1 r' → Q v r') : lp (fun s' ag => w_X9_number_l51 ag Q s s'.1 s'.2.1 s'.2.2) (0, 0, r) := by
  have J : ∀ (j : Nat) (v : Int32) (r1 : zz_Hp), j ≤ 5 → gR r r1 → RD x n (p + j) 0 r1 → (fgF x n 5 p 0) = (j, v) → w_X9_number_j93 Q s v (nI j) r1 := by
    intro j v r1 hj g1 d1 ef
    unfold w_X9_number_j93 w_X9_number_j104
    refine bnc (fun z => ⟨Or.inl rfl, fun r2 k2 => ?_⟩) fun z => ⟨Or.inr rfl, fun r2 k2 => ?_⟩
    · have hj0 : j ≠ 0 := fun w => z (by rw [w]; rfl)
      obtain ⟨g2, d2⟩ := RD_e d1 k2
      have ep : pN x n p = .ok (v, p + j) := by unfold pN; rw [ef, if_neg hj0]
      have := H1 v (p + j) r2 ep (g1.tr g2) d2
      exact brc (fun w => by rw [if_pos w] at this; exact this) fun w => by rw [if_neg w] at this; exact this
    · have hj0 : j = 0 := by
        rcases Nat.eq_zero_or_pos j with w | w
        · exact w
        · exact absurd z (nI_ne0' w (by omega))
      subst hj0
      obtain ⟨g2, d2⟩ := RD_e d1 k2
      have ep : pN x n p = .error p := by unfold pN; rw [ef]; rfl
      exact ⟨fun _ => H0 _ r2 ep (g1.tr g2) d2, fun _ => H0 _ r2 ep (g1.tr g2) d2⟩
  refine lp_cnt 5 (fun j u => u.2.1 = nI j ∧ gR r u.2.2 ∧ RD x n (p + j) 0 u.2.2 ∧ p + j ≤ n ∧ fgF x n 5 p 0 = ((fgF x n (5 - j) (p + j) u.1).1 + j, (fgF x n (5 - j) (p + j) u.1).2)) ?_ _ ⟨rfl, gR.rf, h, hp, rfl⟩
  intro j u hj hu again hag
  obtain ⟨v, w, r1⟩ := u
  obtain ⟨hw, g1, d1, hpj, ef⟩ := hu
  dsimp only at hw g1 d1 hpj ef
  subst hw
  unfold w_X9_number_l51
  dsimp only
  rw [show (5 : Int32) = nI 5 from rfl, nv_le (by omega) (by omega)]
  refine brc (fun z => ?_) fun z => ?_
  · have : j = 5 := by omega
    subst this
    refine J 5 v r1 hj g1 d1 ?_
    rw [ef]; simp only [Nat.sub_self, fgF, Nat.zero_add]
  · have stop : ¬ (p + j < n ∧ 48 ≤ x (p + j) ∧ x (p + j) ≤ 57) → w_X9_number_j93 Q s v (nI j) r1 := by
      intro z
      refine J j v r1 hj g1 d1 ?_
      rw [ef, show 5 - j = (5 - (j + 1)) + 1 by omega]
      simp only [fgF]
      rw [if_neg z, Nat.zero_add]
    unfold w_X9_isFigure
    refine t9_here hn hpj d1 (fun hlt => brc (fun z1 => bq0 (stop fun w => absurd z1 (Int32.not_lt.mpr w.2.1))) fun z1 => t9_here hn hpj d1 (fun _ => brc (fun z2 => bq0 (stop fun w => absurd z2 (Int32.not_lt.mpr w.2.2))) fun z2 => bq1 (t9_here hn hpj d1 (fun _ => fun r2 k2 => ?_) fun w => absurd hlt (by omega))) fun w => absurd hlt (by omega)) fun w => brt (by decide) (bq0 (stop (by omega)))
    rw [d1.2.1, nv_1] at k2
    rw [nv_1]
    obtain ⟨g2, d2⟩ := RD_p d1 k2
    refine hag (by omega) _ ⟨rfl, g1.tr g2, d2, by omega, ?_⟩
    dsimp only
    rw [ef, show 5 - j = (5 - (j + 1)) + 1 by omega]
    have zz : p + j < n ∧ 48 ≤ x (p + j) ∧ x (p + j) ≤ 57 := ⟨hlt, Int32.not_lt.mp z1, Int32.not_lt.mp z2⟩
    simp only [fgF]
    rw [if_pos zz]
    dsimp only
    rw [show p + (j + 1) = p + j + 1 by omega, show 10 * v = v * 10 from Int32.mul_comm _ _]
    simp only [Nat.add_assoc, Nat.add_comm 1 j]
theorem t9_num0 (hn : n ≤ 80) (hp : p ≤ n) (h : RD x n p 0 r) {Q : Int32 → zz_Hp → Prop} (H1 : ∀ v q r', pN x n p = .ok (v, q) → gR r r' → RD x n q 0 r' → Q v r') (H0 : ∀ v r', pN x n p = .error p → gR r r' → RD x n p 1 r' → Q v r') : w_X9_number 0 r Q := by
  unfold w_X9_number
  refine brt h.2.2.1 (brt rfl ?_)
  unfold w_X9_number_j26 w_X9_number_j27
  refine brt rfl fun r1 k1 => ?_
  rw [h.2.1, Int32.add_zero] at k1
  obtain ⟨g1, d1⟩ := RD_p h k1
  exact t9_figs hn hp d1 (fun v q r' a b d => by rw [if_pos rfl]; exact H1 v q r' a (g1.tr b) d) fun v r' a b d => H0 v r' a (g1.tr b) d
theorem t9_numT (hn : n ≤ 80) (hp : p ≤ n) (h : RD x n p 0 r) {Q : Int32 → zz_Hp → Prop} (H1 : ∀ v q r', pT x n p = .ok (v, q) → q ≤ n → gR r r' → RD x n q 0 r' → Q v r') (H0 : ∀ v e r', pT x n p = .error e → e ≤ n → gR r r' → RD x n e 1 r' → Q v r') : w_X9_number 1 r Q := by
  unfold w_X9_number
  refine brt h.2.2.1 (brf (by decide) ?_)
  have plain : ¬ (p < n ∧ x p = 45) → w_X9_number_j26 Q r := by
    intro z
    unfold w_X9_number_j26 w_X9_number_j27
    refine brt rfl fun r1 k1 => ?_
    rw [h.2.1, Int32.add_zero] at k1
    obtain ⟨g1, d1⟩ := RD_p h k1
    refine t9_figs hn hp d1 (fun v q r' a b d => ?_) fun v r' a b d => ?_
    · rw [if_pos rfl]; exact H1 v q r' (by unfold pT; rw [if_neg z, a]) (by have := pN_ok a; omega) (g1.tr b) d
    · exact H0 v p r' (by unfold pT; rw [if_neg z, a]) hp (g1.tr b) d
  refine t9_here hn hp h (fun hlt => bnc (fun z => plain fun w => z w.2) fun z => ?_) fun w => bnt (by decide) (plain (by omega))
  unfold w_X9_number_j27
  refine brf (by decide) fun r1 k1 => ?_
  rw [h.2.1, nv_1] at k1
  obtain ⟨g1, d1⟩ := RD_p h k1
  refine t9_figs hn (by omega) d1 (fun v q r' a b d => ?_) fun v r' a b d => ?_
  · rw [if_neg (by decide)]; exact H1 (-v) q r' (by unfold pT; rw [if_pos ⟨hlt, z⟩, a]) (by have := pN_ok a; omega) (g1.tr b) d
  · exact H0 v (p + 1) r' (by unfold pT; rw [if_pos ⟨hlt, z⟩, a]) (by omega) (g1.tr b) d
end
