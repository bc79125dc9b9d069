/-! read: the reference's act -/
def hA (a : Nat) (r r' : zz_Hp) : Prop := (∀ k, k ≠ 0 → k ≠ 40 → k ≠ 41 → k ≠ 42 → r'.1 k = r.1 k) ∧ (∀ j, j ≠ 51 → j ≠ 53 → j ≠ 54 → r'.1 0 j = r.1 0 j) ∧ (∀ q, q < a → r'.1 40 q = r.1 40 q ∧ r'.1 41 q = r.1 41 q) ∧ ∀ q, q < 5 * a → r'.1 42 q = r.1 42 q
theorem hA.rf {a : Nat} {r : zz_Hp} : hA a r r := ⟨fun _ _ _ _ _ => rfl, fun _ _ _ _ => rfl, fun _ _ => ⟨rfl, rfl⟩, fun _ _ => rfl⟩
theorem hA.gR {a : Nat} {r r1 r2 : zz_Hp} (h : hA a r r1) (g : gR r1 r2) : hA a r r2 :=
  ⟨fun k x y z w => (g.1 k x).trans (h.1 k x y z w), fun j x y z => (g.2 j x y).trans (h.2.1 j x y z), fun q hq => by rw [g.1 40 (by decide), g.1 41 (by decide)]; exact h.2.2.1 q hq, fun q hq => by rw [g.1 42 (by decide)]; exact h.2.2.2 q hq⟩
/-- in the middle of act a: place p, fault e -/
def MS (x : Nat → Int32) (n p : Nat) (e : Int32) (a : Nat) (r0 r : zz_Hp) : Prop := hA a r0 r ∧ RD x n p e r ∧ r.1 0 54 = nI a
/-- the kind and the numbers so far -/
def MV (kd : Int32) (a : Nat) (P : List Int32) (r : zz_Hp) : Prop := r.1 40 a = kd ∧ ∀ i v, P[i]? = some v → r.1 42 (5 * a + i) = v
section
variable {x : Nat → Int32} {n p a : Nat} {e kd : Int32} {r0 r r' : zz_Hp} {P : List Int32}
theorem MS.g (h : MS x n p e a r0 r) {q : Nat} {d : Int32} (g : gR r r') (k : RD x n q d r') : MS x n q d a r0 r' :=
  ⟨h.1.gR g, k, by rw [g.2 54 (by decide) (by decide)]; exact h.2.2⟩
theorem MV.g (h : MV kd a P r) (g : gR r r') : MV kd a P r' :=
  ⟨by rw [g.1 40 (by decide)]; exact h.1, fun i v hv => by rw [g.1 42 (by decide)]; exact h.2 i v hv⟩
theorem MS.st (h : MS x n p e a r0 r) {i : Nat} {v : Int32} (k : r' = zz_uI r 42 (5 * a + i) v) : MS x n p e a r0 r' := by
  obtain ⟨⟨h1, h2, h3, h4⟩, ⟨d1, d2, d3, d4⟩, h5⟩ := h
  subst k
  refine ⟨⟨fun k x y z w => by rw [zu_f w]; exact h1 k x y z w, fun j x y z => by rw [zu_f (by decide)]; exact h2 j x y z, fun q hq => by rw [zu_f (by decide), zu_f (by decide)]; exact h3 q hq, fun q hq => by rw [zu_ne (Or.inr (by omega))]; exact h4 q hq⟩, ⟨by rw [zu_f (by decide)]; exact d1, by rw [zu_f (by decide)]; exact d2, by rw [zu_f (by decide)]; exact d3, fun i hi => by rw [zu_f (by decide)]; exact d4 i hi⟩, by rw [zu_f (by decide)]; exact h5⟩
theorem MV.st (h : MV kd a P r) {v : Int32} (k : r' = zz_uI r 42 (5 * a + P.length) v) : MV kd a (P ++ [v]) r' := by
  subst k
  refine ⟨by rw [zu_f (by decide)]; exact h.1, fun i w hw => ?_⟩
  rcases Nat.lt_or_ge i P.length with z | z
  · rw [List.getElem?_append_left z] at hw
    rw [zu_ne (Or.inr (by omega))]; exact h.2 i w hw
  · rw [List.getElem?_append_right z] at hw
    have hk0 : i - P.length = 0 := by
      rcases Nat.eq_zero_or_pos (i - P.length) with y | y
      · exact y
      · rw [List.getElem?_eq_none (by simp; omega)] at hw; cases hw
    rw [hk0] at hw
    rw [zu_eq ⟨rfl, by omega⟩]; exact Option.some.inj hw
theorem t9_end (ha : a < 27) (h : MS x n p e a r0 r) {l : Int32} {Q : zz_Hp → Prop} (H : ∀ r', hA a r0 r' → RD x n p e r' → r'.1 0 54 = nI (a + 1) → r'.1 41 a = l → (∀ k, k ≠ 0 → k ≠ 41 → r'.1 k = r.1 k) → Q r') : w_X9_readAct_j221 Q l r := by
  obtain ⟨⟨h1, h2, h3, h4⟩, ⟨d1, d2, d3, d4⟩, h5⟩ := h
  unfold w_X9_readAct_j221
  rw [h5, nv_tn (by omega)]
  refine ⟨nv_in ha (by decide), fun r1 k1 r2 k2 => ?_⟩
  have g1 : r1.1 0 54 = nI a := by rw [k1, zu_f (by decide)]; exact h5
  rw [g1, nv_1] at k2
  subst k2 k1
  refine H _ ⟨fun k x y z w => by rw [zu_f x, zu_f z]; exact h1 k x y z w, fun j x y z => by rw [zu_ne (Or.inr z), zu_f (by decide)]; exact h2 j x y z, fun q hq => ?_, fun q hq => by rw [zu_f (by decide), zu_f (by decide)]; exact h4 q hq⟩ ⟨by rw [zu_ne (by decide), zu_f (by decide)]; exact d1, by rw [zu_ne (by decide), zu_f (by decide)]; exact d2, by rw [zu_ne (by decide), zu_f (by decide)]; exact d3, fun i hi => by rw [zu_f (by decide), zu_f (by decide)]; exact d4 i hi⟩ (zu_eq ⟨rfl, rfl⟩) (by rw [zu_f (by decide), zu_eq ⟨rfl, rfl⟩]) fun k x y => by rw [zu_f x, zu_f y]
  rw [zu_f (by decide), zu_f (by decide), zu_f (by decide), zu_ne (Or.inr (by omega))]
  exact h3 q hq
theorem ix_5 (a i : Nat) : 5 * nI a + nI i = nI (5 * a + i) := by rw [show (5 : Int32) = nI 5 from rfl, nv_mul, nv_add]
/-- a number not signed, stored; a fault stays a fault -/
theorem t9_sto0 (hn : n ≤ 80) (hp : p ≤ n) (ha : a < 27) (h : MS x n p 0 a r0 r) (hv : MV kd a P r) (hP : P.length < 5) {l : Int32} (el : l = nI (5 * a + P.length)) {Q : zz_Hp → Prop} (H1 : ∀ v q r', pN x n p = .ok (v, q) → MS x n q 0 a r0 r' → MV kd a (P ++ [v]) r' → Q r') (H0 : ∀ r', pN x n p = .error p → MS x n p 1 a r0 r' → Q r') : w_X9_number 0 r (fun v r1 => vp_in l 135 ∧ ∀ r2, r2 = zz_uI r1 42 l.toNatClampNeg v → Q r2) := by
  subst el
  refine t9_num0 hn hp h.2.1 (fun v q r1 ep g d => ⟨nv_in (by omega) (by decide), fun r2 k2 => ?_⟩) fun v r1 ep g d => ⟨nv_in (by omega) (by decide), fun r2 k2 => ?_⟩
  · rw [nv_tn (by omega)] at k2
    exact H1 v q r2 ep ((h.g g d).st k2) ((hv.g g).st k2)
  · rw [nv_tn (by omega)] at k2
    exact H0 r2 ep ((h.g g d).st k2)
theorem t9_sto1 (ha : a < 27) (h : MS x n p 1 a r0 r) {i : Nat} (hi : i < 5) {l t : Int32} (el : l = nI (5 * a + i)) {Q : zz_Hp → Prop} (H : ∀ r', MS x n p 1 a r0 r' → Q r') : w_X9_number t r (fun v r1 => vp_in l 135 ∧ ∀ r2, r2 = zz_uI r1 42 l.toNatClampNeg v → Q r2) := by
  subst el
  refine t9_number1 h.2.1 ⟨nv_in (by omega) (by decide), fun r2 k2 => ?_⟩
  rw [nv_tn (by omega)] at k2
  exact H r2 (h.st k2)
theorem t9_stoT (hn : n ≤ 80) (hp : p ≤ n) (ha : a < 27) (h : MS x n p 0 a r0 r) (hv : MV kd a P r) {i : Nat} (hi : i < 5) {l : Int32} (el : l = nI (5 * a + i)) {Q : zz_Hp → Prop} (H1 : ∀ v q r1 r', pT x n p = .ok (v, q) → q ≤ n → MV kd a P r1 → r' = zz_uI r1 42 (5 * a + i) v → MS x n q 0 a r0 r' → Q r') (H0 : ∀ d r', pT x n p = .error d → d ≤ n → MS x n d 1 a r0 r' → Q r') : w_X9_number 1 r (fun v r1 => vp_in l 135 ∧ ∀ r2, r2 = zz_uI r1 42 l.toNatClampNeg v → Q r2) := by
  subst el
  refine t9_numT hn hp h.2.1 (fun v q r1 ep hq g d => ⟨nv_in (by omega) (by decide), fun r2 k2 => ?_⟩) fun v d r1 ep hd g k => ⟨nv_in (by omega) (by decide), fun r2 k2 => ?_⟩
  · rw [nv_tn (by omega)] at k2
    exact H1 v q r1 r2 ep hq (hv.g g) k2 ((h.g g d).st k2)
  · rw [nv_tn (by omega)] at k2
    exact H0 d r2 ep hd ((h.g g k).st k2)
end
