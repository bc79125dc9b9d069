/-! read: the whole text, reference -/
/-- the acts read so far -/
def RA (A : List Act) (r0 r : zz_Hp) : Prop := (∀ k, k ≠ 0 → k ≠ 40 → k ≠ 41 → k ≠ 42 → r.1 k = r0.1 k) ∧ (∀ j, j ≠ 51 → j ≠ 53 → j ≠ 54 → r.1 0 j = r0.1 0 j) ∧ r.1 0 54 = nI A.length ∧ ∀ i kd L, A[i]? = some (kd, L) → AV kd i L r
theorem AV_h {kd : Int32} {a i : Nat} {L : List Int32} {r r' : zz_Hp} (h : AV kd i L r) (g : hA a r r') (hi : i < a) : AV kd i L r' := by
  obtain ⟨h1, h2, h3⟩ := h
  refine ⟨by rw [(g.2.2.1 i hi).1]; exact h1, fun z j v hj hv => by rw [g.2.2.2 _ (by omega)]; exact h2 z j v hj hv, fun z => ?_⟩
  obtain ⟨P, t, a1, a2, a3, a4, a5, a6⟩ := h3 z
  refine ⟨P, t, a1, a2, a3, by rw [(g.2.2.1 i hi).2]; exact a4, fun j v hv => ?_, by rw [g.2.2.2 _ (by omega)]; exact a6⟩
  have hj : j < P.length := by
    rcases Nat.lt_or_ge j P.length with w | w
    · exact w
    · rw [List.getElem?_eq_none w] at hv; cases hv
  rw [g.2.2.2 _ (by omega)]; exact a5 j v hv
theorem RA_g {A : List Act} {r0 r r' : zz_Hp} (h : RA A r0 r) (g : gR r r') : RA A r0 r' :=
  ⟨fun k x y z w => (g.1 k x).trans (h.1 k x y z w), fun j x y z => (g.2 j x y).trans (h.2.1 j x y z), by rw [g.2 54 (by decide) (by decide)]; exact h.2.2.1, fun i kd L hi => by
    have := h.2.2.2 i kd L hi
    unfold AV at this ⊢
    rw [g.1 40 (by decide), g.1 41 (by decide), g.1 42 (by decide)]; exact this⟩
theorem RA_a {A : List Act} {r0 r r' : zz_Hp} {kd : Int32} {L : List Int32} (h : RA A r0 r) (g : hA A.length r r') (e : r'.1 0 54 = nI (A.length + 1)) (v : AV kd A.length L r') : RA (A ++ [(kd, L)]) r0 r' := by
  refine ⟨fun k x y z w => (g.1 k x y z w).trans (h.1 k x y z w), fun j x y z => (g.2.1 j x y z).trans (h.2.1 j x y z), by rw [List.length_append]; exact e, fun i kd' L' hi => ?_⟩
  rcases Nat.lt_or_ge i A.length with z | z
  · rw [List.getElem?_append_left z] at hi
    exact AV_h (h.2.2.2 i kd' L' hi) g z
  · rw [List.getElem?_append_right z] at hi
    have hk0 : i - A.length = 0 := by
      rcases Nat.eq_zero_or_pos (i - A.length) with y | y
      · exact y
      · rw [List.getElem?_eq_none (by simp; omega)] at hi; cases hi
    rw [hk0] at hi
    have e1 := Option.some.inj hi
    cases e1
    rw [show i = A.length by omega]; exact v
/-- what is left of the text behind an act -/
def pX (x : Nat → Int32) (n i q : Nat) (A : List Act) : Except Nat (List Act) := if q < n then (if x q = 59 then apx A (pW x n i (q + 1)) else .error q) else .ok A
theorem pW_X {x : Nat → Int32} {n k p q : Nat} {L : List Int32} {A : List Act} (h : pA x n p = .ok (L, q)) : apx A (pW x n (k + 1) p) = pX x n k q (A ++ [(x p, L)]) := by
  unfold pX
  by_cases hq : q < n
  · rw [if_pos hq]
    by_cases hs : x q = 59
    · rw [if_pos hs]; exact pW_o h hq hs
    · rw [if_neg hs, pW_s h hq hs]; rfl
  · rw [if_neg hq, pW_n h hq]; rfl
