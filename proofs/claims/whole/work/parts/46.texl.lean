/-! read: the reference's loop over the text -/
theorem t9_text {x : Nat → Int32} {n : Nat} (hn : n ≤ 80) {r0 r : zz_Hp} (d : RD x n 0 0 r) (h54 : RA [] r0 r) {Q : Int32 → zz_Hp → Prop} (H1 : ∀ A r' p, pW x n 80 0 = .ok A → A.length ≤ 27 → RA A r0 r' → RD x n p 0 r' → w_X9_read_j70 Q r') (H0 : ∀ e r', pW x n 80 0 = .error e → e ≤ n → (∀ k, k ≠ 0 → k ≠ 40 → k ≠ 41 → k ≠ 42 → r'.1 k = r0.1 k) → (∀ j, j ≠ 51 → j ≠ 53 → j ≠ 54 → r'.1 0 j = r0.1 0 j) → RD x n e 1 r' → w_X9_read_j70 Q r') : w_X9_readAct r (fun h6 => lp (fun s ag => w_X9_read_l32 ag Q s) h6) := by
  have e0 : pW x n 80 0 = apx [] (pW x n (79 + 1) 0) := by
    show pW x n 80 0 = apx [] (pW x n 80 0)
    cases pW x n 80 0 with
    | error e => rfl
    | ok R => rfl
  have LP : ∀ r1, ((∃ A q, A.length = 0 + 1 ∧ 5 * A.length ≤ q + 1 ∧ q ≤ n ∧ RA A r0 r1 ∧ RD x n q 0 r1 ∧ pW x n 80 0 = pX x n (79 - 0) q A) ∨ ∃ e', pW x n 80 0 = .error e' ∧ e' ≤ n ∧ (∀ k, k ≠ 0 → k ≠ 40 → k ≠ 41 → k ≠ 42 → r1.1 k = r0.1 k) ∧ (∀ j, j ≠ 51 → j ≠ 53 → j ≠ 54 → r1.1 0 j = r0.1 0 j) ∧ RD x n e' 1 r1) → lp (fun s ag => w_X9_read_l32 ag Q s) r1 := by
    intro r1 h1
    refine lp_cnt 18 (fun i s => ((∃ A q, A.length = i + 1 ∧ 5 * A.length ≤ q + 1 ∧ q ≤ n ∧ RA A r0 s ∧ RD x n q 0 s ∧ pW x n 80 0 = pX x n (79 - i) q A) ∨ ∃ e', pW x n 80 0 = .error e' ∧ e' ≤ n ∧ (∀ k, k ≠ 0 → k ≠ 40 → k ≠ 41 → k ≠ 42 → s.1 k = r0.1 k) ∧ (∀ j, j ≠ 51 → j ≠ 53 → j ≠ 54 → s.1 0 j = r0.1 0 j) ∧ RD x n e' 1 s)) ?_ _ h1
    intro i s hi hs again hag
    unfold w_X9_read_l32
    rcases hs with ⟨A, q, hA1, hA5, hq, ra, d1, eW⟩ | ⟨e', E, he, f1, f2, d1⟩
    · refine bnf d1.2.2.1 ?_
      rw [d1.1, d1.2.1, nv_le (by omega) (by omega)]
      unfold pX at eW
      refine brc (fun z => ?_) fun z => ?_
      · rw [if_neg (by omega)] at eW
        exact H1 A s q eW (by omega) ra d1
      · rw [if_pos (by omega)] at eW
        refine t9_want hn hq d1 (by decide) (fun r2 s1 s2 g2 d2 => ?_) fun r2 s g2 d2 => ?_
        · rw [if_pos s2] at eW
          have ra2 := RA_g ra g2
          refine bnf d2.2.2.1 (t9_act hn (by omega) (a := A.length) (by omega) d2 ra2.2.2.1 (fun L q3 r3 ea hlt hq3 h3 d3 e54 av => hag (by omega) _ (Or.inl ⟨A ++ [(x (q + 1), L)], q3, ?_, ?_, hq3, RA_a ra2 h3 e54 av, d3, ?_⟩)) fun e' r3 ea he h3 d3 => hag (by omega) _ (Or.inr ⟨e', ?_, he, fun k x y z w => (h3.1 k x y z w).trans (ra2.1 k x y z w), fun j x y z => (h3.2.1 j x y z).trans (ra2.2.1 j x y z), d3⟩))
          · rw [List.length_append, hA1]; rfl
          · have := pA_ok ea
            rw [List.length_append, List.length_singleton]; omega
          · rw [eW, show 79 - i = 79 - (i + 1) + 1 by omega, pW_X ea]
          · rw [eW, show 79 - i = 79 - (i + 1) + 1 by omega, pW_e ea]; rfl
        · rw [if_neg fun w => s ⟨by omega, w⟩] at eW
          have ra2 := RA_g ra g2
          exact bnt (by rw [d2.2.2.1]; decide) (hag (by omega) _ (Or.inr ⟨q, eW, hq, ra2.1, ra2.2.1, d2⟩))
    · exact bnt (by rw [d1.2.2.1]; decide) (H0 e' s E he f1 f2 d1)
  refine t9_act hn (by omega) (a := 0) (by omega) d h54.2.2.1 (fun L q r1 ea hlt hq h1 d1 e54 av => LP r1 (Or.inl ⟨[] ++ [(x 0, L)], q, rfl, ?_, hq, RA_a h54 h1 e54 av, d1, ?_⟩)) fun e r1 ea he h1 d1 => LP r1 (Or.inr ⟨e, ?_, he, fun k x y z w => (h1.1 k x y z w).trans (h54.1 k x y z w), fun j x y z => (h1.2.1 j x y z).trans (h54.2.1 j x y z), d1⟩)
  · have := pA_ok ea
    show 5 * 1 ≤ q + 1; omega
  · rw [e0, pW_X ea]
  · rw [e0, pW_e ea]; rfl
