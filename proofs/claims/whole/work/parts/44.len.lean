/-! read: an act takes four signs at least -/
theorem pS_ok {x : Nat → Int32} {n p q : Nat} {ch : Int32} (h : pS x n ch p = .ok q) : q = p + 1 := by
  unfold pS at h
  split at h
  · cases h; rfl
  · cases h
theorem pT_ok {x : Nat → Int32} {n p q : Nat} {v : Int32} (h : pT x n p = .ok (v, q)) : p < q := by
  unfold pT at h
  split at h
  · cases e : pN x n (p + 1) with
    | error d => rw [e] at h; cases h
    | ok w =>
      obtain ⟨w, q'⟩ := w
      rw [e] at h
      dsimp only at h
      cases h
      have := pN_ok e; omega
  · have := pN_ok h; omega
theorem pP_ok {x : Nat → Int32} {n : Nat} : ∀ {k i p : Nat} {L L' : List Int32} {q : Nat}, pP x n k i p L = .ok (L', q) → p + 2 ≤ q
  | 0, i, p, L, L', q, h => by simp only [pP] at h; cases h
  | k + 1, i, p, L, L', q, h => by
    simp only [pP] at h
    cases e : pN x n p with
    | error d => rw [e] at h; cases h
    | ok w =>
      obtain ⟨w, q'⟩ := w
      rw [e] at h
      dsimp only at h
      have := pN_ok e
      split at h
      · cases h; omega
      · split at h
        · cases h
        · split at h
          · have := pP_ok h; omega
          · cases h
theorem pA_ok {x : Nat → Int32} {n p q : Nat} {L : List Int32} (h : pA x n p = .ok (L, q)) : p + 4 ≤ q := by
  unfold pA at h
  split at h
  · split at h
    · cases e : pN x n (p + 1) with
      | error d => rw [e] at h; cases h
      | ok w =>
        obtain ⟨w, q'⟩ := w
        rw [e] at h
        dsimp only at h
        have := pN_ok e
        cases e2 : pS x n 44 q' with
        | error d => rw [e2] at h; cases h
        | ok q1 =>
          rw [e2] at h
          dsimp only at h
          have := pS_ok e2
          cases e3 : pN x n q1 with
          | error d => rw [e3] at h; cases h
          | ok w2 =>
            obtain ⟨w2, q2⟩ := w2
            rw [e3] at h
            dsimp only at h
            cases h
            have := pN_ok e3; omega
    · split at h
      · cases e : pN x n (p + 1) with
        | error d => rw [e] at h; cases h
        | ok w =>
          obtain ⟨w, q'⟩ := w
          rw [e] at h
          dsimp only at h
          have := pN_ok e
          cases e2 : pS x n 44 q' with
          | error d => rw [e2] at h; cases h
          | ok q1 =>
            rw [e2] at h
            dsimp only at h
            have := pS_ok e2
            cases e3 : pN x n q1 with
            | error d => rw [e3] at h; cases h
            | ok w2 =>
              obtain ⟨w2, q2⟩ := w2
              rw [e3] at h
              dsimp only at h
              have := pN_ok e3
              cases e4 : pS x n 44 q2 with
              | error d => rw [e4] at h; cases h
              | ok q3 =>
                rw [e4] at h
                dsimp only at h
                have := pS_ok e4
                cases e5 : pT x n q3 with
                | error d => rw [e5] at h; cases h
                | ok w3 =>
                  obtain ⟨w3, q4⟩ := w3
                  rw [e5] at h
                  dsimp only at h
                  cases h
                  have := pT_ok e5; omega
      · split at h
        · cases e : pP x n 4 1 (p + 1) [] with
          | error d => rw [e] at h; cases h
          | ok w =>
            obtain ⟨w, q'⟩ := w
            rw [e] at h
            dsimp only at h
            have := pP_ok e
            cases e2 : pT x n q' with
            | error d => rw [e2] at h; cases h
            | ok w2 =>
              obtain ⟨w2, q2⟩ := w2
              rw [e2] at h
              dsimp only at h
              cases h
              have := pT_ok e2; omega
        · cases h
  · cases h
