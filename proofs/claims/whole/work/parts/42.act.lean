/-! read: the reference's act reads as the parser -/
def AV (kd : Int32) (a : Nat) (L : List Int32) (r : zz_Hp) : Prop := r.1 40 a = kd ∧ (kd ≠ 112 → ∀ i v, i < 5 → L[i]? = some v → r.1 42 (5 * a + i) = v) ∧ (kd = 112 → ∃ P t, L = P ++ [t] ∧ 2 ≤ P.length ∧ P.length ≤ 4 ∧ r.1 41 a = nI P.length ∧ (∀ i v, P[i]? = some v → r.1 42 (5 * a + i) = v) ∧ r.1 42 (5 * a + 4) = t)
/-- behind a part's number -/
def pR (x : Nat → Int32) (n i q : Nat) (P : List Int32) : Except Nat (List Int32 × Nat) := if 2 ≤ i ∧ q < n ∧ x q = 58 then .ok (P, q + 1) else if i = 4 then .error q else if q < n ∧ x q = 44 then pP x n (4 - i) (i + 1) (q + 1) P else .error q
theorem pP_e {x : Nat → Int32} {n k i p : Nat} {L : List Int32} {d : Nat} (h : pN x n p = .error d) : pP x n (k + 1) i p L = .error d := by simp only [pP]; rw [h]
theorem pP_o {x : Nat → Int32} {n i p q : Nat} {L : List Int32} {v : Int32} (hi : i < 5) (h : pN x n p = .ok (v, q)) (hk : 1 ≤ i) : pP x n (4 - i + 1) i p L = pR x n i q (L ++ [v]) := by simp only [pP, pR]; rw [h]
theorem t9_act {x : Nat → Int32} {n p a : Nat} {r : zz_Hp} (hn : n ≤ 80) (hp : p ≤ n) (ha : a < 27) (d : RD x n p 0 r) (h54 : r.1 0 54 = nI a) {Q : zz_Hp → Prop} (H1 : ∀ L q r', pA x n p = .ok (L, q) → p < n → q ≤ n → hA a r r' → RD x n q 0 r' → r'.1 0 54 = nI (a + 1) → AV (x p) a L r' → Q r') (H0 : ∀ e r', pA x n p = .error e → e ≤ n → hA a r r' → RD x n e 1 r' → Q r') : w_X9_readAct r Q := by
  have FE : ∀ e r' l, pA x n p = .error e → e ≤ n → MS x n e 1 a r r' → w_X9_readAct_j221 Q l r' := fun e r' l E he h => t9_end ha h fun r2 h1 h2 _ _ _ => H0 e r2 E he h1 h2
  have i0 : 5 * nI a = nI (5 * a + 0) := by rw [← ix_5]; exact (Int32.add_zero _).symm
  have iL : ∀ i, 5 * nI a + nI i = nI (5 * a + i) := ix_5 a
  have bad : ¬ (p < n ∧ (x p = 116 ∨ x p = 112 ∨ x p = 115 ∨ x p = 109)) → ∀ r1, r1 = zz_uI r 0 53 1 → Q r1 := by
    intro z r1 k1
    obtain ⟨g, d1⟩ := RD_e d k1
    refine H0 p r1 ?_ hp (hA.rf.gR g) d1
    unfold pA
    by_cases hlt : p < n
    · have z' : ¬ (x p = 116 ∨ x p = 112 ∨ x p = 115 ∨ x p = 109) := fun w => z ⟨hlt, w⟩
      rw [if_pos hlt, if_neg (fun w => z' (w.elim (fun u => Or.inr (Or.inr (Or.inr u))) fun u => Or.inr (Or.inr (Or.inl u)))), if_neg (fun w => z' (Or.inl w)), if_neg (fun w => z' (Or.inr (Or.inl w)))]
    · rw [if_neg hlt]
  have J : p < n → (x p = 116 ∨ x p = 112 ∨ x p = 115 ∨ x p = 109) → w_X9_readAct_j35 Q (x p) r := by
    intro hlt hk
    unfold w_X9_readAct_j35
    intro r3 k3
    rw [d.2.1, nv_1] at k3
    obtain ⟨g3, d3⟩ := RD_p d k3
    have e54 : r3.1 0 54 = nI a := by rw [g3.2 54 (by decide) (by decide)]; exact h54
    rw [e54, nv_tn (by omega)]
    refine ⟨nv_in ha (by decide), fun r4 k4 => ?_⟩
    have f4 : ∀ k, k ≠ 40 → r4.1 k = r3.1 k := fun k hk => by rw [k4, zu_f hk]
    have ms4 : MS x n (p + 1) 0 a r r4 := by
      refine ⟨⟨fun k a b d e => by rw [f4 k b]; exact g3.1 k a, fun j a b d => by rw [f4 0 (by decide)]; exact g3.2 j a b, fun q hq => ⟨?_, ?_⟩, fun q hq => ?_⟩, ⟨?_, ?_, ?_, fun i hi => ?_⟩, ?_⟩
      · rw [k4, zu_ne (Or.inr (by omega)), g3.1 40 (by decide)]
      · rw [f4 41 (by decide), g3.1 41 (by decide)]
      · rw [f4 42 (by decide), g3.1 42 (by decide)]
      · rw [f4 0 (by decide)]; exact d3.1
      · rw [f4 0 (by decide)]; exact d3.2.1
      · rw [f4 0 (by decide)]; exact d3.2.2.1
      · rw [f4 16 (by decide)]; exact d3.2.2.2 i hi
      · rw [f4 0 (by decide)]; exact e54
    have mv4 : MV (x p) a [] r4 := ⟨by rw [k4, zu_eq ⟨rfl, rfl⟩], fun i v hv => by simp at hv⟩
    by_cases h112 : x p = 112
    · have e1 : 5 * nI a + 1 = nI (5 * a + 1) := iL 1
      have e4 : 5 * nI a + 4 = nI (5 * a + 4) := iL 4
      have n1 : ¬ (x p = 109 ∨ x p = 115) := by rw [h112]; decide
      have n2 : ¬ x p = 116 := by rw [h112]; decide
      obtain ⟨Z, hZ⟩ : ∃ Z, Z = pP x n 4 1 (p + 1) [] := ⟨_, rfl⟩
      have PE : ∀ {e'}, Z = .error e' → pA x n p = .error e' := by
        intro e' E; unfold pA; rw [if_pos hlt, if_neg n1, if_neg n2, if_pos h112, ← hZ, E]
      have P1 : ∀ {L q e'}, Z = .ok (L, q) → pT x n q = .error e' → pA x n p = .error e' := by
        intro L q e' E E2; unfold pA; rw [if_pos hlt, if_neg n1, if_neg n2, if_pos h112, ← hZ, E]; dsimp only; rw [E2]
      have P2 : ∀ {L q t q1}, Z = .ok (L, q) → pT x n q = .ok (t, q1) → pA x n p = .ok (L ++ [t], q1) := by
        intro L q t q1 E E2; unfold pA; rw [if_pos hlt, if_neg n1, if_neg n2, if_pos h112, ← hZ, E]; dsimp only; rw [E2]
      have F155 : ∀ e' r' l, pA x n p = .error e' → e' ≤ n → MS x n e' 1 a r r' → w_X9_readAct_j155 Q (5 * nI a) l r' := by
        intro e' r' l E he h
        unfold w_X9_readAct_j155
        exact t9_want1 h.2.1 (t9_sto1 ha h (by omega : 4 < 5) e4 fun r2 h2 => FE e' r2 _ E he h2)
      have LP : ∀ r1, ((∃ q P, P.length = 0 + 2 ∧ q ≤ n ∧ MS x n q 0 a r r1 ∧ MV (x p) a P r1 ∧ Z = pR x n (0 + 2) q P) ∨ ∃ e', pA x n p = .error e' ∧ e' ≤ n ∧ MS x n e' 1 a r r1) → lp (fun s ag => w_X9_readAct_l105 ag Q (5 * nI a) s.1 s.2) (2, r1) := by
        intro r1 h1
        refine lp_cnt 2 (fun i s => s.1 = nI (i + 2) ∧ ((∃ q P, P.length = i + 2 ∧ q ≤ n ∧ MS x n q 0 a r s.2 ∧ MV (x p) a P s.2 ∧ Z = pR x n (i + 2) q P) ∨ ∃ e', pA x n p = .error e' ∧ e' ≤ n ∧ MS x n e' 1 a r s.2)) ?_ _ ⟨rfl, h1⟩
        intro i s hi hs again hag
        obtain ⟨u, r2⟩ := s
        obtain ⟨hu, hs⟩ := hs
        dsimp only at hu hs
        subst hu
        unfold w_X9_readAct_l105
        dsimp only
        rcases hs with ⟨q, P, hP, hq, ms, mv, eZ⟩ | ⟨e', E, he, ms⟩
        · have N155 : ¬ (i + 2 < 4 ∧ q < n ∧ x q = 44) → w_X9_readAct_j155 Q (5 * nI a) (nI (i + 2)) r2 := by
            intro z
            unfold w_X9_readAct_j155
            refine t9_want hn hq ms.2.1 (by decide) (fun r3 s1 s2 g3 d3 => ?_) fun r3 s g3 d3 => ?_
            · have eZ' : Z = .ok (P, q + 1) := by rw [eZ]; unfold pR; rw [if_pos ⟨by omega, s1, s2⟩]
              refine t9_stoT hn (by omega) ha (ms.g g3 d3) (mv.g g3) (by omega : 4 < 5) e4 (fun t q3 r4 r5 et hq3 mv4 k5 ms5 => ?_) fun e' r4 et he ms4 => FE e' r4 _ (P1 eZ' et) he ms4
              refine t9_end ha ms5 fun r6 h1 h2 h3 h4 h5 => H1 (P ++ [t]) q3 r6 (P2 eZ' et) hlt hq3 h1 h2 h3 ⟨?_, fun w => absurd h112 w, fun _ => ⟨P, t, rfl, by omega, by omega, ?_, fun i v hv => ?_, ?_⟩⟩
              · rw [h5 40 (by decide) (by decide), k5, zu_f (by decide)]; exact mv4.1
              · rw [h4, hP]
              · have hi : i < P.length := by
                  rcases Nat.lt_or_ge i P.length with w | w
                  · exact w
                  · rw [List.getElem?_eq_none w] at hv; cases hv
                rw [h5 42 (by decide) (by decide), k5, zu_ne (Or.inr (by omega))]; exact mv4.2 i v hv
              · rw [h5 42 (by decide) (by decide), k5, zu_eq ⟨rfl, rfl⟩]
            · have eZ' : Z = .error q := by
                rw [eZ]; unfold pR; rw [if_neg fun w => s w.2]
                by_cases h4 : i + 2 = 4
                · rw [if_pos h4]
                · rw [if_neg h4, if_neg fun w => z ⟨by omega, w⟩]
              exact t9_sto1 ha (ms.g g3 d3) (by omega : 4 < 5) e4 fun r4 ms4 => FE q r4 _ (PE eZ') hq ms4
          refine bnf ms.2.1.2.2.1 ?_
          rw [lit_4, nv_le (by omega) (by omega)]
          refine brc (fun h4 => N155 (by omega)) fun h4 => t9_here hn hq ms.2.1 (fun hqn => bnc (fun z => N155 fun w => z w.2.2) fun z => ?_) fun hqn => bnt (by decide) (N155 (by omega))
          intro r3 k3
          rw [ms.2.1.2.1, nv_1] at k3
          obtain ⟨g3, d3⟩ := RD_p ms.2.1 k3
          have eZ' : Z = pP x n (4 - (i + 2)) (i + 2 + 1) (q + 1) P := by
            rw [eZ]; unfold pR
            rw [if_neg (fun w => absurd (z.symm.trans w.2.2) (by decide)), if_neg (by omega), if_pos ⟨hqn, z⟩]
          have e5 : 5 * nI a + nI (i + 2) = nI (5 * a + P.length) := by rw [hP]; exact iL _
          rw [nv_1]
          refine t9_sto0 hn (by omega) ha (ms.g g3 d3) (mv.g g3) (by omega) e5 (fun v q2 r4 ep ms4 mv4 => hag (by omega) _ ⟨rfl, Or.inl ⟨q2, P ++ [v], by rw [List.length_append, hP]; rfl, ?_, ms4, mv4, ?_⟩⟩) fun r4 ep ms4 => hag (by omega) _ ⟨rfl, Or.inr ⟨q + 1, PE ?_, by omega, ms4⟩⟩
          · have := pN_ok ep; omega
          · rw [eZ', show 4 - (i + 2) = 4 - (i + 2 + 1) + 1 by omega, pP_o (by omega) ep (by omega)]
          · rw [eZ', show 4 - (i + 2) = 4 - (i + 2 + 1) + 1 by omega, pP_e ep]
        · exact bnt (by rw [ms.2.1.2.2.1]; decide) (F155 e' r2 _ E he ms)
      rw [i0]
      refine t9_sto0 (P := []) hn (by omega) ha ms4 mv4 (by simp) rfl (fun v q r5 ep ms5 mv5 => bnf h112 ?_) fun r5 ep ms5 => bnf h112 ?_
      · have hq := pN_ok ep
        have eZ : Z = pR x n 1 q [v] := by rw [hZ]; exact pP_o (i := 1) (by omega) ep (by omega)
        rw [← i0]
        refine t9_want hn (by omega) ms5.2.1 (by decide) (fun r6 s1 s2 g6 d6 => ?_) fun r6 s g6 d6 => ?_
        · have eZ2 : Z = pP x n 3 2 (q + 1) [v] := by
            rw [eZ]; unfold pR; rw [if_neg (by omega), if_neg (by omega), if_pos ⟨s1, s2⟩]
          refine t9_sto0 hn (by omega) ha (ms5.g g6 d6) (mv5.g g6) (by simp) e1 (fun w q2 r7 ep2 ms7 mv7 => LP r7 (Or.inl ⟨q2, [v, w], rfl, ?_, ms7, mv7, ?_⟩)) fun r7 ep2 ms7 => LP r7 (Or.inr ⟨q + 1, PE ?_, by omega, ms7⟩)
          · have := pN_ok ep2; omega
          · rw [eZ2]; exact pP_o (i := 2) (L := [v]) (by omega) ep2 (by omega)
          · rw [eZ2]; exact pP_e ep2
        · have eZ2 : Z = .error q := by
            rw [eZ]; unfold pR; rw [if_neg (by omega), if_neg (by omega), if_neg s]
          exact t9_sto1 ha (ms5.g g6 d6) (by omega : 1 < 5) e1 fun r7 ms7 => LP r7 (Or.inr ⟨q, PE eZ2, by omega, ms7⟩)
      · have eZ : Z = .error (p + 1) := by rw [hZ]; exact pP_e ep
        rw [← i0]
        exact t9_want1 ms5.2.1 (t9_sto1 ha ms5 (by omega : 1 < 5) e1 fun r7 ms7 => LP r7 (Or.inr ⟨p + 1, PE eZ, by omega, ms7⟩))
    · have e1 : 5 * nI a + 1 = nI (5 * a + 1) := iL 1
      have e2 : 5 * nI a + 2 = nI (5 * a + 2) := iL 2
      -- behind the second number
      have B2 : ∀ e' r', pA x n p = .error e' → e' ≤ n → MS x n e' 1 a r r' → ((¬ x p = 116 → w_X9_readAct_j221 Q (0 + 1) r') ∧ (x p = 116 → w_X9_want 44 r' (fun h15 => w_X9_number 1 h15 (fun r18 h17 => vp_in (5 * nI a + 2) 135 ∧ ∀ h19, h19 = zz_uI h17 42 (5 * nI a + 2).toNatClampNeg r18 → w_X9_readAct_j221 Q (0 + 1) h19)))) := by
        intro e' r' E he h
        exact ⟨fun _ => FE e' r' _ E he h, fun _ => t9_want1 h.2.1 (t9_sto1 ha h (by omega : 2 < 5) e2 fun r2 h2 => FE e' r2 _ E he h2)⟩
      have B1 : ∀ e' r', pA x n p = .error e' → e' ≤ n → MS x n e' 1 a r r' → w_X9_number 0 r' (fun r11 h10 => vp_in (5 * nI a + 1) 135 ∧ ∀ h12, h12 = zz_uI h10 42 (5 * nI a + 1).toNatClampNeg r11 → ((¬ x p = 116 → w_X9_readAct_j221 Q (0 + 1) h12) ∧ (x p = 116 → w_X9_want 44 h12 (fun h15 => w_X9_number 1 h15 (fun r18 h17 => vp_in (5 * nI a + 2) 135 ∧ ∀ h19, h19 = zz_uI h17 42 (5 * nI a + 2).toNatClampNeg r18 → w_X9_readAct_j221 Q (0 + 1) h19))))) :=
        fun e' r' E he h => t9_sto1 ha h (by omega : 1 < 5) e1 fun r2 h2 => B2 e' r2 E he h2
      have kk : ¬ (x p = 109 ∨ x p = 115) → x p = 116 := fun w => hk.elim id fun u => u.elim (fun u => absurd u h112) fun u => u.elim (fun u => absurd (Or.inr u) w) fun u => absurd (Or.inl u) w
      have P1 : ∀ {e'}, pN x n (p + 1) = .error e' → pA x n p = .error e' := by
        intro e' E; unfold pA; rw [if_pos hlt]
        by_cases h1 : x p = 109 ∨ x p = 115
        · rw [if_pos h1, E]
        · rw [if_neg h1, if_pos (kk h1), E]
      have P2 : ∀ {e' v q}, pN x n (p + 1) = .ok (v, q) → pS x n 44 q = .error e' → pA x n p = .error e' := by
        intro e' v q E E2; unfold pA; rw [if_pos hlt]
        by_cases h1 : x p = 109 ∨ x p = 115
        · rw [if_pos h1, E]; dsimp only; rw [E2]
        · rw [if_neg h1, if_pos (kk h1), E]; dsimp only; rw [E2]
      have P3 : ∀ {e' v q q1}, pN x n (p + 1) = .ok (v, q) → pS x n 44 q = .ok q1 → pN x n q1 = .error e' → pA x n p = .error e' := by
        intro e' v q q1 E E2 E3; unfold pA; rw [if_pos hlt]
        by_cases h1 : x p = 109 ∨ x p = 115
        · rw [if_pos h1, E]; dsimp only; rw [E2]; dsimp only; rw [E3]
        · rw [if_neg h1, if_pos (kk h1), E]; dsimp only; rw [E2]; dsimp only; rw [E3]
      rw [i0]
      refine t9_sto0 (P := []) hn (by omega) ha ms4 mv4 (by simp) rfl (fun v q r5 ep ms5 mv5 => ?_) fun r5 ep ms5 => ?_
      · have hq := pN_ok ep
        refine bnt h112 (t9_want hn (by omega) ms5.2.1 (by decide) (fun r6 s1 s2 g6 d6 => ?_) fun r6 s g6 d6 => ?_)
        · have ms6 := ms5.g g6 d6
          have mv6 := mv5.g g6
          rw [← i0]
          refine t9_sto0 hn (by omega) ha ms6 mv6 (by simp) e1 (fun w q2 r7 ep2 ms7 mv7 => ?_) fun r7 ep2 ms7 => B2 (q + 1) r7 (P3 ep (pS_t s1 s2) ep2) (by omega) ms7
          have hq2 := pN_ok ep2
          refine bnc (fun k6 => ?_) fun k6 => ?_
          · refine t9_end ha ms7 fun r8 h1 h2 h3 h4 h5 => H1 [v, w] q2 r8 ?_ hlt (by omega) h1 h2 h3 ⟨by rw [h5 40 (by decide) (by decide)]; exact mv7.1, fun _ i u _ hu => by rw [h5 42 (by decide) (by decide)]; exact mv7.2 i u hu, fun z => absurd z h112⟩
            have h1 : x p = 109 ∨ x p = 115 := Classical.byContradiction fun w => k6 (kk w)
            unfold pA; rw [if_pos hlt, if_pos h1, ep]; dsimp only; rw [pS_t s1 s2]; dsimp only; rw [ep2]
          · have n1 : ¬ (x p = 109 ∨ x p = 115) := by rw [k6]; decide
            refine t9_want hn (by omega) ms7.2.1 (by decide) (fun r8 s3 s4 g8 d8 => ?_) fun r8 s g8 d8 => ?_
            · refine t9_stoT hn (by omega) ha (ms7.g g8 d8) (mv7.g g8) (by omega : 2 < 5) e2 (fun t q3 r9 r10 et hq3 mv9 k10 ms10 => ?_) fun e' r9 et he ms9 => FE e' r9 _ ?_ he ms9
              · have mv10 : MV (x p) a ([v, w] ++ [t]) r10 := MV.st mv9 k10
                refine t9_end ha ms10 fun r11 h1 h2 h3 h4 h5 => H1 [v, w, t] q3 r11 ?_ hlt hq3 h1 h2 h3 ⟨by rw [h5 40 (by decide) (by decide)]; exact mv10.1, fun _ i u _ hu => by rw [h5 42 (by decide) (by decide)]; exact mv10.2 i u hu, fun z => absurd z h112⟩
                unfold pA; rw [if_pos hlt, if_neg n1, if_pos k6, ep]; dsimp only; rw [pS_t s1 s2]; dsimp only; rw [ep2]; dsimp only; rw [pS_t s3 s4]; dsimp only; rw [et]
              · unfold pA; rw [if_pos hlt, if_neg n1, if_pos k6, ep]; dsimp only; rw [pS_t s1 s2]; dsimp only; rw [ep2]; dsimp only; rw [pS_t s3 s4]; dsimp only; rw [et]
            · refine t9_sto1 ha (ms7.g g8 d8) (by omega : 2 < 5) e2 fun r9 ms9 => FE q2 r9 _ ?_ (by omega) ms9
              unfold pA; rw [if_pos hlt, if_neg n1, if_pos k6, ep]; dsimp only; rw [pS_t s1 s2]; dsimp only; rw [ep2]; dsimp only; rw [pS_f s]
        · rw [← i0]; exact B1 q r6 (P2 ep (pS_f s)) (by omega) (ms5.g g6 d6)
      · rw [← i0]; exact bnt h112 (t9_want1 ms5.2.1 (B1 (p + 1) r5 (P1 ep) (by omega) ms5))
  unfold w_X9_readAct
  refine t9_here hn hp d (fun hlt => brc (fun k => J hlt (Or.inl k)) fun k1 => brc (fun k => J hlt (Or.inr (Or.inl k))) fun k2 => brc (fun k => J hlt (Or.inr (Or.inr (Or.inl k)))) fun k3 => brc (fun k => J hlt (Or.inr (Or.inr (Or.inr k)))) fun k4 => bad fun w => w.2.elim k1 fun w => w.elim k2 fun w => w.elim k3 k4) fun hpn => brf (by decide) (brf (by decide) (brf (by decide) (brf (by decide) (bad (by omega)))))
