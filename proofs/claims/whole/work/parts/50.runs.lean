/-! read: the acts one behind another -/
def rnS : Tb → List Act → Tb → Prop
  | T, [], T' => T' = T
  | T, a :: D, T' => ∃ T1, acS T a.1 a.2 T1 ∧ rnS T1 D T'
theorem rnS_app : ∀ {D : List Act} {T T1 T2 : Tb} {kd : Int32} {L : List Int32}, rnS T D T1 → acS T1 kd L T2 → rnS T (D ++ [(kd, L)]) T2
  | [], T, T1, T2, kd, L, h, k => by
    have h : T1 = T := h
    subst h
    exact ⟨T2, k, rfl⟩
  | a :: D, T, T1, T2, kd, L, h, k => by
    obtain ⟨T3, h1, h2⟩ := h
    exact ⟨T3, h1, rnS_app h2 k⟩
theorem rnS_g : ∀ {D : List Act} {T T1 : Tb}, rnS T D T1 → gT T T1
  | [], T, T1, h => by
    have h : T1 = T := h
    subst h
    exact gT.rf
  | a :: D, T, T1, h => by
    obtain ⟨T3, h1, h2⟩ := h
    exact h1.g.tr (rnS_g h2)
/-- what becomes of the acts A: D done, the table behind it, the answer -/
def ocm (T : Tb) (A D : List Act) (T' : Tb) (a : Int32) : Prop := rnS T D T' ∧ ((A = D ∧ a = nI D.length) ∨ ∃ kd L R, A = D ++ (kd, L) :: R ∧ acN T' kd L ∧ a = -200 - nI D.length)
theorem pA_lt {x : Nat → Int32} {n p q : Nat} {L : List Int32} (h : pA x n p = .ok (L, q)) : p < n := by
  unfold pA at h
  split at h
  · assumption
  · cases h
theorem pW_inv {x : Nat → Int32} {n k p : Nat} {R : List Act} (h : pW x n k p = .ok R) : ∃ k' L q R', pA x n p = .ok (L, q) ∧ R = (x p, L) :: R' ∧ ((q < n ∧ x q = 59 ∧ pW x n k' (q + 1) = .ok R') ∨ (¬ q < n ∧ R' = [])) := by
  cases k with
  | zero => simp only [pW] at h; cases h
  | succ k =>
    cases e : pA x n p with
    | error d => rw [pW_e e] at h; cases h
    | ok w =>
      obtain ⟨L, q⟩ := w
      by_cases hq : q < n
      · by_cases hs : x q = 59
        · simp only [pW] at h
          rw [e] at h
          dsimp only at h
          rw [if_pos hq, if_pos hs] at h
          cases e2 : pW x n k (q + 1) with
          | error d => rw [e2] at h; cases h
          | ok R' =>
            rw [e2] at h
            dsimp only at h
            cases h
            exact ⟨k, L, q, R', rfl, rfl, Or.inl ⟨hq, hs, e2⟩⟩
        · rw [pW_s e hq hs] at h; cases h
      · rw [pW_n e hq] at h
        cases h
        exact ⟨k, L, q, [], rfl, rfl, Or.inr ⟨hq, rfl⟩⟩
theorem pW_len {x : Nat → Int32} {n : Nat} : ∀ {A : List Act} {k p : Nat}, pW x n k p = .ok A → p + 5 * A.length ≤ n + 4
  | [], k, p, h => by
    obtain ⟨_, _, _, _, _, e, _⟩ := pW_inv h
    cases e
  | a :: A, k, p, h => by
    obtain ⟨k', L, q, R', ea, e, w⟩ := pW_inv h
    cases e
    have h1 := pA_lt ea
    have h2 := pA_ok ea
    rw [List.length_cons]
    rcases w with ⟨_, _, w⟩ | ⟨_, w⟩
    · have := pW_len w
      omega
    · subst w
      rw [List.length_nil]; omega
theorem t8_j85 {d : Nat} (hd : d ≤ 100) {l2 : Int32} {Q : Int32 → zz_Hp → Prop} {c1 : zz_Hp} (K0 : d = 0 → ∀ c2, c2 = zz_uI c1 24 0 0 → w_X8_read_j104 Q (nI d) l2 c2) (K1 : 0 < d → ∀ c2 c3, c2 = zz_uI c1 24 0 0 → c3 = zz_uI c2 18 0 0 → w_X8_read_j104 Q (nI d) l2 c3) : w_X8_read_j85 Q (nI d) l2 c1 := by
  unfold w_X8_read_j85
  intro c2 q2
  rw [lit_0, nv_le (by omega) (by omega)]
  exact brc (fun e => K0 (by omega) c2 q2) fun e c3 q3 => K1 (by omega) c2 c3 q2 q3
/-- what the acts leave as it was, component -/
def fA (c c' : zz_Hp) : Prop := ∀ k, k < 27 → k ≠ 2 → k ≠ 3 → k ≠ 4 → k ≠ 24 → k ≠ 25 → c'.1 k = c.1 k
theorem t8_doActs {T : Tb} (hT : okT T) {c : zz_Hp} (hc : CT T c) {x : Nat → Int32} {n : Nat} (hn : n ≤ 80) (h0 : c.1 24 0 = nI n) (hx : ∀ i, i < n → c.1 26 i = x i) {A : List Act} (hW : pW x n 80 0 = .ok A) {Q : Int32 → zz_Hp → Prop}
    (H : ∀ a D T' c', ocm T A D T' a → okT T' → CT T' c' → (∀ k, k < 27 → k ≠ 2 → k ≠ 3 → k ≠ 4 → k ≠ 18 → k ≠ 24 → k ≠ 25 → c'.1 k = c.1 k) → (D.length = 0 → c'.1 18 = c.1 18) → (0 < D.length → c'.1 18 0 = 0) → c'.1 24 0 = 0 → Q a c') : w_X5_rewind c (fun h3 => lp (fun s ag => w_X8_read_l37 ag Q s.1 s.2.1 s.2.2) (0, 0, h3)) := by
  have hlen := pW_len hW
  intro c1 q1
  have f1 : fA c c1 := fun k _ _ _ _ a _ => by rw [q1, zu_f a]
  have fin : ∀ (a l2 : Int32) (D : List Act) (T' : Tb) (c2 : zz_Hp), ocm T A D T' a → (∀ c3 : zz_Hp, Q a c3 → w_X8_read_j104 Q (nI D.length) l2 c3) → okT T' → CT T' c2 → fA c c2 → D.length ≤ A.length → w_X8_read_j85 Q (nI D.length) l2 c2 := by
    intro a l2 D T' c2 ho hj hok hct f2 hD
    refine t8_j85 (by omega) (fun e c3 q3 => hj _ (H a D T' c3 ho hok ?_ (fun k z1 z2 z3 z4 _ z5 z6 => ?_) (fun _ => ?_) (fun w => by omega) ?_)) fun e c3 c4 q3 q4 => hj _ (H a D T' c4 ho hok ?_ (fun k z1 z2 z3 z4 z7 z5 z6 => ?_) (fun w => by omega) (fun _ => ?_) ?_)
    · unfold CT; rw [q3, zu_f (by decide), zu_f (by decide), zu_f (by decide)]; exact hct
    · rw [q3, zu_f z5]; exact f2 k z1 z2 z3 z4 z5 z6
    · rw [q3, zu_f (by decide)]; exact f2 18 (by decide) (by decide) (by decide) (by decide) (by decide) (by decide)
    · rw [q3, zu_eq ⟨rfl, rfl⟩]
    · unfold CT; rw [q4, zu_f (by decide), zu_f (by decide), zu_f (by decide), q3, zu_f (by decide), zu_f (by decide), zu_f (by decide)]; exact hct
    · rw [q4, zu_f z7, q3, zu_f z5]; exact f2 k z1 z2 z3 z4 z5 z6
    · rw [q4, zu_eq ⟨rfl, rfl⟩]
    · rw [q4, zu_f (by decide), q3, zu_eq ⟨rfl, rfl⟩]
  refine lp_cnt (A.length + 1) (fun i s => (s.2.1 = 0 ∧ s.1 = nI i ∧ ∃ D R T1 p, D.length = i ∧ A = D ++ R ∧ rnS T D T1 ∧ okT T1 ∧ CT T1 s.2.2 ∧ fA c s.2.2 ∧ s.2.2.1 24 0 = nI n ∧ s.2.2.1 24 4 = nI p ∧ p ≤ n ∧ ((∃ k, pW x n k p = .ok R) ∨ (R = [] ∧ p = n))) ∨ (s.2.1 = 1 ∧ ∃ D T1, s.1 = nI D.length ∧ D.length ≤ A.length ∧ ocm T A D T1 (-200 - nI D.length) ∧ okT T1 ∧ CT T1 s.2.2 ∧ fA c s.2.2)) ?_ _ (Or.inl ⟨rfl, rfl, [], A, T, 0, rfl, rfl, rfl, hT, ?_, f1, ?_, ?_, by omega, Or.inl ⟨80, hW⟩⟩)
  · intro i s hi hs again hag
    obtain ⟨u1, u2, c2⟩ := s
    dsimp only at hs
    unfold w_X8_read_l37
    dsimp only
    rcases hs with ⟨e2, e1, D, R, T1, p, hD, hA, hrn, hT1, hc1, f2, g0, g4, hp, hR⟩ | ⟨e2, D, T1, e1, hD, ho, hT1, hc1, f2⟩
    · subst u2
      subst u1
      have hAl : A.length = i + R.length := by rw [hA, List.length_append, hD]
      rw [show (80 : Int32) = nI 80 from rfl, nv_le (by omega) (by omega)]
      refine brf (by omega) (bnf rfl (t5_act (x := x) hn hp g0 g4 (fun j hj => by rw [f2 26 (by decide) (by decide) (by decide) (by decide) (by decide) (by decide)]; exact hx j hj) (fun L q ea hlt hq c3 f3 k3 t3 => bq1 ?_) fun e ea he c3 f3 t3 => bq0 ?_))
      · obtain ⟨k, hk⟩ : ∃ k, pW x n k p = .ok R := by
          rcases hR with h | ⟨_, h⟩
          · exact h
          · omega
        obtain ⟨k', L', q', R', ea', eR, w⟩ := pW_inv hk
        rw [ea] at ea'
        cases ea'
        have hc3 : CT T1 c3 := by unfold CT; rw [f3 2 (by decide) (by decide), f3 3 (by decide) (by decide), f3 4 (by decide) (by decide)]; exact hc1
        have fA3 : fA c c3 := fun k z1 z2 z3 z4 z5 z6 => by rw [f3 k z5 z6]; exact f2 k z1 z2 z3 z4 z5 z6
        have keep : ∀ c4 : zz_Hp, c4.1 24 = c3.1 24 → c4.1 25 = c3.1 25 → c4.1 26 = c3.1 26 → TP x n q L c4 := fun c4 a b d => by unfold TP; rw [a, b, d]; exact t3
        refine t8_doAct hT1 hc3 k3 t3 (pA_f ea) (fun T2 c4 hs hct f4 => bq1 ?_) fun c4 hN f4 => bq0 ?_
        · have f4' : fA c c4 := fun k z1 z2 z3 z4 z5 z6 => by rw [f4 k z1 z2 z3 z4]; exact fA3 k z1 z2 z3 z4 z5 z6
          have t4 := keep c4 (f4 24 (by decide) (by decide) (by decide) (by decide)) (f4 25 (by decide) (by decide) (by decide) (by decide)) (f4 26 (by decide) (by decide) (by decide) (by decide))
          have eA : A = (D ++ [(x p, L)]) ++ R' := by rw [hA, eR, List.append_assoc]; rfl
          have eD : (D ++ [(x p, L)]).length = i + 1 := by rw [List.length_append, hD]; rfl
          rw [nv_1]
          refine t5_sign hn hq t4 (fun s1 s2 c5 f5 t5 => hag (by omega) _ (Or.inl ⟨rfl, rfl, D ++ [(x p, L)], R', T2, q + 1, eD, eA, rnS_app hrn hs, hs.ok hT1, ?_, ?_, t5.1, t5.2.1, by omega, ?_⟩)) fun s => hag (by omega) _ (Or.inl ⟨rfl, rfl, D ++ [(x p, L)], R', T2, q, eD, eA, rnS_app hrn hs, hs.ok hT1, hct, f4', t4.1, t4.2.1, hq, ?_⟩)
          · dsimp only
            unfold CT; rw [f5.1 2 (by decide) (by decide), f5.1 3 (by decide) (by decide), f5.1 4 (by decide) (by decide)]; exact hct
          · intro k z1 z2 z3 z4 z5 z6
            dsimp only
            rw [f5.1 k z5 z6]; exact f4' k z1 z2 z3 z4 z5 z6
          · rcases w with ⟨_, _, w⟩ | ⟨w, _⟩
            · exact Or.inl ⟨k', w⟩
            · exact absurd s1 w
          · rcases w with ⟨w1, w2, _⟩ | ⟨w1, w2⟩
            · exact absurd ⟨w1, w2⟩ s
            · exact Or.inr ⟨w2, by omega⟩
        · refine hag (by omega) _ (Or.inr ⟨rfl, D, T1, by rw [hD], by omega, ⟨hrn, Or.inr ⟨x p, L, R', by rw [hA, eR], hN, rfl⟩⟩, hT1, CT_fV f4 hc3, fun k z1 z2 z3 z4 z5 z6 => ?_⟩)
          dsimp only
          rw [f4 k z1]; exact fA3 k z1 z2 z3 z4 z5 z6
      · have hR0 : R = [] := by
          rcases hR with ⟨k, hk⟩ | ⟨h, _⟩
          · obtain ⟨_, _, _, _, ea', _, _⟩ := pW_inv hk
            rw [ea] at ea'; cases ea'
          · exact h
        subst R
        rw [List.append_nil] at hA
        rw [← hD]
        refine fin (nI D.length) 0 D T1 c3 ⟨hrn, Or.inl ⟨hA, rfl⟩⟩ (fun c4 z => brt rfl z) hT1 ?_ (fun k z1 z2 z3 z4 z5 z6 => ?_) (by omega)
        · unfold CT; rw [f3 2 (by decide) (by decide), f3 3 (by decide) (by decide), f3 4 (by decide) (by decide)]; exact hc1
        · rw [f3 k z5 z6]; exact f2 k z1 z2 z3 z4 z5 z6
    · subst u2
      subst u1
      have J := fin _ 1 D T1 c2 ho (fun c4 z => brf (by decide) z) hT1 hc1 f2 hD
      exact ⟨fun _ => J, fun _ => bnt (by decide) J⟩
  · dsimp only
    unfold CT; rw [q1, zu_f (by decide), zu_f (by decide), zu_f (by decide)]; exact hc
  · dsimp only; rw [q1, zu_ne (by decide)]; exact h0
  · dsimp only; rw [q1, zu_eq ⟨rfl, rfl⟩]; rfl
