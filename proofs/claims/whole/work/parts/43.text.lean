/-! read: the whole text -/
abbrev Act : Type := Int32 × List Int32
def pW (x : Nat → Int32) (n : Nat) : Nat → Nat → Except Nat (List Act)
  | 0, p => .error p
  | k + 1, p => match pA x n p with
    | .error e => .error e
    | .ok (L, q) => if q < n then (if x q = 59 then (match pW x n k (q + 1) with | .error e => .error e | .ok R => .ok ((x p, L) :: R)) else .error q) else .ok [(x p, L)]
def apx (A : List Act) : Except Nat (List Act) → Except Nat (List Act)
  | .error e => .error e
  | .ok R => .ok (A ++ R)
theorem pW_e {x : Nat → Int32} {n k p e : Nat} (h : pA x n p = .error e) : pW x n (k + 1) p = .error e := by simp only [pW]; rw [h]
theorem pW_n {x : Nat → Int32} {n k p q : Nat} {L : List Int32} (h : pA x n p = .ok (L, q)) (hq : ¬ q < n) : pW x n (k + 1) p = .ok [(x p, L)] := by simp only [pW]; rw [h]; dsimp only; rw [if_neg hq]
theorem pW_s {x : Nat → Int32} {n k p q : Nat} {L : List Int32} (h : pA x n p = .ok (L, q)) (hq : q < n) (hs : ¬ x q = 59) : pW x n (k + 1) p = .error q := by simp only [pW]; rw [h]; dsimp only; rw [if_pos hq, if_neg hs]
theorem pW_o {x : Nat → Int32} {n k p q : Nat} {L : List Int32} {A : List Act} (h : pA x n p = .ok (L, q)) (hq : q < n) (hs : x q = 59) : apx A (pW x n (k + 1) p) = apx (A ++ [(x p, L)]) (pW x n k (q + 1)) := by
  simp only [pW]; rw [h]; dsimp only; rw [if_pos hq, if_pos hs]
  cases pW x n k (q + 1) with
  | error e => rfl
  | ok R => simp [apx]
theorem fU.tr {a b c : zz_Hp} (h1 : fU a b) (h2 : fU b c) : fU a c := fun k x y => (h2 k x y).trans (h1 k x y)
theorem fT.fU {a b : zz_Hp} (h : fT a b) : fU a b := h.1
theorem t5_fault {x : Nat → Int32} {n : Nat} (hn : n ≤ 80) {c : zz_Hp} (h0 : c.1 24 0 = nI n) (hx : ∀ i, i < n → c.1 26 i = x i) {Q : Int32 → zz_Hp → Prop} (H1 : ∀ A c', pW x n 80 0 = .ok A → fU c c' → c'.1 24 0 = nI n → Q (-1) c') (H0 : ∀ e c', pW x n 80 0 = .error e → e ≤ n → fU c c' → c'.1 24 0 = nI n → Q (nI e) c') : w_X5_firstFault c Q := by
  intro c1 q1
  have f1 : fU c c1 := fun k a b => by rw [q1, zu_f a]
  refine lp_cnt 80 (fun i s => s.1 = nI i ∧ fU c s.2 ∧ s.2.1 24 0 = nI n ∧ ∃ p A, s.2.1 24 4 = nI p ∧ p ≤ n ∧ pW x n 80 0 = apx A (pW x n (80 - i) p)) ?_ _ ⟨rfl, f1, by dsimp only; rw [q1, zu_ne (by decide)]; exact h0, 0, [], by dsimp only; rw [q1, zu_eq ⟨rfl, rfl⟩]; rfl, by omega, ?_⟩
  · intro i s hi hs again hag
    obtain ⟨u, c2⟩ := s
    obtain ⟨hu, f2, g0, p, A, g4, hp, eW⟩ := hs
    dsimp only at hu f2 g0 g4
    subst hu
    unfold w_X5_firstFault_l6
    dsimp only
    rw [show (80 : Int32) = nI 80 from rfl, nv_le (by omega) (by omega)]
    refine brc (fun z => ?_) fun z => ?_
    · rw [show 80 - i = 0 by omega] at eW
      rw [g4]; exact H0 p c2 eW hp f2 g0
    · rw [show 80 - i = (80 - (i + 1)) + 1 by omega] at eW
      refine t5_act (x := x) hn hp g0 g4 (fun j hj => by rw [f2 26 (by decide) (by decide)]; exact hx j hj) (fun L q ea hlt hq c3 f3 _ t3 => br1 ?_) fun e ea he c3 f3 t3 => br0 ?_
      · rw [t3.2.1, t3.1, nv_lt (by omega) (by omega)]
        refine brc (fun hqn => ?_) fun hqn => H1 (A ++ [(x p, L)]) c3 (by rw [eW, pW_n ea hqn]; rfl) (f2.tr f3) t3.1
        refine t5_sign hn hq t3 (fun s1 s2 c4 f4 t4 => br1 ?_) fun s => br0 ?_
        · rw [nv_1]
          exact hag (by omega) _ ⟨rfl, (f2.tr f3).tr f4.fU, t4.1, q + 1, A ++ [(x p, L)], t4.2.1, by omega, by rw [eW, pW_o ea s1 s2]⟩
        · rw [t3.2.1]
          exact H0 q c3 (by rw [eW, pW_s ea hqn fun w => s ⟨hqn, w⟩]; rfl) hq (f2.tr f3) t3.1
      · obtain ⟨L, t3⟩ := t3
        rw [t3.2.1]
        exact H0 e c3 (by rw [eW, pW_e ea]; rfl) he (f2.tr f3) t3.1
  · cases pW x n 80 0 with
    | error e => rfl
    | ok R => rfl
