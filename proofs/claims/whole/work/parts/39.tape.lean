/-! read: the text as a parser reads it, and the component's tape -/
/-- figures: how many (at most k), their number, by place -/
def fgF (x : Nat → Int32) (n : Nat) : Nat → Nat → Int32 → Nat × Int32
  | 0, _, v => (0, v)
  | k + 1, p, v => if p < n ∧ 48 ≤ x p ∧ x p ≤ 57 then ((fgF x n k (p + 1) (v * 10 + x p - 48)).1 + 1, (fgF x n k (p + 1) (v * 10 + x p - 48)).2) else (0, v)
def pN (x : Nat → Int32) (n p : Nat) : Except Nat (Int32 × Nat) :=
  if (fgF x n 5 p 0).1 = 0 then .error p else .ok ((fgF x n 5 p 0).2, p + (fgF x n 5 p 0).1)
def pS (x : Nat → Int32) (n : Nat) (ch : Int32) (p : Nat) : Except Nat Nat := if p < n ∧ x p = ch then .ok (p + 1) else .error p
def pT (x : Nat → Int32) (n p : Nat) : Except Nat (Int32 × Nat) :=
  if p < n ∧ x p = 45 then (match pN x n (p + 1) with | .ok (v, q) => .ok (-v, q) | .error e => .error e) else pN x n p
theorem fgF_le {x : Nat → Int32} {n : Nat} : ∀ (k p : Nat) (v : Int32), (fgF x n k p v).1 ≤ k ∧ p + (fgF x n k p v).1 ≤ max p n
  | 0, p, v => ⟨Nat.le_refl 0, by simp only [fgF]; omega⟩
  | k + 1, p, v => by
    simp only [fgF]
    by_cases h : p < n ∧ 48 ≤ x p ∧ x p ≤ 57
    · rw [if_pos h]
      have := fgF_le (x := x) (n := n) k (p + 1) (v * 10 + x p - 48)
      dsimp only
      omega
    · rw [if_neg h]
      dsimp only
      omega
theorem pN_ok {x : Nat → Int32} {n p q : Nat} {v : Int32} (h : pN x n p = .ok (v, q)) : p < q ∧ q ≤ max p n := by
  unfold pN at h
  have := fgF_le (x := x) (n := n) 5 p 0
  by_cases z : (fgF x n 5 p 0).1 = 0
  · rw [if_pos z] at h; cases h
  · rw [if_neg z] at h; cases h; omega
/-- the tape's state: place p, m numbers L taken -/
def TP (x : Nat → Int32) (n p : Nat) (L : List Int32) (c : zz_Hp) : Prop := c.1 24 0 = nI n ∧ c.1 24 4 = nI p ∧ c.1 24 2 = nI L.length ∧ (∀ i v, L[i]? = some v → c.1 25 i = v) ∧ ∀ i, i < n → c.1 26 i = x i
/-- what the tape's taking leaves as it was -/
def fT (c c' : zz_Hp) : Prop := (∀ k, k ≠ 24 → k ≠ 25 → c'.1 k = c.1 k) ∧ c'.1 24 1 = c.1 24 1
theorem fT.rf {c : zz_Hp} : fT c c := ⟨fun _ _ _ => rfl, rfl⟩
theorem fT.tr {a b c : zz_Hp} (h1 : fT a b) (h2 : fT b c) : fT a c := ⟨fun k x y => (h2.1 k x y).trans (h1.1 k x y), h2.2.trans h1.2⟩
section
variable {x : Nat → Int32} {n p : Nat} {L : List Int32} {c : zz_Hp}
theorem t5_sign (hn : n ≤ 80) (hp : p ≤ n) (h : TP x n p L c) {ch : Int32} {Q : Int32 → zz_Hp → Prop} (H1 : p < n → x p = ch → ∀ c', fT c c' → TP x n (p + 1) L c' → Q 1 c') (H0 : ¬ (p < n ∧ x p = ch) → Q 0 c) : w_X5_takeSign ch c Q := by
  obtain ⟨h0, h4, h2, hL, hx⟩ := h
  unfold w_X5_takeSign
  rw [h0, h4, nv_le (by omega) (by omega)]
  refine brc (fun e => H0 (by omega)) fun e => ⟨nv_in (by omega) (by decide), ?_⟩
  rw [nv_tn (by omega), hx p (by omega), nv_1]
  refine brc (fun e1 => ?_) fun e1 => H0 fun z => e1 z.2
  intro c1 q1
  subst q1
  refine H1 (by omega) e1 _ ⟨fun k a b => zu_f a, zu_ne (by decide)⟩ ⟨?_, zu_eq ⟨rfl, rfl⟩, ?_, fun i v hv => ?_, fun i hi => ?_⟩
  · rw [zu_ne (by decide)]; exact h0
  · rw [zu_ne (by decide)]; exact h2
  · rw [zu_f (by decide)]; exact hL i v hv
  · rw [zu_f (by decide)]; exact hx i hi
theorem t5_num (hn : n ≤ 80) (hp : p ≤ n) (hL5 : L.length < 5) (h : TP x n p L c) {Q : Int32 → zz_Hp → Prop} (H1 : ∀ v q, pN x n p = .ok (v, q) → ∀ c', fT c c' → TP x n q (L ++ [v]) c' → Q 1 c') (H0 : pN x n p = .error p → ∀ c', fT c c' → TP x n p L c' → Q 0 c') : w_X5_takeNumber c Q := by
  unfold w_X5_takeNumber
  have J : ∀ (j : Nat) (v : Int32) (c1 : zz_Hp), j ≤ 5 → fT c c1 → TP x n (p + j) L c1 → (fgF x n 5 p 0) = (j, v) → w_X5_takeNumber_j82 Q v (nI j) c1 := by
    intro j v c1 hj hf ht ef
    obtain ⟨h0, h4, h2, hL, hx⟩ := ht
    unfold w_X5_takeNumber_j82
    refine brc (fun e => ?_) fun e => ?_
    · have : j = 0 := by
        rcases Nat.eq_zero_or_pos j with z | z
        · exact z
        · exact absurd e (nI_ne0' z (by omega))
      subst this
      refine H0 ?_ c1 hf ⟨h0, h4, h2, hL, hx⟩
      unfold pN; rw [ef]; rfl
    · have hj0 : j ≠ 0 := fun z => e (by rw [z]; rfl)
      rw [h2]
      refine brt ?_ ⟨nv_in hL5 (by decide), fun c2 q2 c3 q3 => ?_⟩
      · rw [show (5 : Int32) = nI 5 from rfl, nv_lt (by omega) (by omega)]; exact hL5
      have g2 : c2.1 24 2 = nI L.length := by rw [q2, zu_f (by decide)]; exact h2
      rw [g2, nv_1] at q3
      rw [nv_tn (by omega)] at q2
      subst q3 q2
      refine H1 v (p + j) ?_ _ ⟨fun k a b => ?_, ?_⟩ ⟨?_, ?_, ?_, fun i v' hv => ?_, fun i hi => ?_⟩
      · unfold pN; rw [ef]; rw [if_neg hj0]
      · rw [zu_f a, zu_f b]; exact hf.1 k a b
      · simp (disch := omega) only [zu_ne]; exact hf.2
      · simp (disch := omega) only [zu_ne]; exact h0
      · simp (disch := omega) only [zu_ne]; exact h4
      · rw [zu_eq ⟨rfl, rfl⟩, List.length_append]; rfl
      · rw [zu_f (by decide)]
        rcases Nat.lt_or_ge i L.length with z | z
        · rw [List.getElem?_append_left z] at hv
          rw [zu_ne (Or.inr (by omega))]; exact hL i v' hv
        · rw [List.getElem?_append_right z] at hv
          have hk0 : i - L.length = 0 := by
            rcases Nat.eq_zero_or_pos (i - L.length) with w | w
            · exact w
            · rw [List.getElem?_eq_none (by simp; omega)] at hv; cases hv
          rw [hk0] at hv
          have := Option.some.inj hv
          rw [zu_eq ⟨rfl, by omega⟩]; exact this
      · simp (disch := omega) only [zu_ne]; exact hx i hi
  refine lp_cnt 5 (fun j s => s.2.1 = nI j ∧ fT c s.2.2 ∧ TP x n (p + j) L s.2.2 ∧ p + j ≤ n ∧ fgF x n 5 p 0 = ((fgF x n (5 - j) (p + j) s.1).1 + j, (fgF x n (5 - j) (p + j) s.1).2)) ?_ _ ⟨rfl, fT.rf, h, hp, rfl⟩
  intro j s hj hs again hag
  obtain ⟨v, u, c1⟩ := s
  obtain ⟨hu, hf, ht, hpj, ef⟩ := hs
  dsimp only at hu hf ht hpj ef
  subst hu
  unfold w_X5_takeNumber_l4
  dsimp only
  have htt := ht
  obtain ⟨h0, h4, h2, hL, hx⟩ := ht
  rw [show (5 : Int32) = nI 5 from rfl, nv_le (by omega) (by omega)]
  refine brc (fun e => ?_) fun e => ?_
  · have : j = 5 := by omega
    subst this
    refine J 5 v c1 hj hf htt ?_
    rw [ef]; simp only [Nat.sub_self, fgF, Nat.zero_add]
  · have stop : ¬ (p + j < n ∧ 48 ≤ x (p + j) ∧ x (p + j) ≤ 57) → w_X5_takeNumber_j82 Q v (nI j) c1 := by
      intro z
      refine J j v c1 hj hf htt ?_
      rw [ef, show 5 - j = (5 - (j + 1)) + 1 by omega]
      simp only [fgF]
      rw [if_neg z, Nat.zero_add]
    rw [h0, h4, nv_le (by omega) (by omega)]
    refine brc (fun e1 => stop (by omega)) fun e1 => ⟨nv_in (by omega) (by decide), ?_⟩
    rw [nv_tn (by omega), hx (p + j) (by omega)]
    refine brc (fun e2 => stop fun z => absurd (Int32.not_le.mpr e2) (fun w => w z.2.1)) fun e2 => ⟨nv_in (by omega) (by decide), brc (fun e3 => stop fun z => absurd (Int32.not_le.mpr e3) (fun w => w z.2.2)) fun e3 => ⟨nv_in (by omega) (by decide), fun c2 q2 => ?_⟩⟩
    rw [nv_1] at q2
    rw [nv_1]
    subst q2
    refine hag (by omega) _ ⟨rfl, hf.tr ⟨fun k a b => zu_f a, zu_ne (by decide)⟩, ⟨?_, zu_eq ⟨rfl, rfl⟩, ?_, fun i v hv => ?_, fun i hi => ?_⟩, by omega, ?_⟩
    · dsimp only; rw [zu_ne (by decide)]; exact h0
    · dsimp only; rw [zu_ne (by decide)]; exact h2
    · dsimp only; rw [zu_f (by decide)]; exact hL i v hv
    · dsimp only; rw [zu_f (by decide)]; exact hx i hi
    · dsimp only
      rw [ef, show 5 - j = (5 - (j + 1)) + 1 by omega]
      have z : p + j < n ∧ 48 ≤ x (p + j) ∧ x (p + j) ≤ 57 := ⟨by omega, Int32.not_lt.mp e2, Int32.not_lt.mp e3⟩
      simp only [fgF]
      rw [if_pos z]
      dsimp only
      rw [show p + (j + 1) = p + j + 1 by omega]
      simp only [Nat.add_assoc, Nat.add_comm 1 j]
theorem t5_twist (hn : n ≤ 80) (hp : p ≤ n) (hL5 : L.length < 5) (h : TP x n p L c) {Q : Int32 → zz_Hp → Prop} (H1 : ∀ v q, pT x n p = .ok (v, q) → q ≤ n → ∀ c', fT c c' → TP x n q (L ++ [v]) c' → Q 1 c') (H0 : ∀ e, pT x n p = .error e → e ≤ n → ∀ c', fT c c' → TP x n e L c' → Q 0 c') : w_X5_takeTwist c Q := by
  unfold w_X5_takeTwist
  refine t5_sign hn hp h (fun k1 k2 c1 f1 t1 => ?_) fun k => ?_
  · refine t5_num hn (by omega) hL5 t1 (fun v q e c2 f2 t2 => br1 (bq1 ?_)) fun e c2 f2 t2 => br0 (H0 (p + 1) ?_ (by omega) c2 (f1.tr f2) t2)
    · have hq := pN_ok e
      obtain ⟨h0, h4, h2, hL, hx⟩ := t2
      have el : (L ++ [v]).length = L.length + 1 := by rw [List.length_append]; rfl
      have e25 := hL L.length v (by rw [List.getElem?_append_right (Nat.le_refl _), Nat.sub_self]; rfl)
      have ei : nI (L ++ [v]).length - 1 = nI L.length := by rw [el, lit_1, nv_sub (by omega)]; rfl
      rw [h2, ei, nv_tn (by omega), e25]
      refine ⟨nv_in hL5 (by decide), nv_in hL5 (by decide), fun c3 q3 => ?_⟩
      subst q3
      refine H1 (-v) q ?_ (by omega) _ ((f1.tr f2).tr ⟨fun k a b => zu_f b, by rw [zu_f (by decide)]⟩) ⟨?_, ?_, ?_, fun i w hw => ?_, fun i hi => ?_⟩
      · unfold pT; rw [if_pos ⟨k1, k2⟩, e]
      · rw [zu_f (by decide)]; exact h0
      · rw [zu_f (by decide)]; exact h4
      · rw [zu_f (by decide), h2, el, List.length_append]; rfl
      · by_cases z : i = L.length
        · subst z
          rw [List.getElem?_append_right (Nat.le_refl _), Nat.sub_self] at hw
          rw [zu_eq ⟨rfl, rfl⟩]; exact Option.some.inj hw
        · rw [zu_ne (Or.inr z)]
          rcases Nat.lt_or_ge i L.length with y | y
          · rw [List.getElem?_append_left y] at hw
            exact hL i w (by rw [List.getElem?_append_left y]; exact hw)
          · rw [List.getElem?_eq_none (by rw [List.length_append, List.length_singleton]; omega)] at hw; cases hw
      · rw [zu_f (by decide)]; exact hx i hi
    · unfold pT; rw [if_pos ⟨k1, k2⟩, e]
  · refine t5_num hn hp hL5 h (fun v q e c2 f2 t2 => br1 (bq0 (H1 v q ?_ ?_ c2 f2 t2))) fun e c2 f2 t2 => br0 (H0 p ?_ hp c2 f2 t2)
    · unfold pT; rw [if_neg k, e]
    · have := pN_ok e; omega
    · unfold pT; rw [if_neg k, e]
end
/-- the parts of a plied one, up to the sign 58 -/
def pP (x : Nat → Int32) (n : Nat) : Nat → Nat → Nat → List Int32 → Except Nat (List Int32 × Nat)
  | 0, _, p, _ => .error p
  | k + 1, i, p, L => match pN x n p with
    | .error e => .error e
    | .ok (v, q) => if 2 ≤ i ∧ q < n ∧ x q = 58 then .ok (L ++ [v], q + 1) else if i = 4 then .error q else if q < n ∧ x q = 44 then pP x n k (i + 1) (q + 1) (L ++ [v]) else .error q
section
variable {x : Nat → Int32} {n : Nat}
theorem t5_parts (hn : n ≤ 80) {p : Nat} (hp : p ≤ n) {c : zz_Hp} (h : TP x n p [] c) {Q : Int32 → zz_Hp → Prop} (H1 : ∀ L q, pP x n 4 1 p [] = .ok (L, q) → L.length ≤ 4 → q ≤ n → ∀ c', fT c c' → TP x n q L c' → Q 1 c') (H0 : ∀ e, pP x n 4 1 p [] = .error e → e ≤ n → ∀ c', fT c c' → (∃ L, TP x n e L c') → Q 0 c') : w_X5_takeParts c Q := by
  unfold w_X5_takeParts
  generalize hZ : pP x n 4 1 p [] = Z at H1 H0
  refine lp_cnt 3 (fun i s => s.1 = nI (i + 1) ∧ fT c s.2 ∧ ∃ q L, L.length = i ∧ q ≤ n ∧ TP x n q L s.2 ∧ Z = pP x n (4 - i) (i + 1) q L) ?_ _ ⟨rfl, fT.rf, p, [], rfl, hp, h, hZ.symm⟩
  intro i s hi hs again hag
  obtain ⟨u, c1⟩ := s
  obtain ⟨hu, f1, q, L, hLi, hq, ht, ep⟩ := hs
  dsimp only at hu f1 ht
  subst hu
  rw [show 4 - i = (3 - i) + 1 by omega] at ep
  simp only [pP] at ep
  unfold w_X5_takeParts_l2
  dsimp only
  rw [lit_4, nv_lt (by omega) (by omega)]
  refine brf (by omega) (t5_num hn hq (by omega) ht (fun v q2 e c2 f2 t2 => br1 ?_) fun e c2 f2 t2 => br0 ?_)
  · have hq2 := pN_ok e
    rw [e] at ep
    dsimp only at ep
    have J : ¬ (2 ≤ i + 1 ∧ q2 < n ∧ x q2 = 58) → ∀ c3, fT c c3 → TP x n q2 (L ++ [v]) c3 → w_X5_takeParts_j32 again Q (nI (i + 1)) c3 := by
      intro z c3 f3 t3
      rw [if_neg z] at ep
      unfold w_X5_takeParts_j32
      refine brc (fun e4 => ?_) fun e4 => ?_
      · have := nv_inj (by omega) (by omega) (e4.trans lit_4)
        rw [if_pos this] at ep
        exact H0 q2 ep (by omega) c3 f3 ⟨_, t3⟩
      · have hne : ¬ i + 1 = 4 := fun w => e4 (by rw [w]; rfl)
        rw [if_neg hne] at ep
        refine t5_sign hn (by omega) t3 (fun k1 k2 c4 f4 t4 => br1 ?_) fun k => br0 ?_
        · rw [if_pos ⟨k1, k2⟩] at ep
          rw [nv_1]
          refine hag (by omega) _ ⟨rfl, f3.tr f4, q2 + 1, L ++ [v], by rw [List.length_append, hLi]; rfl, by omega, t4, ?_⟩
          rw [ep, show 4 - (i + 1) = 3 - i by omega]
        · rw [if_neg k] at ep
          exact H0 q2 ep (by omega) c3 f3 ⟨_, t3⟩
    rw [lit_2, nv_lt (by omega) (by omega)]
    refine brc (fun e2 => J (by omega) c2 (f1.tr f2) t2) fun e2 => ?_
    refine t5_sign hn (by omega) t2 (fun k1 k2 c3 f3 t3 => bq1 ?_) fun k => bq0 (J (fun w => k w.2) c2 (f1.tr f2) t2)
    rw [if_pos ⟨by omega, k1, k2⟩] at ep
    exact H1 _ _ ep (by rw [List.length_append, hLi, List.length_singleton]; omega) (by omega) c3 ((f1.tr f2).tr f3) t3
  · rw [e] at ep
    exact H0 q ep hq c2 (f1.tr f2) ⟨L, t2⟩
end
/-- an act -/
def pA (x : Nat → Int32) (n p : Nat) : Except Nat (List Int32 × Nat) :=
  if p < n then
    (if x p = 109 ∨ x p = 115 then
      (match pN x n (p + 1) with
        | .error e => .error e
        | .ok (a, q) => match pS x n 44 q with
          | .error e => .error e
          | .ok q1 => match pN x n q1 with
            | .error e => .error e
            | .ok (b, q2) => .ok ([a, b], q2))
    else if x p = 116 then
      (match pN x n (p + 1) with
        | .error e => .error e
        | .ok (a, q) => match pS x n 44 q with
          | .error e => .error e
          | .ok q1 => match pN x n q1 with
            | .error e => .error e
            | .ok (b, q2) => match pS x n 44 q2 with
              | .error e => .error e
              | .ok q3 => match pT x n q3 with
                | .error e => .error e
                | .ok (t, q4) => .ok ([a, b, t], q4))
    else if x p = 112 then
      (match pP x n 4 1 (p + 1) [] with
        | .error e => .error e
        | .ok (L, q) => match pT x n q with
          | .error e => .error e
          | .ok (t, q1) => .ok (L ++ [t], q1))
    else .error p)
  else .error p
theorem pS_t {x : Nat → Int32} {n p : Nat} {ch : Int32} (h1 : p < n) (h2 : x p = ch) : pS x n ch p = .ok (p + 1) := if_pos ⟨h1, h2⟩
theorem pS_f {x : Nat → Int32} {n p : Nat} {ch : Int32} (h : ¬ (p < n ∧ x p = ch)) : pS x n ch p = .error p := if_neg h
/-- what an act's taking leaves as it was -/
def fU (c c' : zz_Hp) : Prop := ∀ k, k ≠ 24 → k ≠ 25 → c'.1 k = c.1 k
theorem t5_act {x : Nat → Int32} {n p : Nat} (hn : n ≤ 80) (hp : p ≤ n) {c : zz_Hp} (h0 : c.1 24 0 = nI n) (h4 : c.1 24 4 = nI p) (hx : ∀ i, i < n → c.1 26 i = x i) {Q : Int32 → zz_Hp → Prop} (H1 : ∀ L q, pA x n p = .ok (L, q) → p < n → q ≤ n → ∀ c', fU c c' → c'.1 24 1 = x p → TP x n q L c' → Q 1 c') (H0 : ∀ e, pA x n p = .error e → e ≤ n → ∀ c', fU c c' → (∃ L, TP x n e L c') → Q 0 c') : w_X5_takeAct c Q := by
  intro c1 q1
  have g0 : c1.1 24 0 = nI n := by rw [q1, zu_ne (by decide)]; exact h0
  have g4 : c1.1 24 4 = nI p := by rw [q1, zu_ne (by decide)]; exact h4
  have g2 : c1.1 24 2 = 0 := by rw [q1, zu_eq ⟨rfl, rfl⟩]
  have gx : ∀ i, i < n → c1.1 26 i = x i := fun i hi => by rw [q1, zu_f (by decide)]; exact hx i hi
  have f1 : fU c c1 := fun k a b => by rw [q1, zu_f a]
  rw [g0, g4, nv_lt (by omega) (by omega)]
  refine brc (fun e => ⟨nv_in (by omega) (by decide), fun c2 q2 => ?_⟩) fun e => H0 p (by unfold pA; rw [if_neg e]) hp c1 f1 ⟨[], g0, g4, g2, fun i v hv => (by simp at hv), gx⟩
  rw [nv_tn (by omega), gx p e] at q2
  have k1 : c2.1 24 1 = x p := by rw [q2, zu_eq ⟨rfl, rfl⟩]
  have k4 : c2.1 24 4 = nI p := by rw [q2, zu_ne (by decide)]; exact g4
  have f2 : fU c c2 := fun k a b => by rw [q2, zu_f a]; exact f1 k a b
  have t2 : TP x n p [] c2 := ⟨by rw [q2, zu_ne (by decide)]; exact g0, k4, by rw [q2, zu_ne (by decide)]; exact g2, fun i v hv => (by simp at hv), fun i hi => by rw [q2, zu_f (by decide)]; exact gx i hi⟩
  rw [k1, k4, nv_1]
  have t3 : ∀ c3, c3 = zz_uI c2 24 4 (nI (p + 1)) → fU c c3 ∧ c3.1 24 1 = x p ∧ TP x n (p + 1) [] c3 := by
    intro c3 q3
    obtain ⟨a0, a4, a2, aL, ax⟩ := t2
    subst q3
    exact ⟨fun k a b => by rw [zu_f a]; exact f2 k a b, by rw [zu_ne (by decide)]; exact k1, by rw [zu_ne (by decide)]; exact a0, zu_eq ⟨rfl, rfl⟩, by rw [zu_ne (by decide)]; exact a2, fun i v hv => (by simp at hv), fun i hi => by rw [zu_f (by decide)]; exact ax i hi⟩
  have bad : ¬ (x p = 109 ∨ x p = 115) → ¬ x p = 116 → ¬ x p = 112 → Q 0 c2 := fun z1 z2 z3 => H0 p (by unfold pA; rw [if_pos e, if_neg z1, if_neg z2, if_neg z3]) hp c2 f2 ⟨[], t2⟩
  have two : (x p = 109 ∨ x p = 115) → ∀ c3, c3 = zz_uI c2 24 4 (nI (p + 1)) → w_X5_takeNumber c3 (fun r5 h4 => ((r5 = 0 → Q 0 h4) ∧ (¬ (r5 = 0) → w_X5_takeSign 44 h4 (fun r7 h6 => ((r7 = 0 → Q 0 h6) ∧ (¬ (r7 = 0) → w_X5_takeNumber h6 (fun r9 h8 => ((r9 = 0 → Q 0 h8) ∧ (¬ (r9 = 0) → Q 1 h8))))))))) := by
    intro hk c3 q3
    obtain ⟨f3, k3, t3⟩ := t3 c3 q3
    refine t5_num hn (by omega) (by simp) t3 (fun a q ea c4 f4 t4 => bq1 ?_) fun ea c4 f4 t4 => bq0 (H0 (p + 1) ?_ (by omega) c4 (fun k a b => (f4.1 k a b).trans (f3 k a b)) ⟨_, t4⟩)
    · have hq := pN_ok ea
      refine t5_sign hn (by omega) t4 (fun s1 s2 c5 f5 t5 => bq1 ?_) fun s => bq0 (H0 q ?_ (by omega) c4 (fun k a b => (f4.1 k a b).trans (f3 k a b)) ⟨_, t4⟩)
      · refine t5_num hn (by omega) (by simp) t5 (fun b q2 eb c6 f6 t6 => bq1 (H1 [a, b] q2 ?_ e ?_ c6 (fun k x y => ((f6.1 k x y).trans (f5.1 k x y)).trans ((f4.1 k x y).trans (f3 k x y))) ?_ t6)) fun eb c6 f6 t6 => bq0 (H0 (q + 1) ?_ (by omega) c6 (fun k x y => ((f6.1 k x y).trans (f5.1 k x y)).trans ((f4.1 k x y).trans (f3 k x y))) ⟨_, t6⟩)
        · unfold pA; rw [if_pos e, if_pos hk, ea]; dsimp only; rw [pS_t s1 s2]; dsimp only; rw [eb]
        · have := pN_ok eb; omega
        · rw [f6.2, f5.2, f4.2]; exact k3
        · unfold pA; rw [if_pos e, if_pos hk, ea]; dsimp only; rw [pS_t s1 s2]; dsimp only; rw [eb]
      · unfold pA; rw [if_pos e, if_pos hk, ea]; dsimp only; rw [pS_f s]
    · unfold pA; rw [if_pos e, if_pos hk, ea]
  have K : ∀ {v : Int} {k : Int32}, (x p).toInt = v → k.toInt = v → x p = k := fun a b => Int32.toInt_inj.mp (a.trans b.symm)
  refine ⟨fun z => two (Or.inl (K z rfl)), fun z => ?_, fun z => ?_, fun z => ?_, fun z => ?_, fun z => ?_, fun z => two (Or.inr (K z rfl)), fun z => ?_, fun z => ?_⟩
  · exact bad (fun w => by rcases w with w | w <;> (rw [w] at z; exact absurd z (by decide))) (fun w => by rw [w] at z; exact absurd z (by decide)) fun w => by rw [w] at z; exact absurd z (by decide)
  · exact bad (fun w => by rcases w with w | w <;> (rw [w] at z; exact absurd z (by decide))) (fun w => by rw [w] at z; exact absurd z (by decide)) fun w => by rw [w] at z; exact absurd z (by decide)
  · have hk := K z (k := 112) rfl
    have n1 : ¬ (x p = 109 ∨ x p = 115) := by rw [hk]; decide
    have n2 : ¬ x p = 116 := by rw [hk]; decide
    intro c3 q3
    obtain ⟨f3, k3, t3⟩ := t3 c3 q3
    refine t5_parts hn (by omega) t3 (fun L q ep hL hq c4 f4 t4 => bq1 ?_) fun e' ep he c4 f4 t4 => bq0 (H0 e' ?_ he c4 (fun k a b => (f4.1 k a b).trans (f3 k a b)) t4)
    · refine t5_twist hn hq (by omega) t4 (fun t q1 et hq1 c5 f5 t5 => bq1 (H1 (L ++ [t]) q1 ?_ e hq1 c5 (fun k a b => (f5.1 k a b).trans ((f4.1 k a b).trans (f3 k a b))) ?_ t5)) fun e' et he c5 f5 t5 => bq0 (H0 e' ?_ he c5 (fun k a b => (f5.1 k a b).trans ((f4.1 k a b).trans (f3 k a b))) ⟨_, t5⟩)
      · unfold pA; rw [if_pos e, if_neg n1, if_neg n2, if_pos hk, ep]; dsimp only; rw [et]
      · rw [f5.2, f4.2]; exact k3
      · unfold pA; rw [if_pos e, if_neg n1, if_neg n2, if_pos hk, ep]; dsimp only; rw [et]
    · unfold pA; rw [if_pos e, if_neg n1, if_neg n2, if_pos hk, ep]
  · exact bad (fun w => by rcases w with w | w <;> (rw [w] at z; exact absurd z (by decide))) (fun w => by rw [w] at z; exact absurd z (by decide)) fun w => by rw [w] at z; exact absurd z (by decide)
  · exact bad (fun w => by rcases w with w | w <;> (rw [w] at z; exact absurd z (by decide))) (fun w => by rw [w] at z; exact absurd z (by decide)) fun w => by rw [w] at z; exact absurd z (by decide)
  · have hk := K z (k := 116) rfl
    have n1 : ¬ (x p = 109 ∨ x p = 115) := by rw [hk]; decide
    intro c3 q3
    obtain ⟨f3, k3, t3⟩ := t3 c3 q3
    refine t5_num hn (by omega) (by simp) t3 (fun a q ea c4 f4 t4 => bq1 ?_) fun ea c4 f4 t4 => bq0 (H0 (p + 1) ?_ (by omega) c4 (fun k a b => (f4.1 k a b).trans (f3 k a b)) ⟨_, t4⟩)
    · have hq := pN_ok ea
      have F4 : fU c c4 := fun k a b => (f4.1 k a b).trans (f3 k a b)
      refine t5_sign hn (by omega) t4 (fun s1 s2 c5 f5 t5 => bq1 ?_) fun s => bq0 (H0 q ?_ (by omega) c4 F4 ⟨_, t4⟩)
      · refine t5_num hn (by omega) (by simp) t5 (fun b q2 eb c6 f6 t6 => bq1 ?_) fun eb c6 f6 t6 => bq0 (H0 (q + 1) ?_ (by omega) c6 (fun k x y => ((f6.1 k x y).trans (f5.1 k x y)).trans (F4 k x y)) ⟨_, t6⟩)
        · have hq2 := pN_ok eb
          have F6 : fU c c6 := fun k x y => ((f6.1 k x y).trans (f5.1 k x y)).trans (F4 k x y)
          refine t5_sign hn (by omega) t6 (fun s3 s4 c7 f7 t7 => bq1 ?_) fun s => bq0 (H0 q2 ?_ (by omega) c6 F6 ⟨_, t6⟩)
          · refine t5_twist hn (by omega) (by simp) t7 (fun t q4 et hq4 c8 f8 t8 => bq1 (H1 [a, b, t] q4 ?_ e hq4 c8 (fun k x y => ((f8.1 k x y).trans (f7.1 k x y)).trans (F6 k x y)) ?_ t8)) fun e' et he c8 f8 t8 => bq0 (H0 e' ?_ he c8 (fun k x y => ((f8.1 k x y).trans (f7.1 k x y)).trans (F6 k x y)) ⟨_, t8⟩)
            · unfold pA; rw [if_pos e, if_neg n1, if_pos hk, ea]; dsimp only; rw [pS_t s1 s2]; dsimp only; rw [eb]; dsimp only; rw [pS_t s3 s4]; dsimp only; rw [et]
            · rw [f8.2, f7.2, f6.2, f5.2, f4.2]; exact k3
            · unfold pA; rw [if_pos e, if_neg n1, if_pos hk, ea]; dsimp only; rw [pS_t s1 s2]; dsimp only; rw [eb]; dsimp only; rw [pS_t s3 s4]; dsimp only; rw [et]
          · unfold pA; rw [if_pos e, if_neg n1, if_pos hk, ea]; dsimp only; rw [pS_t s1 s2]; dsimp only; rw [eb]; dsimp only; rw [pS_f s]
        · unfold pA; rw [if_pos e, if_neg n1, if_pos hk, ea]; dsimp only; rw [pS_t s1 s2]; dsimp only; rw [eb]
      · unfold pA; rw [if_pos e, if_neg n1, if_pos hk, ea]; dsimp only; rw [pS_f s]
    · unfold pA; rw [if_pos e, if_neg n1, if_pos hk, ea]
  · exact bad (fun w => by rcases w with w | w <;> (rw [w] at z; exact absurd z (by decide))) (fun w => by rw [w] at z; exact absurd z (by decide)) fun w => by rw [w] at z; exact absurd z (by decide)
