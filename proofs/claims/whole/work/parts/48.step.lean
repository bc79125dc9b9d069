/-! read: one act, as the table takes it; the component's doAct -/
/-- the shape of an act -/
def acF (kd : Int32) (L : List Int32) : Prop :=
  ((kd = 109 ∨ kd = 115) ∧ ∃ a b, L = [a, b]) ∨ (kd = 116 ∧ ∃ a b t, L = [a, b, t]) ∨ (kd = 112 ∧ ∃ P t, L = P ++ [t] ∧ 2 ≤ P.length ∧ P.length ≤ 4)
theorem pP_len {x : Nat → Int32} {n : Nat} : ∀ {k i p : Nat} {L L' : List Int32} {q : Nat}, pP x n k i p L = .ok (L', q) → L.length + 1 = i → i ≤ 4 → 2 ≤ L'.length ∧ L'.length ≤ 4
  | 0, i, p, L, L', q, h, _, _ => by simp only [pP] at h; cases h
  | k + 1, i, p, L, L', q, h, hi, h4 => by
    simp only [pP] at h
    cases e : pN x n p with
    | error d => rw [e] at h; cases h
    | ok w =>
      obtain ⟨w, q'⟩ := w
      rw [e] at h
      dsimp only at h
      split at h
      · rename_i z
        cases h
        rw [List.length_append, List.length_singleton]; omega
      · split at h
        · cases h
        · split at h
          · exact pP_len h (by rw [List.length_append, List.length_singleton]; omega) (by omega)
          · cases h
theorem pA_f {x : Nat → Int32} {n p q : Nat} {L : List Int32} (h : pA x n p = .ok (L, q)) : acF (x p) L := by
  unfold pA at h
  split at h
  · split at h
    · rename_i z
      cases e : pN x n (p + 1) with
      | error d => rw [e] at h; cases h
      | ok w =>
        obtain ⟨w, q'⟩ := w
        rw [e] at h
        dsimp only at h
        cases e2 : pS x n 44 q' with
        | error d => rw [e2] at h; cases h
        | ok q1 =>
          rw [e2] at h
          dsimp only at h
          cases e3 : pN x n q1 with
          | error d => rw [e3] at h; cases h
          | ok w2 =>
            obtain ⟨w2, q2⟩ := w2
            rw [e3] at h
            dsimp only at h
            cases h
            exact Or.inl ⟨z, w, w2, rfl⟩
    · split at h
      · rename_i z
        cases e : pN x n (p + 1) with
        | error d => rw [e] at h; cases h
        | ok w =>
          obtain ⟨w, q'⟩ := w
          rw [e] at h
          dsimp only at h
          cases e2 : pS x n 44 q' with
          | error d => rw [e2] at h; cases h
          | ok q1 =>
            rw [e2] at h
            dsimp only at h
            cases e3 : pN x n q1 with
            | error d => rw [e3] at h; cases h
            | ok w2 =>
              obtain ⟨w2, q2⟩ := w2
              rw [e3] at h
              dsimp only at h
              cases e4 : pS x n 44 q2 with
              | error d => rw [e4] at h; cases h
              | ok q3 =>
                rw [e4] at h
                dsimp only at h
                cases e5 : pT x n q3 with
                | error d => rw [e5] at h; cases h
                | ok w3 =>
                  obtain ⟨w3, q4⟩ := w3
                  rw [e5] at h
                  dsimp only at h
                  cases h
                  exact Or.inr (Or.inl ⟨z, w, w2, w3, rfl⟩)
      · split at h
        · rename_i z
          cases e : pP x n 4 1 (p + 1) [] with
          | error d => rw [e] at h; cases h
          | ok w =>
            obtain ⟨w, q'⟩ := w
            rw [e] at h
            dsimp only at h
            have hl := pP_len e rfl (by omega)
            cases e2 : pT x n q' with
            | error d => rw [e2] at h; cases h
            | ok w2 =>
              obtain ⟨w2, q2⟩ := w2
              rw [e2] at h
              dsimp only at h
              cases h
              exact Or.inr (Or.inr ⟨z, w, w2, rfl, hl.1, hl.2⟩)
        · cases h
  · cases h
/-- an act done: the table behind it -/
def acS (T : Tb) (kd : Int32) (L : List Int32) (T' : Tb) : Prop :=
  (kd = 116 ∧ ∃ a b t, L = [a, b, t] ∧ (okV 2 a ∧ okV 1 b ∧ okV 0 t) ∧ yN T < 16 ∧ T' = addY T 0 (fun _ => 0) 0 t b a) ∨
  (kd = 115 ∧ ∃ y b, L = [nI y, b] ∧ y < yN T ∧ okV 3 b ∧ T' = setY T 3 y b) ∨
  (kd = 109 ∧ ∃ y n, L = [nI y, nI n] ∧ y < yN T ∧ (1 ≤ nI n ∧ nI n ≤ 9999) ∧ n ≤ 9999 ∧ ¬ yP T y = 0 ∧ ¬ lkP T y (nI n) ∧ T' = TS T (mkS T y (nI n))) ∨
  (kd = 112 ∧ ∃ P t A, L = P ++ [t] ∧ (2 ≤ P.length ∧ P.length ≤ 4) ∧ (∀ i v, P[i]? = some v → A i = v) ∧ okV 0 t ∧ (∀ i, i < P.length → cbp T (A i)) ∧ yN T < 16 ∧ T' = plT T A P.length t)
/-- an act refused -/
def acN (T : Tb) (kd : Int32) (L : List Int32) : Prop :=
  (kd = 116 ∧ ∃ a b t, L = [a, b, t] ∧ (¬ (okV 2 a ∧ okV 1 b ∧ okV 0 t) ∨ yN T = 16)) ∨
  (kd = 115 ∧ ∃ a b, L = [a, b] ∧ ((a < 0 ∨ nI (yN T) ≤ a) ∨ ¬ okV 3 b)) ∨
  (kd = 109 ∧ ∃ a b, L = [a, b] ∧ ((a < 0 ∨ nI (yN T) ≤ a) ∨ ¬ (1 ≤ b ∧ b ≤ 9999) ∨ ∃ y, y < yN T ∧ a = nI y ∧ (yP T y = 0 ∨ lkP T y b))) ∨
  (kd = 112 ∧ ∃ (P : List Int32) (t : Int32) (A : Nat → Int32), L = P ++ [t] ∧ (2 ≤ P.length ∧ P.length ≤ 4) ∧ (∀ i v, P[i]? = some v → A i = v) ∧ (¬ okV 0 t ∨ ¬ (∀ i, i < P.length → cbp T (A i)) ∨ yN T = 16))
/-- old yarns stay as they are built -/
def gT (T T' : Tb) : Prop := yN T ≤ yN T' ∧ ∀ y, y < yN T → yP T' y = yP T y ∧ yD T' y = yD T y
theorem gT.rf {T : Tb} : gT T T := ⟨Nat.le_refl _, fun _ _ => ⟨rfl, rfl⟩⟩
theorem gT.tr {T T' T'' : Tb} (h : gT T T') (k : gT T' T'') : gT T T'' := ⟨Nat.le_trans h.1 k.1, fun y hy => by
  have a := h.2 y hy
  have b := k.2 y (Nat.lt_of_lt_of_le hy h.1)
  exact ⟨b.1.trans a.1, b.2.trans a.2⟩⟩
theorem acS.ok {T T' : Tb} {kd : Int32} {L : List Int32} (hT : okT T) (h : acS T kd L T') : okT T' := by
  rcases h with ⟨-, a, b, t, -, ⟨h1, h2, h3⟩, h4, rfl⟩ | ⟨-, y, b, -, hy, hb, rfl⟩ | ⟨-, y, n, -, hy, -, hn, h0, hlk, rfl⟩ | ⟨-, P, t, A, -, h24, -, ht, hA, hn, rfl⟩
  · exact okT_add hT h4 h3 (Or.inl ⟨rfl, rfl, h2, h1⟩)
  · exact okT_set hT (by omega) hy hb fun w => by omega
  · refine okT_TS hT fun k hk => ?_
    obtain ⟨m, hm, e⟩ := mk_ok hT hy h0 hn hlk k hk
    rw [e]; exact okV3_of hm
  · exact okT_pl hT hn ht h24.1 h24.2 hA
theorem acS.g {T T' : Tb} {kd : Int32} {L : List Int32} (h : acS T kd L T') : gT T T' := by
  rcases h with ⟨-, a, b, t, -, -, -, rfl⟩ | ⟨-, y, b, -, -, -, rfl⟩ | ⟨-, y, n, -, -, -, -, -, -, rfl⟩ | ⟨-, P, t, A, -, -, -, -, -, -, rfl⟩
  · exact ⟨Nat.le_succ _, fun y hy => ⟨aP_ne (by omega), aD_ne (by omega)⟩⟩
  · exact ⟨Nat.le_refl _, fun y hy => ⟨rfl, rfl⟩⟩
  · exact ⟨Nat.le_refl _, fun y hy => ⟨rfl, rfl⟩⟩
  · exact ⟨Nat.le_succ _, fun y hy => ⟨aP_ne (by omega), aD_ne (by omega)⟩⟩
theorem t8_doAct {T : Tb} (hT : okT T) {c : zz_Hp} (hc : CT T c) {kd : Int32} {L : List Int32} {x : Nat → Int32} {n q : Nat} (hk : c.1 24 1 = kd) (tp : TP x n q L c) (hf : acF kd L) {Q : Int32 → zz_Hp → Prop}
    (H1 : ∀ T' c', acS T kd L T' → CT T' c' → (∀ k, k < 27 → k ≠ 2 → k ≠ 3 → k ≠ 4 → c'.1 k = c.1 k) → Q 1 c') (H0 : ∀ c', acN T kd L → fV c c' → Q 0 c') : w_X8_doAct c Q := by
  have hn := hT.1
  obtain ⟨-, -, h2, hL, -⟩ := tp
  have K : ∀ {v : Int} {k : Int32}, kd.toInt = v → k.toInt = v → kd = k := fun a b => Int32.toInt_inj.mp (a.trans b.symm)
  have hkd : kd = 109 ∨ kd = 115 ∨ kd = 116 ∨ kd = 112 := by
    rcases hf with ⟨h | h, -⟩ | ⟨h, -⟩ | ⟨h, -⟩
    · exact Or.inl h
    · exact Or.inr (Or.inl h)
    · exact Or.inr (Or.inr (Or.inl h))
    · exact Or.inr (Or.inr (Or.inr h))
  have t0 : (0 : Int32).toNatClampNeg = 0 := rfl
  have t1 : (1 : Int32).toNatClampNeg = 1 := rfl
  have t2 : (2 : Int32).toNatClampNeg = 2 := rfl
  have v0 : vp_in 0 5 := nv_in (n := 0) (by omega) (by decide)
  have v1 : vp_in 1 5 := nv_in (n := 1) (by omega) (by decide)
  have v2 : vp_in 2 5 := nv_in (n := 2) (by omega) (by decide)
  unfold w_X8_doAct
  rw [hk, t0, t1, t2]
  have no : ∀ {P : Prop}, ¬ (kd.toInt = 109 ∨ kd.toInt = 115 ∨ kd.toInt = 116 ∨ kd.toInt = 112) → P := by
    intro P z
    refine absurd ?_ z
    rcases hkd with e | e | e | e <;> (rw [e]; decide)
  refine ⟨fun z => ⟨v0, v1, ?_⟩, fun z => no (by omega), fun z => no (by omega), fun z => ?_, fun z => no (by omega), fun z => no (by omega), fun z => ⟨v0, v1, ?_⟩, fun z => ⟨v0, v1, v2, ?_⟩, fun z => no (by omega)⟩
  · have e := K z (k := 109) rfl
    obtain ⟨a, b, rfl⟩ : ∃ a b, L = [a, b] := by
      rcases hf with ⟨-, h⟩ | ⟨h, -⟩ | ⟨h, -⟩
      · exact h
      · rw [e] at h; exact absurd h (by decide)
      · rw [e] at h; exact absurd h (by decide)
    rw [hL 0 a rfl, hL 1 b rfl]
    have N : ((a < 0 ∨ nI (yN T) ≤ a) ∨ ¬ (1 ≤ b ∧ b ≤ 9999) ∨ ∃ y, y < yN T ∧ a = nI y ∧ (yP T y = 0 ∨ lkP T y b)) → acN T kd [a, b] := fun w => Or.inr (Or.inr (Or.inl ⟨e, a, b, rfl, w⟩))
    rcases ycase (yN T) (by omega) a with ha | ⟨y, hy, rfl⟩
    · exact t8_makeYards1 hT hc (Or.inl ha) (brt (by decide) (H0 c (N (Or.inl ha)) fV.rf))
    · rcases mcase b with hb | ⟨m, hm1, hm9, rfl, hb⟩
      · exact t8_makeYards1 hT hc (Or.inr hb) (brt (by decide) (H0 c (N (Or.inr (Or.inl hb))) fV.rf))
      · refine t8_makeYards hT hc rfl hy rfl hm1 hm9 (fun c1 f1 hx => brt (by decide) (H0 c1 (N (Or.inr (Or.inr ⟨y, hy, rfl, hx⟩))) f1)) fun c1 f1 h0 hlk hct => ?_
        obtain ⟨w, hw, ew⟩ := mk_ok hT hy h0 hm9 hlk y hy
        rw [ew]
        exact brf (nv_lt0 (by omega)) (H1 _ c1 (Or.inr (Or.inr (Or.inl ⟨e, y, m, rfl, hy, hb, hm9, h0, hlk, rfl⟩))) hct fun k a _ b _ => f1 k a b)
  · have e := K z (k := 112) rfl
    obtain ⟨P, t, rfl, hP2, hP4⟩ : ∃ P t, L = P ++ [t] ∧ 2 ≤ P.length ∧ P.length ≤ 4 := by
      rcases hf with ⟨h | h, -⟩ | ⟨h, -⟩ | ⟨-, h⟩
      · rw [e] at h; exact absurd h (by decide)
      · rw [e] at h; exact absurd h (by decide)
      · rw [e] at h; exact absurd h (by decide)
      · exact h
    have el : (P ++ [t]).length = P.length + 1 := by rw [List.length_append]; rfl
    have ei : nI (P.length + 1) - 1 = nI P.length := by rw [lit_1, nv_sub (by omega)]; rfl
    have hA : ∀ i v, P[i]? = some v → c.1 25 i = v := fun i v hv => by
      have hi : i < P.length := by
        rcases Nat.lt_or_ge i P.length with w | w
        · exact w
        · rw [List.getElem?_eq_none w] at hv; cases hv
      exact hL i v (by rw [List.getElem?_append_left hi]; exact hv)
    have ht := hL P.length t (by rw [List.getElem?_append_right (Nat.le_refl _), Nat.sub_self]; rfl)
    have N : (¬ okV 0 t ∨ ¬ (∀ i, i < P.length → cbp T (c.1 25 i)) ∨ yN T = 16) → acN T kd (P ++ [t]) := fun w => Or.inr (Or.inr (Or.inr ⟨e, P, t, c.1 25, rfl, ⟨hP2, hP4⟩, hA, w⟩))
    unfold w_X5_lastNumber
    rw [h2, el, ei, nv_tn (by omega), ht]
    refine brf ?_ ⟨nv_in (by omega) (by decide), ?_⟩
    · rw [lit_0, nv_le (by omega) (by omega)]; omega
    · exact t7_addPlied25 hT hc (m := P.length) (by omega) rfl (fun k => brt (by decide) (H0 c (N (Or.inl k)) fV.rf)) (fun k k2 => absurd ⟨hP2, hP4⟩ k2) (fun k k2 k3 => brt (by decide) (H0 c (N (Or.inr (Or.inl k3))) fV.rf)) (fun k k2 k3 k4 => brt (by decide) (H0 c (N (Or.inr (Or.inr k4))) fV.rf)) fun k k2 k3 k4 c1 f1 hok hct => brf (nv_lt0 (by omega)) (H1 _ c1 (Or.inr (Or.inr (Or.inr ⟨e, P, t, c.1 25, rfl, k2, hA, k, k3, k4, rfl⟩))) hct fun k _ a b d => f1 k a b d)
  · have e := K z (k := 115) rfl
    obtain ⟨a, b, rfl⟩ : ∃ a b, L = [a, b] := by
      rcases hf with ⟨-, h⟩ | ⟨h, -⟩ | ⟨h, -⟩
      · exact h
      · rw [e] at h; exact absurd h (by decide)
      · rw [e] at h; exact absurd h (by decide)
    rw [hL 0 a rfl, hL 1 b rfl]
    have N : ((a < 0 ∨ nI (yN T) ≤ a) ∨ ¬ okV 3 b) → acN T kd [a, b] := fun w => Or.inr (Or.inl ⟨e, a, b, rfl, w⟩)
    rcases ycase (yN T) (by omega) a with ha | ⟨y, hy, rfl⟩
    · exact t7_tell0 hT hc (Or.inr ha) (brt (by decide) (H0 c (N (Or.inl ha)) fV.rf))
    · refine t7_tell hT (k := 3) (by omega) hy hc rfl rfl (fun k => brt (by decide) (H0 c (N (Or.inr k)) fV.rf)) (fun _ w => absurd (fun u : 3 = 1 ∨ 3 = 2 => by omega) w) fun k _ c1 f1 hct => ?_
      obtain ⟨m, hm, em⟩ := okV3 (hT.2 y hy).2.1
      have eg : getY T 3 y = nI m := em
      rw [eg]
      exact brf (nv_lt0 (by omega)) (H1 _ c1 (Or.inr (Or.inl ⟨e, y, b, rfl, hy, k, rfl⟩)) hct fun k _ _ a _ => f1 k a)
  · have e := K z (k := 116) rfl
    obtain ⟨a, b, t, rfl⟩ : ∃ a b t, L = [a, b, t] := by
      rcases hf with ⟨h | h, -⟩ | ⟨-, h⟩ | ⟨h, -⟩
      · rw [e] at h; exact absurd h (by decide)
      · rw [e] at h; exact absurd h (by decide)
      · exact h
      · rw [e] at h; exact absurd h (by decide)
    rw [hL 0 a rfl, hL 1 b rfl, hL 2 t rfl]
    have N : (¬ (okV 2 a ∧ okV 1 b ∧ okV 0 t) ∨ yN T = 16) → acN T kd [a, b, t] := fun w => Or.inl ⟨e, a, b, t, rfl, w⟩
    exact t7_addThread hT hc (fun k => brt (by decide) (H0 c (N (Or.inl k)) fV.rf)) (fun _ k => brt (by decide) (H0 c (N (Or.inr k)) fV.rf)) fun k k2 c1 f1 hct => brf (nv_lt0 (by omega)) (H1 _ c1 (Or.inl ⟨e, a, b, t, rfl, k, k2, rfl⟩) hct fun k _ a b _ => f1 k a b)
