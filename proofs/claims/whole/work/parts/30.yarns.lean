/-! a yarn more: thread, ply -/
def up {α : Type} (f : Nat → α) (n : Nat) (v : α) (k : Nat) : α := if k = n then v else f k
theorem up_eq {α : Type} {f : Nat → α} {n k : Nat} {v : α} (e : k = n) : up f n v k = v := if_pos e
theorem up_ne {α : Type} {f : Nat → α} {n k : Nat} {v : α} (e : k ≠ n) : up f n v k = f k := if_neg e
def addY (T : Tb) (p : Nat) (q : Nat → Nat) (d : Nat) (t w f : Int32) : Tb := (yN T + 1, up (yP T) (yN T) p, up (yQ T) (yN T) q, up (yD T) (yN T) d, up (yT T) (yN T) t, up (yW T) (yN T) w, up (yF T) (yN T) f, up (yS T) (yN T) 0)
section
variable {T : Tb} {p d : Nat} {q : Nat → Nat} {t w f : Int32}
theorem aP_eq {y : Nat} (e : y = yN T) : yP (addY T p q d t w f) y = p := up_eq e
theorem aP_ne {y : Nat} (e : y ≠ yN T) : yP (addY T p q d t w f) y = yP T y := up_ne e
theorem aQ_eq {y : Nat} (e : y = yN T) : yQ (addY T p q d t w f) y = q := up_eq e
theorem aQ_ne {y : Nat} (e : y ≠ yN T) : yQ (addY T p q d t w f) y = yQ T y := up_ne e
theorem aD_eq {y : Nat} (e : y = yN T) : yD (addY T p q d t w f) y = d := up_eq e
theorem aD_ne {y : Nat} (e : y ≠ yN T) : yD (addY T p q d t w f) y = yD T y := up_ne e
theorem aT_eq {y : Nat} (e : y = yN T) : yT (addY T p q d t w f) y = t := up_eq e
theorem aT_ne {y : Nat} (e : y ≠ yN T) : yT (addY T p q d t w f) y = yT T y := up_ne e
theorem aW_eq {y : Nat} (e : y = yN T) : yW (addY T p q d t w f) y = w := up_eq e
theorem aW_ne {y : Nat} (e : y ≠ yN T) : yW (addY T p q d t w f) y = yW T y := up_ne e
theorem aF_eq {y : Nat} (e : y = yN T) : yF (addY T p q d t w f) y = f := up_eq e
theorem aF_ne {y : Nat} (e : y ≠ yN T) : yF (addY T p q d t w f) y = yF T y := up_ne e
theorem aS_eq {y : Nat} (e : y = yN T) : yS (addY T p q d t w f) y = 0 := up_eq e
theorem aS_ne {y : Nat} (e : y ≠ yN T) : yS (addY T p q d t w f) y = yS T y := up_ne e
theorem okT_add (hT : okT T) (hn : yN T < 16) (ht : okV 0 t) (hz : (p = 0 ∧ d = 0 ∧ okV 1 w ∧ okV 2 f) ∨ (2 ≤ p ∧ p ≤ 4 ∧ d ≤ 3 ∧ (∀ i, i < p → q i < yN T ∧ yD T (q i) < d) ∧ (∃ i, i < p ∧ yD T (q i) + 1 = d) ∧ w = -1 ∧ f = -1)) : okT (addY T p q d t w f) := by
  refine ⟨hn, fun y hy => ?_⟩
  have hy : y < yN T + 1 := hy
  unfold okY
  by_cases e : y = yN T
  · rw [aT_eq e, aS_eq e, aP_eq e, aD_eq e, aW_eq e, aF_eq e, aQ_eq e]
    refine ⟨ht, ⟨by decide, by decide⟩, hz.imp id ?_⟩
    rintro ⟨a, b, c, k, ⟨i, hi, k2⟩, k3⟩
    refine ⟨a, b, c, fun i hi => ?_, ⟨i, hi, ?_⟩, k3⟩
    · have := k i hi
      rw [aD_ne (by omega)]; exact ⟨by omega, this.2⟩
    · have := k i hi
      rw [aD_ne (by omega)]; exact k2
  · rw [aT_ne e, aS_ne e, aP_ne e, aD_ne e, aW_ne e, aF_ne e, aQ_ne e]
    have hy' : y < yN T := by omega
    obtain ⟨a, b, k⟩ := hT.2 y hy'
    refine ⟨a, b, k.imp id ?_⟩
    rintro ⟨a, b, c, k, ⟨i, hi, k2⟩, k3⟩
    refine ⟨a, b, c, fun i hi => ?_, ⟨i, hi, ?_⟩, k3⟩
    · have := k i hi
      rw [aD_ne (by omega)]; exact this
    · have := k i hi
      rw [aD_ne (by omega)]; exact k2
theorem add_old (hT : okT T) : ∀ y, y < yN T → yP (addY T p q d t w f) y = yP T y ∧ ∀ i, i < yP T y → yQ (addY T p q d t w f) y i = yQ T y i ∧ yQ T y i < yN T := by
  intro y hy
  have e : y ≠ yN T := by omega
  rw [aP_ne e, aQ_ne e]
  exact ⟨rfl, fun i hi => ⟨rfl, (hT.part hy hi).2.1⟩⟩
theorem ctF_add (hT : okT T) {sz sz' : Int32} {F F' G G' : Nat → Int32} (h : ctF T sz F G) (e : sz' = nI (yN T + 1)) (hF : ∀ k, k < 8 * yN T → F' k = F k) (hG : ∀ k, k < 4 * yN T → G' k = G k)
    (h0 : F' (8 * yN T + 0) = t) (h1 : F' (8 * yN T + 1) = w) (h2 : F' (8 * yN T + 2) = f) (h3 : F' (8 * yN T + 3) = 0) (h4 : F' (8 * yN T + 4) = nI p) (h5 : F' (8 * yN T + 5) = nI d)
    (h6 : F' (8 * yN T + 6) = nI (ln (yP (addY T p q d t w f)) (yQ (addY T p q d t w f)) 5 (yN T))) (h7 : F' (8 * yN T + 7) = bt (yP (addY T p q d t w f)) (yQ (addY T p q d t w f)) 5 (yN T)) (hp : p ≤ 4) (hg : ∀ i, i < p → G' (4 * yN T + i) = nI (q i)) : ctF (addY T p q d t w f) sz' F' G' := by
  refine ⟨e, fun y hy => ?_⟩
  have hy : y < yN T + 1 := hy
  by_cases z : y = yN T
  · subst z
    refine ⟨⟨?_, ?_, ?_, ?_, ?_, ?_, h6, h7⟩, ?_⟩
    · rw [h0]; exact (up_eq rfl).symm
    · rw [h1]; exact (up_eq rfl).symm
    · rw [h2]; exact (up_eq rfl).symm
    · rw [h3]; exact (up_eq rfl).symm
    · rw [h4]; exact congrArg nI (up_eq rfl).symm
    · rw [h5]; exact congrArg nI (up_eq rfl).symm
    · intro i hi
      have hi : i < up (yP T) (yN T) p (yN T) := hi
      rw [up_eq rfl] at hi
      rw [hg i hi]; exact congrArg nI (congrFun (up_eq rfl).symm i)
  · have hy' : y < yN T := by omega
    have hP := hT.P4 hy'
    obtain ⟨⟨a0, a1, a2, a3, a4, a5, a6, a7⟩, b⟩ := h.2 y hy'
    rw [ln_congr (add_old hT) 5 y hy', bt_congr (add_old hT) 5 y hy', (add_old hT y hy').1]
    refine ⟨⟨?_, ?_, ?_, ?_, ?_, ?_, ?_, ?_⟩, fun i hi => ?_⟩
    · rw [hF _ (by omega), a0]; exact (up_ne z).symm
    · rw [hF _ (by omega), a1]; exact (up_ne z).symm
    · rw [hF _ (by omega), a2]; exact (up_ne z).symm
    · rw [hF _ (by omega), a3]; exact (up_ne z).symm
    · rw [hF _ (by omega), a4]
    · rw [hF _ (by omega), a5]; exact congrArg nI (up_ne z).symm
    · rw [hF _ (by omega), a6]
    · rw [hF _ (by omega), a7]
    · rw [hG _ (by omega), b i hi]; exact congrArg nI (congrFun (up_ne z).symm i)
theorem rtF_add (hT : okT T) {sz sz' : Int32} {rP rQ rF rW rT rS rP' rQ' rF' rW' rT' rS' : Nat → Int32} (h : rtF T sz rP rQ rF rW rT rS) (e : sz' = nI (yN T + 1))
    (kP : ∀ k, k < yN T → rP' k = rP k) (kQ : ∀ k, k < 4 * yN T → rQ' k = rQ k) (kF : ∀ k, k < yN T → rF' k = rF k) (kW : ∀ k, k < yN T → rW' k = rW k) (kT : ∀ k, k < yN T → rT' k = rT k) (kS : ∀ k, k < yN T → rS' k = rS k)
    (h1 : rP' (yN T) = nI p) (h2 : rF' (yN T) = f) (h3 : rW' (yN T) = w) (h4 : rT' (yN T) = t) (h5 : rS' (yN T) = 0) (hg : ∀ i, i < p → rQ' (4 * yN T + i) = nI (q i)) : rtF (addY T p q d t w f) sz' rP' rQ' rF' rW' rT' rS' := by
  refine ⟨e, fun y hy => ?_⟩
  have hy : y < yN T + 1 := hy
  by_cases z : y = yN T
  · subst z
    refine ⟨⟨?_, ?_, ?_, ?_, ?_⟩, ?_⟩
    · rw [h1]; exact congrArg nI (up_eq rfl).symm
    · rw [h2]; exact (up_eq rfl).symm
    · rw [h3]; exact (up_eq rfl).symm
    · rw [h4]; exact (up_eq rfl).symm
    · rw [h5]; exact (up_eq rfl).symm
    · intro i hi
      have hi : i < up (yP T) (yN T) p (yN T) := hi
      rw [up_eq rfl] at hi
      rw [hg i hi]; exact congrArg nI (congrFun (up_eq rfl).symm i)
  · have hy' : y < yN T := by omega
    have hP := hT.P4 hy'
    obtain ⟨⟨a1, a2, a3, a4, a5⟩, b⟩ := h.2 y hy'
    rw [(add_old hT y hy').1]
    refine ⟨⟨?_, ?_, ?_, ?_, ?_⟩, fun i hi => ?_⟩
    · rw [kP _ hy', a1]
    · rw [kF _ hy', a2]; exact (up_ne z).symm
    · rw [kW _ hy', a3]; exact (up_ne z).symm
    · rw [kT _ hy', a4]; exact (up_ne z).symm
    · rw [kS _ hy', a5]; exact (up_ne z).symm
    · rw [kQ _ (by omega), b i hi]; exact congrArg nI (congrFun (up_ne z).symm i)
theorem bnF_add {a b : Int32} {A B : Nat → Int32} (h : bnF T a A b B) : bnF (addY T p q d t w f) a A b B := by
  obtain ⟨m, h1, h2, h3, h4⟩ := h
  refine ⟨m, h1, h2, h3, fun i hi => ?_⟩
  obtain ⟨y, k1, k2, k3⟩ := h4 i hi
  refine ⟨y, Nat.lt_succ_of_lt k1, ?_, k3⟩
  show up _ _ _ _ < _
  rw [up_ne (by omega)]; exact k2
theorem lyF_add {a b : Int32} {A B C D : Nat → Int32} (h : lyF (yN T) a A b B C D) : lyF (yN (addY T p q d t w f)) a A b B C D := by
  obtain ⟨m, h1, h2, h3, h4⟩ := h
  refine ⟨m, h1, h2, h3, fun i hi => ?_⟩
  obtain ⟨k1, k2, k3, ⟨y, k4, k5⟩, k6⟩ := h4 i hi
  exact ⟨k1, k2, k3, ⟨y, Nat.lt_succ_of_lt k4, k5⟩, k6⟩
theorem jbF_add {a b : Int32} {A B C : Nat → Int32} (h : jbF T a A b B C) : jbF (addY T p q d t w f) a A b B C := by
  obtain ⟨m, h1, h2, h3, h4⟩ := h
  refine ⟨m, h1, h2, h3, fun i hi => ?_⟩
  obtain ⟨k1, k2, ⟨y, k4, k5, k6⟩, k7⟩ := h4 i hi
  refine ⟨k1, k2, ⟨y, Nat.lt_succ_of_lt k4, ?_, k6⟩, k7⟩
  show _ ≤ up _ _ _ _
  rw [up_ne (by omega)]; exact k5
theorem spF_add {a b : Int32} {A B C D : Nat → Int32} (h : spF T a A b B C D) : spF (addY T p q d t w f) a A b B C D := by
  obtain ⟨m, h1, h2, h3, h4⟩ := h
  refine ⟨m, h1, h2, h3, fun i hi => ?_⟩
  obtain ⟨k1, k2, k3, k, y, k4, k5, k6, k7, k8, k9⟩ := h4 i hi
  refine ⟨k1, k2, k3, k, y, k4, Nat.lt_succ_of_lt k5, k6, k7, k8, fun z => ?_⟩
  show up _ _ _ _ = _
  rw [up_ne (by omega)]; exact k9 z
end
theorem t8_told {k : Nat} {l v : Int32} (e : l = nI k) (hk : k < 4) {c : zz_Hp} {Q : Int32 → zz_Hp → Prop} (H0 : ¬ okV k v → Q 0 c) (H1 : okV k v → Q 1 c) : w_X8_canBeTold l v c Q := by
  subst e
  unfold w_X8_canBeTold
  refine t8_inRt ⟨?_, ?_⟩ (bq1 ⟨nv_in hk (by decide), nv_in hk (by decide), ?_⟩)
  · rw [lit_0, nv_le (by omega) (by omega)]; omega
  · rw [lit_3, nv_le (by omega) (by omega)]; omega
  rw [nv_tn (by omega)]
  by_cases h : zz_lt k ≤ v ∧ v ≤ zz_mt k
  · exact t8_inRt h (bq1 (H1 h))
  · exact t8_inRf h (bq0 (H0 h))
theorem eq_thread {c r : zz_Hp} (h : Sim c r) (l1 l2 l3 : Int32) : w_X8_thread l1 l2 l3 c (fun a c' => w_X9_thread l1 l2 l3 r (fun b r' => a = b ∧ Sim c' r')) := by
  obtain ⟨T, h⟩ := h
  have hT := h.1; have hc : CT T c := h.2.1; have hr : RT T r := h.2.2.1; have hn := hT.1
  unfold w_X8_thread w_X7_addThread
  refine t8_told rfl (by omega : 2 < 4) (fun k1 => bq0 (t9_inf k1 (bq0 ⟨rfl, T, h⟩))) fun k1 => bq1 ?_
  refine t8_told rfl (by omega : 1 < 4) (fun k2 => bq0 (t9_int k1 (bq1 (t9_inf k2 (bq0 ⟨rfl, T, h⟩))))) fun k2 => bq1 ?_
  refine t8_told rfl (by omega : 0 < 4) (fun k3 => br0 (t9_int k1 (bq1 (t9_int k2 (bq1 (t9_inf k3 (br0 ⟨rfl, T, h⟩))))))) fun k3 => br1 ?_
  rw [hc.1, lit_16, nv_lt (by omega) (by omega)]
  refine brc (fun e => ?_) fun e => t9_int k1 (bq1 (t9_int k2 (bq1 (t9_int k3 (br1 (bnf ?_ ⟨rfl, T, h⟩))))))
  · intro c1 e1
    refine t7_write (yN T) 0 (by omega) (by omega) rfl rfl (t7_write (yN T) 1 (by omega) (by omega) rfl rfl (t7_write (yN T) 2 (by omega) (by omega) rfl rfl (t7_write (yN T) 3 (by omega) (by omega) rfl rfl (t7_write (yN T) 4 (by omega) (by omega) rfl rfl (t7_write (yN T) 5 (by omega) (by omega) rfl rfl (t7_write (yN T) 6 (by omega) (by omega) rfl rfl (t7_write (yN T) 7 (by omega) (by omega) rfl rfl ?_)))))))
    refine t9_int k1 (bq1 (t9_int k2 (bq1 (t9_int k3 (br1 (bnt ?_ ?_))))))
    · rw [hr.1]; intro z; have := nv_inj (by omega) (by omega) (z.trans lit_16); omega
    have hi : vp_in (nI (yN T)) 16 := nv_in e (by decide)
    rw [hr.1, nv_tn (by omega)]
    refine ⟨hi, fun r1 q1 => ?_⟩
    have g1 : r1.1 0 0 = nI (yN T) := by rw [q1, zu_f (by decide)]; exact hr.1
    rw [g1, nv_tn (by omega)]
    refine ⟨hi, fun r2 q2 => ?_⟩
    have g2 : r2.1 0 0 = nI (yN T) := by rw [q2, zu_f (by decide)]; exact g1
    rw [g2, nv_tn (by omega)]
    refine ⟨hi, fun r3 q3 => ?_⟩
    have g3 : r3.1 0 0 = nI (yN T) := by rw [q3, zu_f (by decide)]; exact g2
    rw [g3, nv_tn (by omega)]
    refine ⟨hi, fun r4 q4 => ?_⟩
    have g4 : r4.1 0 0 = nI (yN T) := by rw [q4, zu_f (by decide)]; exact g3
    rw [g4, nv_tn (by omega)]
    refine ⟨hi, fun r5 q5 => ?_⟩
    have g5 : r5.1 0 0 = nI (yN T) := by rw [q5, zu_f (by decide)]; exact g4
    rw [g5, nv_1]
    intro r6 q6
    refine ⟨?_, addY T 0 (fun _ => 0) 0 l3 l2 l1, ?_⟩
    · rw [q6, zu_eq ⟨rfl, rfl⟩, lit_1, nv_sub (by omega)]; rfl
    rw [nv_1] at e1
    subst q6 q5 q4 q3 q2 q1 e1
    apply SimT.yarn h
    case n_ok => exact okT_add hT e k3 (Or.inl ⟨rfl, rfl, k2, k1⟩)
    case n_ct =>
      refine ctF_add hT hc ?_ (fun k hk => ?_) (fun k hk => ?_) ?_ ?_ ?_ ?_ ?_ ?_ ?_ ?_ (by omega) fun i hi => by omega
      all_goals simp (disch := omega) only [zu_ne, zu_eq]
      · rfl
      · rfl
      · rw [ln, if_pos (aP_eq rfl)]; rfl
      · rw [bt, aP_eq rfl]; rfl
    case n_rt =>
      refine rtF_add hT hr ?_ (fun k hk => ?_) (fun k hk => ?_) (fun k hk => ?_) (fun k hk => ?_) (fun k hk => ?_) (fun k hk => ?_) ?_ ?_ ?_ ?_ ?_ fun i hi => by omega
      all_goals simp (disch := omega) only [zu_ne, zu_eq]
      all_goals rfl
    case n_bn =>
      have := bnF_add (p := 0) (q := fun _ => 0) (d := 0) (t := l3) (w := l2) (f := l1) h.2.2.2.1
      simp only [zu_ne (Or.inl (by decide : (0:Nat) ≠ 3)), zu_ne (Or.inl (by decide : (0:Nat) ≠ 2)), zu_f (by decide : (17:Nat) ≠ 3), zu_f (by decide : (17:Nat) ≠ 2)]
      simp (disch := decide) only [zu_f, zu_ne]
      exact this
    case t_ly => exact lyF_add
    case t_jb => exact jbF_add
    case t_sp => exact spF_add
    all_goals first | (funext i; simp [zz_uI]; done) | simp [zz_uI]
  · rw [hr.1, show yN T = 16 by omega]; rfl
