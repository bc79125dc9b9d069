/-! read: a thread more, each side alone -/
theorem t7_addThread {T : Tb} (hT : okT T) {c : zz_Hp} (hc : CT T c) {l1 l2 l3 : Int32} {Q : Int32 → zz_Hp → Prop} (H1 : ¬ (okV 2 l1 ∧ okV 1 l2 ∧ okV 0 l3) → Q (-1) c) (H3 : okV 2 l1 ∧ okV 1 l2 ∧ okV 0 l3 → yN T = 16 → Q (-3) c) (H : okV 2 l1 ∧ okV 1 l2 ∧ okV 0 l3 → yN T < 16 → ∀ c', (∀ k, k ≠ 2 → k ≠ 3 → c'.1 k = c.1 k) → CT (addY T 0 (fun _ => 0) 0 l3 l2 l1) c' → Q (nI (yN T)) c') : w_X7_addThread l1 l2 l3 c Q := by
  have hn := hT.1
  unfold w_X7_addThread
  refine t8_told rfl (by omega : 2 < 4) (fun k1 => bq0 (H1 fun w => k1 w.1)) fun k1 => bq1 ?_
  refine t8_told rfl (by omega : 1 < 4) (fun k2 => bq0 (H1 fun w => k2 w.2.1)) fun k2 => bq1 ?_
  refine t8_told rfl (by omega : 0 < 4) (fun k3 => br0 (H1 fun w => k3 w.2.2)) fun k3 => br1 ?_
  rw [hc.1, lit_16, nv_lt (by omega) (by omega)]
  refine brc (fun e => ?_) fun e => H3 ⟨k1, k2, k3⟩ (by omega)
  intro c1 e1
  refine t7_write (yN T) 0 (by omega) (by omega) rfl rfl (t7_write (yN T) 1 (by omega) (by omega) rfl rfl (t7_write (yN T) 2 (by omega) (by omega) rfl rfl (t7_write (yN T) 3 (by omega) (by omega) rfl rfl (t7_write (yN T) 4 (by omega) (by omega) rfl rfl (t7_write (yN T) 5 (by omega) (by omega) rfl rfl (t7_write (yN T) 6 (by omega) (by omega) rfl rfl (t7_write (yN T) 7 (by omega) (by omega) rfl rfl ?_)))))))
  rw [nv_1] at e1
  subst e1
  refine H ⟨k1, k2, k3⟩ e _ (fun k a b => ?_) ?_
  · rw [zu_f b, zu_f b, zu_f b, zu_f b, zu_f b, zu_f b, zu_f b, zu_f b, zu_f a]
  · refine ctF_add hT hc ?_ (fun k hk => ?_) (fun k hk => ?_) ?_ ?_ ?_ ?_ ?_ ?_ ?_ ?_ (by omega) fun i hi => by omega
    all_goals simp (disch := omega) only [zu_ne, zu_eq]
    · rfl
    · rfl
    · rw [ln, if_pos (aP_eq rfl)]; rfl
    · rw [bt, aP_eq rfl]; rfl
theorem t9_thread {T : Tb} (hT : okT T) {r : zz_Hp} (hr : RT T r) {l1 l2 l3 : Int32} {Q : Int32 → zz_Hp → Prop} (H1 : ¬ (okV 2 l1 ∧ okV 1 l2 ∧ okV 0 l3) → Q (-1) r) (H3 : okV 2 l1 ∧ okV 1 l2 ∧ okV 0 l3 → yN T = 16 → Q (-3) r) (H : okV 2 l1 ∧ okV 1 l2 ∧ okV 0 l3 → yN T < 16 → ∀ r', (∀ k, 7 ≤ k → r'.1 k = r.1 k) → (∀ j, j ≠ 0 → r'.1 0 j = r.1 0 j) → RT (addY T 0 (fun _ => 0) 0 l3 l2 l1) r' → Q (nI (yN T)) r') : w_X9_thread l1 l2 l3 r Q := by
  have hn := hT.1
  unfold w_X9_thread
  by_cases k1 : okV 2 l1
  · refine t9_int k1 (bq1 ?_)
    by_cases k2 : okV 1 l2
    · refine t9_int k2 (bq1 ?_)
      by_cases k3 : okV 0 l3
      · refine t9_int k3 (br1 ?_)
        by_cases e : yN T < 16
        · refine bnt ?_ ?_
          · rw [hr.1]; intro z; have := nv_inj (by omega) (by omega) (z.trans lit_16); omega
          have hi : vp_in (nI (yN T)) 16 := nv_in e (by decide)
          rw [hr.1, nv_tn (by omega)]
          refine ⟨hi, fun r1 q1 => ?_⟩
          have g1 : r1.1 0 0 = nI (yN T) := by rw [q1, zu_f (by decide)]; exact hr.1
          rw [g1, nv_tn (by omega)]
          refine ⟨hi, fun r2 q2 => ?_⟩
          have g2 : r2.1 0 0 = nI (yN T) := by rw [q2, zu_f (by decide)]; exact g1
          rw [g2, nv_tn (by omega)]
          refine ⟨hi, fun r3 q3 => ?_⟩
          have g3 : r3.1 0 0 = nI (yN T) := by rw [q3, zu_f (by decide)]; exact g2
          rw [g3, nv_tn (by omega)]
          refine ⟨hi, fun r4 q4 => ?_⟩
          have g4 : r4.1 0 0 = nI (yN T) := by rw [q4, zu_f (by decide)]; exact g3
          rw [g4, nv_tn (by omega)]
          refine ⟨hi, fun r5 q5 => ?_⟩
          have g5 : r5.1 0 0 = nI (yN T) := by rw [q5, zu_f (by decide)]; exact g4
          rw [g5, nv_1]
          intro r6 q6
          have e6 : r6.1 0 0 - 1 = nI (yN T) := by rw [q6, zu_eq ⟨rfl, rfl⟩, lit_1, nv_sub (by omega)]; rfl
          rw [e6]
          subst q6 q5 q4 q3 q2 q1
          refine H ⟨k1, k2, k3⟩ e _ (fun k hk => ?_) (fun j hj => ?_) ?_
          · rw [zu_f (by omega), zu_f (by omega), zu_f (by omega), zu_f (by omega), zu_f (by omega), zu_f (by omega)]
          · simp (disch := omega) only [zu_ne]
          · refine rtF_add hT hr ?_ (fun k hk => ?_) (fun k hk => ?_) (fun k hk => ?_) (fun k hk => ?_) (fun k hk => ?_) (fun k hk => ?_) ?_ ?_ ?_ ?_ ?_ fun i hi => by omega
            all_goals simp (disch := omega) only [zu_ne, zu_eq]
            all_goals rfl
        · exact bnf (by rw [hr.1, show yN T = 16 by omega]; rfl) (H3 ⟨k1, k2, k3⟩ (by omega))
      · exact t9_inf k3 (br0 (H1 fun w => k3 w.2.2))
    · exact t9_inf k2 (bq0 (H1 fun w => k2 w.2.1))
  · exact t9_inf k1 (bq0 (H1 fun w => k1 w.1))
