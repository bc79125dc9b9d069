/-! read: a thread more, each side alone -/
theorem t7_addThread {T : Tb} (hT : okT T) {c : zz_Hp} (hc : CT T c) {l1 l2 l3 : Int32} {Q : Int32 → zz_Hp → Prop} (H1 : ¬ (okV 2 l1 ∧ okV 1 l2 ∧ okV 0 l3) → Q (-1) c) (H3 : okV 2 l1 ∧ okV 1 l2 ∧ okV 0 l3 → yN T = 16 → Q (-3) c) (H : okV 2 l1 ∧ okV 1 l2 ∧ okV 0 l3 → yN T < 16 → ∀ c', (∀ k, k ≠ 2 → k ≠ 3 → c'.1 k = c.1 k) → CT (addY T 0 (fun _ => 0) 0 l3 l2 l1) c' → Q (nI (yN T)) c') : w_X7_addThread l1 l2 l3 c Q := by
  have hn := hT.1
  unfold w_X7_addThread
  refine t8_told rfl (by omega : 2 < 4) (fun k1 => bq0 (H1 fun w => k1 w.1)) fun k1 => bq1 ?_
  refine t8_told rfl (by omega : 1 < 4) (fun k2 => bq0 (H1 fun w => k2 w.2.1)) fun k2 => bq1 ?_
  refine t8_told rfl (by omega : 0 < 4) (fun k3 => br0 (H1 fun w => k3 w.2.2)) fun k3 => br1 ?_
  rw [hc.1, lit_16, nv_lt (by omega) (by omega)]
  refine brc (fun e => ?_) fun e => H3 ⟨k1, k2, k3⟩ (by omega)
  intro c1 e1
  refine t7_write (yN T) 0 (by omega) (by omega) rfl rfl (t7_write (yN T) 1 (by omega) (by omega) rfl rfl (t7_write (yN T) 2 (by omega) (by omega) rfl rfl (t7_write (yN T) 3 (by omega) (by omega) rfl rfl (t7_write (yN T) 4 (by omega) (by omega) rfl rfl (t7_write (yN T) 5 (by omega) (by omega) rfl rfl (t7_write (yN T) 6 (by omega) (by omega) rfl rfl (t7_write (yN T) 7 (by omega) (by omega) rfl rfl ?_)))))))
  rw [nv_1] at e1
  subst e1
  refine H ⟨k1, k2, k3⟩ e _ (fun k a b => ?_) ?_
  · rw [zu_f b, zu_f b, zu_f b, zu_f b, zu_f b, zu_f b, zu_f b, zu_f b, zu_f a]
  · refine ctF_add hT hc ?_ (fun k hk => ?_) (fun k hk => ?_) ?_ ?_ ?_ ?_ ?_ ?_ ?_ ?_ (by omega) fun i hi => by omega
    all_goals simp (disch := omega) only [zu_ne, zu_eq]
    · rfl
    · rfl
    · rw [ln, if_pos (aP_eq rfl)]; rfl
    · rw [bt, aP_eq rfl]; rfl
