/-! what the tables and the start say -/
theorem lw_arr {args : Array Value} {s : State} {ty : FieldType} (h : (Cond.arrayClass ty).before args s = true) : ∃ cA : ClassId, ArrOfT s cA ty ∧ s.vm.findClass ("[" ++ ty.toString) = some cA := by
  obtain ⟨cA, kA, comp, h1, h2, h3⟩ := Cond.arrayClass_spec h
  exact ⟨cA, fun n z => ⟨fun k h => (by cases h), kA, h2, comp, h3⟩, h1⟩
theorem lw_nest : ∀ q ∈ zz_nw, Cond.methodLinkNest q.1 q.2.1 q.2.2.1 q.2.2.2 ∈ tables_1 := by decide +kernel
theorem lw_known {args : Array Value} {s : State} (hts0 : ∀ w ∈ lw_tbl, w.before args s = true) : ∃ (G : va_G) (ca : Nat → ClassId), zb_S G ca s := by
  have hts : ∀ w ∈ yw, w.before args s = true := fun w hw => hts0 w (List.mem_filter.mp hw).1
  obtain ⟨c0, i0, h0⟩ := u_known (C := RX0) (T := TX0) (N := 3) hts (zz_uws in_X0) (hts (.instantiable RX0 3) (yw_t 23 (by decide +kernel) rfl))
  obtain ⟨c1, i1, h1⟩ := u_known (C := RX1) (T := TX1) (N := 2) hts (zz_uws in_X1) (hts (.instantiable RX1 2) (yw_t 49 (by decide +kernel) rfl))
  obtain ⟨c2, i2, h2⟩ := u_known (C := RX2) (T := TX2) (N := 3) hts (zz_uws in_X2) (hts (.instantiable RX2 3) (yw_t 153 (by decide +kernel) rfl))
  obtain ⟨c3, i3, h3⟩ := u_known (C := RX3) (T := TX3) (N := 2) hts (zz_uws in_X3) (hts (.instantiable RX3 2) (yw_t 78 (by decide +kernel) rfl))
  obtain ⟨c4, i4, h4⟩ := u_known (C := RX4) (T := TX4) (N := 3) hts (zz_uws in_X4) (hts (.instantiable RX4 3) (yw_t 170 (by decide +kernel) rfl))
  obtain ⟨c5, i5, h5⟩ := u_known (C := RX5) (T := TX5) (N := 6) hts (zz_uws in_X5) (hts (.instantiable RX5 6) (yw_t 91 (by decide +kernel) rfl))
  obtain ⟨c6, i6, h6⟩ := u_known (C := RX6) (T := TX6) (N := 8) hts (zz_uws in_X6) (hts (.instantiable RX6 8) (yw_t 121 (by decide +kernel) rfl))
  obtain ⟨c7, i7, h7⟩ := u_known (C := RX7) (T := TX7) (N := 3) hts (zz_uws in_X7) (hts (.instantiable RX7 3) (yw_t 29 (by decide +kernel) rfl))
  obtain ⟨c8, i8, h8⟩ := u_known (C := RX8) (T := TX8) (N := 13) hts (zz_uws in_X8) (hts (.instantiable RX8 13) (yw_t 15 (by decide +kernel) rfl))
  obtain ⟨c9, i9, h9⟩ := u_known (C := RX9) (T := TX9) (N := 58) hts (zz_uws in_X9) (hts (.instantiable RX9 58) (yw_t 759 (by decide +kernel) rfl))
  obtain ⟨a0, k0, f0⟩ := lw_arr (hts (.arrayClass .int) (yw_t 47 (by decide +kernel) rfl))
  obtain ⟨a1, k1, f1⟩ := lw_arr (hts (.arrayClass .byte) (yw_t 119 (by decide +kernel) rfl))
  obtain ⟨a2, k2, f2⟩ := lw_arr (hts (.arrayClass .boolean) (yw_t 151 (by decide +kernel) rfl))
  obtain ⟨a3, k3, f3⟩ := lw_arr (hts (.arrayClass .long) (yw_t 939 (by decide +kernel) rfl))
  refine ⟨(fun k => [c0, c1, c2, c3, c4, c5, c6, c7, c8, c9].getD k c0, fun k => [i0, i1, i2, i3, i4, i5, i6, i7, i8, i9].getD k i0), fun k => [a0, a1, a2, a3].getD k a0, ⟨fun k q hq => ?_, fun k q hq => ?_⟩, fun q hq => va_Nw.of rfl (hts0 _ (List.mem_append_right _ (lw_nest q hq)))⟩
  · match k, hq with
    | 0, hq => cases hq; exact h0
    | 1, hq => cases hq; exact h1
    | 2, hq => cases hq; exact h2
    | 3, hq => cases hq; exact h3
    | 4, hq => cases hq; exact h4
    | 5, hq => cases hq; exact h5
    | 6, hq => cases hq; exact h6
    | 7, hq => cases hq; exact h7
    | 8, hq => cases hq; exact h8
    | 9, hq => cases hq; exact h9
    | k + 10, hq => simp [vwCl] at hq
  · match k, hq with
    | 0, hq => cases hq; exact ⟨k0, f0⟩
    | 1, hq => cases hq; exact ⟨k1, f1⟩
    | 2, hq => cases hq; exact ⟨k2, f2⟩
    | 3, hq => cases hq; exact ⟨k3, f3⟩
    | k + 4, hq => simp [zz_ty] at hq
theorem lw_LT {b : Nat} {s : State} (hts0 : ∀ w ∈ lw_tbl, w.before #[Value.ref b] s = true) (hgv : (Jvm.Cond.and given_1 narrow_1).before #[Value.ref b] s = true) : ∃ t : Nat, va_Z "YarnPlier" "LEAST_TOLD" "[I" (.ref t) (fun q => s.heap.size ≤ q) s s.heap ∧ va_T .int t 4 (fun j => .int (zz_lt j)) (fun q => s.heap.size ≤ q) s s.heap := by
  have hts : ∀ w ∈ yw, w.before #[Value.ref b] s = true := fun w hw => hts0 w (List.mem_filter.mp hw).1
  have hs := flat_of_before _ hgv
  have hA : ∀ a : Nat, a < s.heap.size → ¬ (fun q : Nat => s.heap.size ≤ q) a := fun a h => Nat.not_le.mpr h
  obtain ⟨t, h1, h2⟩ := va_Tof (N := 4) (f := fun j => .int (zz_lt j)) (A := fun q => s.heap.size ≤ q) (by decide) (hs (.arrayOf (.static "YarnPlier" "LEAST_TOLD" "[I") .int) (by decide +kernel)) (va_eqt (hs (.eq (.length (.static "YarnPlier" "LEAST_TOLD" "[I")) (.int 4)) (by decide +kernel))) (fun j hj => by
    rcases (show j = 0 ∨ j = 1 ∨ j = 2 ∨ j = 3 by omega) with rfl | rfl | rfl | rfl
    · exact va_eqt (hs (.eq (.elem (.static "YarnPlier" "LEAST_TOLD" "[I") (.int 0)) (.int (-99))) (by decide +kernel))
    · exact va_eqt (hs (.eq (.elem (.static "YarnPlier" "LEAST_TOLD" "[I") (.int 1)) (.int 1)) (by decide +kernel))
    · exact va_eqt (hs (.eq (.elem (.static "YarnPlier" "LEAST_TOLD" "[I") (.int 2)) (.int 0)) (by decide +kernel))
    · exact va_eqt (hs (.eq (.elem (.static "YarnPlier" "LEAST_TOLD" "[I") (.int 3)) (.int 0)) (by decide +kernel))) hA
  exact ⟨t, va_Zof (hts0 (.laysStatic "YarnPlier" "LEAST_TOLD" "[I") (List.mem_append_right _ (List.mem_of_getElem? (i := 242) (by decide +kernel)))) (hts (.initialized "YarnPlier") (yw_t 1 (by decide +kernel) rfl)) h1 hA, h2⟩
theorem lw_MT {b : Nat} {s : State} (hts0 : ∀ w ∈ lw_tbl, w.before #[Value.ref b] s = true) (hgv : (Jvm.Cond.and given_1 narrow_1).before #[Value.ref b] s = true) : ∃ t : Nat, va_Z "YarnPlier" "MOST_TOLD" "[I" (.ref t) (fun q => s.heap.size ≤ q) s s.heap ∧ va_T .int t 4 (fun j => .int (zz_mt j)) (fun q => s.heap.size ≤ q) s s.heap := by
  have hts : ∀ w ∈ yw, w.before #[Value.ref b] s = true := fun w hw => hts0 w (List.mem_filter.mp hw).1
  have hs := flat_of_before _ hgv
  have hA : ∀ a : Nat, a < s.heap.size → ¬ (fun q : Nat => s.heap.size ≤ q) a := fun a h => Nat.not_le.mpr h
  obtain ⟨t, h1, h2⟩ := va_Tof (N := 4) (f := fun j => .int (zz_mt j)) (A := fun q => s.heap.size ≤ q) (by decide) (hs (.arrayOf (.static "YarnPlier" "MOST_TOLD" "[I") .int) (by decide +kernel)) (va_eqt (hs (.eq (.length (.static "YarnPlier" "MOST_TOLD" "[I")) (.int 4)) (by decide +kernel))) (fun j hj => by
    rcases (show j = 0 ∨ j = 1 ∨ j = 2 ∨ j = 3 by omega) with rfl | rfl | rfl | rfl
    · exact va_eqt (hs (.eq (.elem (.static "YarnPlier" "MOST_TOLD" "[I") (.int 0)) (.int 99)) (by decide +kernel))
    · exact va_eqt (hs (.eq (.elem (.static "YarnPlier" "MOST_TOLD" "[I") (.int 1)) (.int 99)) (by decide +kernel))
    · exact va_eqt (hs (.eq (.elem (.static "YarnPlier" "MOST_TOLD" "[I") (.int 2)) (.int 3)) (by decide +kernel))
    · exact va_eqt (hs (.eq (.elem (.static "YarnPlier" "MOST_TOLD" "[I") (.int 3)) (.int 99999)) (by decide +kernel))) hA
  exact ⟨t, va_Zof (hts0 (.laysStatic "YarnPlier" "MOST_TOLD" "[I") (List.mem_append_right _ (List.mem_of_getElem? (i := 244) (by decide +kernel)))) (hts (.initialized "YarnPlier") (yw_t 1 (by decide +kernel) rfl)) h1 hA, h2⟩
