/-! the constructors -/
def zi_f : Nat → Int32 := upd (upd (upd (fun _ => 0) 0 (-1)) 1 (-1)) 2 (-1)
/-- a new heap: zeros, but for the row of sizes in cell k0 -/
def zi_h (k0 : Nat) : zz_Hp := (fun k => if k = k0 then zi_f else fun _ => 0, fun _ _ => 0)
def zb_k (t : List ((Nat × List (Option Nat)) ⊕ (Nat × Nat))) : zz_Kd := fun k => t.getD k (.inr (0, 0))
def zi_q (K : zz_Kd) (N k0 : Nat) : va_G → (Nat → ClassId) → Nat → va_W → Prop := fun G ca h0 ws => ∃ u : Nat → Nat, u 0 = h0 ∧ ws = zz_w (G, ca, u) K N (zi_h k0)
set_option maxRecDepth 100000 in
set_option maxHeartbeats 4000000 in
theorem zi_X1 (a : Int32) (n : Nat) (h1 : ¬ a * 3 < 0) (h2 : (a * 3).toNatClampNeg = n) (h3 : n * componentBytes .int ≤ 536870912) : zb_K mX1_init { frames := 1, cells := 1, slots := n, locals := 12 } 1 [.int 0, .null] [.int a] (zi_q (zb_k [.inl (1, [none, some 1]), .inr (0, n)]) 2 1000) := by
  refine zb_met (by decide) rfl rfl (fun _ => Nat.le_of_ble_eq_true rfl) fun G ca h0 => ?_
  refine zb_aload_n (M := mX1_init) (pc := 0) dX1_init_0 rfl 0 rfl ?_
  refine zb_obj (M := mX1_init) (pc := 1) dX1_init_1 ⟨yw_t 53 (by decide +kernel) rfl, yw_t 20 (by decide +kernel) rfl, yw_t 21 (by decide +kernel) rfl⟩ (Nat.le_of_ble_eq_true rfl) (Nat.le_of_ble_eq_true rfl) ?_
  refine zb_aload_n (M := mX1_init) (pc := 4) dX1_init_4 rfl 0 rfl ?_
  refine zb_iload_n (M := mX1_init) (pc := 5) dX1_init_5 rfl 1 rfl ?_
  refine zb_iconst (M := mX1_init) (pc := 6) dX1_init_6 (v := 3) (by decide) ?_
  refine zb_imul (M := mX1_init) (pc := 7) dX1_init_7 ?_
  refine zb_newa (M := mX1_init) (pc := 8) (atype := .int) (k0 := 0) (t := .int) rfl rfl (fun _ _ h => h) (yw_t 47 (by decide +kernel) rfl) (N' := n) (a0 := (n, .inl fun _ => 0)) (fun _ => rfl) h1 h2 h3 (Nat.le_refl 1) (Nat.le_of_eq (Nat.zero_add n)) dX1_init_8 fun q1 => ?_
  refine zb_put (M := mX1_init) (pc := 10) dX1_init_10 (ci := 1) (N := 2) rfl (k0 := 1) (by decide) in_X1 tyX1_ok nmX1 (yw_t 56 (by decide +kernel) rfl) rfl rfl (tyX1_ok _ (by decide)) rfl rfl (by simp only [List.length_set, List.length_cons, List.length_nil]) ?_
  exact zb_ret (M := mX1_init) (pc := 13) dX1_init_13 (Nat.le_refl 1) (Nat.le_of_eq (Nat.zero_add n)) ⟨fun k => [h0, q1].getD k 0, rfl, rfl⟩
theorem okb_X1_init : zb_ok mX1_init 1 := ⟨⟨yw_t 52 (by decide +kernel) rfl, yw_t 4 (by decide +kernel) rfl, ⟨by decide, by decide, by decide +kernel⟩, by decide, by decide⟩, rfl, yw_t 51 (by decide +kernel) rfl, rfl⟩
set_option maxRecDepth 100000 in
set_option maxHeartbeats 4000000 in
theorem zi_X7 : zb_K mX7_init { frames := 1, cells := 2, slots := 192, locals := 12 } 7 [.int 0, .null, .null] [] (zi_q (zb_k [.inl (7, [none, some 1, some 2]), .inr (0, 128), .inr (0, 64)]) 3 1000) := by
  refine zb_met (by decide) rfl rfl (fun _ => Nat.le_of_ble_eq_true rfl) fun G ca h0 => ?_
  refine zb_aload_n (M := mX7_init) (pc := 0) dX7_init_0 rfl 0 rfl ?_
  refine zb_obj (M := mX7_init) (pc := 1) dX7_init_1 ⟨yw_t 33 (by decide +kernel) rfl, yw_t 20 (by decide +kernel) rfl, yw_t 21 (by decide +kernel) rfl⟩ (Nat.le_of_ble_eq_true rfl) (Nat.le_of_ble_eq_true rfl) ?_
  refine zb_aload_n (M := mX7_init) (pc := 4) dX7_init_4 rfl 0 rfl ?_
  refine zb_sipush (M := mX7_init) (pc := 5) dX7_init_5 (v := 128) (by decide) ?_
  refine zb_newa (M := mX7_init) (pc := 8) (atype := .int) (k0 := 0) (t := .int) rfl rfl (fun _ _ h => h) (yw_t 47 (by decide +kernel) rfl) (N' := 128) (a0 := (128, .inl fun _ => 0)) (fun _ => rfl) (by decide) (by decide) (Nat.le_of_ble_eq_true rfl) (Nat.le_of_ble_eq_true rfl) (Nat.le_of_ble_eq_true rfl) dX7_init_8 fun q1 => ?_
  refine zb_put (M := mX7_init) (pc := 10) dX7_init_10 (ci := 7) (N := 3) rfl (k0 := 1) (by decide) in_X7 tyX7_ok nmX7 (yw_t 38 (by decide +kernel) rfl) rfl rfl (tyX7_ok _ (by decide)) rfl rfl (by simp only [List.length_set, List.length_cons, List.length_nil]) ?_
  refine zb_aload_n (M := mX7_init) (pc := 13) dX7_init_13 rfl 0 rfl ?_
  refine zb_bipush (M := mX7_init) (pc := 14) dX7_init_14 (v := 64) (by decide) ?_
  refine zb_newa (M := mX7_init) (pc := 16) (atype := .int) (k0 := 0) (t := .int) rfl rfl (fun _ _ h => h) (yw_t 47 (by decide +kernel) rfl) (N' := 64) (a0 := (64, .inl fun _ => 0)) (fun _ => rfl) (by decide) (by decide) (Nat.le_of_ble_eq_true rfl) (Nat.le_of_ble_eq_true rfl) (Nat.le_of_ble_eq_true rfl) dX7_init_16 fun q2 => ?_
  refine zb_put (M := mX7_init) (pc := 18) dX7_init_18 (ci := 7) (N := 3) rfl (k0 := 2) (by decide) in_X7 tyX7_ok nmX7 (yw_t 39 (by decide +kernel) rfl) rfl rfl (tyX7_ok _ (by decide)) rfl rfl (by simp only [List.length_set, List.length_cons, List.length_nil]) ?_
  exact zb_ret (M := mX7_init) (pc := 21) dX7_init_21 (Nat.le_of_ble_eq_true rfl) (Nat.le_of_ble_eq_true rfl) ⟨fun k => [h0, q1, q2].getD k 0, rfl, rfl⟩
theorem okb_X7_init : zb_ok mX7_init 0 := ⟨⟨yw_t 32 (by decide +kernel) rfl, yw_t 3 (by decide +kernel) rfl, ⟨by decide, by decide, by decide +kernel⟩, by decide, by decide⟩, rfl, yw_t 31 (by decide +kernel) rfl, rfl⟩
set_option maxRecDepth 100000 in
set_option maxHeartbeats 4000000 in
theorem zi_X3 : zb_K mX3_init { frames := 1, cells := 2, slots := 123, locals := 12 } 3 [.null, .null] [] (zi_q (zb_k [.inl (3, [some 1, some 2]), .inr (0, 3), .inr (0, 120)]) 3 1) := by
  refine zb_met (by decide) rfl rfl (fun _ => Nat.le_of_ble_eq_true rfl) fun G ca h0 => ?_
  refine zb_aload_n (M := mX3_init) (pc := 0) dX3_init_0 rfl 0 rfl ?_
  refine zb_obj (M := mX3_init) (pc := 1) dX3_init_1 ⟨yw_t 82 (by decide +kernel) rfl, yw_t 20 (by decide +kernel) rfl, yw_t 21 (by decide +kernel) rfl⟩ (Nat.le_of_ble_eq_true rfl) (Nat.le_of_ble_eq_true rfl) ?_
  refine zb_aload_n (M := mX3_init) (pc := 4) dX3_init_4 rfl 0 rfl ?_
  refine zb_iconst (M := mX3_init) (pc := 5) dX3_init_5 (v := 3) (by decide) ?_
  refine zb_newa (M := mX3_init) (pc := 6) (atype := .int) (k0 := 0) (t := .int) rfl rfl (fun _ _ h => h) (yw_t 47 (by decide +kernel) rfl) (N' := 3) (a0 := (3, .inl fun _ => 0)) (fun _ => rfl) (by decide) (by decide) (Nat.le_of_ble_eq_true rfl) (Nat.le_of_ble_eq_true rfl) (Nat.le_of_ble_eq_true rfl) dX3_init_6 fun q1 => ?_
  refine zb_dup (M := mX3_init) (pc := 8) dX3_init_8 rfl ?_
  refine zb_iconst (M := mX3_init) (pc := 9) dX3_init_9 (v := 0) (by decide) ?_
  refine zb_iconst (M := mX3_init) (pc := 10) dX3_init_10 (v := -1) (by decide) ?_
  refine zb_iast (M := mX3_init) (pc := 11) dX3_init_11 (nv_in (n := 0) (by omega) (by decide)) ?_
  refine zb_dup (M := mX3_init) (pc := 12) dX3_init_12 rfl ?_
  refine zb_iconst (M := mX3_init) (pc := 13) dX3_init_13 (v := 1) (by decide) ?_
  refine zb_iconst (M := mX3_init) (pc := 14) dX3_init_14 (v := -1) (by decide) ?_
  refine zb_iast (M := mX3_init) (pc := 15) dX3_init_15 (nv_in (n := 1) (by omega) (by decide)) ?_
  refine zb_dup (M := mX3_init) (pc := 16) dX3_init_16 rfl ?_
  refine zb_iconst (M := mX3_init) (pc := 17) dX3_init_17 (v := 2) (by decide) ?_
  refine zb_iconst (M := mX3_init) (pc := 18) dX3_init_18 (v := -1) (by decide) ?_
  refine zb_iast (M := mX3_init) (pc := 19) dX3_init_19 (nv_in (n := 2) (by omega) (by decide)) ?_
  refine zb_put (M := mX3_init) (pc := 20) dX3_init_20 (ci := 3) (N := 2) rfl (k0 := 0) (by decide) in_X3 tyX3_ok nmX3 (yw_t 83 (by decide +kernel) rfl) rfl rfl (tyX3_ok _ (by decide)) rfl rfl (by simp only [List.length_set, List.length_cons, List.length_nil]) ?_
  refine zb_aload_n (M := mX3_init) (pc := 23) dX3_init_23 rfl 0 rfl ?_
  refine zb_bipush (M := mX3_init) (pc := 24) dX3_init_24 (v := 120) (by decide) ?_
  refine zb_newa (M := mX3_init) (pc := 26) (atype := .int) (k0 := 0) (t := .int) rfl rfl (fun _ _ h => h) (yw_t 47 (by decide +kernel) rfl) (N' := 120) (a0 := (120, .inl fun _ => 0)) (fun _ => rfl) (by decide) (by decide) (Nat.le_of_ble_eq_true rfl) (Nat.le_of_ble_eq_true rfl) (Nat.le_of_ble_eq_true rfl) dX3_init_26 fun q2 => ?_
  refine zb_put (M := mX3_init) (pc := 28) dX3_init_28 (ci := 3) (N := 2) rfl (k0 := 1) (by decide) in_X3 tyX3_ok nmX3 (yw_t 84 (by decide +kernel) rfl) rfl rfl (tyX3_ok _ (by decide)) rfl rfl (by simp only [List.length_set, List.length_cons, List.length_nil]) ?_
  exact zb_ret (M := mX3_init) (pc := 31) dX3_init_31 (Nat.le_of_ble_eq_true rfl) (Nat.le_of_ble_eq_true rfl) ⟨fun k => [h0, q1, q2].getD k 0, rfl, rfl⟩
theorem okb_X3_init : zb_ok mX3_init 0 := ⟨⟨yw_t 81 (by decide +kernel) rfl, yw_t 5 (by decide +kernel) rfl, ⟨by decide, by decide, by decide +kernel⟩, by decide, by decide⟩, rfl, yw_t 80 (by decide +kernel) rfl, rfl⟩
set_option maxRecDepth 100000 in
set_option maxHeartbeats 4000000 in
theorem zi_X5 : zb_K mX5_init { frames := 1, cells := 2, slots := 85, locals := 12 } 5 [.int 0, .int 0, .int 0, .null, .int 0, .null] [] (zi_q (zb_k [.inl (5, [none, none, none, some 1, none, some 2]), .inr (0, 5), .inr (1, 80)]) 3 1000) := by
  refine zb_met (by decide) rfl rfl (fun _ => Nat.le_of_ble_eq_true rfl) fun G ca h0 => ?_
  refine zb_aload_n (M := mX5_init) (pc := 0) dX5_init_0 rfl 0 rfl ?_
  refine zb_obj (M := mX5_init) (pc := 1) dX5_init_1 ⟨yw_t 95 (by decide +kernel) rfl, yw_t 20 (by decide +kernel) rfl, yw_t 21 (by decide +kernel) rfl⟩ (Nat.le_of_ble_eq_true rfl) (Nat.le_of_ble_eq_true rfl) ?_
  refine zb_aload_n (M := mX5_init) (pc := 4) dX5_init_4 rfl 0 rfl ?_
  refine zb_iconst (M := mX5_init) (pc := 5) dX5_init_5 (v := 5) (by decide) ?_
  refine zb_newa (M := mX5_init) (pc := 6) (atype := .int) (k0 := 0) (t := .int) rfl rfl (fun _ _ h => h) (yw_t 47 (by decide +kernel) rfl) (N' := 5) (a0 := (5, .inl fun _ => 0)) (fun _ => rfl) (by decide) (by decide) (Nat.le_of_ble_eq_true rfl) (Nat.le_of_ble_eq_true rfl) (Nat.le_of_ble_eq_true rfl) dX5_init_6 fun q1 => ?_
  refine zb_put (M := mX5_init) (pc := 8) dX5_init_8 (ci := 5) (N := 6) rfl (k0 := 3) (by decide) in_X5 tyX5_ok nmX5 (yw_t 102 (by decide +kernel) rfl) rfl rfl (tyX5_ok _ (by decide)) rfl rfl (by simp only [List.length_set, List.length_cons, List.length_nil]) ?_
  refine zb_aload_n (M := mX5_init) (pc := 11) dX5_init_11 rfl 0 rfl ?_
  refine zb_bipush (M := mX5_init) (pc := 12) dX5_init_12 (v := 80) (by decide) ?_
  refine zb_newa (M := mX5_init) (pc := 14) (atype := .byte) (k0 := 1) (t := .byte) rfl rfl (fun _ _ h => h) (yw_t 119 (by decide +kernel) rfl) (N' := 80) (a0 := (80, .inl fun _ => 0)) (fun _ => rfl) (by decide) (by decide) (Nat.le_of_ble_eq_true rfl) (Nat.le_of_ble_eq_true rfl) (Nat.le_of_ble_eq_true rfl) dX5_init_14 fun q2 => ?_
  refine zb_put (M := mX5_init) (pc := 16) dX5_init_16 (ci := 5) (N := 6) rfl (k0 := 5) (by decide) in_X5 tyX5_ok nmX5 (yw_t 105 (by decide +kernel) rfl) rfl rfl (tyX5_ok _ (by decide)) rfl rfl (by simp only [List.length_set, List.length_cons, List.length_nil]) ?_
  exact zb_ret (M := mX5_init) (pc := 19) dX5_init_19 (Nat.le_of_ble_eq_true rfl) (Nat.le_of_ble_eq_true rfl) ⟨fun k => [h0, q1, q2].getD k 0, rfl, rfl⟩
theorem okb_X5_init : zb_ok mX5_init 0 := ⟨⟨yw_t 94 (by decide +kernel) rfl, yw_t 6 (by decide +kernel) rfl, ⟨by decide, by decide, by decide +kernel⟩, by decide, by decide⟩, rfl, yw_t 93 (by decide +kernel) rfl, rfl⟩
set_option maxRecDepth 100000 in
set_option maxHeartbeats 4000000 in
theorem zi_X6 : zb_K mX6_init { frames := 1, cells := 7, slots := 526, locals := 12 } 6 [.int 0, .null, .null, .null, .null, .null, .null, .null] [] (zi_q (zb_k [.inl (6, [none, some 1, some 2, some 3, some 4, some 5, some 6, some 7]), .inr (0, 85), .inr (0, 85), .inr (0, 85), .inr (0, 85), .inr (2, 85), .inr (0, 85), .inr (0, 16)]) 8 1000) := by
  refine zb_met (by decide) rfl rfl (fun _ => Nat.le_of_ble_eq_true rfl) fun G ca h0 => ?_
  refine zb_aload_n (M := mX6_init) (pc := 0) dX6_init_0 rfl 0 rfl ?_
  refine zb_obj (M := mX6_init) (pc := 1) dX6_init_1 ⟨yw_t 125 (by decide +kernel) rfl, yw_t 20 (by decide +kernel) rfl, yw_t 21 (by decide +kernel) rfl⟩ (Nat.le_of_ble_eq_true rfl) (Nat.le_of_ble_eq_true rfl) ?_
  refine zb_aload_n (M := mX6_init) (pc := 4) dX6_init_4 rfl 0 rfl ?_
  refine zb_bipush (M := mX6_init) (pc := 5) dX6_init_5 (v := 85) (by decide) ?_
  refine zb_newa (M := mX6_init) (pc := 7) (atype := .int) (k0 := 0) (t := .int) rfl rfl (fun _ _ h => h) (yw_t 47 (by decide +kernel) rfl) (N' := 85) (a0 := (85, .inl fun _ => 0)) (fun _ => rfl) (by decide) (by decide) (Nat.le_of_ble_eq_true rfl) (Nat.le_of_ble_eq_true rfl) (Nat.le_of_ble_eq_true rfl) dX6_init_7 fun q1 => ?_
  refine zb_put (M := mX6_init) (pc := 9) dX6_init_9 (ci := 6) (N := 8) rfl (k0 := 1) (by decide) in_X6 tyX6_ok nmX6 (yw_t 127 (by decide +kernel) rfl) rfl rfl (tyX6_ok _ (by decide)) rfl rfl (by simp only [List.length_set, List.length_cons, List.length_nil]) ?_
  refine zb_aload_n (M := mX6_init) (pc := 12) dX6_init_12 rfl 0 rfl ?_
  refine zb_bipush (M := mX6_init) (pc := 13) dX6_init_13 (v := 85) (by decide) ?_
  refine zb_newa (M := mX6_init) (pc := 15) (atype := .int) (k0 := 0) (t := .int) rfl rfl (fun _ _ h => h) (yw_t 47 (by decide +kernel) rfl) (N' := 85) (a0 := (85, .inl fun _ => 0)) (fun _ => rfl) (by decide) (by decide) (Nat.le_of_ble_eq_true rfl) (Nat.le_of_ble_eq_true rfl) (Nat.le_of_ble_eq_true rfl) dX6_init_15 fun q2 => ?_
  refine zb_put (M := mX6_init) (pc := 17) dX6_init_17 (ci := 6) (N := 8) rfl (k0 := 2) (by decide) in_X6 tyX6_ok nmX6 (yw_t 128 (by decide +kernel) rfl) rfl rfl (tyX6_ok _ (by decide)) rfl rfl (by simp only [List.length_set, List.length_cons, List.length_nil]) ?_
  refine zb_aload_n (M := mX6_init) (pc := 20) dX6_init_20 rfl 0 rfl ?_
  refine zb_bipush (M := mX6_init) (pc := 21) dX6_init_21 (v := 85) (by decide) ?_
  refine zb_newa (M := mX6_init) (pc := 23) (atype := .int) (k0 := 0) (t := .int) rfl rfl (fun _ _ h => h) (yw_t 47 (by decide +kernel) rfl) (N' := 85) (a0 := (85, .inl fun _ => 0)) (fun _ => rfl) (by decide) (by decide) (Nat.le_of_ble_eq_true rfl) (Nat.le_of_ble_eq_true rfl) (Nat.le_of_ble_eq_true rfl) dX6_init_23 fun q3 => ?_
  refine zb_put (M := mX6_init) (pc := 25) dX6_init_25 (ci := 6) (N := 8) rfl (k0 := 3) (by decide) in_X6 tyX6_ok nmX6 (yw_t 129 (by decide +kernel) rfl) rfl rfl (tyX6_ok _ (by decide)) rfl rfl (by simp only [List.length_set, List.length_cons, List.length_nil]) ?_
  refine zb_aload_n (M := mX6_init) (pc := 28) dX6_init_28 rfl 0 rfl ?_
  refine zb_bipush (M := mX6_init) (pc := 29) dX6_init_29 (v := 85) (by decide) ?_
  refine zb_newa (M := mX6_init) (pc := 31) (atype := .int) (k0 := 0) (t := .int) rfl rfl (fun _ _ h => h) (yw_t 47 (by decide +kernel) rfl) (N' := 85) (a0 := (85, .inl fun _ => 0)) (fun _ => rfl) (by decide) (by decide) (Nat.le_of_ble_eq_true rfl) (Nat.le_of_ble_eq_true rfl) (Nat.le_of_ble_eq_true rfl) dX6_init_31 fun q4 => ?_
  refine zb_put (M := mX6_init) (pc := 33) dX6_init_33 (ci := 6) (N := 8) rfl (k0 := 4) (by decide) in_X6 tyX6_ok nmX6 (yw_t 130 (by decide +kernel) rfl) rfl rfl (tyX6_ok _ (by decide)) rfl rfl (by simp only [List.length_set, List.length_cons, List.length_nil]) ?_
  refine zb_aload_n (M := mX6_init) (pc := 36) dX6_init_36 rfl 0 rfl ?_
  refine zb_bipush (M := mX6_init) (pc := 37) dX6_init_37 (v := 85) (by decide) ?_
  refine zb_newa (M := mX6_init) (pc := 39) (atype := .boolean) (k0 := 2) (t := .boolean) rfl rfl (fun _ _ h => h) (yw_t 151 (by decide +kernel) rfl) (N' := 85) (a0 := (85, .inl fun _ => 0)) (fun _ => rfl) (by decide) (by decide) (Nat.le_of_ble_eq_true rfl) (Nat.le_of_ble_eq_true rfl) (Nat.le_of_ble_eq_true rfl) dX6_init_39 fun q5 => ?_
  refine zb_put (M := mX6_init) (pc := 41) dX6_init_41 (ci := 6) (N := 8) rfl (k0 := 5) (by decide) in_X6 tyX6_ok nmX6 (yw_t 131 (by decide +kernel) rfl) rfl rfl (tyX6_ok _ (by decide)) rfl rfl (by simp only [List.length_set, List.length_cons, List.length_nil]) ?_
  refine zb_aload_n (M := mX6_init) (pc := 44) dX6_init_44 rfl 0 rfl ?_
  refine zb_bipush (M := mX6_init) (pc := 45) dX6_init_45 (v := 85) (by decide) ?_
  refine zb_newa (M := mX6_init) (pc := 47) (atype := .int) (k0 := 0) (t := .int) rfl rfl (fun _ _ h => h) (yw_t 47 (by decide +kernel) rfl) (N' := 85) (a0 := (85, .inl fun _ => 0)) (fun _ => rfl) (by decide) (by decide) (Nat.le_of_ble_eq_true rfl) (Nat.le_of_ble_eq_true rfl) (Nat.le_of_ble_eq_true rfl) dX6_init_47 fun q6 => ?_
  refine zb_put (M := mX6_init) (pc := 49) dX6_init_49 (ci := 6) (N := 8) rfl (k0 := 6) (by decide) in_X6 tyX6_ok nmX6 (yw_t 132 (by decide +kernel) rfl) rfl rfl (tyX6_ok _ (by decide)) rfl rfl (by simp only [List.length_set, List.length_cons, List.length_nil]) ?_
  refine zb_aload_n (M := mX6_init) (pc := 52) dX6_init_52 rfl 0 rfl ?_
  refine zb_bipush (M := mX6_init) (pc := 53) dX6_init_53 (v := 16) (by decide) ?_
  refine zb_newa (M := mX6_init) (pc := 55) (atype := .int) (k0 := 0) (t := .int) rfl rfl (fun _ _ h => h) (yw_t 47 (by decide +kernel) rfl) (N' := 16) (a0 := (16, .inl fun _ => 0)) (fun _ => rfl) (by decide) (by decide) (Nat.le_of_ble_eq_true rfl) (Nat.le_of_ble_eq_true rfl) (Nat.le_of_ble_eq_true rfl) dX6_init_55 fun q7 => ?_
  refine zb_put (M := mX6_init) (pc := 57) dX6_init_57 (ci := 6) (N := 8) rfl (k0 := 7) (by decide) in_X6 tyX6_ok nmX6 (yw_t 133 (by decide +kernel) rfl) rfl rfl (tyX6_ok _ (by decide)) rfl rfl (by simp only [List.length_set, List.length_cons, List.length_nil]) ?_
  exact zb_ret (M := mX6_init) (pc := 60) dX6_init_60 (Nat.le_of_ble_eq_true rfl) (Nat.le_of_ble_eq_true rfl) ⟨fun k => [h0, q1, q2, q3, q4, q5, q6, q7].getD k 0, rfl, rfl⟩
theorem okb_X6_init : zb_ok mX6_init 0 := ⟨⟨yw_t 124 (by decide +kernel) rfl, yw_t 7 (by decide +kernel) rfl, ⟨by decide, by decide, by decide +kernel⟩, by decide, by decide⟩, rfl, yw_t 123 (by decide +kernel) rfl, rfl⟩
set_option maxRecDepth 100000 in
set_option maxHeartbeats 4000000 in
theorem zi_X2 : zb_K mX2_init { frames := 1, cells := 1, slots := 3, locals := 12 } 2 [.int 0, .int 0, .null] [] (zi_q (zb_k [.inl (2, [none, none, some 1]), .inr (0, 3)]) 2 1000) := by
  refine zb_met (by decide) rfl rfl (fun _ => Nat.le_of_ble_eq_true rfl) fun G ca h0 => ?_
  refine zb_aload_n (M := mX2_init) (pc := 0) dX2_init_0 rfl 0 rfl ?_
  refine zb_obj (M := mX2_init) (pc := 1) dX2_init_1 ⟨yw_t 157 (by decide +kernel) rfl, yw_t 20 (by decide +kernel) rfl, yw_t 21 (by decide +kernel) rfl⟩ (Nat.le_of_ble_eq_true rfl) (Nat.le_of_ble_eq_true rfl) ?_
  refine zb_aload_n (M := mX2_init) (pc := 4) dX2_init_4 rfl 0 rfl ?_
  refine zb_iconst (M := mX2_init) (pc := 5) dX2_init_5 (v := 3) (by decide) ?_
  refine zb_newa (M := mX2_init) (pc := 6) (atype := .int) (k0 := 0) (t := .int) rfl rfl (fun _ _ h => h) (yw_t 47 (by decide +kernel) rfl) (N' := 3) (a0 := (3, .inl fun _ => 0)) (fun _ => rfl) (by decide) (by decide) (Nat.le_of_ble_eq_true rfl) (Nat.le_of_ble_eq_true rfl) (Nat.le_of_ble_eq_true rfl) dX2_init_6 fun q1 => ?_
  refine zb_put (M := mX2_init) (pc := 8) dX2_init_8 (ci := 2) (N := 3) rfl (k0 := 2) (by decide) in_X2 tyX2_ok nmX2 (yw_t 161 (by decide +kernel) rfl) rfl rfl (tyX2_ok _ (by decide)) rfl rfl (by simp only [List.length_set, List.length_cons, List.length_nil]) ?_
  exact zb_ret (M := mX2_init) (pc := 11) dX2_init_11 (Nat.le_of_ble_eq_true rfl) (Nat.le_of_ble_eq_true rfl) ⟨fun k => [h0, q1].getD k 0, rfl, rfl⟩
theorem okb_X2_init : zb_ok mX2_init 0 := ⟨⟨yw_t 156 (by decide +kernel) rfl, yw_t 8 (by decide +kernel) rfl, ⟨by decide, by decide, by decide +kernel⟩, by decide, by decide⟩, rfl, yw_t 155 (by decide +kernel) rfl, rfl⟩
set_option maxRecDepth 100000 in
set_option maxHeartbeats 4000000 in
theorem zi_X4 : zb_K mX4_init { frames := 1, cells := 2, slots := 264, locals := 12 } 4 [.int 0, .null, .null] [] (zi_q (zb_k [.inl (4, [none, some 1, some 2]), .inr (0, 8), .inr (0, 256)]) 3 1000) := by
  refine zb_met (by decide) rfl rfl (fun _ => Nat.le_of_ble_eq_true rfl) fun G ca h0 => ?_
  refine zb_aload_n (M := mX4_init) (pc := 0) dX4_init_0 rfl 0 rfl ?_
  refine zb_obj (M := mX4_init) (pc := 1) dX4_init_1 ⟨yw_t 174 (by decide +kernel) rfl, yw_t 20 (by decide +kernel) rfl, yw_t 21 (by decide +kernel) rfl⟩ (Nat.le_of_ble_eq_true rfl) (Nat.le_of_ble_eq_true rfl) ?_
  refine zb_aload_n (M := mX4_init) (pc := 4) dX4_init_4 rfl 0 rfl ?_
  refine zb_bipush (M := mX4_init) (pc := 5) dX4_init_5 (v := 8) (by decide) ?_
  refine zb_newa (M := mX4_init) (pc := 7) (atype := .int) (k0 := 0) (t := .int) rfl rfl (fun _ _ h => h) (yw_t 47 (by decide +kernel) rfl) (N' := 8) (a0 := (8, .inl fun _ => 0)) (fun _ => rfl) (by decide) (by decide) (Nat.le_of_ble_eq_true rfl) (Nat.le_of_ble_eq_true rfl) (Nat.le_of_ble_eq_true rfl) dX4_init_7 fun q1 => ?_
  refine zb_put (M := mX4_init) (pc := 9) dX4_init_9 (ci := 4) (N := 3) rfl (k0 := 1) (by decide) in_X4 tyX4_ok nmX4 (yw_t 177 (by decide +kernel) rfl) rfl rfl (tyX4_ok _ (by decide)) rfl rfl (by simp only [List.length_set, List.length_cons, List.length_nil]) ?_
  refine zb_aload_n (M := mX4_init) (pc := 12) dX4_init_12 rfl 0 rfl ?_
  refine zb_sipush (M := mX4_init) (pc := 13) dX4_init_13 (v := 256) (by decide) ?_
  refine zb_newa (M := mX4_init) (pc := 16) (atype := .int) (k0 := 0) (t := .int) rfl rfl (fun _ _ h => h) (yw_t 47 (by decide +kernel) rfl) (N' := 256) (a0 := (256, .inl fun _ => 0)) (fun _ => rfl) (by decide) (by decide) (Nat.le_of_ble_eq_true rfl) (Nat.le_of_ble_eq_true rfl) (Nat.le_of_ble_eq_true rfl) dX4_init_16 fun q2 => ?_
  refine zb_put (M := mX4_init) (pc := 18) dX4_init_18 (ci := 4) (N := 3) rfl (k0 := 2) (by decide) in_X4 tyX4_ok nmX4 (yw_t 179 (by decide +kernel) rfl) rfl rfl (tyX4_ok _ (by decide)) rfl rfl (by simp only [List.length_set, List.length_cons, List.length_nil]) ?_
  exact zb_ret (M := mX4_init) (pc := 21) dX4_init_21 (Nat.le_of_ble_eq_true rfl) (Nat.le_of_ble_eq_true rfl) ⟨fun k => [h0, q1, q2].getD k 0, rfl, rfl⟩
theorem okb_X4_init : zb_ok mX4_init 0 := ⟨⟨yw_t 173 (by decide +kernel) rfl, yw_t 9 (by decide +kernel) rfl, ⟨by decide, by decide, by decide +kernel⟩, by decide, by decide⟩, rfl, yw_t 172 (by decide +kernel) rfl, rfl⟩
set_option maxRecDepth 100000 in
set_option maxHeartbeats 4000000 in
theorem zi_X0 : zb_K mX0_init { frames := 2, cells := 7, slots := 247, locals := 33 } 0 [.null, .null, .null] [] (zi_q (zb_k [.inl (0, [some 1, some 4, some 6]), .inl (7, [none, some 2, some 3]), .inr (0, 128), .inr (0, 64), .inl (1, [none, some 5]), .inr (0, 24), .inl (1, [none, some 7]), .inr (0, 24)]) 8 1000) := by
  refine zb_met (by decide) rfl rfl (fun _ => Nat.le_of_ble_eq_true rfl) fun G ca h0 => ?_
  refine zb_aload_n (M := mX0_init) (pc := 0) dX0_init_0 rfl 0 rfl ?_
  refine zb_obj (M := mX0_init) (pc := 1) dX0_init_1 ⟨yw_t 27 (by decide +kernel) rfl, yw_t 20 (by decide +kernel) rfl, yw_t 21 (by decide +kernel) rfl⟩ (Nat.le_of_ble_eq_true rfl) (Nat.le_of_ble_eq_true rfl) ?_
  refine zb_aload_n (M := mX0_init) (pc := 4) dX0_init_4 rfl 0 rfl ?_
  refine zb_new (M := mX0_init) (pc := 5) dX0_init_5 (ci := 7) (fs := [.int 0, .null, .null]) rfl in_X7 tyX7_ok (yw_t 28 (by decide +kernel) rfl) (yw_t 29 (by decide +kernel) rfl) (yw_t 3 (by decide +kernel) rfl) (fun j hj => by rcases (show j = 0 ∨ j = 1 ∨ j = 2 by omega) with rfl | rfl | rfl <;> rfl) (Nat.le_of_ble_eq_true rfl) (Nat.le_of_ble_eq_true rfl) fun q1 => ?_
  refine zb_dup (M := mX0_init) (pc := 8) dX0_init_8 rfl ?_
  refine zb_call (M := mX0_init) (pc := 9) zi_X7 okb_X7_init (Or.inr ⟨"YarnPlier", by decide +kernel⟩) ⟨Nat.le_of_ble_eq_true rfl, Nat.le_of_ble_eq_true rfl⟩ dX0_init_9 (st := [.ref q1, .ref h0]) (Nat.le_of_ble_eq_true rfl) ⟨Nat.le_of_ble_eq_true rfl, Nat.le_of_ble_eq_true rfl⟩ rfl fun w1 hw1 => ?_
  obtain ⟨u1, rfl, rfl⟩ := hw1
  refine zb_put (M := mX0_init) (pc := 12) dX0_init_12 (ci := 0) (N := 3) rfl (k0 := 0) (by decide) in_X0 tyX0_ok nmX0 (yw_t 62 (by decide +kernel) rfl) rfl rfl (tyX0_ok _ (by decide)) rfl rfl (by simp only [List.length_set, List.length_cons, List.length_nil]) ?_
  refine zb_aload_n (M := mX0_init) (pc := 15) dX0_init_15 rfl 0 rfl ?_
  refine zb_new (M := mX0_init) (pc := 16) dX0_init_16 (ci := 1) (fs := [.int 0, .null]) rfl in_X1 tyX1_ok (yw_t 48 (by decide +kernel) rfl) (yw_t 49 (by decide +kernel) rfl) (yw_t 4 (by decide +kernel) rfl) (fun j hj => by rcases (show j = 0 ∨ j = 1 by omega) with rfl | rfl <;> rfl) (Nat.le_of_ble_eq_true rfl) (Nat.le_of_ble_eq_true rfl) fun q2 => ?_
  refine zb_dup (M := mX0_init) (pc := 19) dX0_init_19 rfl ?_
  refine zb_bipush (M := mX0_init) (pc := 20) dX0_init_20 (v := 8) (by decide) ?_
  refine zb_call (M := mX0_init) (pc := 22) (zi_X1 8 24 (by decide) (by decide) (Nat.le_of_ble_eq_true rfl)) okb_X1_init (Or.inl (yw_t 50 (by decide +kernel) rfl)) ⟨Nat.le_of_ble_eq_true rfl, Nat.le_of_ble_eq_true rfl⟩ dX0_init_22 (st := [.ref q2, .ref h0]) (Nat.le_of_ble_eq_true rfl) ⟨Nat.le_of_ble_eq_true rfl, Nat.le_of_ble_eq_true rfl⟩ rfl fun w2 hw2 => ?_
  obtain ⟨u2, rfl, rfl⟩ := hw2
  refine zb_put (M := mX0_init) (pc := 25) dX0_init_25 (ci := 0) (N := 3) rfl (k0 := 1) (by decide) in_X0 tyX0_ok nmX0 (yw_t 64 (by decide +kernel) rfl) rfl rfl (tyX0_ok _ (by decide)) rfl rfl (by simp only [List.length_set, List.length_cons, List.length_nil]) ?_
  refine zb_aload_n (M := mX0_init) (pc := 28) dX0_init_28 rfl 0 rfl ?_
  refine zb_new (M := mX0_init) (pc := 29) dX0_init_29 (ci := 1) (fs := [.int 0, .null]) rfl in_X1 tyX1_ok (yw_t 48 (by decide +kernel) rfl) (yw_t 49 (by decide +kernel) rfl) (yw_t 4 (by decide +kernel) rfl) (fun j hj => by rcases (show j = 0 ∨ j = 1 by omega) with rfl | rfl <;> rfl) (Nat.le_of_ble_eq_true rfl) (Nat.le_of_ble_eq_true rfl) fun q3 => ?_
  refine zb_dup (M := mX0_init) (pc := 32) dX0_init_32 rfl ?_
  refine zb_bipush (M := mX0_init) (pc := 33) dX0_init_33 (v := 8) (by decide) ?_
  refine zb_call (M := mX0_init) (pc := 35) (zi_X1 8 24 (by decide) (by decide) (Nat.le_of_ble_eq_true rfl)) okb_X1_init (Or.inl (yw_t 50 (by decide +kernel) rfl)) ⟨Nat.le_of_ble_eq_true rfl, Nat.le_of_ble_eq_true rfl⟩ dX0_init_35 (st := [.ref q3, .ref h0]) (Nat.le_of_ble_eq_true rfl) ⟨Nat.le_of_ble_eq_true rfl, Nat.le_of_ble_eq_true rfl⟩ rfl fun w3 hw3 => ?_
  obtain ⟨u3, rfl, rfl⟩ := hw3
  refine zb_put (M := mX0_init) (pc := 38) dX0_init_38 (ci := 0) (N := 3) rfl (k0 := 2) (by decide) in_X0 tyX0_ok nmX0 (yw_t 66 (by decide +kernel) rfl) rfl rfl (tyX0_ok _ (by decide)) rfl rfl (by simp only [List.length_set, List.length_cons, List.length_nil]) ?_
  exact zb_ret (M := mX0_init) (pc := 41) dX0_init_41 (Nat.le_of_ble_eq_true rfl) (Nat.le_of_ble_eq_true rfl) ⟨fun k => [h0, u1 0, u1 1, u1 2, u2 0, u2 1, u3 0, u3 1].getD k 0, rfl, rfl⟩
theorem okb_X0_init : zb_ok mX0_init 0 := ⟨⟨yw_t 26 (by decide +kernel) rfl, yw_t 2 (by decide +kernel) rfl, ⟨by decide, by decide, by decide +kernel⟩, by decide, by decide⟩, rfl, yw_t 25 (by decide +kernel) rfl, rfl⟩
