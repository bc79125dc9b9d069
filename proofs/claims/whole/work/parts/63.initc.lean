set_option maxRecDepth 100000 in
set_option maxHeartbeats 4000000 in
theorem zi_X8 : zb_K mX8_init { frames := 3, cells := 40, slots := 1603, locals := 53 } 8 [.null, .null, .int 0, .null, .int 0, .null, .null, .null, .null, .null, .null, .null, .null] [] (zi_q zKC 41 22) := by
  refine zb_met (by decide) rfl rfl (fun _ => Nat.le_of_ble_eq_true rfl) fun G ca h0 => ?_
  refine zb_aload_n (M := mX8_init) (pc := 0) dX8_init_0 rfl 0 rfl ?_
  refine zb_obj (M := mX8_init) (pc := 1) dX8_init_1 ⟨yw_t 19 (by decide +kernel) rfl, yw_t 20 (by decide +kernel) rfl, yw_t 21 (by decide +kernel) rfl⟩ (Nat.le_of_ble_eq_true rfl) (Nat.le_of_ble_eq_true rfl) ?_
  refine zb_aload_n (M := mX8_init) (pc := 4) dX8_init_4 rfl 0 rfl ?_
  refine zb_new (M := mX8_init) (pc := 5) dX8_init_5 (ci := 0) (fs := [.null, .null, .null]) rfl in_X0 tyX0_ok (yw_t 22 (by decide +kernel) rfl) (yw_t 23 (by decide +kernel) rfl) (yw_t 2 (by decide +kernel) rfl) (fun j hj => by rcases (show j = 0 ∨ j = 1 ∨ j = 2 by omega) with rfl | rfl | rfl <;> rfl) (Nat.le_of_ble_eq_true rfl) (Nat.le_of_ble_eq_true rfl) fun q1 => ?_
  refine zb_dup (M := mX8_init) (pc := 8) dX8_init_8 rfl ?_
  refine zb_call (M := mX8_init) (pc := 9) zi_X0 okb_X0_init (Or.inr ⟨"YarnPlier", by decide +kernel⟩) ⟨Nat.le_of_ble_eq_true rfl, Nat.le_of_ble_eq_true rfl⟩ dX8_init_9 (st := [.ref q1, .ref h0]) (Nat.le_of_ble_eq_true rfl) ⟨Nat.le_of_ble_eq_true rfl, Nat.le_of_ble_eq_true rfl⟩ rfl fun w1 hw1 => ?_
  obtain ⟨u1, rfl, rfl⟩ := hw1
  refine zb_put (M := mX8_init) (pc := 12) dX8_init_12 (ci := 8) (N := 13) rfl (k0 := 0) (by decide) in_X8 tyX8_ok nmX8 (yw_t 187 (by decide +kernel) rfl) rfl rfl (tyX8_ok _ (by decide)) rfl rfl (by simp only [List.length_set, List.length_cons, List.length_nil]) ?_
  refine zb_aload_n (M := mX8_init) (pc := 15) dX8_init_15 rfl 0 rfl ?_
  refine zb_new (M := mX8_init) (pc := 16) dX8_init_16 (ci := 0) (fs := [.null, .null, .null]) rfl in_X0 tyX0_ok (yw_t 22 (by decide +kernel) rfl) (yw_t 23 (by decide +kernel) rfl) (yw_t 2 (by decide +kernel) rfl) (fun j hj => by rcases (show j = 0 ∨ j = 1 ∨ j = 2 by omega) with rfl | rfl | rfl <;> rfl) (Nat.le_of_ble_eq_true rfl) (Nat.le_of_ble_eq_true rfl) fun q2 => ?_
  refine zb_dup (M := mX8_init) (pc := 19) dX8_init_19 rfl ?_
  refine zb_call (M := mX8_init) (pc := 20) zi_X0 okb_X0_init (Or.inr ⟨"YarnPlier", by decide +kernel⟩) ⟨Nat.le_of_ble_eq_true rfl, Nat.le_of_ble_eq_true rfl⟩ dX8_init_20 (st := [.ref q2, .ref h0]) (Nat.le_of_ble_eq_true rfl) ⟨Nat.le_of_ble_eq_true rfl, Nat.le_of_ble_eq_true rfl⟩ rfl fun w2 hw2 => ?_
  obtain ⟨u2, rfl, rfl⟩ := hw2
  refine zb_put (M := mX8_init) (pc := 23) dX8_init_23 (ci := 8) (N := 13) rfl (k0 := 1) (by decide) in_X8 tyX8_ok nmX8 (yw_t 188 (by decide +kernel) rfl) rfl rfl (tyX8_ok _ (by decide)) rfl rfl (by simp only [List.length_set, List.length_cons, List.length_nil]) ?_
  refine zb_aload_n (M := mX8_init) (pc := 26) dX8_init_26 rfl 0 rfl ?_
  refine zb_iconst (M := mX8_init) (pc := 27) dX8_init_27 (v := 4) (by decide) ?_
  refine zb_newa (M := mX8_init) (pc := 28) (atype := .int) (k0 := 0) (t := .int) rfl rfl (fun _ _ h => h) (yw_t 47 (by decide +kernel) rfl) (N' := 4) (a0 := (4, .inl fun _ => 0)) (fun _ => rfl) (by decide) (by decide) (Nat.le_of_ble_eq_true rfl) (Nat.le_of_ble_eq_true rfl) (Nat.le_of_ble_eq_true rfl) dX8_init_28 fun q3 => ?_
  refine zb_put (M := mX8_init) (pc := 30) dX8_init_30 (ci := 8) (N := 13) rfl (k0 := 3) (by decide) in_X8 tyX8_ok nmX8 (yw_t 190 (by decide +kernel) rfl) rfl rfl (tyX8_ok _ (by decide)) rfl rfl (by simp only [List.length_set, List.length_cons, List.length_nil]) ?_
  refine zb_aload_n (M := mX8_init) (pc := 33) dX8_init_33 rfl 0 rfl ?_
  refine zb_new (M := mX8_init) (pc := 34) dX8_init_34 (ci := 1) (fs := [.int 0, .null]) rfl in_X1 tyX1_ok (yw_t 75 (by decide +kernel) rfl) (yw_t 49 (by decide +kernel) rfl) (yw_t 4 (by decide +kernel) rfl) (fun j hj => by rcases (show j = 0 ∨ j = 1 by omega) with rfl | rfl <;> rfl) (Nat.le_of_ble_eq_true rfl) (Nat.le_of_ble_eq_true rfl) fun q4 => ?_
  refine zb_dup (M := mX8_init) (pc := 37) dX8_init_37 rfl ?_
  refine zb_bipush (M := mX8_init) (pc := 38) dX8_init_38 (v := 10) (by decide) ?_
  refine zb_call (M := mX8_init) (pc := 40) (zi_X1 10 30 (by decide) (by decide) (Nat.le_of_ble_eq_true rfl)) okb_X1_init (Or.inl (yw_t 76 (by decide +kernel) rfl)) ⟨Nat.le_of_ble_eq_true rfl, Nat.le_of_ble_eq_true rfl⟩ dX8_init_40 (st := [.ref q4, .ref h0]) (Nat.le_of_ble_eq_true rfl) ⟨Nat.le_of_ble_eq_true rfl, Nat.le_of_ble_eq_true rfl⟩ rfl fun w3 hw3 => ?_
  obtain ⟨u3, rfl, rfl⟩ := hw3
  refine zb_put (M := mX8_init) (pc := 43) dX8_init_43 (ci := 8) (N := 13) rfl (k0 := 5) (by decide) in_X8 tyX8_ok nmX8 (yw_t 192 (by decide +kernel) rfl) rfl rfl (tyX8_ok _ (by decide)) rfl rfl (by simp only [List.length_set, List.length_cons, List.length_nil]) ?_
  refine zb_aload_n (M := mX8_init) (pc := 46) dX8_init_46 rfl 0 rfl ?_
  refine zb_iconst (M := mX8_init) (pc := 47) dX8_init_47 (v := 4) (by decide) ?_
  refine zb_newa (M := mX8_init) (pc := 48) (atype := .int) (k0 := 0) (t := .int) rfl rfl (fun _ _ h => h) (yw_t 47 (by decide +kernel) rfl) (N' := 4) (a0 := (4, .inl fun _ => 0)) (fun _ => rfl) (by decide) (by decide) (Nat.le_of_ble_eq_true rfl) (Nat.le_of_ble_eq_true rfl) (Nat.le_of_ble_eq_true rfl) dX8_init_48 fun q5 => ?_
  refine zb_put (M := mX8_init) (pc := 50) dX8_init_50 (ci := 8) (N := 13) rfl (k0 := 6) (by decide) in_X8 tyX8_ok nmX8 (yw_t 193 (by decide +kernel) rfl) rfl rfl (tyX8_ok _ (by decide)) rfl rfl (by simp only [List.length_set, List.length_cons, List.length_nil]) ?_
  refine zb_aload_n (M := mX8_init) (pc := 53) dX8_init_53 rfl 0 rfl ?_
  refine zb_new (M := mX8_init) (pc := 54) dX8_init_54 (ci := 3) (fs := [.null, .null]) rfl in_X3 tyX3_ok (yw_t 77 (by decide +kernel) rfl) (yw_t 78 (by decide +kernel) rfl) (yw_t 5 (by decide +kernel) rfl) (fun j hj => by rcases (show j = 0 ∨ j = 1 by omega) with rfl | rfl <;> rfl) (Nat.le_of_ble_eq_true rfl) (Nat.le_of_ble_eq_true rfl) fun q6 => ?_
  refine zb_dup (M := mX8_init) (pc := 57) dX8_init_57 rfl ?_
  refine zb_call (M := mX8_init) (pc := 58) zi_X3 okb_X3_init (Or.inr ⟨"YarnPlier", by decide +kernel⟩) ⟨Nat.le_of_ble_eq_true rfl, Nat.le_of_ble_eq_true rfl⟩ dX8_init_58 (st := [.ref q6, .ref h0]) (Nat.le_of_ble_eq_true rfl) ⟨Nat.le_of_ble_eq_true rfl, Nat.le_of_ble_eq_true rfl⟩ rfl fun w4 hw4 => ?_
  obtain ⟨u4, rfl, rfl⟩ := hw4
  refine zb_put (M := mX8_init) (pc := 61) dX8_init_61 (ci := 8) (N := 13) rfl (k0 := 7) (by decide) in_X8 tyX8_ok nmX8 (yw_t 194 (by decide +kernel) rfl) rfl rfl (tyX8_ok _ (by decide)) rfl rfl (by simp only [List.length_set, List.length_cons, List.length_nil]) ?_
  refine zb_aload_n (M := mX8_init) (pc := 64) dX8_init_64 rfl 0 rfl ?_
  refine zb_new (M := mX8_init) (pc := 65) dX8_init_65 (ci := 5) (fs := [.int 0, .int 0, .int 0, .null, .int 0, .null]) rfl in_X5 tyX5_ok (yw_t 90 (by decide +kernel) rfl) (yw_t 91 (by decide +kernel) rfl) (yw_t 6 (by decide +kernel) rfl) (fun j hj => by rcases (show j = 0 ∨ j = 1 ∨ j = 2 ∨ j = 3 ∨ j = 4 ∨ j = 5 by omega) with rfl | rfl | rfl | rfl | rfl | rfl <;> rfl) (Nat.le_of_ble_eq_true rfl) (Nat.le_of_ble_eq_true rfl) fun q7 => ?_
  refine zb_dup (M := mX8_init) (pc := 68) dX8_init_68 rfl ?_
  refine zb_call (M := mX8_init) (pc := 69) zi_X5 okb_X5_init (Or.inr ⟨"YarnPlier", by decide +kernel⟩) ⟨Nat.le_of_ble_eq_true rfl, Nat.le_of_ble_eq_true rfl⟩ dX8_init_69 (st := [.ref q7, .ref h0]) (Nat.le_of_ble_eq_true rfl) ⟨Nat.le_of_ble_eq_true rfl, Nat.le_of_ble_eq_true rfl⟩ rfl fun w5 hw5 => ?_
  obtain ⟨u5, rfl, rfl⟩ := hw5
  refine zb_put (M := mX8_init) (pc := 72) dX8_init_72 (ci := 8) (N := 13) rfl (k0 := 8) (by decide) in_X8 tyX8_ok nmX8 (yw_t 195 (by decide +kernel) rfl) rfl rfl (tyX8_ok _ (by decide)) rfl rfl (by simp only [List.length_set, List.length_cons, List.length_nil]) ?_
  refine zb_aload_n (M := mX8_init) (pc := 75) dX8_init_75 rfl 0 rfl ?_
  refine zb_new (M := mX8_init) (pc := 76) dX8_init_76 (ci := 6) (fs := [.int 0, .null, .null, .null, .null, .null, .null, .null]) rfl in_X6 tyX6_ok (yw_t 120 (by decide +kernel) rfl) (yw_t 121 (by decide +kernel) rfl) (yw_t 7 (by decide +kernel) rfl) (fun j hj => by rcases (show j = 0 ∨ j = 1 ∨ j = 2 ∨ j = 3 ∨ j = 4 ∨ j = 5 ∨ j = 6 ∨ j = 7 by omega) with rfl | rfl | rfl | rfl | rfl | rfl | rfl | rfl <;> rfl) (Nat.le_of_ble_eq_true rfl) (Nat.le_of_ble_eq_true rfl) fun q8 => ?_
  refine zb_dup (M := mX8_init) (pc := 79) dX8_init_79 rfl ?_
  refine zb_call (M := mX8_init) (pc := 80) zi_X6 okb_X6_init (Or.inr ⟨"YarnPlier", by decide +kernel⟩) ⟨Nat.le_of_ble_eq_true rfl, Nat.le_of_ble_eq_true rfl⟩ dX8_init_80 (st := [.ref q8, .ref h0]) (Nat.le_of_ble_eq_true rfl) ⟨Nat.le_of_ble_eq_true rfl, Nat.le_of_ble_eq_true rfl⟩ rfl fun w6 hw6 => ?_
  obtain ⟨u6, rfl, rfl⟩ := hw6
  refine zb_put (M := mX8_init) (pc := 83) dX8_init_83 (ci := 8) (N := 13) rfl (k0 := 9) (by decide) in_X8 tyX8_ok nmX8 (yw_t 196 (by decide +kernel) rfl) rfl rfl (tyX8_ok _ (by decide)) rfl rfl (by simp only [List.length_set, List.length_cons, List.length_nil]) ?_
  refine zb_aload_n (M := mX8_init) (pc := 86) dX8_init_86 rfl 0 rfl ?_
  refine zb_new (M := mX8_init) (pc := 87) dX8_init_87 (ci := 2) (fs := [.int 0, .int 0, .null]) rfl in_X2 tyX2_ok (yw_t 152 (by decide +kernel) rfl) (yw_t 153 (by decide +kernel) rfl) (yw_t 8 (by decide +kernel) rfl) (fun j hj => by rcases (show j = 0 ∨ j = 1 ∨ j = 2 by omega) with rfl | rfl | rfl <;> rfl) (Nat.le_of_ble_eq_true rfl) (Nat.le_of_ble_eq_true rfl) fun q9 => ?_
  refine zb_dup (M := mX8_init) (pc := 90) dX8_init_90 rfl ?_
  refine zb_call (M := mX8_init) (pc := 91) zi_X2 okb_X2_init (Or.inr ⟨"YarnPlier", by decide +kernel⟩) ⟨Nat.le_of_ble_eq_true rfl, Nat.le_of_ble_eq_true rfl⟩ dX8_init_91 (st := [.ref q9, .ref h0]) (Nat.le_of_ble_eq_true rfl) ⟨Nat.le_of_ble_eq_true rfl, Nat.le_of_ble_eq_true rfl⟩ rfl fun w7 hw7 => ?_
  obtain ⟨u7, rfl, rfl⟩ := hw7
  refine zb_put (M := mX8_init) (pc := 94) dX8_init_94 (ci := 8) (N := 13) rfl (k0 := 10) (by decide) in_X8 tyX8_ok nmX8 (yw_t 197 (by decide +kernel) rfl) rfl rfl (tyX8_ok _ (by decide)) rfl rfl (by simp only [List.length_set, List.length_cons, List.length_nil]) ?_
  refine zb_aload_n (M := mX8_init) (pc := 97) dX8_init_97 rfl 0 rfl ?_
  refine zb_new (M := mX8_init) (pc := 98) dX8_init_98 (ci := 4) (fs := [.int 0, .null, .null]) rfl in_X4 tyX4_ok (yw_t 169 (by decide +kernel) rfl) (yw_t 170 (by decide +kernel) rfl) (yw_t 9 (by decide +kernel) rfl) (fun j hj => by rcases (show j = 0 ∨ j = 1 ∨ j = 2 by omega) with rfl | rfl | rfl <;> rfl) (Nat.le_of_ble_eq_true rfl) (Nat.le_of_ble_eq_true rfl) fun q10 => ?_
  refine zb_dup (M := mX8_init) (pc := 101) dX8_init_101 rfl ?_
  refine zb_call (M := mX8_init) (pc := 102) zi_X4 okb_X4_init (Or.inr ⟨"YarnPlier", by decide +kernel⟩) ⟨Nat.le_of_ble_eq_true rfl, Nat.le_of_ble_eq_true rfl⟩ dX8_init_102 (st := [.ref q10, .ref h0]) (Nat.le_of_ble_eq_true rfl) ⟨Nat.le_of_ble_eq_true rfl, Nat.le_of_ble_eq_true rfl⟩ rfl fun w8 hw8 => ?_
  obtain ⟨u8, rfl, rfl⟩ := hw8
  refine zb_put (M := mX8_init) (pc := 105) dX8_init_105 (ci := 8) (N := 13) rfl (k0 := 11) (by decide) in_X8 tyX8_ok nmX8 (yw_t 198 (by decide +kernel) rfl) rfl rfl (tyX8_ok _ (by decide)) rfl rfl (by simp only [List.length_set, List.length_cons, List.length_nil]) ?_
  refine zb_aload_n (M := mX8_init) (pc := 108) dX8_init_108 rfl 0 rfl ?_
  refine zb_bipush (M := mX8_init) (pc := 109) dX8_init_109 (v := 40) (by decide) ?_
  refine zb_newa (M := mX8_init) (pc := 111) (atype := .int) (k0 := 0) (t := .int) rfl rfl (fun _ _ h => h) (yw_t 47 (by decide +kernel) rfl) (N' := 40) (a0 := (40, .inl fun _ => 0)) (fun _ => rfl) (by decide) (by decide) (Nat.le_of_ble_eq_true rfl) (Nat.le_of_ble_eq_true rfl) (Nat.le_of_ble_eq_true rfl) dX8_init_111 fun q11 => ?_
  refine zb_put (M := mX8_init) (pc := 113) dX8_init_113 (ci := 8) (N := 13) rfl (k0 := 12) (by decide) in_X8 tyX8_ok nmX8 (yw_t 199 (by decide +kernel) rfl) rfl rfl (tyX8_ok _ (by decide)) rfl rfl (by simp only [List.length_set, List.length_cons, List.length_nil]) ?_
  exact zb_ret (M := mX8_init) (pc := 116) dX8_init_116 (Nat.le_of_ble_eq_true rfl) (Nat.le_of_ble_eq_true rfl) ⟨fun k => [h0, u1 0, u1 1, u1 2, u1 3, u1 4, u1 5, u1 6, u1 7, u2 0, u2 1, u2 2, u2 3, u2 4, u2 5, u2 6, u2 7, q3, u3 0, u3 1, q5, u4 0, u4 1, u4 2, u5 0, u5 1, u5 2, u6 0, u6 1, u6 2, u6 3, u6 4, u6 5, u6 6, u6 7, u7 0, u7 1, u8 0, u8 1, u8 2, q11].getD k 0, rfl, rfl⟩
theorem okb_X8_init : zb_ok mX8_init 0 := ⟨⟨yw_t 18 (by decide +kernel) rfl, yw_t 1 (by decide +kernel) rfl, ⟨by decide, by decide, by decide +kernel⟩, by decide, by decide⟩, rfl, yw_t 17 (by decide +kernel) rfl, rfl⟩
