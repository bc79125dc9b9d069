set_option maxRecDepth 100000 in
set_option maxHeartbeats 4000000 in
theorem zi_X9 : zb_K mX9_init { frames := 1, cells := 42, slots := 1158, locals := 12 } 9 [.int 0, .null, .null, .null, .null, .null, .null, .int 0, .null, .int 0, .null, .null, .null, .int 0, .null, .null, .int 0, .null, .null, .null, .int 0, .null, .null, .null, .null, .int 0, .int 0, .null, .null, .null, .null, .null, .null, .int 0, .null, .null, .null, .int 0, .null, .null, .int 0, .null, .null, .null, .null, .null, .null, .null, .null, .null, .int 0, .int 0, .int 0, .int 0, .int 0, .null, .null, .null] [] (zi_q zKR 43 17) := by
  refine zb_met (by decide) rfl rfl (fun _ => Nat.le_of_ble_eq_true rfl) fun G ca h0 => ?_
  refine zb_aload_n (M := mX9_init) (pc := 0) dX9_init_0 rfl 0 rfl ?_
  refine zb_obj (M := mX9_init) (pc := 1) dX9_init_1 ⟨yw_t 767 (by decide +kernel) rfl, yw_t 20 (by decide +kernel) rfl, yw_t 21 (by decide +kernel) rfl⟩ (Nat.le_of_ble_eq_true rfl) (Nat.le_of_ble_eq_true rfl) ?_
  refine zb_aload_n (M := mX9_init) (pc := 4) dX9_init_4 rfl 0 rfl ?_
  refine zb_bipush (M := mX9_init) (pc := 5) dX9_init_5 (v := 16) (by decide) ?_
  refine zb_newa (M := mX9_init) (pc := 7) (atype := .int) (k0 := 0) (t := .int) rfl rfl (fun _ _ h => h) (yw_t 47 (by decide +kernel) rfl) (N' := 16) (a0 := (16, .inl fun _ => 0)) (fun _ => rfl) (by decide) (by decide) (Nat.le_of_ble_eq_true rfl) (Nat.le_of_ble_eq_true rfl) (Nat.le_of_ble_eq_true rfl) dX9_init_7 fun q1 => ?_
  refine zb_put (M := mX9_init) (pc := 9) dX9_init_9 (ci := 9) (N := 58) rfl (k0 := 1) (by decide) in_X9 tyX9_ok nmX9 (yw_t 769 (by decide +kernel) rfl) rfl rfl (tyX9_ok _ (by decide)) rfl rfl (by simp only [List.length_set, List.length_cons, List.length_nil]) ?_
  refine zb_aload_n (M := mX9_init) (pc := 12) dX9_init_12 rfl 0 rfl ?_
  refine zb_bipush (M := mX9_init) (pc := 13) dX9_init_13 (v := 64) (by decide) ?_
  refine zb_newa (M := mX9_init) (pc := 15) (atype := .int) (k0 := 0) (t := .int) rfl rfl (fun _ _ h => h) (yw_t 47 (by decide +kernel) rfl) (N' := 64) (a0 := (64, .inl fun _ => 0)) (fun _ => rfl) (by decide) (by decide) (Nat.le_of_ble_eq_true rfl) (Nat.le_of_ble_eq_true rfl) (Nat.le_of_ble_eq_true rfl) dX9_init_15 fun q2 => ?_
  refine zb_put (M := mX9_init) (pc := 17) dX9_init_17 (ci := 9) (N := 58) rfl (k0 := 2) (by decide) in_X9 tyX9_ok nmX9 (yw_t 770 (by decide +kernel) rfl) rfl rfl (tyX9_ok _ (by decide)) rfl rfl (by simp only [List.length_set, List.length_cons, List.length_nil]) ?_
  refine zb_aload_n (M := mX9_init) (pc := 20) dX9_init_20 rfl 0 rfl ?_
  refine zb_bipush (M := mX9_init) (pc := 21) dX9_init_21 (v := 16) (by decide) ?_
  refine zb_newa (M := mX9_init) (pc := 23) (atype := .int) (k0 := 0) (t := .int) rfl rfl (fun _ _ h => h) (yw_t 47 (by decide +kernel) rfl) (N' := 16) (a0 := (16, .inl fun _ => 0)) (fun _ => rfl) (by decide) (by decide) (Nat.le_of_ble_eq_true rfl) (Nat.le_of_ble_eq_true rfl) (Nat.le_of_ble_eq_true rfl) dX9_init_23 fun q3 => ?_
  refine zb_put (M := mX9_init) (pc := 25) dX9_init_25 (ci := 9) (N := 58) rfl (k0 := 3) (by decide) in_X9 tyX9_ok nmX9 (yw_t 771 (by decide +kernel) rfl) rfl rfl (tyX9_ok _ (by decide)) rfl rfl (by simp only [List.length_set, List.length_cons, List.length_nil]) ?_
  refine zb_aload_n (M := mX9_init) (pc := 28) dX9_init_28 rfl 0 rfl ?_
  refine zb_bipush (M := mX9_init) (pc := 29) dX9_init_29 (v := 16) (by decide) ?_
  refine zb_newa (M := mX9_init) (pc := 31) (atype := .int) (k0 := 0) (t := .int) rfl rfl (fun _ _ h => h) (yw_t 47 (by decide +kernel) rfl) (N' := 16) (a0 := (16, .inl fun _ => 0)) (fun _ => rfl) (by decide) (by decide) (Nat.le_of_ble_eq_true rfl) (Nat.le_of_ble_eq_true rfl) (Nat.le_of_ble_eq_true rfl) dX9_init_31 fun q4 => ?_
  refine zb_put (M := mX9_init) (pc := 33) dX9_init_33 (ci := 9) (N := 58) rfl (k0 := 4) (by decide) in_X9 tyX9_ok nmX9 (yw_t 772 (by decide +kernel) rfl) rfl rfl (tyX9_ok _ (by decide)) rfl rfl (by simp only [List.length_set, List.length_cons, List.length_nil]) ?_
  refine zb_aload_n (M := mX9_init) (pc := 36) dX9_init_36 rfl 0 rfl ?_
  refine zb_bipush (M := mX9_init) (pc := 37) dX9_init_37 (v := 16) (by decide) ?_
  refine zb_newa (M := mX9_init) (pc := 39) (atype := .int) (k0 := 0) (t := .int) rfl rfl (fun _ _ h => h) (yw_t 47 (by decide +kernel) rfl) (N' := 16) (a0 := (16, .inl fun _ => 0)) (fun _ => rfl) (by decide) (by decide) (Nat.le_of_ble_eq_true rfl) (Nat.le_of_ble_eq_true rfl) (Nat.le_of_ble_eq_true rfl) dX9_init_39 fun q5 => ?_
  refine zb_put (M := mX9_init) (pc := 41) dX9_init_41 (ci := 9) (N := 58) rfl (k0 := 5) (by decide) in_X9 tyX9_ok nmX9 (yw_t 773 (by decide +kernel) rfl) rfl rfl (tyX9_ok _ (by decide)) rfl rfl (by simp only [List.length_set, List.length_cons, List.length_nil]) ?_
  refine zb_aload_n (M := mX9_init) (pc := 44) dX9_init_44 rfl 0 rfl ?_
  refine zb_bipush (M := mX9_init) (pc := 45) dX9_init_45 (v := 16) (by decide) ?_
  refine zb_newa (M := mX9_init) (pc := 47) (atype := .int) (k0 := 0) (t := .int) rfl rfl (fun _ _ h => h) (yw_t 47 (by decide +kernel) rfl) (N' := 16) (a0 := (16, .inl fun _ => 0)) (fun _ => rfl) (by decide) (by decide) (Nat.le_of_ble_eq_true rfl) (Nat.le_of_ble_eq_true rfl) (Nat.le_of_ble_eq_true rfl) dX9_init_47 fun q6 => ?_
  refine zb_put (M := mX9_init) (pc := 49) dX9_init_49 (ci := 9) (N := 58) rfl (k0 := 6) (by decide) in_X9 tyX9_ok nmX9 (yw_t 774 (by decide +kernel) rfl) rfl rfl (tyX9_ok _ (by decide)) rfl rfl (by simp only [List.length_set, List.length_cons, List.length_nil]) ?_
  refine zb_aload_n (M := mX9_init) (pc := 52) dX9_init_52 rfl 0 rfl ?_
  refine zb_iconst (M := mX9_init) (pc := 53) dX9_init_53 (v := 4) (by decide) ?_
  refine zb_newa (M := mX9_init) (pc := 54) (atype := .int) (k0 := 0) (t := .int) rfl rfl (fun _ _ h => h) (yw_t 47 (by decide +kernel) rfl) (N' := 4) (a0 := (4, .inl fun _ => 0)) (fun _ => rfl) (by decide) (by decide) (Nat.le_of_ble_eq_true rfl) (Nat.le_of_ble_eq_true rfl) (Nat.le_of_ble_eq_true rfl) dX9_init_54 fun q7 => ?_
  refine zb_put (M := mX9_init) (pc := 56) dX9_init_56 (ci := 9) (N := 58) rfl (k0 := 8) (by decide) in_X9 tyX9_ok nmX9 (yw_t 776 (by decide +kernel) rfl) rfl rfl (tyX9_ok _ (by decide)) rfl rfl (by simp only [List.length_set, List.length_cons, List.length_nil]) ?_
  refine zb_aload_n (M := mX9_init) (pc := 59) dX9_init_59 rfl 0 rfl ?_
  refine zb_bipush (M := mX9_init) (pc := 60) dX9_init_60 (v := 8) (by decide) ?_
  refine zb_newa (M := mX9_init) (pc := 62) (atype := .int) (k0 := 0) (t := .int) rfl rfl (fun _ _ h => h) (yw_t 47 (by decide +kernel) rfl) (N' := 8) (a0 := (8, .inl fun _ => 0)) (fun _ => rfl) (by decide) (by decide) (Nat.le_of_ble_eq_true rfl) (Nat.le_of_ble_eq_true rfl) (Nat.le_of_ble_eq_true rfl) dX9_init_62 fun q8 => ?_
  refine zb_put (M := mX9_init) (pc := 64) dX9_init_64 (ci := 9) (N := 58) rfl (k0 := 10) (by decide) in_X9 tyX9_ok nmX9 (yw_t 778 (by decide +kernel) rfl) rfl rfl (tyX9_ok _ (by decide)) rfl rfl (by simp only [List.length_set, List.length_cons, List.length_nil]) ?_
  refine zb_aload_n (M := mX9_init) (pc := 67) dX9_init_67 rfl 0 rfl ?_
  refine zb_bipush (M := mX9_init) (pc := 68) dX9_init_68 (v := 8) (by decide) ?_
  refine zb_newa (M := mX9_init) (pc := 70) (atype := .int) (k0 := 0) (t := .int) rfl rfl (fun _ _ h => h) (yw_t 47 (by decide +kernel) rfl) (N' := 8) (a0 := (8, .inl fun _ => 0)) (fun _ => rfl) (by decide) (by decide) (Nat.le_of_ble_eq_true rfl) (Nat.le_of_ble_eq_true rfl) (Nat.le_of_ble_eq_true rfl) dX9_init_70 fun q9 => ?_
  refine zb_put (M := mX9_init) (pc := 72) dX9_init_72 (ci := 9) (N := 58) rfl (k0 := 11) (by decide) in_X9 tyX9_ok nmX9 (yw_t 779 (by decide +kernel) rfl) rfl rfl (tyX9_ok _ (by decide)) rfl rfl (by simp only [List.length_set, List.length_cons, List.length_nil]) ?_
  refine zb_aload_n (M := mX9_init) (pc := 75) dX9_init_75 rfl 0 rfl ?_
  refine zb_bipush (M := mX9_init) (pc := 76) dX9_init_76 (v := 8) (by decide) ?_
  refine zb_newa (M := mX9_init) (pc := 78) (atype := .int) (k0 := 0) (t := .int) rfl rfl (fun _ _ h => h) (yw_t 47 (by decide +kernel) rfl) (N' := 8) (a0 := (8, .inl fun _ => 0)) (fun _ => rfl) (by decide) (by decide) (Nat.le_of_ble_eq_true rfl) (Nat.le_of_ble_eq_true rfl) (Nat.le_of_ble_eq_true rfl) dX9_init_78 fun q10 => ?_
  refine zb_put (M := mX9_init) (pc := 80) dX9_init_80 (ci := 9) (N := 58) rfl (k0 := 12) (by decide) in_X9 tyX9_ok nmX9 (yw_t 780 (by decide +kernel) rfl) rfl rfl (tyX9_ok _ (by decide)) rfl rfl (by simp only [List.length_set, List.length_cons, List.length_nil]) ?_
  refine zb_aload_n (M := mX9_init) (pc := 83) dX9_init_83 rfl 0 rfl ?_
  refine zb_bipush (M := mX9_init) (pc := 84) dX9_init_84 (v := 8) (by decide) ?_
  refine zb_newa (M := mX9_init) (pc := 86) (atype := .int) (k0 := 0) (t := .int) rfl rfl (fun _ _ h => h) (yw_t 47 (by decide +kernel) rfl) (N' := 8) (a0 := (8, .inl fun _ => 0)) (fun _ => rfl) (by decide) (by decide) (Nat.le_of_ble_eq_true rfl) (Nat.le_of_ble_eq_true rfl) (Nat.le_of_ble_eq_true rfl) dX9_init_86 fun q11 => ?_
  refine zb_put (M := mX9_init) (pc := 88) dX9_init_88 (ci := 9) (N := 58) rfl (k0 := 14) (by decide) in_X9 tyX9_ok nmX9 (yw_t 782 (by decide +kernel) rfl) rfl rfl (tyX9_ok _ (by decide)) rfl rfl (by simp only [List.length_set, List.length_cons, List.length_nil]) ?_
  refine zb_aload_n (M := mX9_init) (pc := 91) dX9_init_91 rfl 0 rfl ?_
  refine zb_bipush (M := mX9_init) (pc := 92) dX9_init_92 (v := 8) (by decide) ?_
  refine zb_newa (M := mX9_init) (pc := 94) (atype := .int) (k0 := 0) (t := .int) rfl rfl (fun _ _ h => h) (yw_t 47 (by decide +kernel) rfl) (N' := 8) (a0 := (8, .inl fun _ => 0)) (fun _ => rfl) (by decide) (by decide) (Nat.le_of_ble_eq_true rfl) (Nat.le_of_ble_eq_true rfl) (Nat.le_of_ble_eq_true rfl) dX9_init_94 fun q12 => ?_
  refine zb_put (M := mX9_init) (pc := 96) dX9_init_96 (ci := 9) (N := 58) rfl (k0 := 15) (by decide) in_X9 tyX9_ok nmX9 (yw_t 783 (by decide +kernel) rfl) rfl rfl (tyX9_ok _ (by decide)) rfl rfl (by simp only [List.length_set, List.length_cons, List.length_nil]) ?_
  refine zb_aload_n (M := mX9_init) (pc := 99) dX9_init_99 rfl 0 rfl ?_
  refine zb_bipush (M := mX9_init) (pc := 100) dX9_init_100 (v := 10) (by decide) ?_
  refine zb_newa (M := mX9_init) (pc := 102) (atype := .int) (k0 := 0) (t := .int) rfl rfl (fun _ _ h => h) (yw_t 47 (by decide +kernel) rfl) (N' := 10) (a0 := (10, .inl fun _ => 0)) (fun _ => rfl) (by decide) (by decide) (Nat.le_of_ble_eq_true rfl) (Nat.le_of_ble_eq_true rfl) (Nat.le_of_ble_eq_true rfl) dX9_init_102 fun q13 => ?_
  refine zb_put (M := mX9_init) (pc := 104) dX9_init_104 (ci := 9) (N := 58) rfl (k0 := 17) (by decide) in_X9 tyX9_ok nmX9 (yw_t 785 (by decide +kernel) rfl) rfl rfl (tyX9_ok _ (by decide)) rfl rfl (by simp only [List.length_set, List.length_cons, List.length_nil]) ?_
  refine zb_aload_n (M := mX9_init) (pc := 107) dX9_init_107 rfl 0 rfl ?_
  refine zb_bipush (M := mX9_init) (pc := 108) dX9_init_108 (v := 10) (by decide) ?_
  refine zb_newa (M := mX9_init) (pc := 110) (atype := .int) (k0 := 0) (t := .int) rfl rfl (fun _ _ h => h) (yw_t 47 (by decide +kernel) rfl) (N' := 10) (a0 := (10, .inl fun _ => 0)) (fun _ => rfl) (by decide) (by decide) (Nat.le_of_ble_eq_true rfl) (Nat.le_of_ble_eq_true rfl) (Nat.le_of_ble_eq_true rfl) dX9_init_110 fun q14 => ?_
  refine zb_put (M := mX9_init) (pc := 112) dX9_init_112 (ci := 9) (N := 58) rfl (k0 := 18) (by decide) in_X9 tyX9_ok nmX9 (yw_t 786 (by decide +kernel) rfl) rfl rfl (tyX9_ok _ (by decide)) rfl rfl (by simp only [List.length_set, List.length_cons, List.length_nil]) ?_
  refine zb_aload_n (M := mX9_init) (pc := 115) dX9_init_115 rfl 0 rfl ?_
  refine zb_bipush (M := mX9_init) (pc := 116) dX9_init_116 (v := 10) (by decide) ?_
  refine zb_newa (M := mX9_init) (pc := 118) (atype := .int) (k0 := 0) (t := .int) rfl rfl (fun _ _ h => h) (yw_t 47 (by decide +kernel) rfl) (N' := 10) (a0 := (10, .inl fun _ => 0)) (fun _ => rfl) (by decide) (by decide) (Nat.le_of_ble_eq_true rfl) (Nat.le_of_ble_eq_true rfl) (Nat.le_of_ble_eq_true rfl) dX9_init_118 fun q15 => ?_
  refine zb_put (M := mX9_init) (pc := 120) dX9_init_120 (ci := 9) (N := 58) rfl (k0 := 19) (by decide) in_X9 tyX9_ok nmX9 (yw_t 787 (by decide +kernel) rfl) rfl rfl (tyX9_ok _ (by decide)) rfl rfl (by simp only [List.length_set, List.length_cons, List.length_nil]) ?_
  refine zb_aload_n (M := mX9_init) (pc := 123) dX9_init_123 rfl 0 rfl ?_
  refine zb_bipush (M := mX9_init) (pc := 124) dX9_init_124 (v := 80) (by decide) ?_
  refine zb_newa (M := mX9_init) (pc := 126) (atype := .int) (k0 := 0) (t := .int) rfl rfl (fun _ _ h => h) (yw_t 47 (by decide +kernel) rfl) (N' := 80) (a0 := (80, .inl fun _ => 0)) (fun _ => rfl) (by decide) (by decide) (Nat.le_of_ble_eq_true rfl) (Nat.le_of_ble_eq_true rfl) (Nat.le_of_ble_eq_true rfl) dX9_init_126 fun q16 => ?_
  refine zb_put (M := mX9_init) (pc := 128) dX9_init_128 (ci := 9) (N := 58) rfl (k0 := 21) (by decide) in_X9 tyX9_ok nmX9 (yw_t 789 (by decide +kernel) rfl) rfl rfl (tyX9_ok _ (by decide)) rfl rfl (by simp only [List.length_set, List.length_cons, List.length_nil]) ?_
  refine zb_aload_n (M := mX9_init) (pc := 131) dX9_init_131 rfl 0 rfl ?_
  refine zb_iconst (M := mX9_init) (pc := 132) dX9_init_132 (v := 3) (by decide) ?_
  refine zb_newa (M := mX9_init) (pc := 133) (atype := .int) (k0 := 0) (t := .int) rfl rfl (fun _ _ h => h) (yw_t 47 (by decide +kernel) rfl) (N' := 3) (a0 := (3, .inl fun _ => 0)) (fun _ => rfl) (by decide) (by decide) (Nat.le_of_ble_eq_true rfl) (Nat.le_of_ble_eq_true rfl) (Nat.le_of_ble_eq_true rfl) dX9_init_133 fun q17 => ?_
  refine zb_dup (M := mX9_init) (pc := 135) dX9_init_135 rfl ?_
  refine zb_iconst (M := mX9_init) (pc := 136) dX9_init_136 (v := 0) (by decide) ?_
  refine zb_iconst (M := mX9_init) (pc := 137) dX9_init_137 (v := -1) (by decide) ?_
  refine zb_iast (M := mX9_init) (pc := 138) dX9_init_138 (nv_in (n := 0) (by omega) (by decide)) ?_
  refine zb_dup (M := mX9_init) (pc := 139) dX9_init_139 rfl ?_
  refine zb_iconst (M := mX9_init) (pc := 140) dX9_init_140 (v := 1) (by decide) ?_
  refine zb_iconst (M := mX9_init) (pc := 141) dX9_init_141 (v := -1) (by decide) ?_
  refine zb_iast (M := mX9_init) (pc := 142) dX9_init_142 (nv_in (n := 1) (by omega) (by decide)) ?_
  refine zb_dup (M := mX9_init) (pc := 143) dX9_init_143 rfl ?_
  refine zb_iconst (M := mX9_init) (pc := 144) dX9_init_144 (v := 2) (by decide) ?_
  refine zb_iconst (M := mX9_init) (pc := 145) dX9_init_145 (v := -1) (by decide) ?_
  refine zb_iast (M := mX9_init) (pc := 146) dX9_init_146 (nv_in (n := 2) (by omega) (by decide)) ?_
  refine zb_put (M := mX9_init) (pc := 147) dX9_init_147 (ci := 9) (N := 58) rfl (k0 := 22) (by decide) in_X9 tyX9_ok nmX9 (yw_t 790 (by decide +kernel) rfl) rfl rfl (tyX9_ok _ (by decide)) rfl rfl (by simp only [List.length_set, List.length_cons, List.length_nil]) ?_
  refine zb_aload_n (M := mX9_init) (pc := 150) dX9_init_150 rfl 0 rfl ?_
  refine zb_bipush (M := mX9_init) (pc := 151) dX9_init_151 (v := 120) (by decide) ?_
  refine zb_newa (M := mX9_init) (pc := 153) (atype := .int) (k0 := 0) (t := .int) rfl rfl (fun _ _ h => h) (yw_t 47 (by decide +kernel) rfl) (N' := 120) (a0 := (120, .inl fun _ => 0)) (fun _ => rfl) (by decide) (by decide) (Nat.le_of_ble_eq_true rfl) (Nat.le_of_ble_eq_true rfl) (Nat.le_of_ble_eq_true rfl) dX9_init_153 fun q18 => ?_
  refine zb_put (M := mX9_init) (pc := 155) dX9_init_155 (ci := 9) (N := 58) rfl (k0 := 23) (by decide) in_X9 tyX9_ok nmX9 (yw_t 791 (by decide +kernel) rfl) rfl rfl (tyX9_ok _ (by decide)) rfl rfl (by simp only [List.length_set, List.length_cons, List.length_nil]) ?_
  refine zb_aload_n (M := mX9_init) (pc := 158) dX9_init_158 rfl 0 rfl ?_
  refine zb_iconst (M := mX9_init) (pc := 159) dX9_init_159 (v := 4) (by decide) ?_
  refine zb_newa (M := mX9_init) (pc := 160) (atype := .int) (k0 := 0) (t := .int) rfl rfl (fun _ _ h => h) (yw_t 47 (by decide +kernel) rfl) (N' := 4) (a0 := (4, .inl fun _ => 0)) (fun _ => rfl) (by decide) (by decide) (Nat.le_of_ble_eq_true rfl) (Nat.le_of_ble_eq_true rfl) (Nat.le_of_ble_eq_true rfl) dX9_init_160 fun q19 => ?_
  refine zb_put (M := mX9_init) (pc := 162) dX9_init_162 (ci := 9) (N := 58) rfl (k0 := 24) (by decide) in_X9 tyX9_ok nmX9 (yw_t 792 (by decide +kernel) rfl) rfl rfl (tyX9_ok _ (by decide)) rfl rfl (by simp only [List.length_set, List.length_cons, List.length_nil]) ?_
  refine zb_aload_n (M := mX9_init) (pc := 165) dX9_init_165 rfl 0 rfl ?_
  refine zb_bipush (M := mX9_init) (pc := 166) dX9_init_166 (v := 16) (by decide) ?_
  refine zb_newa (M := mX9_init) (pc := 168) (atype := .int) (k0 := 0) (t := .int) rfl rfl (fun _ _ h => h) (yw_t 47 (by decide +kernel) rfl) (N' := 16) (a0 := (16, .inl fun _ => 0)) (fun _ => rfl) (by decide) (by decide) (Nat.le_of_ble_eq_true rfl) (Nat.le_of_ble_eq_true rfl) (Nat.le_of_ble_eq_true rfl) dX9_init_168 fun q20 => ?_
  refine zb_put (M := mX9_init) (pc := 170) dX9_init_170 (ci := 9) (N := 58) rfl (k0 := 27) (by decide) in_X9 tyX9_ok nmX9 (yw_t 795 (by decide +kernel) rfl) rfl rfl (tyX9_ok _ (by decide)) rfl rfl (by simp only [List.length_set, List.length_cons, List.length_nil]) ?_
  refine zb_aload_n (M := mX9_init) (pc := 173) dX9_init_173 rfl 0 rfl ?_
  refine zb_bipush (M := mX9_init) (pc := 174) dX9_init_174 (v := 64) (by decide) ?_
  refine zb_newa (M := mX9_init) (pc := 176) (atype := .int) (k0 := 0) (t := .int) rfl rfl (fun _ _ h => h) (yw_t 47 (by decide +kernel) rfl) (N' := 64) (a0 := (64, .inl fun _ => 0)) (fun _ => rfl) (by decide) (by decide) (Nat.le_of_ble_eq_true rfl) (Nat.le_of_ble_eq_true rfl) (Nat.le_of_ble_eq_true rfl) dX9_init_176 fun q21 => ?_
  refine zb_put (M := mX9_init) (pc := 178) dX9_init_178 (ci := 9) (N := 58) rfl (k0 := 28) (by decide) in_X9 tyX9_ok nmX9 (yw_t 796 (by decide +kernel) rfl) rfl rfl (tyX9_ok _ (by decide)) rfl rfl (by simp only [List.length_set, List.length_cons, List.length_nil]) ?_
  refine zb_aload_n (M := mX9_init) (pc := 181) dX9_init_181 rfl 0 rfl ?_
  refine zb_bipush (M := mX9_init) (pc := 182) dX9_init_182 (v := 16) (by decide) ?_
  refine zb_newa (M := mX9_init) (pc := 184) (atype := .int) (k0 := 0) (t := .int) rfl rfl (fun _ _ h => h) (yw_t 47 (by decide +kernel) rfl) (N' := 16) (a0 := (16, .inl fun _ => 0)) (fun _ => rfl) (by decide) (by decide) (Nat.le_of_ble_eq_true rfl) (Nat.le_of_ble_eq_true rfl) (Nat.le_of_ble_eq_true rfl) dX9_init_184 fun q22 => ?_
  refine zb_put (M := mX9_init) (pc := 186) dX9_init_186 (ci := 9) (N := 58) rfl (k0 := 29) (by decide) in_X9 tyX9_ok nmX9 (yw_t 797 (by decide +kernel) rfl) rfl rfl (tyX9_ok _ (by decide)) rfl rfl (by simp only [List.length_set, List.length_cons, List.length_nil]) ?_
  refine zb_aload_n (M := mX9_init) (pc := 189) dX9_init_189 rfl 0 rfl ?_
  refine zb_bipush (M := mX9_init) (pc := 190) dX9_init_190 (v := 16) (by decide) ?_
  refine zb_newa (M := mX9_init) (pc := 192) (atype := .int) (k0 := 0) (t := .int) rfl rfl (fun _ _ h => h) (yw_t 47 (by decide +kernel) rfl) (N' := 16) (a0 := (16, .inl fun _ => 0)) (fun _ => rfl) (by decide) (by decide) (Nat.le_of_ble_eq_true rfl) (Nat.le_of_ble_eq_true rfl) (Nat.le_of_ble_eq_true rfl) dX9_init_192 fun q23 => ?_
  refine zb_put (M := mX9_init) (pc := 194) dX9_init_194 (ci := 9) (N := 58) rfl (k0 := 30) (by decide) in_X9 tyX9_ok nmX9 (yw_t 798 (by decide +kernel) rfl) rfl rfl (tyX9_ok _ (by decide)) rfl rfl (by simp only [List.length_set, List.length_cons, List.length_nil]) ?_
  refine zb_aload_n (M := mX9_init) (pc := 197) dX9_init_197 rfl 0 rfl ?_
  refine zb_bipush (M := mX9_init) (pc := 198) dX9_init_198 (v := 16) (by decide) ?_
  refine zb_newa (M := mX9_init) (pc := 200) (atype := .int) (k0 := 0) (t := .int) rfl rfl (fun _ _ h => h) (yw_t 47 (by decide +kernel) rfl) (N' := 16) (a0 := (16, .inl fun _ => 0)) (fun _ => rfl) (by decide) (by decide) (Nat.le_of_ble_eq_true rfl) (Nat.le_of_ble_eq_true rfl) (Nat.le_of_ble_eq_true rfl) dX9_init_200 fun q24 => ?_
  refine zb_put (M := mX9_init) (pc := 202) dX9_init_202 (ci := 9) (N := 58) rfl (k0 := 31) (by decide) in_X9 tyX9_ok nmX9 (yw_t 799 (by decide +kernel) rfl) rfl rfl (tyX9_ok _ (by decide)) rfl rfl (by simp only [List.length_set, List.length_cons, List.length_nil]) ?_
  refine zb_aload_n (M := mX9_init) (pc := 205) dX9_init_205 rfl 0 rfl ?_
  refine zb_bipush (M := mX9_init) (pc := 206) dX9_init_206 (v := 16) (by decide) ?_
  refine zb_newa (M := mX9_init) (pc := 208) (atype := .int) (k0 := 0) (t := .int) rfl rfl (fun _ _ h => h) (yw_t 47 (by decide +kernel) rfl) (N' := 16) (a0 := (16, .inl fun _ => 0)) (fun _ => rfl) (by decide) (by decide) (Nat.le_of_ble_eq_true rfl) (Nat.le_of_ble_eq_true rfl) (Nat.le_of_ble_eq_true rfl) dX9_init_208 fun q25 => ?_
  refine zb_put (M := mX9_init) (pc := 210) dX9_init_210 (ci := 9) (N := 58) rfl (k0 := 32) (by decide) in_X9 tyX9_ok nmX9 (yw_t 800 (by decide +kernel) rfl) rfl rfl (tyX9_ok _ (by decide)) rfl rfl (by simp only [List.length_set, List.length_cons, List.length_nil]) ?_
  refine zb_aload_n (M := mX9_init) (pc := 213) dX9_init_213 rfl 0 rfl ?_
  refine zb_bipush (M := mX9_init) (pc := 214) dX9_init_214 (v := 8) (by decide) ?_
  refine zb_newa (M := mX9_init) (pc := 216) (atype := .int) (k0 := 0) (t := .int) rfl rfl (fun _ _ h => h) (yw_t 47 (by decide +kernel) rfl) (N' := 8) (a0 := (8, .inl fun _ => 0)) (fun _ => rfl) (by decide) (by decide) (Nat.le_of_ble_eq_true rfl) (Nat.le_of_ble_eq_true rfl) (Nat.le_of_ble_eq_true rfl) dX9_init_216 fun q26 => ?_
  refine zb_put (M := mX9_init) (pc := 218) dX9_init_218 (ci := 9) (N := 58) rfl (k0 := 34) (by decide) in_X9 tyX9_ok nmX9 (yw_t 802 (by decide +kernel) rfl) rfl rfl (tyX9_ok _ (by decide)) rfl rfl (by simp only [List.length_set, List.length_cons, List.length_nil]) ?_
  refine zb_aload_n (M := mX9_init) (pc := 221) dX9_init_221 rfl 0 rfl ?_
  refine zb_bipush (M := mX9_init) (pc := 222) dX9_init_222 (v := 8) (by decide) ?_
  refine zb_newa (M := mX9_init) (pc := 224) (atype := .int) (k0 := 0) (t := .int) rfl rfl (fun _ _ h => h) (yw_t 47 (by decide +kernel) rfl) (N' := 8) (a0 := (8, .inl fun _ => 0)) (fun _ => rfl) (by decide) (by decide) (Nat.le_of_ble_eq_true rfl) (Nat.le_of_ble_eq_true rfl) (Nat.le_of_ble_eq_true rfl) dX9_init_224 fun q27 => ?_
  refine zb_put (M := mX9_init) (pc := 226) dX9_init_226 (ci := 9) (N := 58) rfl (k0 := 35) (by decide) in_X9 tyX9_ok nmX9 (yw_t 803 (by decide +kernel) rfl) rfl rfl (tyX9_ok _ (by decide)) rfl rfl (by simp only [List.length_set, List.length_cons, List.length_nil]) ?_
  refine zb_aload_n (M := mX9_init) (pc := 229) dX9_init_229 rfl 0 rfl ?_
  refine zb_bipush (M := mX9_init) (pc := 230) dX9_init_230 (v := 8) (by decide) ?_
  refine zb_newa (M := mX9_init) (pc := 232) (atype := .int) (k0 := 0) (t := .int) rfl rfl (fun _ _ h => h) (yw_t 47 (by decide +kernel) rfl) (N' := 8) (a0 := (8, .inl fun _ => 0)) (fun _ => rfl) (by decide) (by decide) (Nat.le_of_ble_eq_true rfl) (Nat.le_of_ble_eq_true rfl) (Nat.le_of_ble_eq_true rfl) dX9_init_232 fun q28 => ?_
  refine zb_put (M := mX9_init) (pc := 234) dX9_init_234 (ci := 9) (N := 58) rfl (k0 := 36) (by decide) in_X9 tyX9_ok nmX9 (yw_t 804 (by decide +kernel) rfl) rfl rfl (tyX9_ok _ (by decide)) rfl rfl (by simp only [List.length_set, List.length_cons, List.length_nil]) ?_
  refine zb_aload_n (M := mX9_init) (pc := 237) dX9_init_237 rfl 0 rfl ?_
  refine zb_bipush (M := mX9_init) (pc := 238) dX9_init_238 (v := 8) (by decide) ?_
  refine zb_newa (M := mX9_init) (pc := 240) (atype := .int) (k0 := 0) (t := .int) rfl rfl (fun _ _ h => h) (yw_t 47 (by decide +kernel) rfl) (N' := 8) (a0 := (8, .inl fun _ => 0)) (fun _ => rfl) (by decide) (by decide) (Nat.le_of_ble_eq_true rfl) (Nat.le_of_ble_eq_true rfl) (Nat.le_of_ble_eq_true rfl) dX9_init_240 fun q29 => ?_
  refine zb_put (M := mX9_init) (pc := 242) dX9_init_242 (ci := 9) (N := 58) rfl (k0 := 38) (by decide) in_X9 tyX9_ok nmX9 (yw_t 806 (by decide +kernel) rfl) rfl rfl (tyX9_ok _ (by decide)) rfl rfl (by simp only [List.length_set, List.length_cons, List.length_nil]) ?_
  refine zb_aload_n (M := mX9_init) (pc := 245) dX9_init_245 rfl 0 rfl ?_
  refine zb_bipush (M := mX9_init) (pc := 246) dX9_init_246 (v := 8) (by decide) ?_
  refine zb_newa (M := mX9_init) (pc := 248) (atype := .int) (k0 := 0) (t := .int) rfl rfl (fun _ _ h => h) (yw_t 47 (by decide +kernel) rfl) (N' := 8) (a0 := (8, .inl fun _ => 0)) (fun _ => rfl) (by decide) (by decide) (Nat.le_of_ble_eq_true rfl) (Nat.le_of_ble_eq_true rfl) (Nat.le_of_ble_eq_true rfl) dX9_init_248 fun q30 => ?_
  refine zb_put (M := mX9_init) (pc := 250) dX9_init_250 (ci := 9) (N := 58) rfl (k0 := 39) (by decide) in_X9 tyX9_ok nmX9 (yw_t 807 (by decide +kernel) rfl) rfl rfl (tyX9_ok _ (by decide)) rfl rfl (by simp only [List.length_set, List.length_cons, List.length_nil]) ?_
  refine zb_aload_n (M := mX9_init) (pc := 253) dX9_init_253 rfl 0 rfl ?_
  refine zb_bipush (M := mX9_init) (pc := 254) dX9_init_254 (v := 64) (by decide) ?_
  refine zb_newa (M := mX9_init) (pc := 256) (atype := .int) (k0 := 0) (t := .int) rfl rfl (fun _ _ h => h) (yw_t 47 (by decide +kernel) rfl) (N' := 64) (a0 := (64, .inl fun _ => 0)) (fun _ => rfl) (by decide) (by decide) (Nat.le_of_ble_eq_true rfl) (Nat.le_of_ble_eq_true rfl) (Nat.le_of_ble_eq_true rfl) dX9_init_256 fun q31 => ?_
  refine zb_put (M := mX9_init) (pc := 258) dX9_init_258 (ci := 9) (N := 58) rfl (k0 := 41) (by decide) in_X9 tyX9_ok nmX9 (yw_t 809 (by decide +kernel) rfl) rfl rfl (tyX9_ok _ (by decide)) rfl rfl (by simp only [List.length_set, List.length_cons, List.length_nil]) ?_
  refine zb_aload_n (M := mX9_init) (pc := 261) dX9_init_261 rfl 0 rfl ?_
  refine zb_bipush (M := mX9_init) (pc := 262) dX9_init_262 (v := 64) (by decide) ?_
  refine zb_newa (M := mX9_init) (pc := 264) (atype := .int) (k0 := 0) (t := .int) rfl rfl (fun _ _ h => h) (yw_t 47 (by decide +kernel) rfl) (N' := 64) (a0 := (64, .inl fun _ => 0)) (fun _ => rfl) (by decide) (by decide) (Nat.le_of_ble_eq_true rfl) (Nat.le_of_ble_eq_true rfl) (Nat.le_of_ble_eq_true rfl) dX9_init_264 fun q32 => ?_
  refine zb_put (M := mX9_init) (pc := 266) dX9_init_266 (ci := 9) (N := 58) rfl (k0 := 42) (by decide) in_X9 tyX9_ok nmX9 (yw_t 810 (by decide +kernel) rfl) rfl rfl (tyX9_ok _ (by decide)) rfl rfl (by simp only [List.length_set, List.length_cons, List.length_nil]) ?_
  refine zb_aload_n (M := mX9_init) (pc := 269) dX9_init_269 rfl 0 rfl ?_
  refine zb_bipush (M := mX9_init) (pc := 270) dX9_init_270 (v := 64) (by decide) ?_
  refine zb_newa (M := mX9_init) (pc := 272) (atype := .int) (k0 := 0) (t := .int) rfl rfl (fun _ _ h => h) (yw_t 47 (by decide +kernel) rfl) (N' := 64) (a0 := (64, .inl fun _ => 0)) (fun _ => rfl) (by decide) (by decide) (Nat.le_of_ble_eq_true rfl) (Nat.le_of_ble_eq_true rfl) (Nat.le_of_ble_eq_true rfl) dX9_init_272 fun q33 => ?_
  refine zb_put (M := mX9_init) (pc := 274) dX9_init_274 (ci := 9) (N := 58) rfl (k0 := 43) (by decide) in_X9 tyX9_ok nmX9 (yw_t 811 (by decide +kernel) rfl) rfl rfl (tyX9_ok _ (by decide)) rfl rfl (by simp only [List.length_set, List.length_cons, List.length_nil]) ?_
  refine zb_aload_n (M := mX9_init) (pc := 277) dX9_init_277 rfl 0 rfl ?_
  refine zb_bipush (M := mX9_init) (pc := 278) dX9_init_278 (v := 64) (by decide) ?_
  refine zb_newa (M := mX9_init) (pc := 280) (atype := .long) (k0 := 3) (t := .long) rfl rfl (fun _ _ h => h) (yw_t 943 (by decide +kernel) rfl) (N' := 64) (a0 := (64, .inr (.inl fun _ => 0))) (fun _ => rfl) (by decide) (by decide) (Nat.le_of_ble_eq_true rfl) (Nat.le_of_ble_eq_true rfl) (Nat.le_of_ble_eq_true rfl) dX9_init_280 fun q34 => ?_
  refine zb_put (M := mX9_init) (pc := 282) dX9_init_282 (ci := 9) (N := 58) rfl (k0 := 44) (by decide) in_X9 tyX9_ok nmX9 (yw_t 812 (by decide +kernel) rfl) rfl rfl (tyX9_ok _ (by decide)) rfl rfl (by simp only [List.length_set, List.length_cons, List.length_nil]) ?_
  refine zb_aload_n (M := mX9_init) (pc := 285) dX9_init_285 rfl 0 rfl ?_
  refine zb_bipush (M := mX9_init) (pc := 286) dX9_init_286 (v := 64) (by decide) ?_
  refine zb_newa (M := mX9_init) (pc := 288) (atype := .long) (k0 := 3) (t := .long) rfl rfl (fun _ _ h => h) (yw_t 943 (by decide +kernel) rfl) (N' := 64) (a0 := (64, .inr (.inl fun _ => 0))) (fun _ => rfl) (by decide) (by decide) (Nat.le_of_ble_eq_true rfl) (Nat.le_of_ble_eq_true rfl) (Nat.le_of_ble_eq_true rfl) dX9_init_288 fun q35 => ?_
  refine zb_put (M := mX9_init) (pc := 290) dX9_init_290 (ci := 9) (N := 58) rfl (k0 := 45) (by decide) in_X9 tyX9_ok nmX9 (yw_t 813 (by decide +kernel) rfl) rfl rfl (tyX9_ok _ (by decide)) rfl rfl (by simp only [List.length_set, List.length_cons, List.length_nil]) ?_
  refine zb_aload_n (M := mX9_init) (pc := 293) dX9_init_293 rfl 0 rfl ?_
  refine zb_bipush (M := mX9_init) (pc := 294) dX9_init_294 (v := 16) (by decide) ?_
  refine zb_newa (M := mX9_init) (pc := 296) (atype := .int) (k0 := 0) (t := .int) rfl rfl (fun _ _ h => h) (yw_t 47 (by decide +kernel) rfl) (N' := 16) (a0 := (16, .inl fun _ => 0)) (fun _ => rfl) (by decide) (by decide) (Nat.le_of_ble_eq_true rfl) (Nat.le_of_ble_eq_true rfl) (Nat.le_of_ble_eq_true rfl) dX9_init_296 fun q36 => ?_
  refine zb_put (M := mX9_init) (pc := 298) dX9_init_298 (ci := 9) (N := 58) rfl (k0 := 46) (by decide) in_X9 tyX9_ok nmX9 (yw_t 814 (by decide +kernel) rfl) rfl rfl (tyX9_ok _ (by decide)) rfl rfl (by simp only [List.length_set, List.length_cons, List.length_nil]) ?_
  refine zb_aload_n (M := mX9_init) (pc := 301) dX9_init_301 rfl 0 rfl ?_
  refine zb_bipush (M := mX9_init) (pc := 302) dX9_init_302 (v := 8) (by decide) ?_
  refine zb_newa (M := mX9_init) (pc := 304) (atype := .int) (k0 := 0) (t := .int) rfl rfl (fun _ _ h => h) (yw_t 47 (by decide +kernel) rfl) (N' := 8) (a0 := (8, .inl fun _ => 0)) (fun _ => rfl) (by decide) (by decide) (Nat.le_of_ble_eq_true rfl) (Nat.le_of_ble_eq_true rfl) (Nat.le_of_ble_eq_true rfl) dX9_init_304 fun q37 => ?_
  refine zb_put (M := mX9_init) (pc := 306) dX9_init_306 (ci := 9) (N := 58) rfl (k0 := 47) (by decide) in_X9 tyX9_ok nmX9 (yw_t 815 (by decide +kernel) rfl) rfl rfl (tyX9_ok _ (by decide)) rfl rfl (by simp only [List.length_set, List.length_cons, List.length_nil]) ?_
  refine zb_aload_n (M := mX9_init) (pc := 309) dX9_init_309 rfl 0 rfl ?_
  refine zb_bipush (M := mX9_init) (pc := 310) dX9_init_310 (v := 8) (by decide) ?_
  refine zb_newa (M := mX9_init) (pc := 312) (atype := .int) (k0 := 0) (t := .int) rfl rfl (fun _ _ h => h) (yw_t 47 (by decide +kernel) rfl) (N' := 8) (a0 := (8, .inl fun _ => 0)) (fun _ => rfl) (by decide) (by decide) (Nat.le_of_ble_eq_true rfl) (Nat.le_of_ble_eq_true rfl) (Nat.le_of_ble_eq_true rfl) dX9_init_312 fun q38 => ?_
  refine zb_put (M := mX9_init) (pc := 314) dX9_init_314 (ci := 9) (N := 58) rfl (k0 := 48) (by decide) in_X9 tyX9_ok nmX9 (yw_t 816 (by decide +kernel) rfl) rfl rfl (tyX9_ok _ (by decide)) rfl rfl (by simp only [List.length_set, List.length_cons, List.length_nil]) ?_
  refine zb_aload_n (M := mX9_init) (pc := 317) dX9_init_317 rfl 0 rfl ?_
  refine zb_bipush (M := mX9_init) (pc := 318) dX9_init_318 (v := 8) (by decide) ?_
  refine zb_newa (M := mX9_init) (pc := 320) (atype := .int) (k0 := 0) (t := .int) rfl rfl (fun _ _ h => h) (yw_t 47 (by decide +kernel) rfl) (N' := 8) (a0 := (8, .inl fun _ => 0)) (fun _ => rfl) (by decide) (by decide) (Nat.le_of_ble_eq_true rfl) (Nat.le_of_ble_eq_true rfl) (Nat.le_of_ble_eq_true rfl) dX9_init_320 fun q39 => ?_
  refine zb_put (M := mX9_init) (pc := 322) dX9_init_322 (ci := 9) (N := 58) rfl (k0 := 49) (by decide) in_X9 tyX9_ok nmX9 (yw_t 817 (by decide +kernel) rfl) rfl rfl (tyX9_ok _ (by decide)) rfl rfl (by simp only [List.length_set, List.length_cons, List.length_nil]) ?_
  refine zb_aload_n (M := mX9_init) (pc := 325) dX9_init_325 rfl 0 rfl ?_
  refine zb_bipush (M := mX9_init) (pc := 326) dX9_init_326 (v := 27) (by decide) ?_
  refine zb_newa (M := mX9_init) (pc := 328) (atype := .int) (k0 := 0) (t := .int) rfl rfl (fun _ _ h => h) (yw_t 47 (by decide +kernel) rfl) (N' := 27) (a0 := (27, .inl fun _ => 0)) (fun _ => rfl) (by decide) (by decide) (Nat.le_of_ble_eq_true rfl) (Nat.le_of_ble_eq_true rfl) (Nat.le_of_ble_eq_true rfl) dX9_init_328 fun q40 => ?_
  refine zb_put (M := mX9_init) (pc := 330) dX9_init_330 (ci := 9) (N := 58) rfl (k0 := 55) (by decide) in_X9 tyX9_ok nmX9 (yw_t 823 (by decide +kernel) rfl) rfl rfl (tyX9_ok _ (by decide)) rfl rfl (by simp only [List.length_set, List.length_cons, List.length_nil]) ?_
  refine zb_aload_n (M := mX9_init) (pc := 333) dX9_init_333 rfl 0 rfl ?_
  refine zb_bipush (M := mX9_init) (pc := 334) dX9_init_334 (v := 27) (by decide) ?_
  refine zb_newa (M := mX9_init) (pc := 336) (atype := .int) (k0 := 0) (t := .int) rfl rfl (fun _ _ h => h) (yw_t 47 (by decide +kernel) rfl) (N' := 27) (a0 := (27, .inl fun _ => 0)) (fun _ => rfl) (by decide) (by decide) (Nat.le_of_ble_eq_true rfl) (Nat.le_of_ble_eq_true rfl) (Nat.le_of_ble_eq_true rfl) dX9_init_336 fun q41 => ?_
  refine zb_put (M := mX9_init) (pc := 338) dX9_init_338 (ci := 9) (N := 58) rfl (k0 := 56) (by decide) in_X9 tyX9_ok nmX9 (yw_t 824 (by decide +kernel) rfl) rfl rfl (tyX9_ok _ (by decide)) rfl rfl (by simp only [List.length_set, List.length_cons, List.length_nil]) ?_
  refine zb_aload_n (M := mX9_init) (pc := 341) dX9_init_341 rfl 0 rfl ?_
  refine zb_sipush (M := mX9_init) (pc := 342) dX9_init_342 (v := 135) (by decide) ?_
  refine zb_newa (M := mX9_init) (pc := 345) (atype := .int) (k0 := 0) (t := .int) rfl rfl (fun _ _ h => h) (yw_t 47 (by decide +kernel) rfl) (N' := 135) (a0 := (135, .inl fun _ => 0)) (fun _ => rfl) (by decide) (by decide) (Nat.le_of_ble_eq_true rfl) (Nat.le_of_ble_eq_true rfl) (Nat.le_of_ble_eq_true rfl) dX9_init_345 fun q42 => ?_
  refine zb_put (M := mX9_init) (pc := 347) dX9_init_347 (ci := 9) (N := 58) rfl (k0 := 57) (by decide) in_X9 tyX9_ok nmX9 (yw_t 825 (by decide +kernel) rfl) rfl rfl (tyX9_ok _ (by decide)) rfl rfl (by simp only [List.length_set, List.length_cons, List.length_nil]) ?_
  exact zb_ret (M := mX9_init) (pc := 350) dX9_init_350 (Nat.le_of_ble_eq_true rfl) (Nat.le_of_ble_eq_true rfl) ⟨fun k => [h0, q1, q2, q3, q4, q5, q6, q7, q8, q9, q10, q11, q12, q13, q14, q15, q16, q17, q18, q19, q20, q21, q22, q23, q24, q25, q26, q27, q28, q29, q30, q31, q32, q33, q34, q35, q36, q37, q38, q39, q40, q41, q42].getD k 0, rfl, rfl⟩
theorem okb_X9_init : zb_ok mX9_init 0 := ⟨⟨yw_t 766 (by decide +kernel) rfl, yw_t 10 (by decide +kernel) rfl, ⟨by decide, by decide, by decide +kernel⟩, by decide, by decide⟩, rfl, yw_t 765 (by decide +kernel) rfl, rfl⟩
