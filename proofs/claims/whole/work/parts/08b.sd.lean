set_option maxRecDepth 100000 in
theorem sd_X6_walk (d : Nat) {l2 : Int32} {l3 : Int32} {h : zz_Hp} {Q : zz_Hp → Prop} (H : w_X6_walk l2 l3 h Q) : zz_G zKC zNC (d + 3) mX6_walk (qV Q) 0 (zz_L0 5 [.ref 27, .ref 2, .int l2, .int l3]) [] h := by
  show zz_G zKC zNC (d + 3) mX6_walk (qV Q) 0 [some (.ref 27), some (.ref 2), some (.int l2), some (.int l3), none] [] h
  unfold w_X6_walk at H
  refine zg_aload_n (pc := 0) dX6_walk_0 rfl rfl ?_
  refine zg_iconst (pc := 1) dX6_walk_1 (v := 0) (by decide) ?_
  refine zg_putI (pc := 2) dX6_walk_2 lp_X6_34 kC_27 (by decide) rfl ?_
  generalize eh1 : zz_uI h 27 0 0 = h1
  replace H := H h1 eh1.symm
  refine zg_aload_n (pc := 5) dX6_walk_5 rfl rfl ?_
  refine zg_aload_n (pc := 6) dX6_walk_6 rfl rfl ?_
  refine zg_iload_n (pc := 7) dX6_walk_7 rfl rfl ?_
  refine zg_iconst (pc := 8) dX6_walk_8 (v := (-1)) (by decide) ?_
  refine zg_iload_n (pc := 9) dX6_walk_9 rfl rfl ?_
  refine zg_callVv (st := []) (pc := 10) dX6_walk_10 (As := [.ref 2, .int l2, .int ((-1)), .int l3]) lk_X6_38 kC_27 (by decide) rfl (Nat.le_of_ble_eq_true rfl) (Nat.le_of_ble_eq_true rfl) (sd_X6_addPlace (d + 1) H) (fun h2 H => ?_)
  refine zg_iconst (pc := 13) dX6_walk_13 (v := 0) (by decide) ?_
  refine zg_istore (pc := 14) dX6_walk_14 (by decide) (L' := [some (.ref 27), some (.ref 2), some (.int l2), some (.int l3), some (.int 0)]) rfl ?_
  refine zg_weak (L' := [some (.ref 27), some (.ref 2), none, some (.int l3), some (.int 0)]) ⟨rfl, ⟨rfl, ⟨rfl, ⟨rfl, trivial⟩⟩⟩⟩ ?_
  exact sd_X6_walk_l16  H
set_option maxRecDepth 100000 in
theorem sd_X8_torqueOf (d : Nat) {l1 : Int32} {h : zz_Hp} {Q : Int32 → zz_Hp → Prop} (H : w_X8_torqueOf l1 h Q) : zz_G zKC zNC (d + 4) mX8_torqueOf (qI Q) 0 (zz_L0 2 [.ref 0, .int l1]) [] h := by
  show zz_G zKC zNC (d + 4) mX8_torqueOf (qI Q) 0 [some (.ref 0), some (.int l1)] [] h
  unfold w_X8_torqueOf at H
  refine zg_aload_n (pc := 0) dX8_torqueOf_0 rfl rfl ?_
  refine zg_getR (pc := 1) dX8_torqueOf_1 lf_X8_54 kC_0 (by decide) rfl ?_
  refine zg_aload_n (pc := 4) dX8_torqueOf_4 rfl rfl ?_
  refine zg_getR (pc := 5) dX8_torqueOf_5 lf_X8_12 kC_0 (by decide) rfl ?_
  refine zg_getR (pc := 8) dX8_torqueOf_8 lf_X8_75 kC_1 (by decide) rfl ?_
  refine zg_iload_n (pc := 11) dX8_torqueOf_11 rfl rfl ?_
  refine zg_iconst (pc := 12) dX8_torqueOf_12 (v := (-1)) (by decide) ?_
  refine zg_callVv (st := []) (pc := 13) dX8_torqueOf_13 (As := [.ref 2, .int l1, .int ((-1))]) lk_X8_173 kC_27 (by decide) rfl (Nat.le_of_ble_eq_true rfl) (Nat.le_of_ble_eq_true rfl) (sd_X6_walk d H) (fun h1 H => ?_)
  refine zg_aload_n (pc := 16) dX8_torqueOf_16 rfl rfl ?_
  refine zg_getR (pc := 17) dX8_torqueOf_17 lf_X8_54 kC_0 (by decide) rfl ?_
  refine zg_aload_n (pc := 20) dX8_torqueOf_20 rfl rfl ?_
  refine zg_getR (pc := 21) dX8_torqueOf_21 lf_X8_12 kC_0 (by decide) rfl ?_
  refine zg_getR (pc := 24) dX8_torqueOf_24 lf_X8_75 kC_1 (by decide) rfl ?_
  refine zg_iconst (pc := 27) dX8_torqueOf_27 (v := 0) (by decide) ?_
  refine zg_callVi (st := []) (pc := 28) dX8_torqueOf_28 (As := [.ref 2, .int 0]) lk_X8_189 kC_27 (by decide) rfl (Nat.le_of_ble_eq_true rfl) (Nat.le_of_ble_eq_true rfl) (sd_X6_torqueBy d H) (fun r4 h3 H => ?_)
  exact zg_iret (pc := 31) dX8_torqueOf_31 rfl ⟨_, rfl, H⟩
set_option maxRecDepth 100000 in
theorem sd_X8_torque (d : Nat) {l1 : Int32} {h : zz_Hp} {Q : Int32 → zz_Hp → Prop} (H : w_X8_torque l1 h Q) : zz_G zKC zNC (d + 5) mX8_torque (qI Q) 0 (zz_L0 3 [.ref 0, .int l1]) [] h := by
  show zz_G zKC zNC (d + 5) mX8_torque (qI Q) 0 [some (.ref 0), some (.int l1), none] [] h
  unfold w_X8_torque at H
  refine zg_aload_n (pc := 0) dX8_torque_0 rfl rfl ?_
  refine zg_getR (pc := 1) dX8_torque_1 lf_X8_12 kC_0 (by decide) rfl ?_
  refine zg_getR (pc := 4) dX8_torque_4 lf_X8_75 kC_1 (by decide) rfl ?_
  refine zg_iload_n (pc := 7) dX8_torque_7 rfl rfl ?_
  refine zg_callVi (st := []) (pc := 8) dX8_torque_8 (As := [.int l1]) lk_X8_85 kC_2 (by decide) rfl (Nat.le_of_ble_eq_true rfl) (Nat.le_of_ble_eq_true rfl) (sd_X7_has (d + 4) H) (fun r2 h1 H => ?_)
  refine zg_if_ne (pc := 11) dX8_torque_11 (tgt := 17) (by decide) (fun hc => ?_) (fun hc => ?_)
  · replace H := H.1 hc
    refine zg_aload_n (pc := 17) dX8_torque_17 rfl rfl ?_
    refine zg_iload_n (pc := 18) dX8_torque_18 rfl rfl ?_
    refine zg_callVi (st := []) (pc := 19) dX8_torque_19 (As := [.int l1]) lk_X8_148 kC_0 (by decide) rfl (Nat.le_of_ble_eq_true rfl) (Nat.le_of_ble_eq_true rfl) (sd_X8_torqueOf d H) (fun r4 h3 H => ?_)
    refine zg_istore_n (pc := 22) dX8_torque_22 rfl (by decide) (L' := [some (.ref 0), some (.int l1), some (.int r4)]) rfl ?_
    refine zg_aload_n (pc := 23) dX8_torque_23 rfl rfl ?_
    refine zg_getR (pc := 24) dX8_torque_24 lf_X8_54 kC_0 (by decide) rfl ?_
    refine zg_aload_n (pc := 27) dX8_torque_27 rfl rfl ?_
    refine zg_getR (pc := 28) dX8_torque_28 lf_X8_12 kC_0 (by decide) rfl ?_
    refine zg_getR (pc := 31) dX8_torque_31 lf_X8_75 kC_1 (by decide) rfl ?_
    refine zg_aload_n (pc := 34) dX8_torque_34 rfl rfl ?_
    refine zg_getR (pc := 35) dX8_torque_35 lf_X8_34 kC_0 (by decide) rfl ?_
    refine zg_callVv (st := []) (pc := 38) dX8_torque_38 (As := [.ref 2, .ref 20]) lk_X8_151 kC_27 (by decide) rfl (Nat.le_of_ble_eq_true rfl) (Nat.le_of_ble_eq_true rfl) (sd_X6_countFibres (d + 3) H) (fun h5 H => ?_)
    refine zg_iload_n (pc := 41) dX8_torque_41 rfl rfl ?_
    exact zg_iret (pc := 42) dX8_torque_42 rfl ⟨_, rfl, H⟩
  · replace H := H.2 hc
    refine zg_ldc (pc := 14) dX8_torque_14 lc_X8_125 ?_
    exact zg_iret (pc := 16) dX8_torque_16 rfl ⟨_, rfl, H⟩
set_option maxRecDepth 100000 in
theorem sd_X8_tally (d : Nat) {l1 : Int32} {h : zz_Hp} {Q : Int32 → zz_Hp → Prop} (H : w_X8_tally l1 h Q) : zz_G zKC zNC (d + 1) mX8_tally (qI Q) 0 (zz_L0 2 [.ref 0, .int l1]) [] h := by
  show zz_G zKC zNC (d + 1) mX8_tally (qI Q) 0 [some (.ref 0), some (.int l1)] [] h
  unfold w_X8_tally at H
  refine zg_iload_n (pc := 0) dX8_tally_0 rfl rfl ?_
  refine zg_iconst (pc := 1) dX8_tally_1 (v := 0) (by decide) ?_
  refine zg_iconst (pc := 2) dX8_tally_2 (v := 3) (by decide) ?_
  refine zg_callSi (st := []) (pc := 3) dX8_tally_3 (As := [.int l1, .int 0, .int 3]) lk_X8_121 rfl (Nat.le_of_ble_eq_true rfl) (Nat.le_of_ble_eq_true rfl) (sd_X8_inRange d H) (fun r2 h1 H => ?_)
  refine zg_if_eq (pc := 6) dX8_tally_6 (tgt := 18) (by decide) (fun hc => ?_) (fun hc => ?_)
  · replace H := H.1 hc
    refine zg_iconst (pc := 18) dX8_tally_18 (v := (-1)) (by decide) ?_
    exact zg_iret (pc := 19) dX8_tally_19 rfl ⟨_, rfl, H⟩
  · replace H := H.2 hc
    refine zg_aload_n (pc := 9) dX8_tally_9 rfl rfl ?_
    refine zg_getR (pc := 10) dX8_tally_10 lf_X8_34 kC_0 (by decide) rfl ?_
    refine zg_iload_n (pc := 13) dX8_tally_13 rfl rfl ?_
    obtain ⟨hb, H⟩ := H
    refine zg_iald (pc := 14) dX8_tally_14 kC_20 (by decide) hb ?_
    refine zg_goto (pc := 15) dX8_tally_15 (tgt := 19) (by decide) ?_
    exact zg_iret (pc := 19) dX8_tally_19 rfl ⟨_, rfl, H⟩
set_option maxRecDepth 100000 in
theorem sd_X2_byOf_l5 {d : Nat} {Q : Int64 → zz_Hp → Prop}  {l2 : Int64} {l4 : Int32} {h : zz_Hp}  (H : lp (fun s ag => w_X2_byOf_l5 ag Q  s.1 s.2.1 s.2.2) (l2, l4, h)) : zz_G zKC zNC (d + 3) mX2_byOf (qL Q) 5 [some (.ref 35), some (.ref 2), some (.long l2), none, some (.int l4)] [] h := by
  refine lp_sound (G := fun (s : Int64 × Int32 × zz_Hp) => zz_G zKC zNC (d + 3) mX2_byOf (qL Q) 5 [some (.ref 35), some (.ref 2), some (.long s.1), none, some (.int s.2.1)] [] s.2.2) ?_ H
  clear H
  intro s ag5 hag5 H
  obtain ⟨l2, l4, h⟩ := s
  replace hag5 : ∀ (l2 : Int64) (l4 : Int32) (h : zz_Hp), ag5 (l2, l4, h) → zz_G zKC zNC (d + 3) mX2_byOf (qL Q) 5 [some (.ref 35), some (.ref 2), some (.long l2), none, some (.int l4)] [] h := fun l2 l4 h H => hag5 (l2, l4, h) H
  replace H : w_X2_byOf_l5 ag5 Q  l2 l4 h := H
  show zz_G zKC zNC (d + 3) mX2_byOf (qL Q) 5 [some (.ref 35), some (.ref 2), some (.long l2), none, some (.int l4)] [] h
  unfold w_X2_byOf_l5 at H
  refine zg_iload (pc := 5) dX2_byOf_5 rfl ?_
  refine zg_aload_n (pc := 7) dX2_byOf_7 rfl rfl ?_
  refine zg_getI (pc := 8) dX2_byOf_8 lf_X2_29 kC_35 (by decide) rfl ?_
  refine zg_icmp_ge (pc := 11) dX2_byOf_11 (tgt := 35) (by decide) (fun hc => ?_) (fun hc => ?_)
  · replace H := H.1 hc
    refine zg_lload_n (pc := 35) dX2_byOf_35 rfl rfl ?_
    exact zg_lret (pc := 36) dX2_byOf_36 rfl ⟨_, rfl, H⟩
  · replace H := H.2 hc
    refine zg_lload_n (pc := 14) dX2_byOf_14 rfl rfl ?_
    refine zg_aload_n (pc := 15) dX2_byOf_15 rfl rfl ?_
    refine zg_aload_n (pc := 16) dX2_byOf_16 rfl rfl ?_
    refine zg_getR (pc := 17) dX2_byOf_17 lf_X2_9 kC_35 (by decide) rfl ?_
    refine zg_iload (pc := 20) dX2_byOf_20 rfl ?_
    obtain ⟨hb, H⟩ := H
    refine zg_iald (pc := 22) dX2_byOf_22 kC_36 (by decide) hb ?_
    refine zg_callVi (st := [.long l2]) (pc := 23) dX2_byOf_23 (As := [.int (h.1 36 (Int32.toNatClampNeg l4))]) lk_X2_38 kC_2 (by decide) rfl (Nat.le_of_ble_eq_true rfl) (Nat.le_of_ble_eq_true rfl) (sd_X7_by d H) (fun r2 h1 H => ?_)
    refine zg_i2l (pc := 26) dX2_byOf_26 ?_
    refine zg_lmul (pc := 27) dX2_byOf_27 ?_
    refine zg_lstore_n (pc := 28) dX2_byOf_28 rfl (by decide) (L' := [some (.ref 35), some (.ref 2), some (.long (l2 * (Int32.toInt64 r2))), none, some (.int l4)]) rfl ?_
    refine zg_iinc (pc := 29) dX2_byOf_29 rfl (v := l4 + 1) rfl (by decide) (L' := [some (.ref 35), some (.ref 2), some (.long (l2 * (Int32.toInt64 r2))), none, some (.int (l4 + 1))]) rfl ?_
    refine zg_goto (pc := 32) dX2_byOf_32 (tgt := 5) (by decide) ?_
    exact hag5 (l2 * (Int32.toInt64 r2)) (l4 + 1) _ H
set_option maxRecDepth 100000 in
theorem sd_X2_byOf (d : Nat)  {h : zz_Hp} {Q : Int64 → zz_Hp → Prop} (H : w_X2_byOf  h Q) : zz_G zKC zNC (d + 3) mX2_byOf (qL Q) 0 (zz_L0 5 [.ref 35, .ref 2]) [] h := by
  show zz_G zKC zNC (d + 3) mX2_byOf (qL Q) 0 [some (.ref 35), some (.ref 2), none, none, none] [] h
  unfold w_X2_byOf at H
  refine zg_lconst (pc := 0) dX2_byOf_0 (v := 1) (by decide) ?_
  refine zg_lstore_n (pc := 1) dX2_byOf_1 rfl (by decide) (L' := [some (.ref 35), some (.ref 2), some (.long 1), none, none]) rfl ?_
  refine zg_iconst (pc := 2) dX2_byOf_2 (v := 0) (by decide) ?_
  refine zg_istore (pc := 3) dX2_byOf_3 (by decide) (L' := [some (.ref 35), some (.ref 2), some (.long 1), none, some (.int 0)]) rfl ?_
  exact sd_X2_byOf_l5  H
set_option maxRecDepth 100000 in
theorem sd_X2_wholeOf_l4 {d : Nat} {Q : Int64 → zz_Hp → Prop}  {l1 : Int64} {l3 : Int32} {h : zz_Hp}  (H : lp (fun s ag => w_X2_wholeOf_l4 ag Q  s.1 s.2.1 s.2.2) (l1, l3, h)) : zz_G zKC zNC (d + 0) mX2_wholeOf (qL Q) 4 [some (.ref 35), some (.long l1), none, some (.int l3)] [] h := by
  refine lp_sound (G := fun (s : Int64 × Int32 × zz_Hp) => zz_G zKC zNC (d + 0) mX2_wholeOf (qL Q) 4 [some (.ref 35), some (.long s.1), none, some (.int s.2.1)] [] s.2.2) ?_ H
  clear H
  intro s ag4 hag4 H
  obtain ⟨l1, l3, h⟩ := s
  replace hag4 : ∀ (l1 : Int64) (l3 : Int32) (h : zz_Hp), ag4 (l1, l3, h) → zz_G zKC zNC (d + 0) mX2_wholeOf (qL Q) 4 [some (.ref 35), some (.long l1), none, some (.int l3)] [] h := fun l1 l3 h H => hag4 (l1, l3, h) H
  replace H : w_X2_wholeOf_l4 ag4 Q  l1 l3 h := H
  show zz_G zKC zNC (d + 0) mX2_wholeOf (qL Q) 4 [some (.ref 35), some (.long l1), none, some (.int l3)] [] h
  unfold w_X2_wholeOf_l4 at H
  refine zg_iload_n (pc := 4) dX2_wholeOf_4 rfl rfl ?_
  refine zg_aload_n (pc := 5) dX2_wholeOf_5 rfl rfl ?_
  refine zg_getI (pc := 6) dX2_wholeOf_6 lf_X2_29 kC_35 (by decide) rfl ?_
  refine zg_icmp_ge (pc := 9) dX2_wholeOf_9 (tgt := 24) (by decide) (fun hc => ?_) (fun hc => ?_)
  · replace H := H.1 hc
    refine zg_lload_n (pc := 24) dX2_wholeOf_24 rfl rfl ?_
    exact zg_lret (pc := 25) dX2_wholeOf_25 rfl ⟨_, rfl, H⟩
  · replace H := H.2 hc
    refine zg_lload_n (pc := 12) dX2_wholeOf_12 rfl rfl ?_
    refine zg_ldc2 (pc := 13) dX2_wholeOf_13 lc_X2_42 ?_
    refine zg_lmul (pc := 16) dX2_wholeOf_16 ?_
    refine zg_lstore_n (pc := 17) dX2_wholeOf_17 rfl (by decide) (L' := [some (.ref 35), some (.long (l1 * 1000)), none, some (.int l3)]) rfl ?_
    refine zg_iinc (pc := 18) dX2_wholeOf_18 rfl (v := l3 + 1) rfl (by decide) (L' := [some (.ref 35), some (.long (l1 * 1000)), none, some (.int (l3 + 1))]) rfl ?_
    refine zg_goto (pc := 21) dX2_wholeOf_21 (tgt := 4) (by decide) ?_
    exact hag4 (l1 * 1000) (l3 + 1) _ H
set_option maxRecDepth 100000 in
theorem sd_X2_wholeOf (d : Nat)  {h : zz_Hp} {Q : Int64 → zz_Hp → Prop} (H : w_X2_wholeOf  h Q) : zz_G zKC zNC (d + 0) mX2_wholeOf (qL Q) 0 (zz_L0 4 [.ref 35]) [] h := by
  show zz_G zKC zNC (d + 0) mX2_wholeOf (qL Q) 0 [some (.ref 35), none, none, none] [] h
  unfold w_X2_wholeOf at H
  refine zg_lconst (pc := 0) dX2_wholeOf_0 (v := 1) (by decide) ?_
  refine zg_lstore_n (pc := 1) dX2_wholeOf_1 rfl (by decide) (L' := [some (.ref 35), some (.long 1), none, none]) rfl ?_
  refine zg_iconst (pc := 2) dX2_wholeOf_2 (v := 0) (by decide) ?_
  refine zg_istore_n (pc := 3) dX2_wholeOf_3 rfl (by decide) (L' := [some (.ref 35), some (.long 1), none, some (.int 0)]) rfl ?_
  exact sd_X2_wholeOf_l4  H
set_option maxRecDepth 100000 in
theorem sd_X8_commonDivisor_l9 {d : Nat} {Q : Int64 → zz_Hp → Prop}  {l4 : Int64} {l6 : Int64} {l8 : Int32} {h : zz_Hp}  (H : lp (fun s ag => w_X8_commonDivisor_l9 ag Q  s.1 s.2.1 s.2.2.1 s.2.2.2) (l4, l6, l8, h)) : zz_G zKC zNC (d + 0) mX8_commonDivisor (qL Q) 9 [none, none, none, none, some (.long l4), none, some (.long l6), none, some (.int l8), none, none] [] h := by
  refine lp_sound (G := fun (s : Int64 × Int64 × Int32 × zz_Hp) => zz_G zKC zNC (d + 0) mX8_commonDivisor (qL Q) 9 [none, none, none, none, some (.long s.1), none, some (.long s.2.1), none, some (.int s.2.2.1), none, none] [] s.2.2.2) ?_ H
  clear H
  intro s ag9 hag9 H
  obtain ⟨l4, l6, l8, h⟩ := s
  replace hag9 : ∀ (l4 : Int64) (l6 : Int64) (l8 : Int32) (h : zz_Hp), ag9 (l4, l6, l8, h) → zz_G zKC zNC (d + 0) mX8_commonDivisor (qL Q) 9 [none, none, none, none, some (.long l4), none, some (.long l6), none, some (.int l8), none, none] [] h := fun l4 l6 l8 h H => hag9 (l4, l6, l8, h) H
  replace H : w_X8_commonDivisor_l9 ag9 Q  l4 l6 l8 h := H
  show zz_G zKC zNC (d + 0) mX8_commonDivisor (qL Q) 9 [none, none, none, none, some (.long l4), none, some (.long l6), none, some (.int l8), none, none] [] h
  unfold w_X8_commonDivisor_l9 at H
  refine zg_iload (pc := 9) dX8_commonDivisor_9 rfl ?_
  refine zg_sipush (pc := 11) dX8_commonDivisor_11 (v := 128) (by decide) ?_
  refine zg_icmp_ge (pc := 14) dX8_commonDivisor_14 (tgt := 45) (by decide) (fun hc => ?_) (fun hc => ?_)
  · replace H := H.1 hc
    refine zg_lload (pc := 45) dX8_commonDivisor_45 rfl ?_
    exact zg_lret (pc := 47) dX8_commonDivisor_47 rfl ⟨_, rfl, H⟩
  · replace H := H.2 hc
    refine zg_lload (pc := 17) dX8_commonDivisor_17 rfl ?_
    refine zg_lconst (pc := 19) dX8_commonDivisor_19 (v := 0) (by decide) ?_
    refine zg_lcmp (pc := 20) dX8_commonDivisor_20 ?_
    refine zg_if_eq (pc := 21) dX8_commonDivisor_21 (tgt := 45) (by decide) (fun hc => ?_) (fun hc => ?_)
    · replace H := H.1 hc
      refine zg_lload (pc := 45) dX8_commonDivisor_45 rfl ?_
      exact zg_lret (pc := 47) dX8_commonDivisor_47 rfl ⟨_, rfl, H⟩
    · replace H := H.2 hc
      refine zg_lload (pc := 24) dX8_commonDivisor_24 rfl ?_
      refine zg_lload (pc := 26) dX8_commonDivisor_26 rfl ?_
      obtain ⟨hb, H⟩ := H
      refine zg_lrem (pc := 28) dX8_commonDivisor_28 hb ?_
      refine zg_lstore (pc := 29) dX8_commonDivisor_29 (by decide) (L' := [none, none, none, none, some (.long l4), none, some (.long l6), none, some (.int l8), some (.long (l4 - l4 / l6 * l6)), none]) rfl ?_
      refine zg_lload (pc := 31) dX8_commonDivisor_31 rfl ?_
      refine zg_lstore (pc := 33) dX8_commonDivisor_33 (by decide) (L' := [none, none, none, none, some (.long l6), none, some (.long l6), none, some (.int l8), some (.long (l4 - l4 / l6 * l6)), none]) rfl ?_
      refine zg_lload (pc := 35) dX8_commonDivisor_35 rfl ?_
      refine zg_lstore (pc := 37) dX8_commonDivisor_37 (by decide) (L' := [none, none, none, none, some (.long l6), none, some (.long (l4 - l4 / l6 * l6)), none, some (.int l8), some (.long (l4 - l4 / l6 * l6)), none]) rfl ?_
      refine zg_iinc (pc := 39) dX8_commonDivisor_39 rfl (v := l8 + 1) rfl (by decide) (L' := [none, none, none, none, some (.long l6), none, some (.long (l4 - l4 / l6 * l6)), none, some (.int (l8 + 1)), some (.long (l4 - l4 / l6 * l6)), none]) rfl ?_
      refine zg_goto (pc := 42) dX8_commonDivisor_42 (tgt := 9) (by decide) ?_
      refine zg_weak (L' := [none, none, none, none, some (.long l6), none, some (.long (l4 - l4 / l6 * l6)), none, some (.int (l8 + 1)), none, none]) ⟨rfl, ⟨rfl, ⟨rfl, trivial⟩⟩⟩ ?_
      exact hag9 l6 (l4 - l4 / l6 * l6) (l8 + 1) _ H
set_option maxRecDepth 100000 in
theorem sd_X8_commonDivisor (d : Nat) {l0 : Int64} {l2 : Int64} {h : zz_Hp} {Q : Int64 → zz_Hp → Prop} (H : w_X8_commonDivisor l0 l2 h Q) : zz_G zKC zNC (d + 0) mX8_commonDivisor (qL Q) 0 (zz_L0 11 [.long l0, .long l2]) [] h := by
  show zz_G zKC zNC (d + 0) mX8_commonDivisor (qL Q) 0 [some (.long l0), none, some (.long l2), none, none, none, none, none, none, none, none] [] h
  unfold w_X8_commonDivisor at H
  refine zg_lload_n (pc := 0) dX8_commonDivisor_0 rfl rfl ?_
  refine zg_lstore (pc := 1) dX8_commonDivisor_1 (by decide) (L' := [some (.long l0), none, some (.long l2), none, some (.long l0), none, none, none, none, none, none]) rfl ?_
  refine zg_lload_n (pc := 3) dX8_commonDivisor_3 rfl rfl ?_
  refine zg_lstore (pc := 4) dX8_commonDivisor_4 (by decide) (L' := [some (.long l0), none, some (.long l2), none, some (.long l0), none, some (.long l2), none, none, none, none]) rfl ?_
  refine zg_iconst (pc := 6) dX8_commonDivisor_6 (v := 0) (by decide) ?_
  refine zg_istore (pc := 7) dX8_commonDivisor_7 (by decide) (L' := [some (.long l0), none, some (.long l2), none, some (.long l0), none, some (.long l2), none, some (.int 0), none, none]) rfl ?_
  refine zg_weak (L' := [none, none, none, none, some (.long l0), none, some (.long l2), none, some (.int 0), none, none]) ⟨rfl, ⟨rfl, ⟨rfl, trivial⟩⟩⟩ ?_
  exact sd_X8_commonDivisor_l9  H
set_option maxRecDepth 100000 in
theorem sd_X8_kept (d : Nat) {l1 : Int32} {l2 : Int32} {l3 : Int32} {h : zz_Hp} {Q : Int64 → zz_Hp → Prop} (H : w_X8_kept l1 l2 l3 h Q) : zz_G zKC zNC (d + 4) mX8_kept (qL Q) 0 (zz_L0 10 [.ref 0, .int l1, .int l2, .int l3]) [] h := by
  show zz_G zKC zNC (d + 4) mX8_kept (qL Q) 0 [some (.ref 0), some (.int l1), some (.int l2), some (.int l3), none, none, none, none, none, none] [] h
  unfold w_X8_kept at H
  refine zg_iload_n (pc := 0) dX8_kept_0 rfl rfl ?_
  refine zg_iconst (pc := 1) dX8_kept_1 (v := 0) (by decide) ?_
  refine zg_iconst (pc := 2) dX8_kept_2 (v := 1) (by decide) ?_
  refine zg_callSi (st := []) (pc := 3) dX8_kept_3 (As := [.int l3, .int 0, .int 1]) lk_X8_121 rfl (Nat.le_of_ble_eq_true rfl) (Nat.le_of_ble_eq_true rfl) (sd_X8_inRange (d + 3) H) (fun r2 h1 H => ?_)
  refine zg_if_eq (pc := 6) dX8_kept_6 (tgt := 28) (by decide) (fun hc => ?_) (fun hc => ?_)
  · replace H := H.1 hc
    refine zg_ldc2 (pc := 28) dX8_kept_28 lc_X8_155 ?_
    exact zg_lret (pc := 31) dX8_kept_31 rfl ⟨_, rfl, H⟩
  · replace H := H.2 hc
    refine zg_aload_n (pc := 9) dX8_kept_9 rfl rfl ?_
    refine zg_getR (pc := 10) dX8_kept_10 lf_X8_61 kC_0 (by decide) rfl ?_
    refine zg_aload_n (pc := 13) dX8_kept_13 rfl rfl ?_
    refine zg_getR (pc := 14) dX8_kept_14 lf_X8_12 kC_0 (by decide) rfl ?_
    refine zg_getR (pc := 17) dX8_kept_17 lf_X8_75 kC_1 (by decide) rfl ?_
    refine zg_iload_n (pc := 20) dX8_kept_20 rfl rfl ?_
    refine zg_iload_n (pc := 21) dX8_kept_21 rfl rfl ?_
    refine zg_callVi (st := []) (pc := 22) dX8_kept_22 (As := [.ref 2, .int l1, .int l2]) lk_X8_137 kC_35 (by decide) rfl (Nat.le_of_ble_eq_true rfl) (Nat.le_of_ble_eq_true rfl) (sd_X2_lead (d + 1) H) (fun r4 h3 H => ?_)
    refine zg_if_ne (pc := 25) dX8_kept_25 (tgt := 32) (by decide) (fun hc => ?_) (fun hc => ?_)
    · replace H := H.1 hc
      refine zg_aload_n (pc := 32) dX8_kept_32 rfl rfl ?_
      refine zg_getR (pc := 33) dX8_kept_33 lf_X8_61 kC_0 (by decide) rfl ?_
      refine zg_aload_n (pc := 36) dX8_kept_36 rfl rfl ?_
      refine zg_getR (pc := 37) dX8_kept_37 lf_X8_12 kC_0 (by decide) rfl ?_
      refine zg_getR (pc := 40) dX8_kept_40 lf_X8_75 kC_1 (by decide) rfl ?_
      refine zg_callVl (st := []) (pc := 43) dX8_kept_43 (As := [.ref 2]) lk_X8_157 kC_35 (by decide) rfl (Nat.le_of_ble_eq_true rfl) (Nat.le_of_ble_eq_true rfl) (sd_X2_byOf d H) (fun r6 h5 H => ?_)
      refine zg_lstore (pc := 46) dX8_kept_46 (by decide) (L' := [some (.ref 0), some (.int l1), some (.int l2), some (.int l3), some (.long r6), none, none, none, none, none]) rfl ?_
      refine zg_aload_n (pc := 48) dX8_kept_48 rfl rfl ?_
      refine zg_getR (pc := 49) dX8_kept_49 lf_X8_61 kC_0 (by decide) rfl ?_
      refine zg_callVl (st := []) (pc := 52) dX8_kept_52 (As := []) lk_X8_161 kC_35 (by decide) rfl (Nat.le_of_ble_eq_true rfl) (Nat.le_of_ble_eq_true rfl) (sd_X2_wholeOf (d + 3) H) (fun r8 h7 H => ?_)
      refine zg_lstore (pc := 55) dX8_kept_55 (by decide) (L' := [some (.ref 0), some (.int l1), some (.int l2), some (.int l3), some (.long r6), none, some (.long r8), none, none, none]) rfl ?_
      refine zg_lload (pc := 57) dX8_kept_57 rfl ?_
      refine zg_lload (pc := 59) dX8_kept_59 rfl ?_
      refine zg_callSl (st := []) (pc := 61) dX8_kept_61 (As := [.long r6, .long r8]) lk_X8_165 rfl (Nat.le_of_ble_eq_true rfl) (Nat.le_of_ble_eq_true rfl) (sd_X8_commonDivisor (d + 3) H) (fun r10 h9 H => ?_)
      refine zg_lstore (pc := 64) dX8_kept_64 (by decide) (L' := [some (.ref 0), some (.int l1), some (.int l2), some (.int l3), some (.long r6), none, some (.long r8), none, some (.long r10), none]) rfl ?_
      refine zg_lload (pc := 66) dX8_kept_66 rfl ?_
      refine zg_lconst (pc := 68) dX8_kept_68 (v := 0) (by decide) ?_
      refine zg_lcmp (pc := 69) dX8_kept_69 ?_
      refine zg_if_gt (pc := 70) dX8_kept_70 (tgt := 77) (by decide) (fun hc => ?_) (fun hc => ?_)
      · replace H := H.1 hc
        refine zg_iload_n (pc := 77) dX8_kept_77 rfl rfl ?_
        refine zg_if_ne (pc := 78) dX8_kept_78 (tgt := 89) (by decide) (fun hc => ?_) (fun hc => ?_)
        · replace H := H.1 hc
          refine zg_lload (pc := 89) dX8_kept_89 rfl ?_
          refine zg_lload (pc := 91) dX8_kept_91 rfl ?_
          obtain ⟨hb, H⟩ := H
          refine zg_ldiv (pc := 93) dX8_kept_93 hb ?_
          exact zg_lret (pc := 94) dX8_kept_94 rfl ⟨_, rfl, H⟩
        · replace H := H.2 hc
          refine zg_lload (pc := 81) dX8_kept_81 rfl ?_
          refine zg_lload (pc := 83) dX8_kept_83 rfl ?_
          obtain ⟨hb, H⟩ := H
          refine zg_ldiv (pc := 85) dX8_kept_85 hb ?_
          refine zg_goto (pc := 86) dX8_kept_86 (tgt := 94) (by decide) ?_
          exact zg_lret (pc := 94) dX8_kept_94 rfl ⟨_, rfl, H⟩
      · replace H := H.2 hc
        refine zg_ldc2 (pc := 73) dX8_kept_73 lc_X8_155 ?_
        exact zg_lret (pc := 76) dX8_kept_76 rfl ⟨_, rfl, H⟩
    · replace H := H.2 hc
      refine zg_ldc2 (pc := 28) dX8_kept_28 lc_X8_155 ?_
      exact zg_lret (pc := 31) dX8_kept_31 rfl ⟨_, rfl, H⟩
set_option maxRecDepth 100000 in
theorem sd_X8_cutUp (d : Nat) {l0 : Int32} {l1 : Int32} {h : zz_Hp} {Q : Int32 → zz_Hp → Prop} (H : w_X8_cutUp l0 l1 h Q) : zz_G zKC zNC (d + 0) mX8_cutUp (qI Q) 0 (zz_L0 2 [.int l0, .int l1]) [] h := by
  show zz_G zKC zNC (d + 0) mX8_cutUp (qI Q) 0 [some (.int l0), some (.int l1)] [] h
  unfold w_X8_cutUp at H
  refine zg_iload_n (pc := 0) dX8_cutUp_0 rfl rfl ?_
  refine zg_if_gt (pc := 1) dX8_cutUp_1 (tgt := 8) (by decide) (fun hc => ?_) (fun hc => ?_)
  · replace H := H.1 hc
    refine zg_iload_n (pc := 8) dX8_cutUp_8 rfl rfl ?_
    refine zg_iload_n (pc := 9) dX8_cutUp_9 rfl rfl ?_
    refine zg_iadd (pc := 10) dX8_cutUp_10 ?_
    refine zg_iconst (pc := 11) dX8_cutUp_11 (v := 1) (by decide) ?_
    refine zg_isub (pc := 12) dX8_cutUp_12 ?_
    refine zg_iload_n (pc := 13) dX8_cutUp_13 rfl rfl ?_
    obtain ⟨hb, H⟩ := H
    refine zg_idiv (pc := 14) dX8_cutUp_14 hb ?_
    exact zg_iret (pc := 15) dX8_cutUp_15 rfl ⟨_, rfl, H⟩
  · replace H := H.2 hc
    refine zg_iconst (pc := 4) dX8_cutUp_4 (v := 0) (by decide) ?_
    refine zg_goto (pc := 5) dX8_cutUp_5 (tgt := 15) (by decide) ?_
    exact zg_iret (pc := 15) dX8_cutUp_15 rfl ⟨_, rfl, H⟩
set_option maxRecDepth 100000 in
theorem sd_X2_needsFor_l5 {d : Nat} {Q : Int32 → zz_Hp → Prop}  {l3 : Int32} {l4 : Int32} {h : zz_Hp}  (H : lp (fun s ag => w_X2_needsFor_l5 ag Q  s.1 s.2.1 s.2.2) (l3, l4, h)) : zz_G zKC zNC (d + 3) mX2_needsFor (qI Q) 5 [some (.ref 35), some (.ref 2), none, some (.int l3), some (.int l4)] [] h := by
  refine lp_sound (G := fun (s : Int32 × Int32 × zz_Hp) => zz_G zKC zNC (d + 3) mX2_needsFor (qI Q) 5 [some (.ref 35), some (.ref 2), none, some (.int s.1), some (.int s.2.1)] [] s.2.2) ?_ H
  clear H
  intro s ag5 hag5 H
  obtain ⟨l3, l4, h⟩ := s
  replace hag5 : ∀ (l3 : Int32) (l4 : Int32) (h : zz_Hp), ag5 (l3, l4, h) → zz_G zKC zNC (d + 3) mX2_needsFor (qI Q) 5 [some (.ref 35), some (.ref 2), none, some (.int l3), some (.int l4)] [] h := fun l3 l4 h H => hag5 (l3, l4, h) H
  replace H : w_X2_needsFor_l5 ag5 Q  l3 l4 h := H
  show zz_G zKC zNC (d + 3) mX2_needsFor (qI Q) 5 [some (.ref 35), some (.ref 2), none, some (.int l3), some (.int l4)] [] h
  unfold w_X2_needsFor_l5 at H
  refine zg_iload (pc := 5) dX2_needsFor_5 rfl ?_
  refine zg_aload_n (pc := 7) dX2_needsFor_7 rfl rfl ?_
  refine zg_getI (pc := 8) dX2_needsFor_8 lf_X2_29 kC_35 (by decide) rfl ?_
  refine zg_icmp_ge (pc := 11) dX2_needsFor_11 (tgt := 40) (by decide) (fun hc => ?_) (fun hc => ?_)
  · replace H := H.1 hc
    refine zg_iload_n (pc := 40) dX2_needsFor_40 rfl rfl ?_
    exact zg_iret (pc := 41) dX2_needsFor_41 rfl ⟨_, rfl, H⟩
  · replace H := H.2 hc
    refine zg_iload_n (pc := 14) dX2_needsFor_14 rfl rfl ?_
    refine zg_sipush (pc := 15) dX2_needsFor_15 (v := 1000) (by decide) ?_
    refine zg_imul (pc := 18) dX2_needsFor_18 ?_
    refine zg_aload_n (pc := 19) dX2_needsFor_19 rfl rfl ?_
    refine zg_aload_n (pc := 20) dX2_needsFor_20 rfl rfl ?_
    refine zg_getR (pc := 21) dX2_needsFor_21 lf_X2_9 kC_35 (by decide) rfl ?_
    refine zg_iload (pc := 24) dX2_needsFor_24 rfl ?_
    obtain ⟨hb, H⟩ := H
    refine zg_iald (pc := 26) dX2_needsFor_26 kC_36 (by decide) hb ?_
    refine zg_callVi (st := [.int (l3 * 1000)]) (pc := 27) dX2_needsFor_27 (As := [.int (h.1 36 (Int32.toNatClampNeg l4))]) lk_X2_38 kC_2 (by decide) rfl (Nat.le_of_ble_eq_true rfl) (Nat.le_of_ble_eq_true rfl) (sd_X7_by d H) (fun r2 h1 H => ?_)
    refine zg_callNi (st := []) (pc := 30) dX2_needsFor_30 (As := [.int (l3 * 1000), .int r2]) lk_X2_44 rfl (Nat.le_of_ble_eq_true rfl) (Nat.le_of_ble_eq_true rfl) (sd_X8_cutUp (d + 2) H) (fun r4 h3 H => ?_)
    refine zg_istore_n (pc := 33) dX2_needsFor_33 rfl (by decide) (L' := [some (.ref 35), some (.ref 2), none, some (.int r4), some (.int l4)]) rfl ?_
    refine zg_iinc (pc := 34) dX2_needsFor_34 rfl (v := l4 + 1) rfl (by decide) (L' := [some (.ref 35), some (.ref 2), none, some (.int r4), some (.int (l4 + 1))]) rfl ?_
    refine zg_goto (pc := 37) dX2_needsFor_37 (tgt := 5) (by decide) ?_
    exact hag5 r4 (l4 + 1) _ H
set_option maxRecDepth 100000 in
theorem sd_X2_needsFor (d : Nat) {l2 : Int32} {h : zz_Hp} {Q : Int32 → zz_Hp → Prop} (H : w_X2_needsFor l2 h Q) : zz_G zKC zNC (d + 3) mX2_needsFor (qI Q) 0 (zz_L0 5 [.ref 35, .ref 2, .int l2]) [] h := by
  show zz_G zKC zNC (d + 3) mX2_needsFor (qI Q) 0 [some (.ref 35), some (.ref 2), some (.int l2), none, none] [] h
  unfold w_X2_needsFor at H
  refine zg_iload_n (pc := 0) dX2_needsFor_0 rfl rfl ?_
  refine zg_istore_n (pc := 1) dX2_needsFor_1 rfl (by decide) (L' := [some (.ref 35), some (.ref 2), some (.int l2), some (.int l2), none]) rfl ?_
  refine zg_iconst (pc := 2) dX2_needsFor_2 (v := 0) (by decide) ?_
  refine zg_istore (pc := 3) dX2_needsFor_3 (by decide) (L' := [some (.ref 35), some (.ref 2), some (.int l2), some (.int l2), some (.int 0)]) rfl ?_
  refine zg_weak (L' := [some (.ref 35), some (.ref 2), none, some (.int l2), some (.int 0)]) ⟨rfl, ⟨rfl, ⟨rfl, ⟨rfl, trivial⟩⟩⟩⟩ ?_
  exact sd_X2_needsFor_l5  H
set_option maxRecDepth 100000 in
theorem sd_X8_needs (d : Nat) {l1 : Int32} {l2 : Int32} {l3 : Int32} {h : zz_Hp} {Q : Int32 → zz_Hp → Prop} (H : w_X8_needs l1 l2 l3 h Q) : zz_G zKC zNC (d + 4) mX8_needs (qI Q) 0 (zz_L0 4 [.ref 0, .int l1, .int l2, .int l3]) [] h := by
  show zz_G zKC zNC (d + 4) mX8_needs (qI Q) 0 [some (.ref 0), some (.int l1), some (.int l2), some (.int l3)] [] h
  unfold w_X8_needs at H
  refine zg_iload_n (pc := 0) dX8_needs_0 rfl rfl ?_
  refine zg_iconst (pc := 1) dX8_needs_1 (v := 0) (by decide) ?_
  refine zg_sipush (pc := 2) dX8_needs_2 (v := 9999) (by decide) ?_
  refine zg_callSi (st := []) (pc := 5) dX8_needs_5 (As := [.int l3, .int 0, .int 9999]) lk_X8_121 rfl (Nat.le_of_ble_eq_true rfl) (Nat.le_of_ble_eq_true rfl) (sd_X8_inRange (d + 3) H) (fun r2 h1 H => ?_)
  refine zg_if_eq (pc := 8) dX8_needs_8 (tgt := 30) (by decide) (fun hc => ?_) (fun hc => ?_)
  · replace H := H.1 hc
    refine zg_iconst (pc := 30) dX8_needs_30 (v := (-1)) (by decide) ?_
    exact zg_iret (pc := 31) dX8_needs_31 rfl ⟨_, rfl, H⟩
  · replace H := H.2 hc
    refine zg_aload_n (pc := 11) dX8_needs_11 rfl rfl ?_
    refine zg_getR (pc := 12) dX8_needs_12 lf_X8_61 kC_0 (by decide) rfl ?_
    refine zg_aload_n (pc := 15) dX8_needs_15 rfl rfl ?_
    refine zg_getR (pc := 16) dX8_needs_16 lf_X8_12 kC_0 (by decide) rfl ?_
    refine zg_getR (pc := 19) dX8_needs_19 lf_X8_75 kC_1 (by decide) rfl ?_
    refine zg_iload_n (pc := 22) dX8_needs_22 rfl rfl ?_
    refine zg_iload_n (pc := 23) dX8_needs_23 rfl rfl ?_
    refine zg_callVi (st := []) (pc := 24) dX8_needs_24 (As := [.ref 2, .int l1, .int l2]) lk_X8_137 kC_35 (by decide) rfl (Nat.le_of_ble_eq_true rfl) (Nat.le_of_ble_eq_true rfl) (sd_X2_lead (d + 1) H) (fun r4 h3 H => ?_)
    refine zg_if_ne (pc := 27) dX8_needs_27 (tgt := 32) (by decide) (fun hc => ?_) (fun hc => ?_)
    · replace H := H.1 hc
      refine zg_aload_n (pc := 32) dX8_needs_32 rfl rfl ?_
      refine zg_getR (pc := 33) dX8_needs_33 lf_X8_61 kC_0 (by decide) rfl ?_
      refine zg_aload_n (pc := 36) dX8_needs_36 rfl rfl ?_
      refine zg_getR (pc := 37) dX8_needs_37 lf_X8_12 kC_0 (by decide) rfl ?_
      refine zg_getR (pc := 40) dX8_needs_40 lf_X8_75 kC_1 (by decide) rfl ?_
      refine zg_iload_n (pc := 43) dX8_needs_43 rfl rfl ?_
      refine zg_callVi (st := []) (pc := 44) dX8_needs_44 (As := [.ref 2, .int l3]) lk_X8_169 kC_35 (by decide) rfl (Nat.le_of_ble_eq_true rfl) (Nat.le_of_ble_eq_true rfl) (sd_X2_needsFor d H) (fun r6 h5 H => ?_)
      exact zg_iret (pc := 47) dX8_needs_47 rfl ⟨_, rfl, H⟩
    · replace H := H.2 hc
      refine zg_iconst (pc := 30) dX8_needs_30 (v := (-1)) (by decide) ?_
      exact zg_iret (pc := 31) dX8_needs_31 rfl ⟨_, rfl, H⟩
set_option maxRecDepth 100000 in
theorem sd_J7_fill_53178_34_l5 {d : Nat} {Q : zz_Hp → Prop} {l1 : Int32} {l3 : Int32} {l2 : Int32} {h : zz_Hp}  (H : lp (fun s ag => w_J7_fill_53178_34_l5 ag Q l1 l3 s.1 s.2) (l2, h)) : zz_G zKC zNC (d + 0) mJ7_fill_53178 (qV Q) 5 [some (.ref 34), some (.int l1), some (.int l2), some (.int l3)] [] h := by
  refine lp_sound (G := fun (s : Int32 × zz_Hp) => zz_G zKC zNC (d + 0) mJ7_fill_53178 (qV Q) 5 [some (.ref 34), some (.int l1), some (.int s.1), some (.int l3)] [] s.2) ?_ H
  clear H
  intro s ag5 hag5 H
  obtain ⟨l2, h⟩ := s
  replace hag5 : ∀ (l2 : Int32) (h : zz_Hp), ag5 (l2, h) → zz_G zKC zNC (d + 0) mJ7_fill_53178 (qV Q) 5 [some (.ref 34), some (.int l1), some (.int l2), some (.int l3)] [] h := fun l2 h H => hag5 (l2, h) H
  replace H : w_J7_fill_53178_34_l5 ag5 Q l1 l3 l2 h := H
  show zz_G zKC zNC (d + 0) mJ7_fill_53178 (qV Q) 5 [some (.ref 34), some (.int l1), some (.int l2), some (.int l3)] [] h
  unfold w_J7_fill_53178_34_l5 at H
  refine zg_iload_n (pc := 5) dJ7_fill_53178_5 rfl rfl ?_
  refine zg_iload_n (pc := 6) dJ7_fill_53178_6 rfl rfl ?_
  refine zg_icmp_ge (pc := 7) dJ7_fill_53178_7 (tgt := 20) (by decide) (fun hc => ?_) (fun hc => ?_)
  · replace H := H.1 hc
    exact zg_vret (pc := 20) dJ7_fill_53178_20 rfl ⟨rfl, H⟩
  · replace H := H.2 hc
    refine zg_aload_n (pc := 10) dJ7_fill_53178_10 rfl rfl ?_
    refine zg_iload_n (pc := 11) dJ7_fill_53178_11 rfl rfl ?_
    refine zg_iload_n (pc := 12) dJ7_fill_53178_12 rfl rfl ?_
    obtain ⟨hb, H⟩ := H
    refine zg_iast (pc := 13) dJ7_fill_53178_13 kC_34 (by decide) hb ?_
    generalize eh1 : zz_uI h 34 (Int32.toNatClampNeg l2) l1 = h1
    replace H := H h1 eh1.symm
    refine zg_iinc (pc := 14) dJ7_fill_53178_14 rfl (v := l2 + 1) rfl (by decide) (L' := [some (.ref 34), some (.int l1), some (.int (l2 + 1)), some (.int l3)]) rfl ?_
    refine zg_goto (pc := 17) dJ7_fill_53178_17 (tgt := 5) (by decide) ?_
    exact hag5 (l2 + 1) _ H
set_option maxRecDepth 100000 in
theorem sd_J7_fill_53178_34 (d : Nat) {l1 : Int32} {h : zz_Hp} {Q : zz_Hp → Prop} (H : w_J7_fill_53178_34 l1 h Q) : zz_G zKC zNC (d + 0) mJ7_fill_53178 (qV Q) 0 (zz_L0 4 [.ref 34, .int l1]) [] h := by
  show zz_G zKC zNC (d + 0) mJ7_fill_53178 (qV Q) 0 [some (.ref 34), some (.int l1), none, none] [] h
  unfold w_J7_fill_53178_34 at H
  refine zg_iconst (pc := 0) dJ7_fill_53178_0 (v := 0) (by decide) ?_
  refine zg_istore_n (pc := 1) dJ7_fill_53178_1 rfl (by decide) (L' := [some (.ref 34), some (.int l1), some (.int 0), none]) rfl ?_
  refine zg_aload_n (pc := 2) dJ7_fill_53178_2 rfl rfl ?_
  refine zg_alen (pc := 3) dJ7_fill_53178_3 (Or.inl rfl) (v := 16) (by decide) kC_34 (by decide) ?_
  refine zg_istore_n (pc := 4) dJ7_fill_53178_4 rfl (by decide) (L' := [some (.ref 34), some (.int l1), some (.int 0), some (.int 16)]) rfl ?_
  exact sd_J7_fill_53178_34_l5  H
set_option maxRecDepth 100000 in
theorem sd_X6_draw_j65 {d : Nat} {ag10 : Int32 × zz_Hp → Prop} {Q : zz_Hp → Prop} {l2 : Int32} {l3 : Int32} {s0 : Int32} {s1 : Int32} {h : zz_Hp} (hag10 : ∀ (l3 : Int32) (h : zz_Hp), ag10 (l3, h) → zz_G zKC zNC (d + 3) mX6_draw (qV Q) 10 [some (.ref 27), some (.ref 2), some (.int l2), some (.int l3), none] [] h) (H : w_X6_draw_j65 ag10 Q l2 l3 s0 s1 h) : zz_G zKC zNC (d + 3) mX6_draw (qV Q) 65 [some (.ref 27), some (.ref 2), some (.int l2), some (.int l3), none] [.int s0, .int s1, .ref 33] h := by
  unfold w_X6_draw_j65 at H
  obtain ⟨hb, H⟩ := H
  refine zg_iast (pc := 65) dX6_draw_65 kC_33 (by decide) hb ?_
  generalize eh7 : zz_uI h 33 (Int32.toNatClampNeg s1) s0 = h7
  replace H := H h7 eh7.symm
  refine zg_aload_n (pc := 66) dX6_draw_66 rfl rfl ?_
  refine zg_aload_n (pc := 67) dX6_draw_67 rfl rfl ?_
  refine zg_getR (pc := 68) dX6_draw_68 lf_X6_9 kC_27 (by decide) rfl ?_
  refine zg_iload_n (pc := 71) dX6_draw_71 rfl rfl ?_
  obtain ⟨hb, H⟩ := H
  refine zg_iald (pc := 72) dX6_draw_72 kC_28 (by decide) hb ?_
  refine zg_callVi (st := []) (pc := 73) dX6_draw_73 (As := [.int (h7.1 28 (Int32.toNatClampNeg l3))]) lk_X6_79 kC_2 (by decide) rfl (Nat.le_of_ble_eq_true rfl) (Nat.le_of_ble_eq_true rfl) (sd_X7_isThread (d + 1) H) (fun r9 h8 H => ?_)
  refine zg_if_eq (pc := 76) dX6_draw_76 (tgt := 106) (by decide) (fun hc => ?_) (fun hc => ?_)
  · replace H := H.1 hc
    refine zg_iinc (pc := 106) dX6_draw_106 rfl (v := l3 + 1) rfl (by decide) (L' := [some (.ref 27), some (.ref 2), some (.int l2), some (.int (l3 + 1)), none]) rfl ?_
    refine zg_goto (pc := 109) dX6_draw_109 (tgt := 10) (by decide) ?_
    exact hag10 (l3 + 1) _ H
  · replace H := H.2 hc
    refine zg_aload_n (pc := 79) dX6_draw_79 rfl rfl ?_
    refine zg_getR (pc := 80) dX6_draw_80 lf_X6_31 kC_27 (by decide) rfl ?_
    refine zg_aload_n (pc := 83) dX6_draw_83 rfl rfl ?_
    refine zg_getR (pc := 84) dX6_draw_84 lf_X6_9 kC_27 (by decide) rfl ?_
    refine zg_iload_n (pc := 87) dX6_draw_87 rfl rfl ?_
    obtain ⟨hb, H⟩ := H
    refine zg_iald (pc := 88) dX6_draw_88 kC_28 (by decide) hb ?_
    refine zg_dup2 (pc := 89) dX6_draw_89 rfl rfl ?_
    obtain ⟨hb, H⟩ := H
    refine zg_iald (pc := 90) dX6_draw_90 kC_34 (by decide) hb ?_
    refine zg_aload_n (pc := 91) dX6_draw_91 rfl rfl ?_
    refine zg_getR (pc := 92) dX6_draw_92 lf_X6_18 kC_27 (by decide) rfl ?_
    refine zg_iload_n (pc := 95) dX6_draw_95 rfl rfl ?_
    obtain ⟨hb, H⟩ := H
    refine zg_iald (pc := 96) dX6_draw_96 kC_30 (by decide) hb ?_
    refine zg_aload_n (pc := 97) dX6_draw_97 rfl rfl ?_
    refine zg_getR (pc := 98) dX6_draw_98 lf_X6_28 kC_27 (by decide) rfl ?_
    refine zg_iload_n (pc := 101) dX6_draw_101 rfl rfl ?_
    obtain ⟨hb, H⟩ := H
    refine zg_iald (pc := 102) dX6_draw_102 kC_33 (by decide) hb ?_
    refine zg_imul (pc := 103) dX6_draw_103 ?_
    refine zg_iadd (pc := 104) dX6_draw_104 ?_
    obtain ⟨hb, H⟩ := H
    refine zg_iast (pc := 105) dX6_draw_105 kC_34 (by decide) hb ?_
    generalize eh10 : zz_uI h8 34 (Int32.toNatClampNeg (h8.1 28 (Int32.toNatClampNeg l3))) ((h8.1 34 (Int32.toNatClampNeg (h8.1 28 (Int32.toNatClampNeg l3)))) + ((h8.1 30 (Int32.toNatClampNeg l3)) * (h8.1 33 (Int32.toNatClampNeg l3)))) = h10
    replace H := H h10 eh10.symm
    refine zg_iinc (pc := 106) dX6_draw_106 rfl (v := l3 + 1) rfl (by decide) (L' := [some (.ref 27), some (.ref 2), some (.int l2), some (.int (l3 + 1)), none]) rfl ?_
    refine zg_goto (pc := 109) dX6_draw_109 (tgt := 10) (by decide) ?_
    exact hag10 (l3 + 1) _ H
set_option maxRecDepth 100000 in
theorem sd_X6_draw_l10 {d : Nat} {Q : zz_Hp → Prop} {l2 : Int32} {l3 : Int32} {h : zz_Hp}  (H : lp (fun s ag => w_X6_draw_l10 ag Q l2 s.1 s.2) (l3, h)) : zz_G zKC zNC (d + 3) mX6_draw (qV Q) 10 [some (.ref 27), some (.ref 2), some (.int l2), some (.int l3), none] [] h := by
  refine lp_sound (G := fun (s : Int32 × zz_Hp) => zz_G zKC zNC (d + 3) mX6_draw (qV Q) 10 [some (.ref 27), some (.ref 2), some (.int l2), some (.int s.1), none] [] s.2) ?_ H
  clear H
  intro s ag10 hag10 H
  obtain ⟨l3, h⟩ := s
  replace hag10 : ∀ (l3 : Int32) (h : zz_Hp), ag10 (l3, h) → zz_G zKC zNC (d + 3) mX6_draw (qV Q) 10 [some (.ref 27), some (.ref 2), some (.int l2), some (.int l3), none] [] h := fun l3 h H => hag10 (l3, h) H
  replace H : w_X6_draw_l10 ag10 Q l2 l3 h := H
  show zz_G zKC zNC (d + 3) mX6_draw (qV Q) 10 [some (.ref 27), some (.ref 2), some (.int l2), some (.int l3), none] [] h
  unfold w_X6_draw_l10 at H
  refine zg_iload_n (pc := 10) dX6_draw_10 rfl rfl ?_
  refine zg_aload_n (pc := 11) dX6_draw_11 rfl rfl ?_
  refine zg_getI (pc := 12) dX6_draw_12 lf_X6_34 kC_27 (by decide) rfl ?_
  refine zg_icmp_ge (pc := 15) dX6_draw_15 (tgt := 112) (by decide) (fun hc => ?_) (fun hc => ?_)
  · replace H := H.1 hc
    exact zg_vret (pc := 112) dX6_draw_112 rfl ⟨rfl, H⟩
  · replace H := H.2 hc
    refine zg_aload_n (pc := 18) dX6_draw_18 rfl rfl ?_
    refine zg_getR (pc := 19) dX6_draw_19 lf_X6_21 kC_27 (by decide) rfl ?_
    refine zg_iload_n (pc := 22) dX6_draw_22 rfl rfl ?_
    obtain ⟨hb, H⟩ := H
    refine zg_iald (pc := 23) dX6_draw_23 kC_31 (by decide) hb ?_
    refine zg_istore (pc := 24) dX6_draw_24 (by decide) (L' := [some (.ref 27), some (.ref 2), some (.int l2), some (.int l3), some (.int (h.1 31 (Int32.toNatClampNeg l3)))]) rfl ?_
    refine zg_aload_n (pc := 26) dX6_draw_26 rfl rfl ?_
    refine zg_getR (pc := 27) dX6_draw_27 lf_X6_28 kC_27 (by decide) rfl ?_
    refine zg_iload_n (pc := 30) dX6_draw_30 rfl rfl ?_
    refine zg_iload (pc := 31) dX6_draw_31 rfl ?_
    refine zg_if_ge (pc := 33) dX6_draw_33 (tgt := 40) (by decide) (fun hc => ?_) (fun hc => ?_)
    · replace H := H.1 hc
      refine zg_aload_n (pc := 40) dX6_draw_40 rfl rfl ?_
      refine zg_getR (pc := 41) dX6_draw_41 lf_X6_28 kC_27 (by decide) rfl ?_
      refine zg_iload (pc := 44) dX6_draw_44 rfl ?_
      obtain ⟨hb, H⟩ := H
      refine zg_iald (pc := 46) dX6_draw_46 kC_33 (by decide) hb ?_
      refine zg_sipush (pc := 47) dX6_draw_47 (v := 1000) (by decide) ?_
      refine zg_imul (pc := 50) dX6_draw_50 ?_
      refine zg_aload_n (pc := 51) dX6_draw_51 rfl rfl ?_
      refine zg_aload_n (pc := 52) dX6_draw_52 rfl rfl ?_
      refine zg_getR (pc := 53) dX6_draw_53 lf_X6_9 kC_27 (by decide) rfl ?_
      refine zg_iload (pc := 56) dX6_draw_56 rfl ?_
      obtain ⟨hb, H⟩ := H
      refine zg_iald (pc := 58) dX6_draw_58 kC_28 (by decide) hb ?_
      refine zg_callVi (st := [.int ((h.1 33 (Int32.toNatClampNeg (h.1 31 (Int32.toNatClampNeg l3)))) * 1000), .int l3, .ref 33]) (pc := 59) dX6_draw_59 (As := [.int (h.1 28 (Int32.toNatClampNeg (h.1 31 (Int32.toNatClampNeg l3))))]) lk_X6_72 kC_2 (by decide) rfl (Nat.le_of_ble_eq_true rfl) (Nat.le_of_ble_eq_true rfl) (sd_X7_by d H) (fun r4 h3 H => ?_)
      refine zg_callNi (st := [.int l3, .ref 33]) (pc := 62) dX6_draw_62 (As := [.int ((h.1 33 (Int32.toNatClampNeg (h.1 31 (Int32.toNatClampNeg l3)))) * 1000), .int r4]) lk_X6_76 rfl (Nat.le_of_ble_eq_true rfl) (Nat.le_of_ble_eq_true rfl) (sd_X8_cutUp (d + 2) H) (fun r6 h5 H => ?_)
      refine zg_weak (L' := [some (.ref 27), some (.ref 2), some (.int l2), some (.int l3), none]) ⟨rfl, ⟨rfl, ⟨rfl, ⟨rfl, trivial⟩⟩⟩⟩ ?_
      exact sd_X6_draw_j65 hag10 H
    · replace H := H.2 hc
      refine zg_iload_n (pc := 36) dX6_draw_36 rfl rfl ?_
      refine zg_goto (pc := 37) dX6_draw_37 (tgt := 65) (by decide) ?_
      refine zg_weak (L' := [some (.ref 27), some (.ref 2), some (.int l2), some (.int l3), none]) ⟨rfl, ⟨rfl, ⟨rfl, ⟨rfl, trivial⟩⟩⟩⟩ ?_
      exact sd_X6_draw_j65 hag10 H
set_option maxRecDepth 100000 in
theorem sd_X6_draw (d : Nat) {l2 : Int32} {h : zz_Hp} {Q : zz_Hp → Prop} (H : w_X6_draw l2 h Q) : zz_G zKC zNC (d + 3) mX6_draw (qV Q) 0 (zz_L0 5 [.ref 27, .ref 2, .int l2]) [] h := by
  show zz_G zKC zNC (d + 3) mX6_draw (qV Q) 0 [some (.ref 27), some (.ref 2), some (.int l2), none, none] [] h
  unfold w_X6_draw at H
  refine zg_aload_n (pc := 0) dX6_draw_0 rfl rfl ?_
  refine zg_getR (pc := 1) dX6_draw_1 lf_X6_31 kC_27 (by decide) rfl ?_
  refine zg_iconst (pc := 4) dX6_draw_4 (v := 0) (by decide) ?_
  refine zg_callSv (st := []) (pc := 5) dX6_draw_5 (As := [.ref 34, .int 0]) lk_X6_66 rfl (Nat.le_of_ble_eq_true rfl) (Nat.le_of_ble_eq_true rfl) (sd_J7_fill_53178_34 (d + 2) H) (fun h1 H => ?_)
  refine zg_iconst (pc := 8) dX6_draw_8 (v := 0) (by decide) ?_
  refine zg_istore_n (pc := 9) dX6_draw_9 rfl (by decide) (L' := [some (.ref 27), some (.ref 2), some (.int l2), some (.int 0), none]) rfl ?_
  exact sd_X6_draw_l10  H
set_option maxRecDepth 100000 in
theorem sd_X6_heavyOf_l4 {d : Nat} {Q : Int32 → zz_Hp → Prop}  {l2 : Int32} {l3 : Int32} {h : zz_Hp}  (H : lp (fun s ag => w_X6_heavyOf_l4 ag Q  s.1 s.2.1 s.2.2) (l2, l3, h)) : zz_G zKC zNC (d + 1) mX6_heavyOf (qI Q) 4 [some (.ref 27), some (.ref 2), some (.int l2), some (.int l3)] [] h := by
  refine lp_sound (G := fun (s : Int32 × Int32 × zz_Hp) => zz_G zKC zNC (d + 1) mX6_heavyOf (qI Q) 4 [some (.ref 27), some (.ref 2), some (.int s.1), some (.int s.2.1)] [] s.2.2) ?_ H
  clear H
  intro s ag4 hag4 H
  obtain ⟨l2, l3, h⟩ := s
  replace hag4 : ∀ (l2 : Int32) (l3 : Int32) (h : zz_Hp), ag4 (l2, l3, h) → zz_G zKC zNC (d + 1) mX6_heavyOf (qI Q) 4 [some (.ref 27), some (.ref 2), some (.int l2), some (.int l3)] [] h := fun l2 l3 h H => hag4 (l2, l3, h) H
  replace H : w_X6_heavyOf_l4 ag4 Q  l2 l3 h := H
  show zz_G zKC zNC (d + 1) mX6_heavyOf (qI Q) 4 [some (.ref 27), some (.ref 2), some (.int l2), some (.int l3)] [] h
  unfold w_X6_heavyOf_l4 at H
  refine zg_iload_n (pc := 4) dX6_heavyOf_4 rfl rfl ?_
  refine zg_aload_n (pc := 5) dX6_heavyOf_5 rfl rfl ?_
  refine zg_getI (pc := 6) dX6_heavyOf_6 lf_X6_83 kC_2 (by decide) rfl ?_
  refine zg_icmp_ge (pc := 9) dX6_heavyOf_9 (tgt := 34) (by decide) (fun hc => ?_) (fun hc => ?_)
  · replace H := H.1 hc
    refine zg_iload_n (pc := 34) dX6_heavyOf_34 rfl rfl ?_
    refine zg_bipush (pc := 35) dX6_heavyOf_35 (v := 100) (by decide) ?_
    refine zg_idiv (pc := 37) dX6_heavyOf_37 (by decide) ?_
    exact zg_iret (pc := 38) dX6_heavyOf_38 rfl ⟨_, rfl, H⟩
  · replace H := H.2 hc
    refine zg_iload_n (pc := 12) dX6_heavyOf_12 rfl rfl ?_
    refine zg_aload_n (pc := 13) dX6_heavyOf_13 rfl rfl ?_
    refine zg_getR (pc := 14) dX6_heavyOf_14 lf_X6_31 kC_27 (by decide) rfl ?_
    refine zg_iload_n (pc := 17) dX6_heavyOf_17 rfl rfl ?_
    obtain ⟨hb, H⟩ := H
    refine zg_iald (pc := 18) dX6_heavyOf_18 kC_34 (by decide) hb ?_
    refine zg_aload_n (pc := 19) dX6_heavyOf_19 rfl rfl ?_
    refine zg_iload_n (pc := 20) dX6_heavyOf_20 rfl rfl ?_
    refine zg_iconst (pc := 21) dX6_heavyOf_21 (v := 1) (by decide) ?_
    refine zg_callVi (st := [.int (h.1 34 (Int32.toNatClampNeg l3)), .int l2]) (pc := 22) dX6_heavyOf_22 (As := [.int l3, .int 1]) lk_X6_46 kC_2 (by decide) rfl (Nat.le_of_ble_eq_true rfl) (Nat.le_of_ble_eq_true rfl) (sd_X7_fact d H) (fun r2 h1 H => ?_)
    refine zg_imul (pc := 25) dX6_heavyOf_25 ?_
    refine zg_iadd (pc := 26) dX6_heavyOf_26 ?_
    refine zg_istore_n (pc := 27) dX6_heavyOf_27 rfl (by decide) (L' := [some (.ref 27), some (.ref 2), some (.int (l2 + ((h.1 34 (Int32.toNatClampNeg l3)) * r2))), some (.int l3)]) rfl ?_
    refine zg_iinc (pc := 28) dX6_heavyOf_28 rfl (v := l3 + 1) rfl (by decide) (L' := [some (.ref 27), some (.ref 2), some (.int (l2 + ((h.1 34 (Int32.toNatClampNeg l3)) * r2))), some (.int (l3 + 1))]) rfl ?_
    refine zg_goto (pc := 31) dX6_heavyOf_31 (tgt := 4) (by decide) ?_
    exact hag4 (l2 + ((h.1 34 (Int32.toNatClampNeg l3)) * r2)) (l3 + 1) _ H
set_option maxRecDepth 100000 in
theorem sd_X6_heavyOf (d : Nat)  {h : zz_Hp} {Q : Int32 → zz_Hp → Prop} (H : w_X6_heavyOf  h Q) : zz_G zKC zNC (d + 1) mX6_heavyOf (qI Q) 0 (zz_L0 4 [.ref 27, .ref 2]) [] h := by
  show zz_G zKC zNC (d + 1) mX6_heavyOf (qI Q) 0 [some (.ref 27), some (.ref 2), none, none] [] h
  unfold w_X6_heavyOf at H
  refine zg_iconst (pc := 0) dX6_heavyOf_0 (v := 0) (by decide) ?_
  refine zg_istore_n (pc := 1) dX6_heavyOf_1 rfl (by decide) (L' := [some (.ref 27), some (.ref 2), some (.int 0), none]) rfl ?_
  refine zg_iconst (pc := 2) dX6_heavyOf_2 (v := 0) (by decide) ?_
  refine zg_istore_n (pc := 3) dX6_heavyOf_3 rfl (by decide) (L' := [some (.ref 27), some (.ref 2), some (.int 0), some (.int 0)]) rfl ?_
  exact sd_X6_heavyOf_l4  H
set_option maxRecDepth 100000 in
theorem sd_X8_heavy (d : Nat) {l1 : Int32} {l2 : Int32} {h : zz_Hp} {Q : Int32 → zz_Hp → Prop} (H : w_X8_heavy l1 l2 h Q) : zz_G zKC zNC (d + 4) mX8_heavy (qI Q) 0 (zz_L0 3 [.ref 0, .int l1, .int l2]) [] h := by
  show zz_G zKC zNC (d + 4) mX8_heavy (qI Q) 0 [some (.ref 0), some (.int l1), some (.int l2)] [] h
  unfold w_X8_heavy at H
  refine zg_aload_n (pc := 0) dX8_heavy_0 rfl rfl ?_
  refine zg_getR (pc := 1) dX8_heavy_1 lf_X8_12 kC_0 (by decide) rfl ?_
  refine zg_getR (pc := 4) dX8_heavy_4 lf_X8_75 kC_1 (by decide) rfl ?_
  refine zg_iload_n (pc := 7) dX8_heavy_7 rfl rfl ?_
  refine zg_callVi (st := []) (pc := 8) dX8_heavy_8 (As := [.int l1]) lk_X8_85 kC_2 (by decide) rfl (Nat.le_of_ble_eq_true rfl) (Nat.le_of_ble_eq_true rfl) (sd_X7_has (d + 3) H) (fun r2 h1 H => ?_)
  refine zg_if_eq (pc := 11) dX8_heavy_11 (tgt := 25) (by decide) (fun hc => ?_) (fun hc => ?_)
  · replace H := H.1 hc
    refine zg_iconst (pc := 25) dX8_heavy_25 (v := (-1)) (by decide) ?_
    exact zg_iret (pc := 26) dX8_heavy_26 rfl ⟨_, rfl, H⟩
  · replace H := H.2 hc
    refine zg_iload_n (pc := 14) dX8_heavy_14 rfl rfl ?_
    refine zg_iconst (pc := 15) dX8_heavy_15 (v := 0) (by decide) ?_
    refine zg_sipush (pc := 16) dX8_heavy_16 (v := 9999) (by decide) ?_
    refine zg_callSi (st := []) (pc := 19) dX8_heavy_19 (As := [.int l2, .int 0, .int 9999]) lk_X8_121 rfl (Nat.le_of_ble_eq_true rfl) (Nat.le_of_ble_eq_true rfl) (sd_X8_inRange (d + 3) H) (fun r4 h3 H => ?_)
    refine zg_if_ne (pc := 22) dX8_heavy_22 (tgt := 27) (by decide) (fun hc => ?_) (fun hc => ?_)
    · replace H := H.1 hc
      refine zg_aload_n (pc := 27) dX8_heavy_27 rfl rfl ?_
      refine zg_getR (pc := 28) dX8_heavy_28 lf_X8_54 kC_0 (by decide) rfl ?_
      refine zg_aload_n (pc := 31) dX8_heavy_31 rfl rfl ?_
      refine zg_getR (pc := 32) dX8_heavy_32 lf_X8_12 kC_0 (by decide) rfl ?_
      refine zg_getR (pc := 35) dX8_heavy_35 lf_X8_75 kC_1 (by decide) rfl ?_
      refine zg_iload_n (pc := 38) dX8_heavy_38 rfl rfl ?_
      refine zg_iconst (pc := 39) dX8_heavy_39 (v := (-1)) (by decide) ?_
      refine zg_callVv (st := []) (pc := 40) dX8_heavy_40 (As := [.ref 2, .int l1, .int ((-1))]) lk_X8_173 kC_27 (by decide) rfl (Nat.le_of_ble_eq_true rfl) (Nat.le_of_ble_eq_true rfl) (sd_X6_walk d H) (fun h5 H => ?_)
      refine zg_aload_n (pc := 43) dX8_heavy_43 rfl rfl ?_
      refine zg_getR (pc := 44) dX8_heavy_44 lf_X8_54 kC_0 (by decide) rfl ?_
      refine zg_aload_n (pc := 47) dX8_heavy_47 rfl rfl ?_
      refine zg_getR (pc := 48) dX8_heavy_48 lf_X8_12 kC_0 (by decide) rfl ?_
      refine zg_getR (pc := 51) dX8_heavy_51 lf_X8_75 kC_1 (by decide) rfl ?_
      refine zg_iload_n (pc := 54) dX8_heavy_54 rfl rfl ?_
      refine zg_callVv (st := []) (pc := 55) dX8_heavy_55 (As := [.ref 2, .int l2]) lk_X8_177 kC_27 (by decide) rfl (Nat.le_of_ble_eq_true rfl) (Nat.le_of_ble_eq_true rfl) (sd_X6_draw d H) (fun h7 H => ?_)
      refine zg_aload_n (pc := 58) dX8_heavy_58 rfl rfl ?_
      refine zg_getR (pc := 59) dX8_heavy_59 lf_X8_54 kC_0 (by decide) rfl ?_
      refine zg_aload_n (pc := 62) dX8_heavy_62 rfl rfl ?_
      refine zg_getR (pc := 63) dX8_heavy_63 lf_X8_12 kC_0 (by decide) rfl ?_
      refine zg_getR (pc := 66) dX8_heavy_66 lf_X8_75 kC_1 (by decide) rfl ?_
      refine zg_callVi (st := []) (pc := 69) dX8_heavy_69 (As := [.ref 2]) lk_X8_181 kC_27 (by decide) rfl (Nat.le_of_ble_eq_true rfl) (Nat.le_of_ble_eq_true rfl) (sd_X6_heavyOf (d + 2) H) (fun r10 h9 H => ?_)
      exact zg_iret (pc := 72) dX8_heavy_72 rfl ⟨_, rfl, H⟩
    · replace H := H.2 hc
      refine zg_iconst (pc := 25) dX8_heavy_25 (v := (-1)) (by decide) ?_
      exact zg_iret (pc := 26) dX8_heavy_26 rfl ⟨_, rfl, H⟩
set_option maxRecDepth 100000 in
theorem sd_X7_isInside (d : Nat) {l1 : Int32} {l2 : Int32} {h : zz_Hp} {Q : Int32 → zz_Hp → Prop} (H : w_X7_isInside l1 l2 h Q) : zz_G zKC zNC (d + 1) mX7_isInside (qI Q) 0 (zz_L0 3 [.ref 2, .int l1, .int l2]) [] h := by
  show zz_G zKC zNC (d + 1) mX7_isInside (qI Q) 0 [some (.ref 2), some (.int l1), some (.int l2)] [] h
  unfold w_X7_isInside at H
  refine zg_aload_n (pc := 0) dX7_isInside_0 rfl rfl ?_
  refine zg_iload_n (pc := 1) dX7_isInside_1 rfl rfl ?_
  refine zg_bipush (pc := 2) dX7_isInside_2 (v := 7) (by decide) ?_
  refine zg_callVi (st := []) (pc := 4) dX7_isInside_4 (As := [.int l2, .int 7]) lk_X7_26 kC_2 (by decide) rfl (Nat.le_of_ble_eq_true rfl) (Nat.le_of_ble_eq_true rfl) (sd_X7_fact d H) (fun r2 h1 H => ?_)
  refine zg_iload_n (pc := 7) dX7_isInside_7 rfl rfl ?_
  refine zg_ishr (pc := 8) dX7_isInside_8 ?_
  refine zg_iconst (pc := 9) dX7_isInside_9 (v := 1) (by decide) ?_
  refine zg_iand (pc := 10) dX7_isInside_10 ?_
  refine zg_iconst (pc := 11) dX7_isInside_11 (v := 1) (by decide) ?_
  refine zg_icmp_ne (pc := 12) dX7_isInside_12 (tgt := 19) (by decide) (fun hc => ?_) (fun hc => ?_)
  · replace H := H.1 hc
    refine zg_iconst (pc := 19) dX7_isInside_19 (v := 0) (by decide) ?_
    exact zg_zret (pc := 20) dX7_isInside_20 (Or.inl rfl) rfl ⟨_, rfl, H⟩
  · replace H := H.2 hc
    refine zg_iconst (pc := 15) dX7_isInside_15 (v := 1) (by decide) ?_
    refine zg_goto (pc := 16) dX7_isInside_16 (tgt := 20) (by decide) ?_
    exact zg_zret (pc := 20) dX7_isInside_20 (Or.inr rfl) rfl ⟨_, rfl, H⟩
set_option maxRecDepth 100000 in
theorem sd_X8_balance_l107 {d : Nat} {ag97 : Int32 × Int32 × Int32 × zz_Hp → Prop} {Q : Int32 → zz_Hp → Prop} {l3 : Int32} {l6 : Int32} {l4 : Int32} {l5 : Int32} {l7 : Int32} {h : zz_Hp} (hag97 : ∀ (l4 : Int32) (l5 : Int32) (l6 : Int32) (h : zz_Hp), ag97 (l4, l5, l6, h) → zz_G zKC zNC (d + 4) mX8_balance (qI Q) 97 [some (.ref 0), none, none, some (.int l3), some (.int l4), some (.int l5), some (.int l6), none, none] [] h) (H : lp (fun s ag => w_X8_balance_l107 ag97 ag Q l3 l6 s.1 s.2.1 s.2.2.1 s.2.2.2) (l4, l5, l7, h)) : zz_G zKC zNC (d + 4) mX8_balance (qI Q) 107 [some (.ref 0), none, none, some (.int l3), some (.int l4), some (.int l5), some (.int l6), some (.int l7), none] [] h := by
  refine lp_sound (G := fun (s : Int32 × Int32 × Int32 × zz_Hp) => zz_G zKC zNC (d + 4) mX8_balance (qI Q) 107 [some (.ref 0), none, none, some (.int l3), some (.int s.1), some (.int s.2.1), some (.int l6), some (.int s.2.2.1), none] [] s.2.2.2) ?_ H
  clear H
  intro s ag107 hag107 H
  obtain ⟨l4, l5, l7, h⟩ := s
  replace hag107 : ∀ (l4 : Int32) (l5 : Int32) (l7 : Int32) (h : zz_Hp), ag107 (l4, l5, l7, h) → zz_G zKC zNC (d + 4) mX8_balance (qI Q) 107 [some (.ref 0), none, none, some (.int l3), some (.int l4), some (.int l5), some (.int l6), some (.int l7), none] [] h := fun l4 l5 l7 h H => hag107 (l4, l5, l7, h) H
  replace H : w_X8_balance_l107 ag97 ag107 Q l3 l6 l4 l5 l7 h := H
  show zz_G zKC zNC (d + 4) mX8_balance (qI Q) 107 [some (.ref 0), none, none, some (.int l3), some (.int l4), some (.int l5), some (.int l6), some (.int l7), none] [] h
  unfold w_X8_balance_l107 at H
  refine zg_iload (pc := 107) dX8_balance_107 rfl ?_
  refine zg_iconst (pc := 109) dX8_balance_109 (v := 1) (by decide) ?_
  refine zg_icmp_gt (pc := 110) dX8_balance_110 (tgt := 164) (by decide) (fun hc => ?_) (fun hc => ?_)
  · replace H := H.1 hc
    refine zg_iinc (pc := 164) dX8_balance_164 rfl (v := l6 + 1) rfl (by decide) (L' := [some (.ref 0), none, none, some (.int l3), some (.int l4), some (.int l5), some (.int (l6 + 1)), some (.int l7), none]) rfl ?_
    refine zg_goto (pc := 167) dX8_balance_167 (tgt := 97) (by decide) ?_
    refine zg_weak (L' := [some (.ref 0), none, none, some (.int l3), some (.int l4), some (.int l5), some (.int (l6 + 1)), none, none]) ⟨rfl, ⟨rfl, ⟨rfl, ⟨rfl, ⟨rfl, trivial⟩⟩⟩⟩⟩ ?_
    exact hag97 l4 l5 (l6 + 1) _ H
  · replace H := H.2 hc
    refine zg_aload_n (pc := 113) dX8_balance_113 rfl rfl ?_
    refine zg_getR (pc := 114) dX8_balance_114 lf_X8_54 kC_0 (by decide) rfl ?_
    refine zg_aload_n (pc := 117) dX8_balance_117 rfl rfl ?_
    refine zg_getR (pc := 118) dX8_balance_118 lf_X8_12 kC_0 (by decide) rfl ?_
    refine zg_getR (pc := 121) dX8_balance_121 lf_X8_75 kC_1 (by decide) rfl ?_
    refine zg_iload (pc := 124) dX8_balance_124 rfl ?_
    refine zg_iload (pc := 126) dX8_balance_126 rfl ?_
    refine zg_imul (pc := 128) dX8_balance_128 ?_
    refine zg_callVi (st := []) (pc := 129) dX8_balance_129 (As := [.ref 2, .int (l7 * l6)]) lk_X8_189 kC_27 (by decide) rfl (Nat.le_of_ble_eq_true rfl) (Nat.le_of_ble_eq_true rfl) (sd_X6_torqueBy d H) (fun r14 h13 H => ?_)
    refine zg_istore (pc := 132) dX8_balance_132 (by decide) (L' := [some (.ref 0), none, none, some (.int l3), some (.int l4), some (.int l5), some (.int l6), some (.int l7), some (.int r14)]) rfl ?_
    refine zg_iload (pc := 134) dX8_balance_134 rfl ?_
    refine zg_mabs (pc := 136) dX8_balance_136 lk_X8_192 (Nat.le_of_ble_eq_true rfl) ?_
    refine zg_iload (pc := 139) dX8_balance_139 rfl ?_
    refine zg_mabs (pc := 141) dX8_balance_141 lk_X8_192 (Nat.le_of_ble_eq_true rfl) ?_
    refine zg_icmp_ge (pc := 144) dX8_balance_144 (tgt := 158) (by decide) (fun hc => ?_) (fun hc => ?_)
    · replace H := H.1 hc
      refine zg_iinc (pc := 158) dX8_balance_158 rfl (v := l7 + 2) rfl (by decide) (L' := [some (.ref 0), none, none, some (.int l3), some (.int l4), some (.int l5), some (.int l6), some (.int (l7 + 2)), some (.int r14)]) rfl ?_
      refine zg_goto (pc := 161) dX8_balance_161 (tgt := 107) (by decide) ?_
      refine zg_weak (L' := [some (.ref 0), none, none, some (.int l3), some (.int l4), some (.int l5), some (.int l6), some (.int (l7 + 2)), none]) ⟨rfl, ⟨rfl, ⟨rfl, ⟨rfl, ⟨rfl, ⟨rfl, trivial⟩⟩⟩⟩⟩⟩ ?_
      exact hag107 l4 l5 (l7 + 2) _ H
    · replace H := H.2 hc
      refine zg_iload (pc := 147) dX8_balance_147 rfl ?_
      refine zg_istore (pc := 149) dX8_balance_149 (by decide) (L' := [some (.ref 0), none, none, some (.int l3), some (.int l4), some (.int r14), some (.int l6), some (.int l7), some (.int r14)]) rfl ?_
      refine zg_iload (pc := 151) dX8_balance_151 rfl ?_
      refine zg_iload (pc := 153) dX8_balance_153 rfl ?_
      refine zg_imul (pc := 155) dX8_balance_155 ?_
      refine zg_istore (pc := 156) dX8_balance_156 (by decide) (L' := [some (.ref 0), none, none, some (.int l3), some (.int (l7 * l6)), some (.int r14), some (.int l6), some (.int l7), some (.int r14)]) rfl ?_
      refine zg_iinc (pc := 158) dX8_balance_158 rfl (v := l7 + 2) rfl (by decide) (L' := [some (.ref 0), none, none, some (.int l3), some (.int (l7 * l6)), some (.int r14), some (.int l6), some (.int (l7 + 2)), some (.int r14)]) rfl ?_
      refine zg_goto (pc := 161) dX8_balance_161 (tgt := 107) (by decide) ?_
      refine zg_weak (L' := [some (.ref 0), none, none, some (.int l3), some (.int (l7 * l6)), some (.int r14), some (.int l6), some (.int (l7 + 2)), none]) ⟨rfl, ⟨rfl, ⟨rfl, ⟨rfl, ⟨rfl, ⟨rfl, trivial⟩⟩⟩⟩⟩⟩ ?_
      exact hag107 (l7 * l6) r14 (l7 + 2) _ H
set_option maxRecDepth 100000 in
theorem sd_X8_balance_l97 {d : Nat} {Q : Int32 → zz_Hp → Prop} {l3 : Int32} {l4 : Int32} {l5 : Int32} {l6 : Int32} {h : zz_Hp}  (H : lp (fun s ag => w_X8_balance_l97 ag Q l3 s.1 s.2.1 s.2.2.1 s.2.2.2) (l4, l5, l6, h)) : zz_G zKC zNC (d + 4) mX8_balance (qI Q) 97 [some (.ref 0), none, none, some (.int l3), some (.int l4), some (.int l5), some (.int l6), none, none] [] h := by
  refine lp_sound (G := fun (s : Int32 × Int32 × Int32 × zz_Hp) => zz_G zKC zNC (d + 4) mX8_balance (qI Q) 97 [some (.ref 0), none, none, some (.int l3), some (.int s.1), some (.int s.2.1), some (.int s.2.2.1), none, none] [] s.2.2.2) ?_ H
  clear H
  intro s ag97 hag97 H
  obtain ⟨l4, l5, l6, h⟩ := s
  replace hag97 : ∀ (l4 : Int32) (l5 : Int32) (l6 : Int32) (h : zz_Hp), ag97 (l4, l5, l6, h) → zz_G zKC zNC (d + 4) mX8_balance (qI Q) 97 [some (.ref 0), none, none, some (.int l3), some (.int l4), some (.int l5), some (.int l6), none, none] [] h := fun l4 l5 l6 h H => hag97 (l4, l5, l6, h) H
  replace H : w_X8_balance_l97 ag97 Q l3 l4 l5 l6 h := H
  show zz_G zKC zNC (d + 4) mX8_balance (qI Q) 97 [some (.ref 0), none, none, some (.int l3), some (.int l4), some (.int l5), some (.int l6), none, none] [] h
  unfold w_X8_balance_l97 at H
  refine zg_iload (pc := 97) dX8_balance_97 rfl ?_
  refine zg_bipush (pc := 99) dX8_balance_99 (v := 99) (by decide) ?_
  refine zg_icmp_gt (pc := 101) dX8_balance_101 (tgt := 170) (by decide) (fun hc => ?_) (fun hc => ?_)
  · replace H := H.1 hc
    refine zg_iload_n (pc := 170) dX8_balance_170 rfl rfl ?_
    refine zg_if_ne (pc := 171) dX8_balance_171 (tgt := 179) (by decide) (fun hc => ?_) (fun hc => ?_)
    · replace H := H.1 hc
      refine zg_iload (pc := 179) dX8_balance_179 rfl ?_
      exact zg_iret (pc := 181) dX8_balance_181 rfl ⟨_, rfl, H⟩
    · replace H := H.2 hc
      refine zg_iload (pc := 174) dX8_balance_174 rfl ?_
      refine zg_goto (pc := 176) dX8_balance_176 (tgt := 181) (by decide) ?_
      exact zg_iret (pc := 181) dX8_balance_181 rfl ⟨_, rfl, H⟩
  · replace H := H.2 hc
    refine zg_iconst (pc := 104) dX8_balance_104 (v := (-1)) (by decide) ?_
    refine zg_istore (pc := 105) dX8_balance_105 (by decide) (L' := [some (.ref 0), none, none, some (.int l3), some (.int l4), some (.int l5), some (.int l6), some (.int ((-1))), none]) rfl ?_
    exact sd_X8_balance_l107 hag97 H
set_option maxRecDepth 100000 in
theorem sd_X8_balance (d : Nat) {l1 : Int32} {l2 : Int32} {l3 : Int32} {h : zz_Hp} {Q : Int32 → zz_Hp → Prop} (H : w_X8_balance l1 l2 l3 h Q) : zz_G zKC zNC (d + 4) mX8_balance (qI Q) 0 (zz_L0 9 [.ref 0, .int l1, .int l2, .int l3]) [] h := by
  show zz_G zKC zNC (d + 4) mX8_balance (qI Q) 0 [some (.ref 0), some (.int l1), some (.int l2), some (.int l3), none, none, none, none, none] [] h
  unfold w_X8_balance at H
  refine zg_aload_n (pc := 0) dX8_balance_0 rfl rfl ?_
  refine zg_getR (pc := 1) dX8_balance_1 lf_X8_12 kC_0 (by decide) rfl ?_
  refine zg_getR (pc := 4) dX8_balance_4 lf_X8_75 kC_1 (by decide) rfl ?_
  refine zg_iload_n (pc := 7) dX8_balance_7 rfl rfl ?_
  refine zg_callVi (st := []) (pc := 8) dX8_balance_8 (As := [.int l1]) lk_X8_85 kC_2 (by decide) rfl (Nat.le_of_ble_eq_true rfl) (Nat.le_of_ble_eq_true rfl) (sd_X7_has (d + 3) H) (fun r2 h1 H => ?_)
  refine zg_if_eq (pc := 11) dX8_balance_11 (tgt := 37) (by decide) (fun hc => ?_) (fun hc => ?_)
  · replace H := H.1 hc
    refine zg_ldc (pc := 37) dX8_balance_37 lc_X8_125 ?_
    exact zg_iret (pc := 39) dX8_balance_39 rfl ⟨_, rfl, H⟩
  · replace H := H.2 hc
    refine zg_aload_n (pc := 14) dX8_balance_14 rfl rfl ?_
    refine zg_getR (pc := 15) dX8_balance_15 lf_X8_12 kC_0 (by decide) rfl ?_
    refine zg_getR (pc := 18) dX8_balance_18 lf_X8_75 kC_1 (by decide) rfl ?_
    refine zg_iload_n (pc := 21) dX8_balance_21 rfl rfl ?_
    refine zg_callVi (st := []) (pc := 22) dX8_balance_22 (As := [.int l2]) lk_X8_85 kC_2 (by decide) rfl (Nat.le_of_ble_eq_true rfl) (Nat.le_of_ble_eq_true rfl) (sd_X7_has (d + 3) H) (fun r4 h3 H => ?_)
    refine zg_if_eq (pc := 25) dX8_balance_25 (tgt := 37) (by decide) (fun hc => ?_) (fun hc => ?_)
    · replace H := H.1 hc
      refine zg_ldc (pc := 37) dX8_balance_37 lc_X8_125 ?_
      exact zg_iret (pc := 39) dX8_balance_39 rfl ⟨_, rfl, H⟩
    · replace H := H.2 hc
      refine zg_iload_n (pc := 28) dX8_balance_28 rfl rfl ?_
      refine zg_iconst (pc := 29) dX8_balance_29 (v := 0) (by decide) ?_
      refine zg_iconst (pc := 30) dX8_balance_30 (v := 1) (by decide) ?_
      refine zg_callSi (st := []) (pc := 31) dX8_balance_31 (As := [.int l3, .int 0, .int 1]) lk_X8_121 rfl (Nat.le_of_ble_eq_true rfl) (Nat.le_of_ble_eq_true rfl) (sd_X8_inRange (d + 3) H) (fun r6 h5 H => ?_)
      refine zg_if_ne (pc := 34) dX8_balance_34 (tgt := 40) (by decide) (fun hc => ?_) (fun hc => ?_)
      · replace H := H.1 hc
        refine zg_aload_n (pc := 40) dX8_balance_40 rfl rfl ?_
        refine zg_getR (pc := 41) dX8_balance_41 lf_X8_12 kC_0 (by decide) rfl ?_
        refine zg_getR (pc := 44) dX8_balance_44 lf_X8_75 kC_1 (by decide) rfl ?_
        refine zg_iload_n (pc := 47) dX8_balance_47 rfl rfl ?_
        refine zg_iload_n (pc := 48) dX8_balance_48 rfl rfl ?_
        refine zg_callVi (st := []) (pc := 49) dX8_balance_49 (As := [.int l2, .int l1]) lk_X8_184 kC_2 (by decide) rfl (Nat.le_of_ble_eq_true rfl) (Nat.le_of_ble_eq_true rfl) (sd_X7_isInside (d + 2) H) (fun r8 h7 H => ?_)
        refine zg_if_ne (pc := 52) dX8_balance_52 (tgt := 58) (by decide) (fun hc => ?_) (fun hc => ?_)
        · replace H := H.1 hc
          refine zg_aload_n (pc := 58) dX8_balance_58 rfl rfl ?_
          refine zg_getR (pc := 59) dX8_balance_59 lf_X8_54 kC_0 (by decide) rfl ?_
          refine zg_aload_n (pc := 62) dX8_balance_62 rfl rfl ?_
          refine zg_getR (pc := 63) dX8_balance_63 lf_X8_12 kC_0 (by decide) rfl ?_
          refine zg_getR (pc := 66) dX8_balance_66 lf_X8_75 kC_1 (by decide) rfl ?_
          refine zg_iload_n (pc := 69) dX8_balance_69 rfl rfl ?_
          refine zg_iload_n (pc := 70) dX8_balance_70 rfl rfl ?_
          refine zg_callVv (st := []) (pc := 71) dX8_balance_71 (As := [.ref 2, .int l1, .int l2]) lk_X8_173 kC_27 (by decide) rfl (Nat.le_of_ble_eq_true rfl) (Nat.le_of_ble_eq_true rfl) (sd_X6_walk d H) (fun h9 H => ?_)
          refine zg_iconst (pc := 74) dX8_balance_74 (v := 0) (by decide) ?_
          refine zg_istore (pc := 75) dX8_balance_75 (by decide) (L' := [some (.ref 0), some (.int l1), some (.int l2), some (.int l3), some (.int 0), none, none, none, none]) rfl ?_
          refine zg_aload_n (pc := 77) dX8_balance_77 rfl rfl ?_
          refine zg_getR (pc := 78) dX8_balance_78 lf_X8_54 kC_0 (by decide) rfl ?_
          refine zg_aload_n (pc := 81) dX8_balance_81 rfl rfl ?_
          refine zg_getR (pc := 82) dX8_balance_82 lf_X8_12 kC_0 (by decide) rfl ?_
          refine zg_getR (pc := 85) dX8_balance_85 lf_X8_75 kC_1 (by decide) rfl ?_
          refine zg_iconst (pc := 88) dX8_balance_88 (v := 0) (by decide) ?_
          refine zg_callVi (st := []) (pc := 89) dX8_balance_89 (As := [.ref 2, .int 0]) lk_X8_189 kC_27 (by decide) rfl (Nat.le_of_ble_eq_true rfl) (Nat.le_of_ble_eq_true rfl) (sd_X6_torqueBy d H) (fun r12 h11 H => ?_)
          refine zg_istore (pc := 92) dX8_balance_92 (by decide) (L' := [some (.ref 0), some (.int l1), some (.int l2), some (.int l3), some (.int 0), some (.int r12), none, none, none]) rfl ?_
          refine zg_iconst (pc := 94) dX8_balance_94 (v := 1) (by decide) ?_
          refine zg_istore (pc := 95) dX8_balance_95 (by decide) (L' := [some (.ref 0), some (.int l1), some (.int l2), some (.int l3), some (.int 0), some (.int r12), some (.int 1), none, none]) rfl ?_
          refine zg_weak (L' := [some (.ref 0), none, none, some (.int l3), some (.int 0), some (.int r12), some (.int 1), none, none]) ⟨rfl, ⟨rfl, ⟨rfl, ⟨rfl, ⟨rfl, trivial⟩⟩⟩⟩⟩ ?_
          exact sd_X8_balance_l97  H
        · replace H := H.2 hc
          refine zg_ldc (pc := 55) dX8_balance_55 lc_X8_188 ?_
          exact zg_iret (pc := 57) dX8_balance_57 rfl ⟨_, rfl, H⟩
      · replace H := H.2 hc
        refine zg_ldc (pc := 37) dX8_balance_37 lc_X8_125 ?_
        exact zg_iret (pc := 39) dX8_balance_39 rfl ⟨_, rfl, H⟩
set_option maxRecDepth 100000 in
theorem sd_X8_plannedHeavy (d : Nat) {l0 : Int32} {l1 : Int32} {l2 : Int32} {h : zz_Hp} {Q : Int32 → zz_Hp → Prop} (H : w_X8_plannedHeavy l0 l1 l2 h Q) : zz_G zKC zNC (d + 2) mX8_plannedHeavy (qI Q) 0 (zz_L0 3 [.int l0, .int l1, .int l2]) [] h := by
  show zz_G zKC zNC (d + 2) mX8_plannedHeavy (qI Q) 0 [some (.int l0), some (.int l1), some (.int l2)] [] h
  unfold w_X8_plannedHeavy at H
  refine zg_iload_n (pc := 0) dX8_plannedHeavy_0 rfl rfl ?_
  refine zg_iload_n (pc := 1) dX8_plannedHeavy_1 rfl rfl ?_
  refine zg_imul (pc := 2) dX8_plannedHeavy_2 ?_
  refine zg_ldcw (pc := 3) dX8_plannedHeavy_3 lc_X8_351 ?_
  refine zg_iload_n (pc := 6) dX8_plannedHeavy_6 rfl rfl ?_
  refine zg_iload_n (pc := 7) dX8_plannedHeavy_7 rfl rfl ?_
  refine zg_callSi (st := [.int 100000, .int (l2 * l0)]) (pc := 8) dX8_plannedHeavy_8 (As := [.int l1, .int l2]) lk_X8_352 rfl (Nat.le_of_ble_eq_true rfl) (Nat.le_of_ble_eq_true rfl) (sd_X8_byOfPlied d H) (fun r2 h1 H => ?_)
  refine zg_callSi (st := [.int (l2 * l0)]) (pc := 11) dX8_plannedHeavy_11 (As := [.int 100000, .int r2]) lk_X8_355 rfl (Nat.le_of_ble_eq_true rfl) (Nat.le_of_ble_eq_true rfl) (sd_X8_cutUp (d + 1) H) (fun r4 h3 H => ?_)
  refine zg_imul (pc := 14) dX8_plannedHeavy_14 ?_
  refine zg_bipush (pc := 15) dX8_plannedHeavy_15 (v := 100) (by decide) ?_
  refine zg_idiv (pc := 17) dX8_plannedHeavy_17 (by decide) ?_
  exact zg_iret (pc := 18) dX8_plannedHeavy_18 rfl ⟨_, rfl, H⟩
set_option maxRecDepth 100000 in
theorem sd_X8_plan_l65 {d : Nat} {Q : Int32 → zz_Hp → Prop} {l2 : Int32} {l3 : Int32} {l4 : Int32} {l5 : Int32} {l6 : Int32} {l7 : Int32} {h : zz_Hp}  (H : lp (fun s ag => w_X8_plan_l65 ag Q l2 l3 l4 l5 s.1 s.2.1 s.2.2) (l6, l7, h)) : zz_G zKC zNC (d + 3) mX8_plan (qI Q) 65 [none, none, some (.int l2), some (.int l3), some (.int l4), some (.int l5), some (.int l6), some (.int l7), none] [] h := by
  refine lp_sound (G := fun (s : Int32 × Int32 × zz_Hp) => zz_G zKC zNC (d + 3) mX8_plan (qI Q) 65 [none, none, some (.int l2), some (.int l3), some (.int l4), some (.int l5), some (.int s.1), some (.int s.2.1), none] [] s.2.2) ?_ H
  clear H
  intro s ag65 hag65 H
  obtain ⟨l6, l7, h⟩ := s
  replace hag65 : ∀ (l6 : Int32) (l7 : Int32) (h : zz_Hp), ag65 (l6, l7, h) → zz_G zKC zNC (d + 3) mX8_plan (qI Q) 65 [none, none, some (.int l2), some (.int l3), some (.int l4), some (.int l5), some (.int l6), some (.int l7), none] [] h := fun l6 l7 h H => hag65 (l6, l7, h) H
  replace H : w_X8_plan_l65 ag65 Q l2 l3 l4 l5 l6 l7 h := H
  show zz_G zKC zNC (d + 3) mX8_plan (qI Q) 65 [none, none, some (.int l2), some (.int l3), some (.int l4), some (.int l5), some (.int l6), some (.int l7), none] [] h
  unfold w_X8_plan_l65 at H
  refine zg_iload (pc := 65) dX8_plan_65 rfl ?_
  refine zg_iconst (pc := 67) dX8_plan_67 (v := 4) (by decide) ?_
  refine zg_icmp_gt (pc := 68) dX8_plan_68 (tgt := 114) (by decide) (fun hc => ?_) (fun hc => ?_)
  · replace H := H.1 hc
    refine zg_iload (pc := 114) dX8_plan_114 rfl ?_
    refine zg_if_ne (pc := 116) dX8_plan_116 (tgt := 124) (by decide) (fun hc => ?_) (fun hc => ?_)
    · replace H := H.1 hc
      refine zg_iload (pc := 124) dX8_plan_124 rfl ?_
      refine zg_iload_n (pc := 126) dX8_plan_126 rfl rfl ?_
      refine zg_iload (pc := 127) dX8_plan_127 rfl ?_
      refine zg_callSi (st := []) (pc := 129) dX8_plan_129 (As := [.int l5, .int l2, .int l6]) lk_X8_203 rfl (Nat.le_of_ble_eq_true rfl) (Nat.le_of_ble_eq_true rfl) (sd_X8_plannedHeavy d H) (fun r12 h11 H => ?_)
      exact zg_iret (pc := 132) dX8_plan_132 rfl ⟨_, rfl, H⟩
    · replace H := H.2 hc
      refine zg_iload (pc := 119) dX8_plan_119 rfl ?_
      refine zg_goto (pc := 121) dX8_plan_121 (tgt := 132) (by decide) ?_
      exact zg_iret (pc := 132) dX8_plan_132 rfl ⟨_, rfl, H⟩
  · replace H := H.2 hc
    refine zg_iload (pc := 71) dX8_plan_71 rfl ?_
    refine zg_iload_n (pc := 73) dX8_plan_73 rfl rfl ?_
    refine zg_iload (pc := 74) dX8_plan_74 rfl ?_
    refine zg_callSi (st := []) (pc := 76) dX8_plan_76 (As := [.int l5, .int l2, .int l7]) lk_X8_203 rfl (Nat.le_of_ble_eq_true rfl) (Nat.le_of_ble_eq_true rfl) (sd_X8_plannedHeavy d H) (fun r14 h13 H => ?_)
    refine zg_iload_n (pc := 79) dX8_plan_79 rfl rfl ?_
    refine zg_isub (pc := 80) dX8_plan_80 ?_
    refine zg_mabs (pc := 81) dX8_plan_81 lk_X8_192 (Nat.le_of_ble_eq_true rfl) ?_
    refine zg_istore (pc := 84) dX8_plan_84 (by decide) (L' := [none, none, some (.int l2), some (.int l3), some (.int l4), some (.int l5), some (.int l6), some (.int l7), some (.int (if 0 ≤ (r14 - l3) then (r14 - l3) else 0 - (r14 - l3)))]) rfl ?_
    refine zg_iload (pc := 86) dX8_plan_86 rfl ?_
    refine zg_iload (pc := 88) dX8_plan_88 rfl ?_
    refine zg_iload_n (pc := 90) dX8_plan_90 rfl rfl ?_
    refine zg_iload (pc := 91) dX8_plan_91 rfl ?_
    refine zg_callSi (st := [.int (if 0 ≤ (r14 - l3) then (r14 - l3) else 0 - (r14 - l3))]) (pc := 93) dX8_plan_93 (As := [.int l5, .int l2, .int l6]) lk_X8_203 rfl (Nat.le_of_ble_eq_true rfl) (Nat.le_of_ble_eq_true rfl) (sd_X8_plannedHeavy d H) (fun r16 h15 H => ?_)
    refine zg_iload_n (pc := 96) dX8_plan_96 rfl rfl ?_
    refine zg_isub (pc := 97) dX8_plan_97 ?_
    refine zg_mabs (pc := 98) dX8_plan_98 lk_X8_192 (Nat.le_of_ble_eq_true rfl) ?_
    refine zg_icmp_ge (pc := 101) dX8_plan_101 (tgt := 108) (by decide) (fun hc => ?_) (fun hc => ?_)
    · replace H := H.1 hc
      refine zg_iinc (pc := 108) dX8_plan_108 rfl (v := l7 + 1) rfl (by decide) (L' := [none, none, some (.int l2), some (.int l3), some (.int l4), some (.int l5), some (.int l6), some (.int (l7 + 1)), some (.int (if 0 ≤ (r14 - l3) then (r14 - l3) else 0 - (r14 - l3)))]) rfl ?_
      refine zg_goto (pc := 111) dX8_plan_111 (tgt := 65) (by decide) ?_
      refine zg_weak (L' := [none, none, some (.int l2), some (.int l3), some (.int l4), some (.int l5), some (.int l6), some (.int (l7 + 1)), none]) ⟨rfl, ⟨rfl, ⟨rfl, ⟨rfl, ⟨rfl, ⟨rfl, trivial⟩⟩⟩⟩⟩⟩ ?_
      exact hag65 l6 (l7 + 1) _ H
    · replace H := H.2 hc
      refine zg_iload (pc := 104) dX8_plan_104 rfl ?_
      refine zg_istore (pc := 106) dX8_plan_106 (by decide) (L' := [none, none, some (.int l2), some (.int l3), some (.int l4), some (.int l5), some (.int l7), some (.int l7), some (.int (if 0 ≤ (r14 - l3) then (r14 - l3) else 0 - (r14 - l3)))]) rfl ?_
      refine zg_iinc (pc := 108) dX8_plan_108 rfl (v := l7 + 1) rfl (by decide) (L' := [none, none, some (.int l2), some (.int l3), some (.int l4), some (.int l5), some (.int l7), some (.int (l7 + 1)), some (.int (if 0 ≤ (r14 - l3) then (r14 - l3) else 0 - (r14 - l3)))]) rfl ?_
      refine zg_goto (pc := 111) dX8_plan_111 (tgt := 65) (by decide) ?_
      refine zg_weak (L' := [none, none, some (.int l2), some (.int l3), some (.int l4), some (.int l5), some (.int l7), some (.int (l7 + 1)), none]) ⟨rfl, ⟨rfl, ⟨rfl, ⟨rfl, ⟨rfl, ⟨rfl, trivial⟩⟩⟩⟩⟩⟩ ?_
      exact hag65 l7 (l7 + 1) _ H
set_option maxRecDepth 100000 in
theorem sd_X8_plan (d : Nat) {l1 : Int32} {l2 : Int32} {l3 : Int32} {l4 : Int32} {h : zz_Hp} {Q : Int32 → zz_Hp → Prop} (H : w_X8_plan l1 l2 l3 l4 h Q) : zz_G zKC zNC (d + 3) mX8_plan (qI Q) 0 (zz_L0 9 [.ref 0, .int l1, .int l2, .int l3, .int l4]) [] h := by
  show zz_G zKC zNC (d + 3) mX8_plan (qI Q) 0 [some (.ref 0), some (.int l1), some (.int l2), some (.int l3), some (.int l4), none, none, none, none] [] h
  unfold w_X8_plan at H
  refine zg_aload_n (pc := 0) dX8_plan_0 rfl rfl ?_
  refine zg_getR (pc := 1) dX8_plan_1 lf_X8_12 kC_0 (by decide) rfl ?_
  refine zg_getR (pc := 4) dX8_plan_4 lf_X8_75 kC_1 (by decide) rfl ?_
  refine zg_iload_n (pc := 7) dX8_plan_7 rfl rfl ?_
  refine zg_callVi (st := []) (pc := 8) dX8_plan_8 (As := [.int l1]) lk_X8_197 kC_2 (by decide) rfl (Nat.le_of_ble_eq_true rfl) (Nat.le_of_ble_eq_true rfl) (sd_X7_isThread (d + 1) H) (fun r2 h1 H => ?_)
  refine zg_if_eq (pc := 11) dX8_plan_11 (tgt := 43) (by decide) (fun hc => ?_) (fun hc => ?_)
  · replace H := H.1 hc
    refine zg_iconst (pc := 43) dX8_plan_43 (v := (-1)) (by decide) ?_
    exact zg_iret (pc := 44) dX8_plan_44 rfl ⟨_, rfl, H⟩
  · replace H := H.2 hc
    refine zg_iconst (pc := 14) dX8_plan_14 (v := 0) (by decide) ?_
    refine zg_iload_n (pc := 15) dX8_plan_15 rfl rfl ?_
    refine zg_callSi (st := []) (pc := 16) dX8_plan_16 (As := [.int 0, .int l2]) lk_X8_200 rfl (Nat.le_of_ble_eq_true rfl) (Nat.le_of_ble_eq_true rfl) (sd_X8_canBeTold (d + 1) H) (fun r4 h3 H => ?_)
    refine zg_if_eq (pc := 19) dX8_plan_19 (tgt := 43) (by decide) (fun hc => ?_) (fun hc => ?_)
    · replace H := H.1 hc
      refine zg_iconst (pc := 43) dX8_plan_43 (v := (-1)) (by decide) ?_
      exact zg_iret (pc := 44) dX8_plan_44 rfl ⟨_, rfl, H⟩
    · replace H := H.2 hc
      refine zg_iload_n (pc := 22) dX8_plan_22 rfl rfl ?_
      refine zg_iconst (pc := 23) dX8_plan_23 (v := 0) (by decide) ?_
      refine zg_sipush (pc := 24) dX8_plan_24 (v := 9999) (by decide) ?_
      refine zg_callSi (st := []) (pc := 27) dX8_plan_27 (As := [.int l3, .int 0, .int 9999]) lk_X8_121 rfl (Nat.le_of_ble_eq_true rfl) (Nat.le_of_ble_eq_true rfl) (sd_X8_inRange (d + 2) H) (fun r6 h5 H => ?_)
      refine zg_if_eq (pc := 30) dX8_plan_30 (tgt := 43) (by decide) (fun hc => ?_) (fun hc => ?_)
      · replace H := H.1 hc
        refine zg_iconst (pc := 43) dX8_plan_43 (v := (-1)) (by decide) ?_
        exact zg_iret (pc := 44) dX8_plan_44 rfl ⟨_, rfl, H⟩
      · replace H := H.2 hc
        refine zg_iload (pc := 33) dX8_plan_33 rfl ?_
        refine zg_iconst (pc := 35) dX8_plan_35 (v := 0) (by decide) ?_
        refine zg_iconst (pc := 36) dX8_plan_36 (v := 1) (by decide) ?_
        refine zg_callSi (st := []) (pc := 37) dX8_plan_37 (As := [.int l4, .int 0, .int 1]) lk_X8_121 rfl (Nat.le_of_ble_eq_true rfl) (Nat.le_of_ble_eq_true rfl) (sd_X8_inRange (d + 2) H) (fun r8 h7 H => ?_)
        refine zg_if_ne (pc := 40) dX8_plan_40 (tgt := 45) (by decide) (fun hc => ?_) (fun hc => ?_)
        · replace H := H.1 hc
          refine zg_aload_n (pc := 45) dX8_plan_45 rfl rfl ?_
          refine zg_getR (pc := 46) dX8_plan_46 lf_X8_12 kC_0 (by decide) rfl ?_
          refine zg_getR (pc := 49) dX8_plan_49 lf_X8_75 kC_1 (by decide) rfl ?_
          refine zg_iload_n (pc := 52) dX8_plan_52 rfl rfl ?_
          refine zg_iconst (pc := 53) dX8_plan_53 (v := 1) (by decide) ?_
          refine zg_callVi (st := []) (pc := 54) dX8_plan_54 (As := [.int l1, .int 1]) lk_X8_130 kC_2 (by decide) rfl (Nat.le_of_ble_eq_true rfl) (Nat.le_of_ble_eq_true rfl) (sd_X7_fact (d + 2) H) (fun r10 h9 H => ?_)
          refine zg_istore (pc := 57) dX8_plan_57 (by decide) (L' := [some (.ref 0), some (.int l1), some (.int l2), some (.int l3), some (.int l4), some (.int r10), none, none, none]) rfl ?_
          refine zg_iconst (pc := 59) dX8_plan_59 (v := 2) (by decide) ?_
          refine zg_istore (pc := 60) dX8_plan_60 (by decide) (L' := [some (.ref 0), some (.int l1), some (.int l2), some (.int l3), some (.int l4), some (.int r10), some (.int 2), none, none]) rfl ?_
          refine zg_iconst (pc := 62) dX8_plan_62 (v := 3) (by decide) ?_
          refine zg_istore (pc := 63) dX8_plan_63 (by decide) (L' := [some (.ref 0), some (.int l1), some (.int l2), some (.int l3), some (.int l4), some (.int r10), some (.int 2), some (.int 3), none]) rfl ?_
          refine zg_weak (L' := [none, none, some (.int l2), some (.int l3), some (.int l4), some (.int r10), some (.int 2), some (.int 3), none]) ⟨rfl, ⟨rfl, ⟨rfl, ⟨rfl, ⟨rfl, ⟨rfl, trivial⟩⟩⟩⟩⟩⟩ ?_
          exact sd_X8_plan_l65  H
        · replace H := H.2 hc
          refine zg_iconst (pc := 43) dX8_plan_43 (v := (-1)) (by decide) ?_
          exact zg_iret (pc := 44) dX8_plan_44 rfl ⟨_, rfl, H⟩
set_option maxRecDepth 100000 in
theorem sd_X6_isInStock_l2 {d : Nat} {Q : Int32 → zz_Hp → Prop}  {l2 : Int32} {h : zz_Hp}  (H : lp (fun s ag => w_X6_isInStock_l2 ag Q  s.1 s.2) (l2, h)) : zz_G zKC zNC (d + 1) mX6_isInStock (qI Q) 2 [some (.ref 27), some (.ref 2), some (.int l2)] [] h := by
  refine lp_sound (G := fun (s : Int32 × zz_Hp) => zz_G zKC zNC (d + 1) mX6_isInStock (qI Q) 2 [some (.ref 27), some (.ref 2), some (.int s.1)] [] s.2) ?_ H
  clear H
  intro s ag2 hag2 H
  obtain ⟨l2, h⟩ := s
  replace hag2 : ∀ (l2 : Int32) (h : zz_Hp), ag2 (l2, h) → zz_G zKC zNC (d + 1) mX6_isInStock (qI Q) 2 [some (.ref 27), some (.ref 2), some (.int l2)] [] h := fun l2 h H => hag2 (l2, h) H
  replace H : w_X6_isInStock_l2 ag2 Q  l2 h := H
  show zz_G zKC zNC (d + 1) mX6_isInStock (qI Q) 2 [some (.ref 27), some (.ref 2), some (.int l2)] [] h
  unfold w_X6_isInStock_l2 at H
  refine zg_iload_n (pc := 2) dX6_isInStock_2 rfl rfl ?_
  refine zg_aload_n (pc := 3) dX6_isInStock_3 rfl rfl ?_
  refine zg_getI (pc := 4) dX6_isInStock_4 lf_X6_83 kC_2 (by decide) rfl ?_
  refine zg_icmp_ge (pc := 7) dX6_isInStock_7 (tgt := 33) (by decide) (fun hc => ?_) (fun hc => ?_)
  · replace H := H.1 hc
    refine zg_iconst (pc := 33) dX6_isInStock_33 (v := 1) (by decide) ?_
    exact zg_zret (pc := 34) dX6_isInStock_34 (Or.inr rfl) rfl ⟨_, rfl, H⟩
  · replace H := H.2 hc
    refine zg_aload_n (pc := 10) dX6_isInStock_10 rfl rfl ?_
    refine zg_getR (pc := 11) dX6_isInStock_11 lf_X6_31 kC_27 (by decide) rfl ?_
    refine zg_iload_n (pc := 14) dX6_isInStock_14 rfl rfl ?_
    obtain ⟨hb, H⟩ := H
    refine zg_iald (pc := 15) dX6_isInStock_15 kC_34 (by decide) hb ?_
    refine zg_aload_n (pc := 16) dX6_isInStock_16 rfl rfl ?_
    refine zg_iload_n (pc := 17) dX6_isInStock_17 rfl rfl ?_
    refine zg_iconst (pc := 18) dX6_isInStock_18 (v := 3) (by decide) ?_
    refine zg_callVi (st := [.int (h.1 34 (Int32.toNatClampNeg l2))]) (pc := 19) dX6_isInStock_19 (As := [.int l2, .int 3]) lk_X6_46 kC_2 (by decide) rfl (Nat.le_of_ble_eq_true rfl) (Nat.le_of_ble_eq_true rfl) (sd_X7_fact d H) (fun r2 h1 H => ?_)
    refine zg_icmp_le (pc := 22) dX6_isInStock_22 (tgt := 27) (by decide) (fun hc => ?_) (fun hc => ?_)
    · replace H := H.1 hc
      refine zg_iinc (pc := 27) dX6_isInStock_27 rfl (v := l2 + 1) rfl (by decide) (L' := [some (.ref 27), some (.ref 2), some (.int (l2 + 1))]) rfl ?_
      refine zg_goto (pc := 30) dX6_isInStock_30 (tgt := 2) (by decide) ?_
      exact hag2 (l2 + 1) _ H
    · replace H := H.2 hc
      refine zg_iconst (pc := 25) dX6_isInStock_25 (v := 0) (by decide) ?_
      exact zg_zret (pc := 26) dX6_isInStock_26 (Or.inl rfl) rfl ⟨_, rfl, H⟩
set_option maxRecDepth 100000 in
theorem sd_X6_isInStock (d : Nat)  {h : zz_Hp} {Q : Int32 → zz_Hp → Prop} (H : w_X6_isInStock  h Q) : zz_G zKC zNC (d + 1) mX6_isInStock (qI Q) 0 (zz_L0 3 [.ref 27, .ref 2]) [] h := by
  show zz_G zKC zNC (d + 1) mX6_isInStock (qI Q) 0 [some (.ref 27), some (.ref 2), none] [] h
  unfold w_X6_isInStock at H
  refine zg_iconst (pc := 0) dX6_isInStock_0 (v := 0) (by decide) ?_
  refine zg_istore_n (pc := 1) dX6_isInStock_1 rfl (by decide) (L' := [some (.ref 27), some (.ref 2), some (.int 0)]) rfl ?_
  exact sd_X6_isInStock_l2  H
set_option maxRecDepth 100000 in
theorem sd_X8_can_l76 {d : Nat} {Q : Int32 → zz_Hp → Prop}  {l2 : Int32} {l3 : Int32} {l4 : Int32} {h : zz_Hp}  (H : lp (fun s ag => w_X8_can_l76 ag Q  s.1 s.2.1 s.2.2.1 s.2.2.2) (l2, l3, l4, h)) : zz_G zKC zNC (d + 4) mX8_can (qI Q) 76 [some (.ref 0), none, some (.int l2), some (.int l3), some (.int l4), none] [] h := by
  refine lp_sound (G := fun (s : Int32 × Int32 × Int32 × zz_Hp) => zz_G zKC zNC (d + 4) mX8_can (qI Q) 76 [some (.ref 0), none, some (.int s.1), some (.int s.2.1), some (.int s.2.2.1), none] [] s.2.2.2) ?_ H
  clear H
  intro s ag76 hag76 H
  obtain ⟨l2, l3, l4, h⟩ := s
  replace hag76 : ∀ (l2 : Int32) (l3 : Int32) (l4 : Int32) (h : zz_Hp), ag76 (l2, l3, l4, h) → zz_G zKC zNC (d + 4) mX8_can (qI Q) 76 [some (.ref 0), none, some (.int l2), some (.int l3), some (.int l4), none] [] h := fun l2 l3 l4 h H => hag76 (l2, l3, l4, h) H
  replace H : w_X8_can_l76 ag76 Q  l2 l3 l4 h := H
  show zz_G zKC zNC (d + 4) mX8_can (qI Q) 76 [some (.ref 0), none, some (.int l2), some (.int l3), some (.int l4), none] [] h
  unfold w_X8_can_l76 at H
  refine zg_iload (pc := 76) dX8_can_76 rfl ?_
  refine zg_bipush (pc := 78) dX8_can_78 (v := 14) (by decide) ?_
  refine zg_icmp_ge (pc := 80) dX8_can_80 (tgt := 147) (by decide) (fun hc => ?_) (fun hc => ?_)
  · replace H := H.1 hc
    refine zg_iload_n (pc := 147) dX8_can_147 rfl rfl ?_
    exact zg_iret (pc := 148) dX8_can_148 rfl ⟨_, rfl, H⟩
  · replace H := H.2 hc
    refine zg_iload_n (pc := 83) dX8_can_83 rfl rfl ?_
    refine zg_iload_n (pc := 84) dX8_can_84 rfl rfl ?_
    refine zg_icmp_ge (pc := 85) dX8_can_85 (tgt := 147) (by decide) (fun hc => ?_) (fun hc => ?_)
    · replace H := H.1 hc
      refine zg_iload_n (pc := 147) dX8_can_147 rfl rfl ?_
      exact zg_iret (pc := 148) dX8_can_148 rfl ⟨_, rfl, H⟩
    · replace H := H.2 hc
      refine zg_iload_n (pc := 88) dX8_can_88 rfl rfl ?_
      refine zg_iload_n (pc := 89) dX8_can_89 rfl rfl ?_
      refine zg_iadd (pc := 90) dX8_can_90 ?_
      refine zg_iconst (pc := 91) dX8_can_91 (v := 1) (by decide) ?_
      refine zg_iadd (pc := 92) dX8_can_92 ?_
      refine zg_iconst (pc := 93) dX8_can_93 (v := 2) (by decide) ?_
      refine zg_idiv (pc := 94) dX8_can_94 (by decide) ?_
      refine zg_istore (pc := 95) dX8_can_95 (by decide) (L' := [some (.ref 0), none, some (.int l2), some (.int l3), some (.int l4), some (.int (((l2 + l3) + 1) / 2))]) rfl ?_
      refine zg_aload_n (pc := 97) dX8_can_97 rfl rfl ?_
      refine zg_getR (pc := 98) dX8_can_98 lf_X8_54 kC_0 (by decide) rfl ?_
      refine zg_aload_n (pc := 101) dX8_can_101 rfl rfl ?_
      refine zg_getR (pc := 102) dX8_can_102 lf_X8_12 kC_0 (by decide) rfl ?_
      refine zg_getR (pc := 105) dX8_can_105 lf_X8_75 kC_1 (by decide) rfl ?_
      refine zg_iload (pc := 108) dX8_can_108 rfl ?_
      refine zg_callVv (st := []) (pc := 110) dX8_can_110 (As := [.ref 2, .int (((l2 + l3) + 1) / 2)]) lk_X8_177 kC_27 (by decide) rfl (Nat.le_of_ble_eq_true rfl) (Nat.le_of_ble_eq_true rfl) (sd_X6_draw d H) (fun h9 H => ?_)
      refine zg_aload_n (pc := 113) dX8_can_113 rfl rfl ?_
      refine zg_getR (pc := 114) dX8_can_114 lf_X8_54 kC_0 (by decide) rfl ?_
      refine zg_aload_n (pc := 117) dX8_can_117 rfl rfl ?_
      refine zg_getR (pc := 118) dX8_can_118 lf_X8_12 kC_0 (by decide) rfl ?_
      refine zg_getR (pc := 121) dX8_can_121 lf_X8_75 kC_1 (by decide) rfl ?_
      refine zg_callVi (st := []) (pc := 124) dX8_can_124 (As := [.ref 2]) lk_X8_210 kC_27 (by decide) rfl (Nat.le_of_ble_eq_true rfl) (Nat.le_of_ble_eq_true rfl) (sd_X6_isInStock (d + 2) H) (fun r12 h11 H => ?_)
      refine zg_if_eq (pc := 127) dX8_can_127 (tgt := 136) (by decide) (fun hc => ?_) (fun hc => ?_)
      · replace H := H.1 hc
        refine zg_iload (pc := 136) dX8_can_136 rfl ?_
        refine zg_iconst (pc := 138) dX8_can_138 (v := 1) (by decide) ?_
        refine zg_isub (pc := 139) dX8_can_139 ?_
        refine zg_istore_n (pc := 140) dX8_can_140 rfl (by decide) (L' := [some (.ref 0), none, some (.int l2), some (.int ((((l2 + l3) + 1) / 2) - 1)), some (.int l4), some (.int (((l2 + l3) + 1) / 2))]) rfl ?_
        refine zg_iinc (pc := 141) dX8_can_141 rfl (v := l4 + 1) rfl (by decide) (L' := [some (.ref 0), none, some (.int l2), some (.int ((((l2 + l3) + 1) / 2) - 1)), some (.int (l4 + 1)), some (.int (((l2 + l3) + 1) / 2))]) rfl ?_
        refine zg_goto (pc := 144) dX8_can_144 (tgt := 76) (by decide) ?_
        refine zg_weak (L' := [some (.ref 0), none, some (.int l2), some (.int ((((l2 + l3) + 1) / 2) - 1)), some (.int (l4 + 1)), none]) ⟨rfl, ⟨rfl, ⟨rfl, ⟨rfl, trivial⟩⟩⟩⟩ ?_
        exact hag76 l2 ((((l2 + l3) + 1) / 2) - 1) (l4 + 1) _ H
      · replace H := H.2 hc
        refine zg_iload (pc := 130) dX8_can_130 rfl ?_
        refine zg_istore_n (pc := 132) dX8_can_132 rfl (by decide) (L' := [some (.ref 0), none, some (.int (((l2 + l3) + 1) / 2)), some (.int l3), some (.int l4), some (.int (((l2 + l3) + 1) / 2))]) rfl ?_
        refine zg_goto (pc := 133) dX8_can_133 (tgt := 141) (by decide) ?_
        refine zg_iinc (pc := 141) dX8_can_141 rfl (v := l4 + 1) rfl (by decide) (L' := [some (.ref 0), none, some (.int (((l2 + l3) + 1) / 2)), some (.int l3), some (.int (l4 + 1)), some (.int (((l2 + l3) + 1) / 2))]) rfl ?_
        refine zg_goto (pc := 144) dX8_can_144 (tgt := 76) (by decide) ?_
        refine zg_weak (L' := [some (.ref 0), none, some (.int (((l2 + l3) + 1) / 2)), some (.int l3), some (.int (l4 + 1)), none]) ⟨rfl, ⟨rfl, ⟨rfl, ⟨rfl, trivial⟩⟩⟩⟩ ?_
        exact hag76 (((l2 + l3) + 1) / 2) l3 (l4 + 1) _ H
set_option maxRecDepth 100000 in
theorem sd_X8_can (d : Nat) {l1 : Int32} {h : zz_Hp} {Q : Int32 → zz_Hp → Prop} (H : w_X8_can l1 h Q) : zz_G zKC zNC (d + 4) mX8_can (qI Q) 0 (zz_L0 6 [.ref 0, .int l1]) [] h := by
  show zz_G zKC zNC (d + 4) mX8_can (qI Q) 0 [some (.ref 0), some (.int l1), none, none, none, none] [] h
  unfold w_X8_can at H
  refine zg_aload_n (pc := 0) dX8_can_0 rfl rfl ?_
  refine zg_getR (pc := 1) dX8_can_1 lf_X8_12 kC_0 (by decide) rfl ?_
  refine zg_getR (pc := 4) dX8_can_4 lf_X8_75 kC_1 (by decide) rfl ?_
  refine zg_iload_n (pc := 7) dX8_can_7 rfl rfl ?_
  refine zg_callVi (st := []) (pc := 8) dX8_can_8 (As := [.int l1]) lk_X8_85 kC_2 (by decide) rfl (Nat.le_of_ble_eq_true rfl) (Nat.le_of_ble_eq_true rfl) (sd_X7_has (d + 3) H) (fun r2 h1 H => ?_)
  refine zg_if_ne (pc := 11) dX8_can_11 (tgt := 16) (by decide) (fun hc => ?_) (fun hc => ?_)
  · replace H := H.1 hc
    refine zg_aload_n (pc := 16) dX8_can_16 rfl rfl ?_
    refine zg_getR (pc := 17) dX8_can_17 lf_X8_12 kC_0 (by decide) rfl ?_
    refine zg_getR (pc := 20) dX8_can_20 lf_X8_75 kC_1 (by decide) rfl ?_
    refine zg_iload_n (pc := 23) dX8_can_23 rfl rfl ?_
    refine zg_callVi (st := []) (pc := 24) dX8_can_24 (As := [.int l1]) lk_X8_197 kC_2 (by decide) rfl (Nat.le_of_ble_eq_true rfl) (Nat.le_of_ble_eq_true rfl) (sd_X7_isThread (d + 2) H) (fun r4 h3 H => ?_)
    refine zg_if_eq (pc := 27) dX8_can_27 (tgt := 33) (by decide) (fun hc => ?_) (fun hc => ?_)
    · replace H := H.1 hc
      refine zg_aload_n (pc := 33) dX8_can_33 rfl rfl ?_
      refine zg_getR (pc := 34) dX8_can_34 lf_X8_54 kC_0 (by decide) rfl ?_
      refine zg_aload_n (pc := 37) dX8_can_37 rfl rfl ?_
      refine zg_getR (pc := 38) dX8_can_38 lf_X8_12 kC_0 (by decide) rfl ?_
      refine zg_getR (pc := 41) dX8_can_41 lf_X8_75 kC_1 (by decide) rfl ?_
      refine zg_iload_n (pc := 44) dX8_can_44 rfl rfl ?_
      refine zg_iconst (pc := 45) dX8_can_45 (v := (-1)) (by decide) ?_
      refine zg_callVv (st := []) (pc := 46) dX8_can_46 (As := [.ref 2, .int l1, .int ((-1))]) lk_X8_173 kC_27 (by decide) rfl (Nat.le_of_ble_eq_true rfl) (Nat.le_of_ble_eq_true rfl) (sd_X6_walk d H) (fun h5 H => ?_)
      refine zg_iconst (pc := 49) dX8_can_49 (v := 0) (by decide) ?_
      refine zg_istore_n (pc := 50) dX8_can_50 rfl (by decide) (L' := [some (.ref 0), some (.int l1), some (.int 0), none, none, none]) rfl ?_
      refine zg_sipush (pc := 51) dX8_can_51 (v := 9999) (by decide) ?_
      refine zg_ldc (pc := 54) dX8_can_54 lc_X8_206 ?_
      refine zg_aload_n (pc := 56) dX8_can_56 rfl rfl ?_
      refine zg_getR (pc := 57) dX8_can_57 lf_X8_12 kC_0 (by decide) rfl ?_
      refine zg_getR (pc := 60) dX8_can_60 lf_X8_75 kC_1 (by decide) rfl ?_
      refine zg_iload_n (pc := 63) dX8_can_63 rfl rfl ?_
      refine zg_iconst (pc := 64) dX8_can_64 (v := 3) (by decide) ?_
      refine zg_callVi (st := [.int 99999, .int 9999]) (pc := 65) dX8_can_65 (As := [.int l1, .int 3]) lk_X8_130 kC_2 (by decide) rfl (Nat.le_of_ble_eq_true rfl) (Nat.le_of_ble_eq_true rfl) (sd_X7_fact (d + 3) H) (fun r8 h7 H => ?_)
      refine zg_isub (pc := 68) dX8_can_68 ?_
      refine zg_mmin (pc := 69) dX8_can_69 lk_X8_207 (Nat.le_of_ble_eq_true rfl) ?_
      refine zg_istore_n (pc := 72) dX8_can_72 rfl (by decide) (L' := [some (.ref 0), some (.int l1), some (.int 0), some (.int (if (99999 - r8) < (9999 : Int32) then (99999 - r8) else (9999 : Int32))), none, none]) rfl ?_
      refine zg_iconst (pc := 73) dX8_can_73 (v := 0) (by decide) ?_
      refine zg_istore (pc := 74) dX8_can_74 (by decide) (L' := [some (.ref 0), some (.int l1), some (.int 0), some (.int (if (99999 - r8) < (9999 : Int32) then (99999 - r8) else (9999 : Int32))), some (.int 0), none]) rfl ?_
      refine zg_weak (L' := [some (.ref 0), none, some (.int 0), some (.int (if (99999 - r8) < (9999 : Int32) then (99999 - r8) else (9999 : Int32))), some (.int 0), none]) ⟨rfl, ⟨rfl, ⟨rfl, ⟨rfl, trivial⟩⟩⟩⟩ ?_
      exact sd_X8_can_l76  H
    · replace H := H.2 hc
      refine zg_bipush (pc := 30) dX8_can_30 (v := (-5)) (by decide) ?_
      exact zg_iret (pc := 32) dX8_can_32 rfl ⟨_, rfl, H⟩
  · replace H := H.2 hc
    refine zg_iconst (pc := 14) dX8_can_14 (v := (-1)) (by decide) ?_
    exact zg_iret (pc := 15) dX8_can_15 rfl ⟨_, rfl, H⟩
set_option maxRecDepth 100000 in
theorem sd_X8_areAlike_l77 {n d : Nat} {rc : Int32 → Int32 → Int32 → Int32 → zz_Hp → (Int32 → zz_Hp → Prop) → Prop} {Q : Int32 → zz_Hp → Prop} {l1 : Int32} {l2 : Int32} {l3 : Int32} {l4 : Int32} {l5 : Int32} {l6 : Int32} {h : zz_Hp} (hrc : ∀ l1 l2 l3 l4 (h : zz_Hp) (Q : Int32 → zz_Hp → Prop), rc l1 l2 l3 l4 h Q → zz_G zKC zNC (d + n + 1) mX8_areAlike (qI Q) 0 (zz_L0 7 [.ref 2, .int l1, .int l2, .int l3, .int l4]) [] h) (H : lp (fun s ag => w_X8_areAlike_l77 rc ag Q l1 l2 l3 l4 l5 s.1 s.2) (l6, h)) : zz_G zKC zNC (d + (n + 1) + 1) mX8_areAlike (qI Q) 77 [some (.ref 2), some (.int l1), some (.int l2), some (.int l3), some (.int l4), some (.int l5), some (.int l6)] [] h := by
  refine lp_sound (G := fun (s : Int32 × zz_Hp) => zz_G zKC zNC (d + (n + 1) + 1) mX8_areAlike (qI Q) 77 [some (.ref 2), some (.int l1), some (.int l2), some (.int l3), some (.int l4), some (.int l5), some (.int s.1)] [] s.2) ?_ H
  clear H
  intro s ag77 hag77 H
  obtain ⟨l6, h⟩ := s
  replace hag77 : ∀ (l6 : Int32) (h : zz_Hp), ag77 (l6, h) → zz_G zKC zNC (d + (n + 1) + 1) mX8_areAlike (qI Q) 77 [some (.ref 2), some (.int l1), some (.int l2), some (.int l3), some (.int l4), some (.int l5), some (.int l6)] [] h := fun l6 h H => hag77 (l6, h) H
  replace H : w_X8_areAlike_l77 rc ag77 Q l1 l2 l3 l4 l5 l6 h := H
  show zz_G zKC zNC (d + (n + 1) + 1) mX8_areAlike (qI Q) 77 [some (.ref 2), some (.int l1), some (.int l2), some (.int l3), some (.int l4), some (.int l5), some (.int l6)] [] h
  unfold w_X8_areAlike_l77 at H
  refine zg_iload (pc := 77) dX8_areAlike_77 rfl ?_
  refine zg_iload (pc := 79) dX8_areAlike_79 rfl ?_
  refine zg_icmp_ge (pc := 81) dX8_areAlike_81 (tgt := 118) (by decide) (fun hc => ?_) (fun hc => ?_)
  · replace H := H.1 hc
    refine zg_iconst (pc := 118) dX8_areAlike_118 (v := 1) (by decide) ?_
    exact zg_zret (pc := 119) dX8_areAlike_119 (Or.inr rfl) rfl ⟨_, rfl, H⟩
  · replace H := H.2 hc
    refine zg_aload_n (pc := 84) dX8_areAlike_84 rfl rfl ?_
    refine zg_aload_n (pc := 85) dX8_areAlike_85 rfl rfl ?_
    refine zg_iload_n (pc := 86) dX8_areAlike_86 rfl rfl ?_
    refine zg_iload (pc := 87) dX8_areAlike_87 rfl ?_
    refine zg_callVi (st := [.ref 2]) (pc := 89) dX8_areAlike_89 (As := [.int l1, .int l6]) lk_X8_134 kC_2 (by decide) rfl (Nat.le_of_ble_eq_true rfl) (Nat.le_of_ble_eq_true rfl) (sd_X7_partAt (d + (n + 1)) H) (fun r18 h17 H => ?_)
    refine zg_aload_n (pc := 92) dX8_areAlike_92 rfl rfl ?_
    refine zg_iload_n (pc := 93) dX8_areAlike_93 rfl rfl ?_
    refine zg_iload (pc := 94) dX8_areAlike_94 rfl ?_
    refine zg_callVi (st := [.int r18, .ref 2]) (pc := 96) dX8_areAlike_96 (As := [.int l2, .int l6]) lk_X8_134 kC_2 (by decide) rfl (Nat.le_of_ble_eq_true rfl) (Nat.le_of_ble_eq_true rfl) (sd_X7_partAt (d + (n + 1)) H) (fun r20 h19 H => ?_)
    refine zg_iload_n (pc := 99) dX8_areAlike_99 rfl rfl ?_
    refine zg_iload (pc := 100) dX8_areAlike_100 rfl ?_
    refine zg_iconst (pc := 102) dX8_areAlike_102 (v := 1) (by decide) ?_
    refine zg_iadd (pc := 103) dX8_areAlike_103 ?_
    refine zg_callSi (st := []) (pc := 104) dX8_areAlike_104 (As := [.ref 2, .int r18, .int r20, .int l3, .int (l4 + 1)]) lk_X8_214 rfl (Nat.le_of_ble_eq_true rfl) (Nat.le_of_ble_eq_true rfl) (hrc r18 r20 l3 (l4 + 1) _ _ H) (fun r22 h21 H => ?_)
    refine zg_if_ne (pc := 107) dX8_areAlike_107 (tgt := 112) (by decide) (fun hc => ?_) (fun hc => ?_)
    · replace H := H.1 hc
      refine zg_iinc (pc := 112) dX8_areAlike_112 rfl (v := l6 + 1) rfl (by decide) (L' := [some (.ref 2), some (.int l1), some (.int l2), some (.int l3), some (.int l4), some (.int l5), some (.int (l6 + 1))]) rfl ?_
      refine zg_goto (pc := 115) dX8_areAlike_115 (tgt := 77) (by decide) ?_
      exact hag77 (l6 + 1) _ H
    · replace H := H.2 hc
      refine zg_iconst (pc := 110) dX8_areAlike_110 (v := 0) (by decide) ?_
      exact zg_zret (pc := 111) dX8_areAlike_111 (Or.inl rfl) rfl ⟨_, rfl, H⟩
set_option maxRecDepth 100000 in
theorem sd_X8_areAlike_b {n d : Nat} {rc : Int32 → Int32 → Int32 → Int32 → zz_Hp → (Int32 → zz_Hp → Prop) → Prop} {l1 : Int32} {l2 : Int32} {l3 : Int32} {l4 : Int32} {h : zz_Hp} {Q : Int32 → zz_Hp → Prop} (hrc : ∀ l1 l2 l3 l4 (h : zz_Hp) (Q : Int32 → zz_Hp → Prop), rc l1 l2 l3 l4 h Q → zz_G zKC zNC (d + n + 1) mX8_areAlike (qI Q) 0 (zz_L0 7 [.ref 2, .int l1, .int l2, .int l3, .int l4]) [] h) (H : w_X8_areAlike_b rc l1 l2 l3 l4 h Q) : zz_G zKC zNC (d + (n + 1) + 1) mX8_areAlike (qI Q) 0 [some (.ref 2), some (.int l1), some (.int l2), some (.int l3), some (.int l4), none, none] [] h := by
  unfold w_X8_areAlike_b at H
  refine zg_aload_n (pc := 0) dX8_areAlike_0 rfl rfl ?_
  refine zg_iload_n (pc := 1) dX8_areAlike_1 rfl rfl ?_
  refine zg_iconst (pc := 2) dX8_areAlike_2 (v := 4) (by decide) ?_
  refine zg_callVi (st := []) (pc := 3) dX8_areAlike_3 (As := [.int l1, .int 4]) lk_X8_130 kC_2 (by decide) rfl (Nat.le_of_ble_eq_true rfl) (Nat.le_of_ble_eq_true rfl) (sd_X7_fact (d + (n + 1)) H) (fun r2 h1 H => ?_)
  refine zg_istore (pc := 6) dX8_areAlike_6 (by decide) (L' := [some (.ref 2), some (.int l1), some (.int l2), some (.int l3), some (.int l4), some (.int r2), none]) rfl ?_
  refine zg_iload (pc := 8) dX8_areAlike_8 rfl ?_
  refine zg_iconst (pc := 10) dX8_areAlike_10 (v := 3) (by decide) ?_
  refine zg_icmp_gt (pc := 11) dX8_areAlike_11 (tgt := 72) (by decide) (fun hc => ?_) (fun hc => ?_)
  · replace H := H.1 hc
    refine zg_iconst (pc := 72) dX8_areAlike_72 (v := 0) (by decide) ?_
    exact zg_zret (pc := 73) dX8_areAlike_73 (Or.inl rfl) rfl ⟨_, rfl, H⟩
  · replace H := H.2 hc
    refine zg_iload (pc := 14) dX8_areAlike_14 rfl ?_
    refine zg_aload_n (pc := 16) dX8_areAlike_16 rfl rfl ?_
    refine zg_iload_n (pc := 17) dX8_areAlike_17 rfl rfl ?_
    refine zg_iconst (pc := 18) dX8_areAlike_18 (v := 4) (by decide) ?_
    refine zg_callVi (st := [.int r2]) (pc := 19) dX8_areAlike_19 (As := [.int l2, .int 4]) lk_X8_130 kC_2 (by decide) rfl (Nat.le_of_ble_eq_true rfl) (Nat.le_of_ble_eq_true rfl) (sd_X7_fact (d + (n + 1)) H) (fun r4 h3 H => ?_)
    refine zg_icmp_ne (pc := 22) dX8_areAlike_22 (tgt := 72) (by decide) (fun hc => ?_) (fun hc => ?_)
    · replace H := H.1 hc
      refine zg_iconst (pc := 72) dX8_areAlike_72 (v := 0) (by decide) ?_
      exact zg_zret (pc := 73) dX8_areAlike_73 (Or.inl rfl) rfl ⟨_, rfl, H⟩
    · replace H := H.2 hc
      refine zg_aload_n (pc := 25) dX8_areAlike_25 rfl rfl ?_
      refine zg_iload_n (pc := 26) dX8_areAlike_26 rfl rfl ?_
      refine zg_iconst (pc := 27) dX8_areAlike_27 (v := 0) (by decide) ?_
      refine zg_callVi (st := []) (pc := 28) dX8_areAlike_28 (As := [.int l1, .int 0]) lk_X8_130 kC_2 (by decide) rfl (Nat.le_of_ble_eq_true rfl) (Nat.le_of_ble_eq_true rfl) (sd_X7_fact (d + (n + 1)) H) (fun r6 h5 H => ?_)
      refine zg_iload_n (pc := 31) dX8_areAlike_31 rfl rfl ?_
      refine zg_aload_n (pc := 32) dX8_areAlike_32 rfl rfl ?_
      refine zg_iload_n (pc := 33) dX8_areAlike_33 rfl rfl ?_
      refine zg_iconst (pc := 34) dX8_areAlike_34 (v := 0) (by decide) ?_
      refine zg_callVi (st := [.int l3, .int r6]) (pc := 35) dX8_areAlike_35 (As := [.int l2, .int 0]) lk_X8_130 kC_2 (by decide) rfl (Nat.le_of_ble_eq_true rfl) (Nat.le_of_ble_eq_true rfl) (sd_X7_fact (d + (n + 1)) H) (fun r8 h7 H => ?_)
      refine zg_imul (pc := 38) dX8_areAlike_38 ?_
      refine zg_icmp_ne (pc := 39) dX8_areAlike_39 (tgt := 72) (by decide) (fun hc => ?_) (fun hc => ?_)
      · replace H := H.1 hc
        refine zg_iconst (pc := 72) dX8_areAlike_72 (v := 0) (by decide) ?_
        exact zg_zret (pc := 73) dX8_areAlike_73 (Or.inl rfl) rfl ⟨_, rfl, H⟩
      · replace H := H.2 hc
        refine zg_aload_n (pc := 42) dX8_areAlike_42 rfl rfl ?_
        refine zg_iload_n (pc := 43) dX8_areAlike_43 rfl rfl ?_
        refine zg_iconst (pc := 44) dX8_areAlike_44 (v := 2) (by decide) ?_
        refine zg_callVi (st := []) (pc := 45) dX8_areAlike_45 (As := [.int l1, .int 2]) lk_X8_130 kC_2 (by decide) rfl (Nat.le_of_ble_eq_true rfl) (Nat.le_of_ble_eq_true rfl) (sd_X7_fact (d + (n + 1)) H) (fun r10 h9 H => ?_)
        refine zg_aload_n (pc := 48) dX8_areAlike_48 rfl rfl ?_
        refine zg_iload_n (pc := 49) dX8_areAlike_49 rfl rfl ?_
        refine zg_iconst (pc := 50) dX8_areAlike_50 (v := 2) (by decide) ?_
        refine zg_callVi (st := [.int r10]) (pc := 51) dX8_areAlike_51 (As := [.int l2, .int 2]) lk_X8_130 kC_2 (by decide) rfl (Nat.le_of_ble_eq_true rfl) (Nat.le_of_ble_eq_true rfl) (sd_X7_fact (d + (n + 1)) H) (fun r12 h11 H => ?_)
        refine zg_icmp_ne (pc := 54) dX8_areAlike_54 (tgt := 72) (by decide) (fun hc => ?_) (fun hc => ?_)
        · replace H := H.1 hc
          refine zg_iconst (pc := 72) dX8_areAlike_72 (v := 0) (by decide) ?_
          exact zg_zret (pc := 73) dX8_areAlike_73 (Or.inl rfl) rfl ⟨_, rfl, H⟩
        · replace H := H.2 hc
          refine zg_aload_n (pc := 57) dX8_areAlike_57 rfl rfl ?_
          refine zg_iload_n (pc := 58) dX8_areAlike_58 rfl rfl ?_
          refine zg_iconst (pc := 59) dX8_areAlike_59 (v := 1) (by decide) ?_
          refine zg_callVi (st := []) (pc := 60) dX8_areAlike_60 (As := [.int l1, .int 1]) lk_X8_130 kC_2 (by decide) rfl (Nat.le_of_ble_eq_true rfl) (Nat.le_of_ble_eq_true rfl) (sd_X7_fact (d + (n + 1)) H) (fun r14 h13 H => ?_)
          refine zg_aload_n (pc := 63) dX8_areAlike_63 rfl rfl ?_
          refine zg_iload_n (pc := 64) dX8_areAlike_64 rfl rfl ?_
          refine zg_iconst (pc := 65) dX8_areAlike_65 (v := 1) (by decide) ?_
          refine zg_callVi (st := [.int r14]) (pc := 66) dX8_areAlike_66 (As := [.int l2, .int 1]) lk_X8_130 kC_2 (by decide) rfl (Nat.le_of_ble_eq_true rfl) (Nat.le_of_ble_eq_true rfl) (sd_X7_fact (d + (n + 1)) H) (fun r16 h15 H => ?_)
          refine zg_icmp_eq (pc := 69) dX8_areAlike_69 (tgt := 74) (by decide) (fun hc => ?_) (fun hc => ?_)
          · replace H := H.1 hc
            refine zg_iconst (pc := 74) dX8_areAlike_74 (v := 0) (by decide) ?_
            refine zg_istore (pc := 75) dX8_areAlike_75 (by decide) (L' := [some (.ref 2), some (.int l1), some (.int l2), some (.int l3), some (.int l4), some (.int r2), some (.int 0)]) rfl ?_
            exact sd_X8_areAlike_l77 hrc H
          · replace H := H.2 hc
            refine zg_iconst (pc := 72) dX8_areAlike_72 (v := 0) (by decide) ?_
            exact zg_zret (pc := 73) dX8_areAlike_73 (Or.inl rfl) rfl ⟨_, rfl, H⟩
theorem sd_X8_areAlike : ∀ (n d : Nat) {l1 : Int32} {l2 : Int32} {l3 : Int32} {l4 : Int32} {h : zz_Hp} {Q : Int32 → zz_Hp → Prop} (_ : w_X8_areAlike n l1 l2 l3 l4 h Q), zz_G zKC zNC (d + n + 1) mX8_areAlike (qI Q) 0 (zz_L0 7 [.ref 2, .int l1, .int l2, .int l3, .int l4]) [] h := by
  intro n
  induction n with
  | zero => intro d l1 l2 l3 l4 h Q H; exact H.elim
  | succ n ih => intro d l1 l2 l3 l4 h Q H; exact sd_X8_areAlike_b (fun l1 l2 l3 l4 h Q H => ih d H) H
set_option maxRecDepth 100000 in
theorem sd_X8_alike_j57 {d : Nat} {Q : Int32 → zz_Hp → Prop}  {s0 : Int32} {s1 : Int32} {s2 : Int32} {h : zz_Hp}  (H : w_X8_alike_j57 Q s0 s1 s2 h) : zz_G zKC zNC (d + 7) mX8_alike (qI Q) 57 [none, none, none, none] [.int s0, .int s1, .int s2, .ref 2] h := by
  unfold w_X8_alike_j57 at H
  refine zg_iconst (pc := 57) dX8_alike_57 (v := 0) (by decide) ?_
  refine zg_callSi (st := []) (pc := 58) dX8_alike_58 (As := [.ref 2, .int s2, .int s1, .int s0, .int 0]) lk_X8_214 rfl (Nat.le_of_ble_eq_true rfl) (Nat.le_of_ble_eq_true rfl) (sd_X8_areAlike 5 d H) (fun r8 h7 H => ?_)
  refine zg_if_eq (pc := 61) dX8_alike_61 (tgt := 68) (by decide) (fun hc => ?_) (fun hc => ?_)
  · replace H := H.1 hc
    refine zg_iconst (pc := 68) dX8_alike_68 (v := 0) (by decide) ?_
    exact zg_iret (pc := 69) dX8_alike_69 rfl ⟨_, rfl, H⟩
  · replace H := H.2 hc
    refine zg_iconst (pc := 64) dX8_alike_64 (v := 1) (by decide) ?_
    refine zg_goto (pc := 65) dX8_alike_65 (tgt := 69) (by decide) ?_
    exact zg_iret (pc := 69) dX8_alike_69 rfl ⟨_, rfl, H⟩
set_option maxRecDepth 100000 in
theorem sd_X8_alike (d : Nat) {l1 : Int32} {l2 : Int32} {l3 : Int32} {h : zz_Hp} {Q : Int32 → zz_Hp → Prop} (H : w_X8_alike l1 l2 l3 h Q) : zz_G zKC zNC (d + 7) mX8_alike (qI Q) 0 (zz_L0 4 [.ref 0, .int l1, .int l2, .int l3]) [] h := by
  show zz_G zKC zNC (d + 7) mX8_alike (qI Q) 0 [some (.ref 0), some (.int l1), some (.int l2), some (.int l3)] [] h
  unfold w_X8_alike at H
  refine zg_aload_n (pc := 0) dX8_alike_0 rfl rfl ?_
  refine zg_getR (pc := 1) dX8_alike_1 lf_X8_12 kC_0 (by decide) rfl ?_
  refine zg_getR (pc := 4) dX8_alike_4 lf_X8_75 kC_1 (by decide) rfl ?_
  refine zg_iload_n (pc := 7) dX8_alike_7 rfl rfl ?_
  refine zg_callVi (st := []) (pc := 8) dX8_alike_8 (As := [.int l1]) lk_X8_85 kC_2 (by decide) rfl (Nat.le_of_ble_eq_true rfl) (Nat.le_of_ble_eq_true rfl) (sd_X7_has (d + 6) H) (fun r2 h1 H => ?_)
  refine zg_if_eq (pc := 11) dX8_alike_11 (tgt := 37) (by decide) (fun hc => ?_) (fun hc => ?_)
  · replace H := H.1 hc
    refine zg_iconst (pc := 37) dX8_alike_37 (v := (-1)) (by decide) ?_
    exact zg_iret (pc := 38) dX8_alike_38 rfl ⟨_, rfl, H⟩
  · replace H := H.2 hc
    refine zg_aload_n (pc := 14) dX8_alike_14 rfl rfl ?_
    refine zg_getR (pc := 15) dX8_alike_15 lf_X8_12 kC_0 (by decide) rfl ?_
    refine zg_getR (pc := 18) dX8_alike_18 lf_X8_75 kC_1 (by decide) rfl ?_
    refine zg_iload_n (pc := 21) dX8_alike_21 rfl rfl ?_
    refine zg_callVi (st := []) (pc := 22) dX8_alike_22 (As := [.int l2]) lk_X8_85 kC_2 (by decide) rfl (Nat.le_of_ble_eq_true rfl) (Nat.le_of_ble_eq_true rfl) (sd_X7_has (d + 6) H) (fun r4 h3 H => ?_)
    refine zg_if_eq (pc := 25) dX8_alike_25 (tgt := 37) (by decide) (fun hc => ?_) (fun hc => ?_)
    · replace H := H.1 hc
      refine zg_iconst (pc := 37) dX8_alike_37 (v := (-1)) (by decide) ?_
      exact zg_iret (pc := 38) dX8_alike_38 rfl ⟨_, rfl, H⟩
    · replace H := H.2 hc
      refine zg_iload_n (pc := 28) dX8_alike_28 rfl rfl ?_
      refine zg_iconst (pc := 29) dX8_alike_29 (v := 0) (by decide) ?_
      refine zg_iconst (pc := 30) dX8_alike_30 (v := 1) (by decide) ?_
      refine zg_callSi (st := []) (pc := 31) dX8_alike_31 (As := [.int l3, .int 0, .int 1]) lk_X8_121 rfl (Nat.le_of_ble_eq_true rfl) (Nat.le_of_ble_eq_true rfl) (sd_X8_inRange (d + 6) H) (fun r6 h5 H => ?_)
      refine zg_if_ne (pc := 34) dX8_alike_34 (tgt := 39) (by decide) (fun hc => ?_) (fun hc => ?_)
      · replace H := H.1 hc
        refine zg_aload_n (pc := 39) dX8_alike_39 rfl rfl ?_
        refine zg_getR (pc := 40) dX8_alike_40 lf_X8_12 kC_0 (by decide) rfl ?_
        refine zg_getR (pc := 43) dX8_alike_43 lf_X8_75 kC_1 (by decide) rfl ?_
        refine zg_iload_n (pc := 46) dX8_alike_46 rfl rfl ?_
        refine zg_iload_n (pc := 47) dX8_alike_47 rfl rfl ?_
        refine zg_iload_n (pc := 48) dX8_alike_48 rfl rfl ?_
        refine zg_if_ne (pc := 49) dX8_alike_49 (tgt := 56) (by decide) (fun hc => ?_) (fun hc => ?_)
        · replace H := H.1 hc
          refine zg_iconst (pc := 56) dX8_alike_56 (v := (-1)) (by decide) ?_
          refine zg_weak (L' := [none, none, none, none]) trivial ?_
          exact sd_X8_alike_j57  H
        · replace H := H.2 hc
          refine zg_iconst (pc := 52) dX8_alike_52 (v := 1) (by decide) ?_
          refine zg_goto (pc := 53) dX8_alike_53 (tgt := 57) (by decide) ?_
          refine zg_weak (L' := [none, none, none, none]) trivial ?_
          exact sd_X8_alike_j57  H
      · replace H := H.2 hc
        refine zg_iconst (pc := 37) dX8_alike_37 (v := (-1)) (by decide) ?_
        exact zg_iret (pc := 38) dX8_alike_38 rfl ⟨_, rfl, H⟩
set_option maxRecDepth 100000 in
theorem sd_X8_inside (d : Nat) {l1 : Int32} {h : zz_Hp} {Q : Int32 → zz_Hp → Prop} (H : w_X8_inside l1 h Q) : zz_G zKC zNC (d + 1) mX8_inside (qI Q) 0 (zz_L0 2 [.ref 0, .int l1]) [] h := by
  show zz_G zKC zNC (d + 1) mX8_inside (qI Q) 0 [some (.ref 0), some (.int l1)] [] h
  unfold w_X8_inside at H
  refine zg_aload_n (pc := 0) dX8_inside_0 rfl rfl ?_
  refine zg_getR (pc := 1) dX8_inside_1 lf_X8_12 kC_0 (by decide) rfl ?_
  refine zg_getR (pc := 4) dX8_inside_4 lf_X8_75 kC_1 (by decide) rfl ?_
  refine zg_iload_n (pc := 7) dX8_inside_7 rfl rfl ?_
  refine zg_callVi (st := []) (pc := 8) dX8_inside_8 (As := [.int l1]) lk_X8_85 kC_2 (by decide) rfl (Nat.le_of_ble_eq_true rfl) (Nat.le_of_ble_eq_true rfl) (sd_X7_has d H) (fun r2 h1 H => ?_)
  refine zg_if_eq (pc := 11) dX8_inside_11 (tgt := 30) (by decide) (fun hc => ?_) (fun hc => ?_)
  · replace H := H.1 hc
    refine zg_iconst (pc := 30) dX8_inside_30 (v := (-1)) (by decide) ?_
    exact zg_iret (pc := 31) dX8_inside_31 rfl ⟨_, rfl, H⟩
  · replace H := H.2 hc
    refine zg_aload_n (pc := 14) dX8_inside_14 rfl rfl ?_
    refine zg_getR (pc := 15) dX8_inside_15 lf_X8_12 kC_0 (by decide) rfl ?_
    refine zg_getR (pc := 18) dX8_inside_18 lf_X8_75 kC_1 (by decide) rfl ?_
    refine zg_iload_n (pc := 21) dX8_inside_21 rfl rfl ?_
    refine zg_bipush (pc := 22) dX8_inside_22 (v := 7) (by decide) ?_
    refine zg_callVi (st := []) (pc := 24) dX8_inside_24 (As := [.int l1, .int 7]) lk_X8_130 kC_2 (by decide) rfl (Nat.le_of_ble_eq_true rfl) (Nat.le_of_ble_eq_true rfl) (sd_X7_fact d H) (fun r4 h3 H => ?_)
    refine zg_goto (pc := 27) dX8_inside_27 (tgt := 31) (by decide) ?_
    exact zg_iret (pc := 31) dX8_inside_31 rfl ⟨_, rfl, H⟩
set_option maxRecDepth 100000 in
theorem sd_X6_takeFromStock_l2 {d : Nat} {Q : zz_Hp → Prop}  {l2 : Int32} {h : zz_Hp}  (H : lp (fun s ag => w_X6_takeFromStock_l2 ag Q  s.1 s.2) (l2, h)) : zz_G zKC zNC (d + 1) mX6_takeFromStock (qV Q) 2 [some (.ref 27), some (.ref 2), some (.int l2)] [] h := by
  refine lp_sound (G := fun (s : Int32 × zz_Hp) => zz_G zKC zNC (d + 1) mX6_takeFromStock (qV Q) 2 [some (.ref 27), some (.ref 2), some (.int s.1)] [] s.2) ?_ H
  clear H
  intro s ag2 hag2 H
  obtain ⟨l2, h⟩ := s
  replace hag2 : ∀ (l2 : Int32) (h : zz_Hp), ag2 (l2, h) → zz_G zKC zNC (d + 1) mX6_takeFromStock (qV Q) 2 [some (.ref 27), some (.ref 2), some (.int l2)] [] h := fun l2 h H => hag2 (l2, h) H
  replace H : w_X6_takeFromStock_l2 ag2 Q  l2 h := H
  show zz_G zKC zNC (d + 1) mX6_takeFromStock (qV Q) 2 [some (.ref 27), some (.ref 2), some (.int l2)] [] h
  unfold w_X6_takeFromStock_l2 at H
  refine zg_iload_n (pc := 2) dX6_takeFromStock_2 rfl rfl ?_
  refine zg_aload_n (pc := 3) dX6_takeFromStock_3 rfl rfl ?_
  refine zg_getI (pc := 4) dX6_takeFromStock_4 lf_X6_83 kC_2 (by decide) rfl ?_
  refine zg_icmp_ge (pc := 7) dX6_takeFromStock_7 (tgt := 35) (by decide) (fun hc => ?_) (fun hc => ?_)
  · replace H := H.1 hc
    exact zg_vret (pc := 35) dX6_takeFromStock_35 rfl ⟨rfl, H⟩
  · replace H := H.2 hc
    refine zg_aload_n (pc := 10) dX6_takeFromStock_10 rfl rfl ?_
    refine zg_iload_n (pc := 11) dX6_takeFromStock_11 rfl rfl ?_
    refine zg_iconst (pc := 12) dX6_takeFromStock_12 (v := 3) (by decide) ?_
    refine zg_aload_n (pc := 13) dX6_takeFromStock_13 rfl rfl ?_
    refine zg_iload_n (pc := 14) dX6_takeFromStock_14 rfl rfl ?_
    refine zg_iconst (pc := 15) dX6_takeFromStock_15 (v := 3) (by decide) ?_
    refine zg_callVi (st := [.int 3, .int l2, .ref 2]) (pc := 16) dX6_takeFromStock_16 (As := [.int l2, .int 3]) lk_X6_46 kC_2 (by decide) rfl (Nat.le_of_ble_eq_true rfl) (Nat.le_of_ble_eq_true rfl) (sd_X7_fact d H) (fun r2 h1 H => ?_)
    refine zg_aload_n (pc := 19) dX6_takeFromStock_19 rfl rfl ?_
    refine zg_getR (pc := 20) dX6_takeFromStock_20 lf_X6_31 kC_27 (by decide) rfl ?_
    refine zg_iload_n (pc := 23) dX6_takeFromStock_23 rfl rfl ?_
    obtain ⟨hb, H⟩ := H
    refine zg_iald (pc := 24) dX6_takeFromStock_24 kC_34 (by decide) hb ?_
    refine zg_isub (pc := 25) dX6_takeFromStock_25 ?_
    refine zg_callVv (st := []) (pc := 26) dX6_takeFromStock_26 (As := [.int l2, .int 3, .int (r2 - (h1.1 34 (Int32.toNatClampNeg l2)))]) lk_X6_84 kC_2 (by decide) rfl (Nat.le_of_ble_eq_true rfl) (Nat.le_of_ble_eq_true rfl) (sd_X7_write d H) (fun h3 H => ?_)
    refine zg_iinc (pc := 29) dX6_takeFromStock_29 rfl (v := l2 + 1) rfl (by decide) (L' := [some (.ref 27), some (.ref 2), some (.int (l2 + 1))]) rfl ?_
    refine zg_goto (pc := 32) dX6_takeFromStock_32 (tgt := 2) (by decide) ?_
    exact hag2 (l2 + 1) _ H
set_option maxRecDepth 100000 in
theorem sd_X6_takeFromStock (d : Nat)  {h : zz_Hp} {Q : zz_Hp → Prop} (H : w_X6_takeFromStock  h Q) : zz_G zKC zNC (d + 1) mX6_takeFromStock (qV Q) 0 (zz_L0 3 [.ref 27, .ref 2]) [] h := by
  show zz_G zKC zNC (d + 1) mX6_takeFromStock (qV Q) 0 [some (.ref 27), some (.ref 2), none] [] h
  unfold w_X6_takeFromStock at H
  refine zg_iconst (pc := 0) dX6_takeFromStock_0 (v := 0) (by decide) ?_
  refine zg_istore_n (pc := 1) dX6_takeFromStock_1 rfl (by decide) (L' := [some (.ref 27), some (.ref 2), some (.int 0)]) rfl ?_
  exact sd_X6_takeFromStock_l2  H
set_option maxRecDepth 100000 in
theorem sd_X8_makeYards (d : Nat) {l1 : Int32} {l2 : Int32} {h : zz_Hp} {Q : Int32 → zz_Hp → Prop} (H : w_X8_makeYards l1 l2 h Q) : zz_G zKC zNC (d + 4) mX8_makeYards (qI Q) 0 (zz_L0 4 [.ref 0, .int l1, .int l2]) [] h := by
  show zz_G zKC zNC (d + 4) mX8_makeYards (qI Q) 0 [some (.ref 0), some (.int l1), some (.int l2), none] [] h
  unfold w_X8_makeYards at H
  refine zg_aload_n (pc := 0) dX8_makeYards_0 rfl rfl ?_
  refine zg_getR (pc := 1) dX8_makeYards_1 lf_X8_12 kC_0 (by decide) rfl ?_
  refine zg_getR (pc := 4) dX8_makeYards_4 lf_X8_75 kC_1 (by decide) rfl ?_
  refine zg_astore_n (pc := 7) dX8_makeYards_7 rfl (by decide) (L' := [some (.ref 0), some (.int l1), some (.int l2), some (.ref 2)]) rfl ?_
  refine zg_aload_n (pc := 8) dX8_makeYards_8 rfl rfl ?_
  refine zg_iload_n (pc := 9) dX8_makeYards_9 rfl rfl ?_
  refine zg_callVi (st := []) (pc := 10) dX8_makeYards_10 (As := [.int l1]) lk_X8_85 kC_2 (by decide) rfl (Nat.le_of_ble_eq_true rfl) (Nat.le_of_ble_eq_true rfl) (sd_X7_has (d + 3) H) (fun r2 h1 H => ?_)
  refine zg_if_eq (pc := 13) dX8_makeYards_13 (tgt := 27) (by decide) (fun hc => ?_) (fun hc => ?_)
  · replace H := H.1 hc
    refine zg_iconst (pc := 27) dX8_makeYards_27 (v := (-1)) (by decide) ?_
    exact zg_iret (pc := 28) dX8_makeYards_28 rfl ⟨_, rfl, H⟩
  · replace H := H.2 hc
    refine zg_iload_n (pc := 16) dX8_makeYards_16 rfl rfl ?_
    refine zg_iconst (pc := 17) dX8_makeYards_17 (v := 1) (by decide) ?_
    refine zg_sipush (pc := 18) dX8_makeYards_18 (v := 9999) (by decide) ?_
    refine zg_callSi (st := []) (pc := 21) dX8_makeYards_21 (As := [.int l2, .int 1, .int 9999]) lk_X8_121 rfl (Nat.le_of_ble_eq_true rfl) (Nat.le_of_ble_eq_true rfl) (sd_X8_inRange (d + 3) H) (fun r4 h3 H => ?_)
    refine zg_if_ne (pc := 24) dX8_makeYards_24 (tgt := 29) (by decide) (fun hc => ?_) (fun hc => ?_)
    · replace H := H.1 hc
      refine zg_aload_n (pc := 29) dX8_makeYards_29 rfl rfl ?_
      refine zg_iload_n (pc := 30) dX8_makeYards_30 rfl rfl ?_
      refine zg_callVi (st := []) (pc := 31) dX8_makeYards_31 (As := [.int l1]) lk_X8_197 kC_2 (by decide) rfl (Nat.le_of_ble_eq_true rfl) (Nat.le_of_ble_eq_true rfl) (sd_X7_isThread (d + 2) H) (fun r6 h5 H => ?_)
      refine zg_if_ne (pc := 34) dX8_makeYards_34 (tgt := 50) (by decide) (fun hc => ?_) (fun hc => ?_)
      · replace H := H.1 hc
        refine zg_bipush (pc := 50) dX8_makeYards_50 (v := (-5)) (by decide) ?_
        exact zg_iret (pc := 52) dX8_makeYards_52 rfl ⟨_, rfl, H⟩
      · replace H := H.2 hc
        refine zg_aload_n (pc := 37) dX8_makeYards_37 rfl rfl ?_
        refine zg_iload_n (pc := 38) dX8_makeYards_38 rfl rfl ?_
        refine zg_iconst (pc := 39) dX8_makeYards_39 (v := 3) (by decide) ?_
        refine zg_callVi (st := []) (pc := 40) dX8_makeYards_40 (As := [.int l1, .int 3]) lk_X8_130 kC_2 (by decide) rfl (Nat.le_of_ble_eq_true rfl) (Nat.le_of_ble_eq_true rfl) (sd_X7_fact (d + 3) H) (fun r8 h7 H => ?_)
        refine zg_iload_n (pc := 43) dX8_makeYards_43 rfl rfl ?_
        refine zg_iadd (pc := 44) dX8_makeYards_44 ?_
        refine zg_ldc (pc := 45) dX8_makeYards_45 lc_X8_206 ?_
        refine zg_icmp_le (pc := 47) dX8_makeYards_47 (tgt := 53) (by decide) (fun hc => ?_) (fun hc => ?_)
        · replace H := H.1 hc
          refine zg_aload_n (pc := 53) dX8_makeYards_53 rfl rfl ?_
          refine zg_getR (pc := 54) dX8_makeYards_54 lf_X8_54 kC_0 (by decide) rfl ?_
          refine zg_aload_n (pc := 57) dX8_makeYards_57 rfl rfl ?_
          refine zg_iload_n (pc := 58) dX8_makeYards_58 rfl rfl ?_
          refine zg_iconst (pc := 59) dX8_makeYards_59 (v := (-1)) (by decide) ?_
          refine zg_callVv (st := []) (pc := 60) dX8_makeYards_60 (As := [.ref 2, .int l1, .int ((-1))]) lk_X8_173 kC_27 (by decide) rfl (Nat.le_of_ble_eq_true rfl) (Nat.le_of_ble_eq_true rfl) (sd_X6_walk d H) (fun h9 H => ?_)
          refine zg_aload_n (pc := 63) dX8_makeYards_63 rfl rfl ?_
          refine zg_getR (pc := 64) dX8_makeYards_64 lf_X8_54 kC_0 (by decide) rfl ?_
          refine zg_aload_n (pc := 67) dX8_makeYards_67 rfl rfl ?_
          refine zg_iload_n (pc := 68) dX8_makeYards_68 rfl rfl ?_
          refine zg_callVv (st := []) (pc := 69) dX8_makeYards_69 (As := [.ref 2, .int l2]) lk_X8_177 kC_27 (by decide) rfl (Nat.le_of_ble_eq_true rfl) (Nat.le_of_ble_eq_true rfl) (sd_X6_draw d H) (fun h11 H => ?_)
          refine zg_aload_n (pc := 72) dX8_makeYards_72 rfl rfl ?_
          refine zg_getR (pc := 73) dX8_makeYards_73 lf_X8_54 kC_0 (by decide) rfl ?_
          refine zg_aload_n (pc := 76) dX8_makeYards_76 rfl rfl ?_
          refine zg_callVi (st := []) (pc := 77) dX8_makeYards_77 (As := [.ref 2]) lk_X8_210 kC_27 (by decide) rfl (Nat.le_of_ble_eq_true rfl) (Nat.le_of_ble_eq_true rfl) (sd_X6_isInStock (d + 2) H) (fun r14 h13 H => ?_)
          refine zg_if_ne (pc := 80) dX8_makeYards_80 (tgt := 86) (by decide) (fun hc => ?_) (fun hc => ?_)
          · replace H := H.1 hc
            refine zg_aload_n (pc := 86) dX8_makeYards_86 rfl rfl ?_
            refine zg_getR (pc := 87) dX8_makeYards_87 lf_X8_54 kC_0 (by decide) rfl ?_
            refine zg_aload_n (pc := 90) dX8_makeYards_90 rfl rfl ?_
            refine zg_callVv (st := []) (pc := 91) dX8_makeYards_91 (As := [.ref 2]) lk_X8_320 kC_27 (by decide) rfl (Nat.le_of_ble_eq_true rfl) (Nat.le_of_ble_eq_true rfl) (sd_X6_takeFromStock (d + 2) H) (fun h15 H => ?_)
            refine zg_aload_n (pc := 94) dX8_makeYards_94 rfl rfl ?_
            refine zg_iload_n (pc := 95) dX8_makeYards_95 rfl rfl ?_
            refine zg_iconst (pc := 96) dX8_makeYards_96 (v := 3) (by decide) ?_
            refine zg_aload_n (pc := 97) dX8_makeYards_97 rfl rfl ?_
            refine zg_iload_n (pc := 98) dX8_makeYards_98 rfl rfl ?_
            refine zg_iconst (pc := 99) dX8_makeYards_99 (v := 3) (by decide) ?_
            refine zg_callVi (st := [.int 3, .int l1, .ref 2]) (pc := 100) dX8_makeYards_100 (As := [.int l1, .int 3]) lk_X8_130 kC_2 (by decide) rfl (Nat.le_of_ble_eq_true rfl) (Nat.le_of_ble_eq_true rfl) (sd_X7_fact (d + 3) H) (fun r18 h17 H => ?_)
            refine zg_iload_n (pc := 103) dX8_makeYards_103 rfl rfl ?_
            refine zg_iadd (pc := 104) dX8_makeYards_104 ?_
            refine zg_callVv (st := []) (pc := 105) dX8_makeYards_105 (As := [.int l1, .int 3, .int (r18 + l2)]) lk_X8_324 kC_2 (by decide) rfl (Nat.le_of_ble_eq_true rfl) (Nat.le_of_ble_eq_true rfl) (sd_X7_write (d + 3) H) (fun h19 H => ?_)
            refine zg_aload_n (pc := 108) dX8_makeYards_108 rfl rfl ?_
            refine zg_iload_n (pc := 109) dX8_makeYards_109 rfl rfl ?_
            refine zg_iconst (pc := 110) dX8_makeYards_110 (v := 3) (by decide) ?_
            refine zg_callVi (st := []) (pc := 111) dX8_makeYards_111 (As := [.int l1, .int 3]) lk_X8_130 kC_2 (by decide) rfl (Nat.le_of_ble_eq_true rfl) (Nat.le_of_ble_eq_true rfl) (sd_X7_fact (d + 3) H) (fun r22 h21 H => ?_)
            exact zg_iret (pc := 114) dX8_makeYards_114 rfl ⟨_, rfl, H⟩
          · replace H := H.2 hc
            refine zg_bipush (pc := 83) dX8_makeYards_83 (v := (-5)) (by decide) ?_
            exact zg_iret (pc := 85) dX8_makeYards_85 rfl ⟨_, rfl, H⟩
        · replace H := H.2 hc
          refine zg_bipush (pc := 50) dX8_makeYards_50 (v := (-5)) (by decide) ?_
          exact zg_iret (pc := 52) dX8_makeYards_52 rfl ⟨_, rfl, H⟩
    · replace H := H.2 hc
      refine zg_iconst (pc := 27) dX8_makeYards_27 (v := (-1)) (by decide) ?_
      exact zg_iret (pc := 28) dX8_makeYards_28 rfl ⟨_, rfl, H⟩
set_option maxRecDepth 100000 in
theorem sd_X8_make (d : Nat) {l1 : Int32} {l2 : Int32} {h : zz_Hp} {Q : Int32 → zz_Hp → Prop} (H : w_X8_make l1 l2 h Q) : zz_G zKC zNC (d + 5) mX8_make (qI Q) 0 (zz_L0 4 [.ref 0, .int l1, .int l2]) [] h := by
  show zz_G zKC zNC (d + 5) mX8_make (qI Q) 0 [some (.ref 0), some (.int l1), some (.int l2), none] [] h
  unfold w_X8_make at H
  refine zg_aload_n (pc := 0) dX8_make_0 rfl rfl ?_
  refine zg_iload_n (pc := 1) dX8_make_1 rfl rfl ?_
  refine zg_iload_n (pc := 2) dX8_make_2 rfl rfl ?_
  refine zg_callVi (st := []) (pc := 3) dX8_make_3 (As := [.int l1, .int l2]) lk_X8_218 kC_0 (by decide) rfl (Nat.le_of_ble_eq_true rfl) (Nat.le_of_ble_eq_true rfl) (sd_X8_makeYards d H) (fun r2 h1 H => ?_)
  refine zg_istore_n (pc := 6) dX8_make_6 rfl (by decide) (L' := [some (.ref 0), some (.int l1), some (.int l2), some (.int r2)]) rfl ?_
  refine zg_iload_n (pc := 7) dX8_make_7 rfl rfl ?_
  refine zg_if_lt (pc := 8) dX8_make_8 (tgt := 18) (by decide) (fun hc => ?_) (fun hc => ?_)
  · replace H := H.1 hc
    refine zg_iload_n (pc := 18) dX8_make_18 rfl rfl ?_
    exact zg_iret (pc := 19) dX8_make_19 rfl ⟨_, rfl, H⟩
  · replace H := H.2 hc
    refine zg_aload_n (pc := 11) dX8_make_11 rfl rfl ?_
    refine zg_getR (pc := 12) dX8_make_12 lf_X8_30 kC_0 (by decide) rfl ?_
    refine zg_callVv (st := []) (pc := 15) dX8_make_15 (As := []) lk_X8_106 kC_18 (by decide) rfl (Nat.le_of_ble_eq_true rfl) (Nat.le_of_ble_eq_true rfl) (sd_X1_empty_18 (d + 4) H) (fun h3 H => ?_)
    refine zg_iload_n (pc := 18) dX8_make_18 rfl rfl ?_
    exact zg_iret (pc := 19) dX8_make_19 rfl ⟨_, rfl, H⟩
set_option maxRecDepth 100000 in
theorem sd_X1_isFull_5 (d : Nat)  {h : zz_Hp} {Q : Int32 → zz_Hp → Prop} (H : w_X1_isFull_5  h Q) : zz_G zKC zNC (d + 0) mX1_isFull (qI Q) 0 (zz_L0 1 [.ref 5]) [] h := by
  show zz_G zKC zNC (d + 0) mX1_isFull (qI Q) 0 [some (.ref 5)] [] h
  unfold w_X1_isFull_5 at H
  refine zg_aload_n (pc := 0) dX1_isFull_0 rfl rfl ?_
  refine zg_getI (pc := 1) dX1_isFull_1 lf_X1_13 kC_5 (by decide) rfl ?_
  refine zg_iconst (pc := 4) dX1_isFull_4 (v := 1) (by decide) ?_
  refine zg_iadd (pc := 5) dX1_isFull_5 ?_
  refine zg_iconst (pc := 6) dX1_isFull_6 (v := 3) (by decide) ?_
  refine zg_imul (pc := 7) dX1_isFull_7 ?_
  refine zg_aload_n (pc := 8) dX1_isFull_8 rfl rfl ?_
  refine zg_getR (pc := 9) dX1_isFull_9 lf_X1_9 kC_5 (by decide) rfl ?_
  refine zg_alen (pc := 12) dX1_isFull_12 (Or.inl rfl) (v := 24) (by decide) kC_6 (by decide) ?_
  refine zg_icmp_le (pc := 13) dX1_isFull_13 (tgt := 20) (by decide) (fun hc => ?_) (fun hc => ?_)
  · replace H := H.1 hc
    refine zg_iconst (pc := 20) dX1_isFull_20 (v := 0) (by decide) ?_
    exact zg_zret (pc := 21) dX1_isFull_21 (Or.inl rfl) rfl ⟨_, rfl, H⟩
  · replace H := H.2 hc
    refine zg_iconst (pc := 16) dX1_isFull_16 (v := 1) (by decide) ?_
    refine zg_goto (pc := 17) dX1_isFull_17 (tgt := 21) (by decide) ?_
    exact zg_zret (pc := 21) dX1_isFull_21 (Or.inr rfl) rfl ⟨_, rfl, H⟩
set_option maxRecDepth 100000 in
theorem sd_X1_add_5 (d : Nat) {l1 : Int32} {l2 : Int32} {l3 : Int32} {h : zz_Hp} {Q : zz_Hp → Prop} (H : w_X1_add_5 l1 l2 l3 h Q) : zz_G zKC zNC (d + 1) mX1_add (qV Q) 0 (zz_L0 4 [.ref 5, .int l1, .int l2, .int l3]) [] h := by
  show zz_G zKC zNC (d + 1) mX1_add (qV Q) 0 [some (.ref 5), some (.int l1), some (.int l2), some (.int l3)] [] h
  unfold w_X1_add_5 at H
  refine zg_aload_n (pc := 0) dX1_add_0 rfl rfl ?_
  refine zg_callVi (st := []) (pc := 1) dX1_add_1 (As := []) lk_X1_17 kC_5 (by decide) rfl (Nat.le_of_ble_eq_true rfl) (Nat.le_of_ble_eq_true rfl) (sd_X1_isFull_5 d H) (fun r2 h1 H => ?_)
  refine zg_if_ne (pc := 4) dX1_add_4 (tgt := 57) (by decide) (fun hc => ?_) (fun hc => ?_)
  · replace H := H.1 hc
    exact zg_vret (pc := 57) dX1_add_57 rfl ⟨rfl, H⟩
  · replace H := H.2 hc
    refine zg_aload_n (pc := 7) dX1_add_7 rfl rfl ?_
    refine zg_getR (pc := 8) dX1_add_8 lf_X1_9 kC_5 (by decide) rfl ?_
    refine zg_aload_n (pc := 11) dX1_add_11 rfl rfl ?_
    refine zg_getI (pc := 12) dX1_add_12 lf_X1_13 kC_5 (by decide) rfl ?_
    refine zg_iconst (pc := 15) dX1_add_15 (v := 3) (by decide) ?_
    refine zg_imul (pc := 16) dX1_add_16 ?_
    refine zg_iload_n (pc := 17) dX1_add_17 rfl rfl ?_
    obtain ⟨hb, H⟩ := H
    refine zg_iast (pc := 18) dX1_add_18 kC_6 (by decide) hb ?_
    generalize eh3 : zz_uI h1 6 (Int32.toNatClampNeg ((h1.1 5 0) * 3)) l1 = h3
    replace H := H h3 eh3.symm
    refine zg_aload_n (pc := 19) dX1_add_19 rfl rfl ?_
    refine zg_getR (pc := 20) dX1_add_20 lf_X1_9 kC_5 (by decide) rfl ?_
    refine zg_aload_n (pc := 23) dX1_add_23 rfl rfl ?_
    refine zg_getI (pc := 24) dX1_add_24 lf_X1_13 kC_5 (by decide) rfl ?_
    refine zg_iconst (pc := 27) dX1_add_27 (v := 3) (by decide) ?_
    refine zg_imul (pc := 28) dX1_add_28 ?_
    refine zg_iconst (pc := 29) dX1_add_29 (v := 1) (by decide) ?_
    refine zg_iadd (pc := 30) dX1_add_30 ?_
    refine zg_iload_n (pc := 31) dX1_add_31 rfl rfl ?_
    obtain ⟨hb, H⟩ := H
    refine zg_iast (pc := 32) dX1_add_32 kC_6 (by decide) hb ?_
    generalize eh4 : zz_uI h3 6 (Int32.toNatClampNeg (((h3.1 5 0) * 3) + 1)) l2 = h4
    replace H := H h4 eh4.symm
    refine zg_aload_n (pc := 33) dX1_add_33 rfl rfl ?_
    refine zg_getR (pc := 34) dX1_add_34 lf_X1_9 kC_5 (by decide) rfl ?_
    refine zg_aload_n (pc := 37) dX1_add_37 rfl rfl ?_
    refine zg_getI (pc := 38) dX1_add_38 lf_X1_13 kC_5 (by decide) rfl ?_
    refine zg_iconst (pc := 41) dX1_add_41 (v := 3) (by decide) ?_
    refine zg_imul (pc := 42) dX1_add_42 ?_
    refine zg_iconst (pc := 43) dX1_add_43 (v := 2) (by decide) ?_
    refine zg_iadd (pc := 44) dX1_add_44 ?_
    refine zg_iload_n (pc := 45) dX1_add_45 rfl rfl ?_
    obtain ⟨hb, H⟩ := H
    refine zg_iast (pc := 46) dX1_add_46 kC_6 (by decide) hb ?_
    generalize eh5 : zz_uI h4 6 (Int32.toNatClampNeg (((h4.1 5 0) * 3) + 2)) l3 = h5
    replace H := H h5 eh5.symm
    refine zg_aload_n (pc := 47) dX1_add_47 rfl rfl ?_
    refine zg_dup (pc := 48) dX1_add_48 rfl ?_
    refine zg_getI (pc := 49) dX1_add_49 lf_X1_13 kC_5 (by decide) rfl ?_
    refine zg_iconst (pc := 52) dX1_add_52 (v := 1) (by decide) ?_
    refine zg_iadd (pc := 53) dX1_add_53 ?_
    refine zg_putI (pc := 54) dX1_add_54 lp_X1_13 kC_5 (by decide) rfl ?_
    generalize eh6 : zz_uI h5 5 0 ((h5.1 5 0) + 1) = h6
    replace H := H h6 eh6.symm
    exact zg_vret (pc := 57) dX1_add_57 rfl ⟨rfl, H⟩
set_option maxRecDepth 100000 in
theorem sd_X8_lay (d : Nat) {l1 : Int32} {l2 : Int32} {l3 : Int32} {h : zz_Hp} {Q : Int32 → zz_Hp → Prop} (H : w_X8_lay l1 l2 l3 h Q) : zz_G zKC zNC (d + 2) mX8_lay (qI Q) 0 (zz_L0 4 [.ref 0, .int l1, .int l2, .int l3]) [] h := by
  show zz_G zKC zNC (d + 2) mX8_lay (qI Q) 0 [some (.ref 0), some (.int l1), some (.int l2), some (.int l3)] [] h
  unfold w_X8_lay at H
  refine zg_iload_n (pc := 0) dX8_lay_0 rfl rfl ?_
  refine zg_iconst (pc := 1) dX8_lay_1 (v := (-1)) (by decide) ?_
  refine zg_icmp_ne (pc := 2) dX8_lay_2 (tgt := 17) (by decide) (fun hc => ?_) (fun hc => ?_)
  · replace H := H.1 hc
    refine zg_aload_n (pc := 17) dX8_lay_17 rfl rfl ?_
    refine zg_getR (pc := 18) dX8_lay_18 lf_X8_12 kC_0 (by decide) rfl ?_
    refine zg_getR (pc := 21) dX8_lay_21 lf_X8_75 kC_1 (by decide) rfl ?_
    refine zg_iload_n (pc := 24) dX8_lay_24 rfl rfl ?_
    refine zg_callVi (st := []) (pc := 25) dX8_lay_25 (As := [.int l1]) lk_X8_85 kC_2 (by decide) rfl (Nat.le_of_ble_eq_true rfl) (Nat.le_of_ble_eq_true rfl) (sd_X7_has (d + 1) H) (fun r2 h1 H => ?_)
    refine zg_if_eq (pc := 28) dX8_lay_28 (tgt := 50) (by decide) (fun hc => ?_) (fun hc => ?_)
    · replace H := H.1 hc
      refine zg_iconst (pc := 50) dX8_lay_50 (v := (-1)) (by decide) ?_
      exact zg_iret (pc := 51) dX8_lay_51 rfl ⟨_, rfl, H⟩
    · replace H := H.2 hc
      refine zg_iload_n (pc := 31) dX8_lay_31 rfl rfl ?_
      refine zg_iconst (pc := 32) dX8_lay_32 (v := 1) (by decide) ?_
      refine zg_bipush (pc := 33) dX8_lay_33 (v := 40) (by decide) ?_
      refine zg_callSi (st := []) (pc := 35) dX8_lay_35 (As := [.int l2, .int 1, .int 40]) lk_X8_121 rfl (Nat.le_of_ble_eq_true rfl) (Nat.le_of_ble_eq_true rfl) (sd_X8_inRange (d + 1) H) (fun r4 h3 H => ?_)
      refine zg_if_eq (pc := 38) dX8_lay_38 (tgt := 50) (by decide) (fun hc => ?_) (fun hc => ?_)
      · replace H := H.1 hc
        refine zg_iconst (pc := 50) dX8_lay_50 (v := (-1)) (by decide) ?_
        exact zg_iret (pc := 51) dX8_lay_51 rfl ⟨_, rfl, H⟩
      · replace H := H.2 hc
        refine zg_iload_n (pc := 41) dX8_lay_41 rfl rfl ?_
        refine zg_iconst (pc := 42) dX8_lay_42 (v := 0) (by decide) ?_
        refine zg_iconst (pc := 43) dX8_lay_43 (v := 1) (by decide) ?_
        refine zg_callSi (st := []) (pc := 44) dX8_lay_44 (As := [.int l3, .int 0, .int 1]) lk_X8_121 rfl (Nat.le_of_ble_eq_true rfl) (Nat.le_of_ble_eq_true rfl) (sd_X8_inRange (d + 1) H) (fun r6 h5 H => ?_)
        refine zg_if_ne (pc := 47) dX8_lay_47 (tgt := 52) (by decide) (fun hc => ?_) (fun hc => ?_)
        · replace H := H.1 hc
          refine zg_aload_n (pc := 52) dX8_lay_52 rfl rfl ?_
          refine zg_getR (pc := 53) dX8_lay_53 lf_X8_12 kC_0 (by decide) rfl ?_
          refine zg_getR (pc := 56) dX8_lay_56 lf_X8_221 kC_1 (by decide) rfl ?_
          refine zg_callVi (st := []) (pc := 59) dX8_lay_59 (As := []) lk_X8_110 kC_5 (by decide) rfl (Nat.le_of_ble_eq_true rfl) (Nat.le_of_ble_eq_true rfl) (sd_X1_isFull_5 (d + 1) H) (fun r8 h7 H => ?_)
          refine zg_if_eq (pc := 62) dX8_lay_62 (tgt := 68) (by decide) (fun hc => ?_) (fun hc => ?_)
          · replace H := H.1 hc
            refine zg_aload_n (pc := 68) dX8_lay_68 rfl rfl ?_
            refine zg_getR (pc := 69) dX8_lay_69 lf_X8_12 kC_0 (by decide) rfl ?_
            refine zg_getR (pc := 72) dX8_lay_72 lf_X8_221 kC_1 (by decide) rfl ?_
            refine zg_iload_n (pc := 75) dX8_lay_75 rfl rfl ?_
            refine zg_iload_n (pc := 76) dX8_lay_76 rfl rfl ?_
            refine zg_iload_n (pc := 77) dX8_lay_77 rfl rfl ?_
            refine zg_callVv (st := []) (pc := 78) dX8_lay_78 (As := [.int l1, .int l2, .int l3]) lk_X8_117 kC_5 (by decide) rfl (Nat.le_of_ble_eq_true rfl) (Nat.le_of_ble_eq_true rfl) (sd_X1_add_5 d H) (fun h9 H => ?_)
            refine zg_aload_n (pc := 81) dX8_lay_81 rfl rfl ?_
            refine zg_getR (pc := 82) dX8_lay_82 lf_X8_12 kC_0 (by decide) rfl ?_
            refine zg_getR (pc := 85) dX8_lay_85 lf_X8_221 kC_1 (by decide) rfl ?_
            refine zg_getI (pc := 88) dX8_lay_88 lf_X8_224 kC_5 (by decide) rfl ?_
            exact zg_iret (pc := 91) dX8_lay_91 rfl ⟨_, rfl, H⟩
          · replace H := H.2 hc
            refine zg_bipush (pc := 65) dX8_lay_65 (v := (-3)) (by decide) ?_
            exact zg_iret (pc := 67) dX8_lay_67 rfl ⟨_, rfl, H⟩
        · replace H := H.2 hc
          refine zg_iconst (pc := 50) dX8_lay_50 (v := (-1)) (by decide) ?_
          exact zg_iret (pc := 51) dX8_lay_51 rfl ⟨_, rfl, H⟩
  · replace H := H.2 hc
    refine zg_aload_n (pc := 5) dX8_lay_5 rfl rfl ?_
    refine zg_getR (pc := 6) dX8_lay_6 lf_X8_12 kC_0 (by decide) rfl ?_
    refine zg_getR (pc := 9) dX8_lay_9 lf_X8_221 kC_1 (by decide) rfl ?_
    refine zg_callVv (st := []) (pc := 12) dX8_lay_12 (As := []) lk_X8_106 kC_5 (by decide) rfl (Nat.le_of_ble_eq_true rfl) (Nat.le_of_ble_eq_true rfl) (sd_X1_empty_5 (d + 1) H) (fun h11 H => ?_)
    refine zg_iconst (pc := 15) dX8_lay_15 (v := 0) (by decide) ?_
    exact zg_iret (pc := 16) dX8_lay_16 rfl ⟨_, rfl, H⟩
set_option maxRecDepth 100000 in
theorem sd_X4_behind_l4 {d : Nat} {Q : Int32 → zz_Hp → Prop} {l1 : Int32} {l2 : Int32} {l3 : Int32} {h : zz_Hp}  (H : lp (fun s ag => w_X4_behind_l4 ag Q l1 s.1 s.2.1 s.2.2) (l2, l3, h)) : zz_G zKC zNC (d + 0) mX4_behind (qI Q) 4 [some (.ref 37), some (.int l1), some (.int l2), some (.int l3)] [] h := by
  refine lp_sound (G := fun (s : Int32 × Int32 × zz_Hp) => zz_G zKC zNC (d + 0) mX4_behind (qI Q) 4 [some (.ref 37), some (.int l1), some (.int s.1), some (.int s.2.1)] [] s.2.2) ?_ H
  clear H
  intro s ag4 hag4 H
  obtain ⟨l2, l3, h⟩ := s
  replace hag4 : ∀ (l2 : Int32) (l3 : Int32) (h : zz_Hp), ag4 (l2, l3, h) → zz_G zKC zNC (d + 0) mX4_behind (qI Q) 4 [some (.ref 37), some (.int l1), some (.int l2), some (.int l3)] [] h := fun l2 l3 h H => hag4 (l2, l3, h) H
  replace H : w_X4_behind_l4 ag4 Q l1 l2 l3 h := H
  show zz_G zKC zNC (d + 0) mX4_behind (qI Q) 4 [some (.ref 37), some (.int l1), some (.int l2), some (.int l3)] [] h
  unfold w_X4_behind_l4 at H
  refine zg_iload_n (pc := 4) dX4_behind_4 rfl rfl ?_
  refine zg_iload_n (pc := 5) dX4_behind_5 rfl rfl ?_
  refine zg_icmp_ge (pc := 6) dX4_behind_6 (tgt := 32) (by decide) (fun hc => ?_) (fun hc => ?_)
  · replace H := H.1 hc
    refine zg_iload_n (pc := 32) dX4_behind_32 rfl rfl ?_
    exact zg_iret (pc := 33) dX4_behind_33 rfl ⟨_, rfl, H⟩
  · replace H := H.2 hc
    refine zg_iload_n (pc := 9) dX4_behind_9 rfl rfl ?_
    refine zg_aload_n (pc := 10) dX4_behind_10 rfl rfl ?_
    refine zg_getI (pc := 11) dX4_behind_11 lf_X4_18 kC_37 (by decide) rfl ?_
    refine zg_icmp_ge (pc := 14) dX4_behind_14 (tgt := 32) (by decide) (fun hc => ?_) (fun hc => ?_)
    · replace H := H.1 hc
      refine zg_iload_n (pc := 32) dX4_behind_32 rfl rfl ?_
      exact zg_iret (pc := 33) dX4_behind_33 rfl ⟨_, rfl, H⟩
    · replace H := H.2 hc
      refine zg_iload_n (pc := 17) dX4_behind_17 rfl rfl ?_
      refine zg_aload_n (pc := 18) dX4_behind_18 rfl rfl ?_
      refine zg_getR (pc := 19) dX4_behind_19 lf_X4_9 kC_37 (by decide) rfl ?_
      refine zg_iload_n (pc := 22) dX4_behind_22 rfl rfl ?_
      obtain ⟨hb, H⟩ := H
      refine zg_iald (pc := 23) dX4_behind_23 kC_38 (by decide) hb ?_
      refine zg_iadd (pc := 24) dX4_behind_24 ?_
      refine zg_istore_n (pc := 25) dX4_behind_25 rfl (by decide) (L' := [some (.ref 37), some (.int l1), some (.int (l2 + (h.1 38 (Int32.toNatClampNeg l3)))), some (.int l3)]) rfl ?_
      refine zg_iinc (pc := 26) dX4_behind_26 rfl (v := l3 + 1) rfl (by decide) (L' := [some (.ref 37), some (.int l1), some (.int (l2 + (h.1 38 (Int32.toNatClampNeg l3)))), some (.int (l3 + 1))]) rfl ?_
      refine zg_goto (pc := 29) dX4_behind_29 (tgt := 4) (by decide) ?_
      exact hag4 (l2 + (h.1 38 (Int32.toNatClampNeg l3))) (l3 + 1) _ H
set_option maxRecDepth 100000 in
theorem sd_X4_behind (d : Nat) {l1 : Int32} {h : zz_Hp} {Q : Int32 → zz_Hp → Prop} (H : w_X4_behind l1 h Q) : zz_G zKC zNC (d + 0) mX4_behind (qI Q) 0 (zz_L0 4 [.ref 37, .int l1]) [] h := by
  show zz_G zKC zNC (d + 0) mX4_behind (qI Q) 0 [some (.ref 37), some (.int l1), none, none] [] h
  unfold w_X4_behind at H
  refine zg_iconst (pc := 0) dX4_behind_0 (v := 0) (by decide) ?_
  refine zg_istore_n (pc := 1) dX4_behind_1 rfl (by decide) (L' := [some (.ref 37), some (.int l1), some (.int 0), none]) rfl ?_
  refine zg_iconst (pc := 2) dX4_behind_2 (v := 0) (by decide) ?_
  refine zg_istore_n (pc := 3) dX4_behind_3 rfl (by decide) (L' := [some (.ref 37), some (.int l1), some (.int 0), some (.int 0)]) rfl ?_
  exact sd_X4_behind_l4  H
set_option maxRecDepth 100000 in
theorem sd_X1_at_5 (d : Nat) {l1 : Int32} {l2 : Int32} {h : zz_Hp} {Q : Int32 → zz_Hp → Prop} (H : w_X1_at_5 l1 l2 h Q) : zz_G zKC zNC (d + 0) mX1_at (qI Q) 0 (zz_L0 3 [.ref 5, .int l1, .int l2]) [] h := by
  show zz_G zKC zNC (d + 0) mX1_at (qI Q) 0 [some (.ref 5), some (.int l1), some (.int l2)] [] h
  unfold w_X1_at_5 at H
  refine zg_aload_n (pc := 0) dX1_at_0 rfl rfl ?_
  refine zg_getR (pc := 1) dX1_at_1 lf_X1_9 kC_5 (by decide) rfl ?_
  refine zg_iload_n (pc := 4) dX1_at_4 rfl rfl ?_
  refine zg_iconst (pc := 5) dX1_at_5 (v := 3) (by decide) ?_
  refine zg_imul (pc := 6) dX1_at_6 ?_
  refine zg_iload_n (pc := 7) dX1_at_7 rfl rfl ?_
  refine zg_iadd (pc := 8) dX1_at_8 ?_
  obtain ⟨hb, H⟩ := H
  refine zg_iald (pc := 9) dX1_at_9 kC_6 (by decide) hb ?_
  exact zg_iret (pc := 10) dX1_at_10 rfl ⟨_, rfl, H⟩
set_option maxRecDepth 100000 in
theorem sd_X8_weighLayers_l21 {d : Nat} {Q : zz_Hp → Prop}  {l2 : Int32} {h : zz_Hp}  (H : lp (fun s ag => w_X8_weighLayers_l21 ag Q  s.1 s.2) (l2, h)) : zz_G zKC zNC (d + 5) mX8_weighLayers (qV Q) 21 [some (.ref 0), some (.ref 5), some (.int l2), none] [] h := by
  refine lp_sound (G := fun (s : Int32 × zz_Hp) => zz_G zKC zNC (d + 5) mX8_weighLayers (qV Q) 21 [some (.ref 0), some (.ref 5), some (.int s.1), none] [] s.2) ?_ H
  clear H
  intro s ag21 hag21 H
  obtain ⟨l2, h⟩ := s
  replace hag21 : ∀ (l2 : Int32) (h : zz_Hp), ag21 (l2, h) → zz_G zKC zNC (d + 5) mX8_weighLayers (qV Q) 21 [some (.ref 0), some (.ref 5), some (.int l2), none] [] h := fun l2 h H => hag21 (l2, h) H
  replace H : w_X8_weighLayers_l21 ag21 Q  l2 h := H
  show zz_G zKC zNC (d + 5) mX8_weighLayers (qV Q) 21 [some (.ref 0), some (.ref 5), some (.int l2), none] [] h
  unfold w_X8_weighLayers_l21 at H
  refine zg_iload_n (pc := 21) dX8_weighLayers_21 rfl rfl ?_
  refine zg_aload_n (pc := 22) dX8_weighLayers_22 rfl rfl ?_
  refine zg_getI (pc := 23) dX8_weighLayers_23 lf_X8_224 kC_5 (by decide) rfl ?_
  refine zg_icmp_ge (pc := 26) dX8_weighLayers_26 (tgt := 78) (by decide) (fun hc => ?_) (fun hc => ?_)
  · replace H := H.1 hc
    exact zg_vret (pc := 78) dX8_weighLayers_78 rfl ⟨rfl, H⟩
  · replace H := H.2 hc
    refine zg_aload_n (pc := 29) dX8_weighLayers_29 rfl rfl ?_
    refine zg_aload_n (pc := 30) dX8_weighLayers_30 rfl rfl ?_
    refine zg_iload_n (pc := 31) dX8_weighLayers_31 rfl rfl ?_
    refine zg_iconst (pc := 32) dX8_weighLayers_32 (v := 0) (by decide) ?_
    refine zg_callVi (st := [.ref 0]) (pc := 33) dX8_weighLayers_33 (As := [.int l2, .int 0]) lk_X8_270 kC_5 (by decide) rfl (Nat.le_of_ble_eq_true rfl) (Nat.le_of_ble_eq_true rfl) (sd_X1_at_5 (d + 4) H) (fun r3 h2 H => ?_)
    refine zg_callVi (st := []) (pc := 36) dX8_weighLayers_36 (As := [.int r3]) lk_X8_148 kC_0 (by decide) rfl (Nat.le_of_ble_eq_true rfl) (Nat.le_of_ble_eq_true rfl) (sd_X8_torqueOf d H) (fun r5 h4 H => ?_)
    refine zg_aload_n (pc := 39) dX8_weighLayers_39 rfl rfl ?_
    refine zg_iload_n (pc := 40) dX8_weighLayers_40 rfl rfl ?_
    refine zg_iconst (pc := 41) dX8_weighLayers_41 (v := 1) (by decide) ?_
    refine zg_callVi (st := [.int r5]) (pc := 42) dX8_weighLayers_42 (As := [.int l2, .int 1]) lk_X8_270 kC_5 (by decide) rfl (Nat.le_of_ble_eq_true rfl) (Nat.le_of_ble_eq_true rfl) (sd_X1_at_5 (d + 4) H) (fun r7 h6 H => ?_)
    refine zg_imul (pc := 45) dX8_weighLayers_45 ?_
    refine zg_istore_n (pc := 46) dX8_weighLayers_46 rfl (by decide) (L' := [some (.ref 0), some (.ref 5), some (.int l2), some (.int (r5 * r7))]) rfl ?_
    refine zg_aload_n (pc := 47) dX8_weighLayers_47 rfl rfl ?_
    refine zg_getR (pc := 48) dX8_weighLayers_48 lf_X8_68 kC_0 (by decide) rfl ?_
    refine zg_getR (pc := 51) dX8_weighLayers_51 lf_X8_317 kC_37 (by decide) rfl ?_
    refine zg_iload_n (pc := 54) dX8_weighLayers_54 rfl rfl ?_
    refine zg_aload_n (pc := 55) dX8_weighLayers_55 rfl rfl ?_
    refine zg_iload_n (pc := 56) dX8_weighLayers_56 rfl rfl ?_
    refine zg_iconst (pc := 57) dX8_weighLayers_57 (v := 2) (by decide) ?_
    refine zg_callVi (st := [.int l2, .ref 38]) (pc := 58) dX8_weighLayers_58 (As := [.int l2, .int 2]) lk_X8_270 kC_5 (by decide) rfl (Nat.le_of_ble_eq_true rfl) (Nat.le_of_ble_eq_true rfl) (sd_X1_at_5 (d + 4) H) (fun r9 h8 H => ?_)
    refine zg_iconst (pc := 61) dX8_weighLayers_61 (v := 1) (by decide) ?_
    refine zg_icmp_ne (pc := 62) dX8_weighLayers_62 (tgt := 70) (by decide) (fun hc => ?_) (fun hc => ?_)
    · replace H := H.1 hc
      refine zg_iload_n (pc := 70) dX8_weighLayers_70 rfl rfl ?_
      obtain ⟨hb, H⟩ := H
      refine zg_iast (pc := 71) dX8_weighLayers_71 kC_38 (by decide) hb ?_
      generalize eh10 : zz_uI h8 38 (Int32.toNatClampNeg l2) (r5 * r7) = h10
      replace H := H h10 eh10.symm
      refine zg_iinc (pc := 72) dX8_weighLayers_72 rfl (v := l2 + 1) rfl (by decide) (L' := [some (.ref 0), some (.ref 5), some (.int (l2 + 1)), some (.int (r5 * r7))]) rfl ?_
      refine zg_goto (pc := 75) dX8_weighLayers_75 (tgt := 21) (by decide) ?_
      refine zg_weak (L' := [some (.ref 0), some (.ref 5), some (.int (l2 + 1)), none]) ⟨rfl, ⟨rfl, ⟨rfl, trivial⟩⟩⟩ ?_
      exact hag21 (l2 + 1) _ H
    · replace H := H.2 hc
      refine zg_iload_n (pc := 65) dX8_weighLayers_65 rfl rfl ?_
      refine zg_ineg (pc := 66) dX8_weighLayers_66 ?_
      refine zg_goto (pc := 67) dX8_weighLayers_67 (tgt := 71) (by decide) ?_
      obtain ⟨hb, H⟩ := H
      refine zg_iast (pc := 71) dX8_weighLayers_71 kC_38 (by decide) hb ?_
      generalize eh11 : zz_uI h8 38 (Int32.toNatClampNeg l2) (-(r5 * r7)) = h11
      replace H := H h11 eh11.symm
      refine zg_iinc (pc := 72) dX8_weighLayers_72 rfl (v := l2 + 1) rfl (by decide) (L' := [some (.ref 0), some (.ref 5), some (.int (l2 + 1)), some (.int (r5 * r7))]) rfl ?_
      refine zg_goto (pc := 75) dX8_weighLayers_75 (tgt := 21) (by decide) ?_
      refine zg_weak (L' := [some (.ref 0), some (.ref 5), some (.int (l2 + 1)), none]) ⟨rfl, ⟨rfl, ⟨rfl, trivial⟩⟩⟩ ?_
      exact hag21 (l2 + 1) _ H
set_option maxRecDepth 100000 in
theorem sd_X8_weighLayers (d : Nat)  {h : zz_Hp} {Q : zz_Hp → Prop} (H : w_X8_weighLayers  h Q) : zz_G zKC zNC (d + 5) mX8_weighLayers (qV Q) 0 (zz_L0 4 [.ref 0]) [] h := by
  show zz_G zKC zNC (d + 5) mX8_weighLayers (qV Q) 0 [some (.ref 0), none, none, none] [] h
  unfold w_X8_weighLayers at H
  refine zg_aload_n (pc := 0) dX8_weighLayers_0 rfl rfl ?_
  refine zg_getR (pc := 1) dX8_weighLayers_1 lf_X8_12 kC_0 (by decide) rfl ?_
  refine zg_getR (pc := 4) dX8_weighLayers_4 lf_X8_221 kC_1 (by decide) rfl ?_
  refine zg_astore_n (pc := 7) dX8_weighLayers_7 rfl (by decide) (L' := [some (.ref 0), some (.ref 5), none, none]) rfl ?_
  refine zg_aload_n (pc := 8) dX8_weighLayers_8 rfl rfl ?_
  refine zg_getR (pc := 9) dX8_weighLayers_9 lf_X8_68 kC_0 (by decide) rfl ?_
  refine zg_aload_n (pc := 12) dX8_weighLayers_12 rfl rfl ?_
  refine zg_getI (pc := 13) dX8_weighLayers_13 lf_X8_224 kC_5 (by decide) rfl ?_
  refine zg_putI (pc := 16) dX8_weighLayers_16 lp_X8_316 kC_37 (by decide) rfl ?_
  generalize eh1 : zz_uI h 37 0 (h.1 5 0) = h1
  replace H := H h1 eh1.symm
  refine zg_iconst (pc := 19) dX8_weighLayers_19 (v := 0) (by decide) ?_
  refine zg_istore_n (pc := 20) dX8_weighLayers_20 rfl (by decide) (L' := [some (.ref 0), some (.ref 5), some (.int 0), none]) rfl ?_
  exact sd_X8_weighLayers_l21  H
set_option maxRecDepth 100000 in
theorem sd_X8_skew (d : Nat) {l1 : Int32} {h : zz_Hp} {Q : Int32 → zz_Hp → Prop} (H : w_X8_skew l1 h Q) : zz_G zKC zNC (d + 6) mX8_skew (qI Q) 0 (zz_L0 2 [.ref 0, .int l1]) [] h := by
  show zz_G zKC zNC (d + 6) mX8_skew (qI Q) 0 [some (.ref 0), some (.int l1)] [] h
  unfold w_X8_skew at H
  refine zg_iload_n (pc := 0) dX8_skew_0 rfl rfl ?_
  refine zg_iconst (pc := 1) dX8_skew_1 (v := 0) (by decide) ?_
  refine zg_aload_n (pc := 2) dX8_skew_2 rfl rfl ?_
  refine zg_getR (pc := 3) dX8_skew_3 lf_X8_12 kC_0 (by decide) rfl ?_
  refine zg_getR (pc := 6) dX8_skew_6 lf_X8_221 kC_1 (by decide) rfl ?_
  refine zg_getI (pc := 9) dX8_skew_9 lf_X8_224 kC_5 (by decide) rfl ?_
  refine zg_callSi (st := []) (pc := 12) dX8_skew_12 (As := [.int l1, .int 0, .int (h.1 5 0)]) lk_X8_121 rfl (Nat.le_of_ble_eq_true rfl) (Nat.le_of_ble_eq_true rfl) (sd_X8_inRange (d + 5) H) (fun r2 h1 H => ?_)
  refine zg_if_ne (pc := 15) dX8_skew_15 (tgt := 21) (by decide) (fun hc => ?_) (fun hc => ?_)
  · replace H := H.1 hc
    refine zg_aload_n (pc := 21) dX8_skew_21 rfl rfl ?_
    refine zg_callVv (st := []) (pc := 22) dX8_skew_22 (As := []) lk_X8_225 kC_0 (by decide) rfl (Nat.le_of_ble_eq_true rfl) (Nat.le_of_ble_eq_true rfl) (sd_X8_weighLayers d H) (fun h3 H => ?_)
    refine zg_aload_n (pc := 25) dX8_skew_25 rfl rfl ?_
    refine zg_getR (pc := 26) dX8_skew_26 lf_X8_68 kC_0 (by decide) rfl ?_
    refine zg_iload_n (pc := 29) dX8_skew_29 rfl rfl ?_
    refine zg_callVi (st := []) (pc := 30) dX8_skew_30 (As := [.int l1]) lk_X8_228 kC_37 (by decide) rfl (Nat.le_of_ble_eq_true rfl) (Nat.le_of_ble_eq_true rfl) (sd_X4_behind (d + 5) H) (fun r6 h5 H => ?_)
    exact zg_iret (pc := 33) dX8_skew_33 rfl ⟨_, rfl, H⟩
  · replace H := H.2 hc
    refine zg_ldc (pc := 18) dX8_skew_18 lc_X8_125 ?_
    exact zg_iret (pc := 20) dX8_skew_20 rfl ⟨_, rfl, H⟩
set_option maxRecDepth 100000 in
theorem sd_X4_worstBehind_l6 {d : Nat} {Q : Int32 → zz_Hp → Prop}  {l1 : Int32} {l2 : Int32} {l3 : Int32} {h : zz_Hp}  (H : lp (fun s ag => w_X4_worstBehind_l6 ag Q  s.1 s.2.1 s.2.2.1 s.2.2.2) (l1, l2, l3, h)) : zz_G zKC zNC (d + 1) mX4_worstBehind (qI Q) 6 [some (.ref 37), some (.int l1), some (.int l2), some (.int l3)] [] h := by
  refine lp_sound (G := fun (s : Int32 × Int32 × Int32 × zz_Hp) => zz_G zKC zNC (d + 1) mX4_worstBehind (qI Q) 6 [some (.ref 37), some (.int s.1), some (.int s.2.1), some (.int s.2.2.1)] [] s.2.2.2) ?_ H
  clear H
  intro s ag6 hag6 H
  obtain ⟨l1, l2, l3, h⟩ := s
  replace hag6 : ∀ (l1 : Int32) (l2 : Int32) (l3 : Int32) (h : zz_Hp), ag6 (l1, l2, l3, h) → zz_G zKC zNC (d + 1) mX4_worstBehind (qI Q) 6 [some (.ref 37), some (.int l1), some (.int l2), some (.int l3)] [] h := fun l1 l2 l3 h H => hag6 (l1, l2, l3, h) H
  replace H : w_X4_worstBehind_l6 ag6 Q  l1 l2 l3 h := H
  show zz_G zKC zNC (d + 1) mX4_worstBehind (qI Q) 6 [some (.ref 37), some (.int l1), some (.int l2), some (.int l3)] [] h
  unfold w_X4_worstBehind_l6 at H
  refine zg_iload_n (pc := 6) dX4_worstBehind_6 rfl rfl ?_
  refine zg_aload_n (pc := 7) dX4_worstBehind_7 rfl rfl ?_
  refine zg_getI (pc := 8) dX4_worstBehind_8 lf_X4_18 kC_37 (by decide) rfl ?_
  refine zg_icmp_ge (pc := 11) dX4_worstBehind_11 (tgt := 38) (by decide) (fun hc => ?_) (fun hc => ?_)
  · replace H := H.1 hc
    refine zg_iload_n (pc := 38) dX4_worstBehind_38 rfl rfl ?_
    exact zg_iret (pc := 39) dX4_worstBehind_39 rfl ⟨_, rfl, H⟩
  · replace H := H.2 hc
    refine zg_iload_n (pc := 14) dX4_worstBehind_14 rfl rfl ?_
    refine zg_aload_n (pc := 15) dX4_worstBehind_15 rfl rfl ?_
    refine zg_getR (pc := 16) dX4_worstBehind_16 lf_X4_9 kC_37 (by decide) rfl ?_
    refine zg_iload_n (pc := 19) dX4_worstBehind_19 rfl rfl ?_
    obtain ⟨hb, H⟩ := H
    refine zg_iald (pc := 20) dX4_worstBehind_20 kC_38 (by decide) hb ?_
    refine zg_iadd (pc := 21) dX4_worstBehind_21 ?_
    refine zg_istore_n (pc := 22) dX4_worstBehind_22 rfl (by decide) (L' := [some (.ref 37), some (.int (l1 + (h.1 38 (Int32.toNatClampNeg l3)))), some (.int l2), some (.int l3)]) rfl ?_
    refine zg_iload_n (pc := 23) dX4_worstBehind_23 rfl rfl ?_
    refine zg_iload_n (pc := 24) dX4_worstBehind_24 rfl rfl ?_
    refine zg_mabs (pc := 25) dX4_worstBehind_25 lk_X4_22 (Nat.le_of_ble_eq_true rfl) ?_
    refine zg_mmax (pc := 28) dX4_worstBehind_28 lk_X4_28 (Nat.le_of_ble_eq_true rfl) ?_
    refine zg_istore_n (pc := 31) dX4_worstBehind_31 rfl (by decide) (L' := [some (.ref 37), some (.int (l1 + (h.1 38 (Int32.toNatClampNeg l3)))), some (.int (if l2 < (if 0 ≤ (l1 + (h.1 38 (Int32.toNatClampNeg l3))) then (l1 + (h.1 38 (Int32.toNatClampNeg l3))) else 0 - (l1 + (h.1 38 (Int32.toNatClampNeg l3)))) then (if 0 ≤ (l1 + (h.1 38 (Int32.toNatClampNeg l3))) then (l1 + (h.1 38 (Int32.toNatClampNeg l3))) else 0 - (l1 + (h.1 38 (Int32.toNatClampNeg l3)))) else l2)), some (.int l3)]) rfl ?_
    refine zg_iinc (pc := 32) dX4_worstBehind_32 rfl (v := l3 + 1) rfl (by decide) (L' := [some (.ref 37), some (.int (l1 + (h.1 38 (Int32.toNatClampNeg l3)))), some (.int (if l2 < (if 0 ≤ (l1 + (h.1 38 (Int32.toNatClampNeg l3))) then (l1 + (h.1 38 (Int32.toNatClampNeg l3))) else 0 - (l1 + (h.1 38 (Int32.toNatClampNeg l3)))) then (if 0 ≤ (l1 + (h.1 38 (Int32.toNatClampNeg l3))) then (l1 + (h.1 38 (Int32.toNatClampNeg l3))) else 0 - (l1 + (h.1 38 (Int32.toNatClampNeg l3)))) else l2)), some (.int (l3 + 1))]) rfl ?_
    refine zg_goto (pc := 35) dX4_worstBehind_35 (tgt := 6) (by decide) ?_
    exact hag6 (l1 + (h.1 38 (Int32.toNatClampNeg l3))) (if l2 < (if 0 ≤ (l1 + (h.1 38 (Int32.toNatClampNeg l3))) then (l1 + (h.1 38 (Int32.toNatClampNeg l3))) else 0 - (l1 + (h.1 38 (Int32.toNatClampNeg l3)))) then (if 0 ≤ (l1 + (h.1 38 (Int32.toNatClampNeg l3))) then (l1 + (h.1 38 (Int32.toNatClampNeg l3))) else 0 - (l1 + (h.1 38 (Int32.toNatClampNeg l3)))) else l2) (l3 + 1) _ H
set_option maxRecDepth 100000 in
theorem sd_X4_worstBehind (d : Nat)  {h : zz_Hp} {Q : Int32 → zz_Hp → Prop} (H : w_X4_worstBehind  h Q) : zz_G zKC zNC (d + 1) mX4_worstBehind (qI Q) 0 (zz_L0 4 [.ref 37]) [] h := by
  show zz_G zKC zNC (d + 1) mX4_worstBehind (qI Q) 0 [some (.ref 37), none, none, none] [] h
  unfold w_X4_worstBehind at H
  refine zg_iconst (pc := 0) dX4_worstBehind_0 (v := 0) (by decide) ?_
  refine zg_istore_n (pc := 1) dX4_worstBehind_1 rfl (by decide) (L' := [some (.ref 37), some (.int 0), none, none]) rfl ?_
  refine zg_iconst (pc := 2) dX4_worstBehind_2 (v := 0) (by decide) ?_
  refine zg_istore_n (pc := 3) dX4_worstBehind_3 rfl (by decide) (L' := [some (.ref 37), some (.int 0), some (.int 0), none]) rfl ?_
  refine zg_iconst (pc := 4) dX4_worstBehind_4 (v := 0) (by decide) ?_
  refine zg_istore_n (pc := 5) dX4_worstBehind_5 rfl (by decide) (L' := [some (.ref 37), some (.int 0), some (.int 0), some (.int 0)]) rfl ?_
  exact sd_X4_worstBehind_l6  H
set_option maxRecDepth 100000 in
theorem sd_X8_worst (d : Nat)  {h : zz_Hp} {Q : Int32 → zz_Hp → Prop} (H : w_X8_worst  h Q) : zz_G zKC zNC (d + 6) mX8_worst (qI Q) 0 (zz_L0 1 [.ref 0]) [] h := by
  show zz_G zKC zNC (d + 6) mX8_worst (qI Q) 0 [some (.ref 0)] [] h
  unfold w_X8_worst at H
  refine zg_aload_n (pc := 0) dX8_worst_0 rfl rfl ?_
  refine zg_callVv (st := []) (pc := 1) dX8_worst_1 (As := []) lk_X8_225 kC_0 (by decide) rfl (Nat.le_of_ble_eq_true rfl) (Nat.le_of_ble_eq_true rfl) (sd_X8_weighLayers d H) (fun h1 H => ?_)
  refine zg_aload_n (pc := 4) dX8_worst_4 rfl rfl ?_
  refine zg_getR (pc := 5) dX8_worst_5 lf_X8_68 kC_0 (by decide) rfl ?_
  refine zg_callVi (st := []) (pc := 8) dX8_worst_8 (As := []) lk_X8_231 kC_37 (by decide) rfl (Nat.le_of_ble_eq_true rfl) (Nat.le_of_ble_eq_true rfl) (sd_X4_worstBehind (d + 4) H) (fun r4 h3 H => ?_)
  exact zg_iret (pc := 11) dX8_worst_11 rfl ⟨_, rfl, H⟩
set_option maxRecDepth 100000 in
theorem sd_X4_findReaches_l33 {d : Nat} {ag11 : Int32 × zz_Hp → Prop} {Q : zz_Hp → Prop} {l1 : Int32} {l2 : Int32} {l3 : Int32} {l4 : Int32} {l5 : Int32} {h : zz_Hp} (hag11 : ∀ (l2 : Int32) (h : zz_Hp), ag11 (l2, h) → zz_G zKC zNC (d + 1) mX4_findReaches (qV Q) 11 [some (.ref 37), some (.int l1), some (.int l2), none, none, none] [] h) (H : lp (fun s ag => w_X4_findReaches_l33 ag11 ag Q l1 l2 s.1 s.2.1 s.2.2.1 s.2.2.2) (l3, l4, l5, h)) : zz_G zKC zNC (d + 1) mX4_findReaches (qV Q) 33 [some (.ref 37), some (.int l1), some (.int l2), some (.int l3), some (.int l4), some (.int l5)] [] h := by
  refine lp_sound (G := fun (s : Int32 × Int32 × Int32 × zz_Hp) => zz_G zKC zNC (d + 1) mX4_findReaches (qV Q) 33 [some (.ref 37), some (.int l1), some (.int l2), some (.int s.1), some (.int s.2.1), some (.int s.2.2.1)] [] s.2.2.2) ?_ H
  clear H
  intro s ag33 hag33 H
  obtain ⟨l3, l4, l5, h⟩ := s
  replace hag33 : ∀ (l3 : Int32) (l4 : Int32) (l5 : Int32) (h : zz_Hp), ag33 (l3, l4, l5, h) → zz_G zKC zNC (d + 1) mX4_findReaches (qV Q) 33 [some (.ref 37), some (.int l1), some (.int l2), some (.int l3), some (.int l4), some (.int l5)] [] h := fun l3 l4 l5 h H => hag33 (l3, l4, l5, h) H
  replace H : w_X4_findReaches_l33 ag11 ag33 Q l1 l2 l3 l4 l5 h := H
  show zz_G zKC zNC (d + 1) mX4_findReaches (qV Q) 33 [some (.ref 37), some (.int l1), some (.int l2), some (.int l3), some (.int l4), some (.int l5)] [] h
  unfold w_X4_findReaches_l33 at H
  refine zg_iload (pc := 33) dX4_findReaches_33 rfl ?_
  refine zg_aload_n (pc := 35) dX4_findReaches_35 rfl rfl ?_
  refine zg_getI (pc := 36) dX4_findReaches_36 lf_X4_18 kC_37 (by decide) rfl ?_
  refine zg_icmp_ge (pc := 39) dX4_findReaches_39 (tgt := 89) (by decide) (fun hc => ?_) (fun hc => ?_)
  · replace H := H.1 hc
    refine zg_aload_n (pc := 89) dX4_findReaches_89 rfl rfl ?_
    refine zg_getR (pc := 90) dX4_findReaches_90 lf_X4_15 kC_37 (by decide) rfl ?_
    refine zg_iload_n (pc := 93) dX4_findReaches_93 rfl rfl ?_
    refine zg_iload (pc := 94) dX4_findReaches_94 rfl ?_
    refine zg_iload_n (pc := 96) dX4_findReaches_96 rfl rfl ?_
    refine zg_mabs (pc := 97) dX4_findReaches_97 lk_X4_22 (Nat.le_of_ble_eq_true rfl) ?_
    refine zg_mmax (pc := 100) dX4_findReaches_100 lk_X4_28 (Nat.le_of_ble_eq_true rfl) ?_
    obtain ⟨hb, H⟩ := H
    refine zg_iast (pc := 103) dX4_findReaches_103 kC_39 (by decide) hb ?_
    generalize eh1 : zz_uI h 39 (Int32.toNatClampNeg l2) (if l4 < (if 0 ≤ l3 then l3 else 0 - l3) then (if 0 ≤ l3 then l3 else 0 - l3) else l4) = h1
    replace H := H h1 eh1.symm
    refine zg_iinc (pc := 104) dX4_findReaches_104 rfl (v := l2 + (-1)) rfl (by decide) (L' := [some (.ref 37), some (.int l1), some (.int (l2 + (-1))), some (.int l3), some (.int l4), some (.int l5)]) rfl ?_
    refine zg_goto (pc := 107) dX4_findReaches_107 (tgt := 11) (by decide) ?_
    refine zg_weak (L' := [some (.ref 37), some (.int l1), some (.int (l2 + (-1))), none, none, none]) ⟨rfl, ⟨rfl, ⟨rfl, trivial⟩⟩⟩ ?_
    exact hag11 (l2 + (-1)) _ H
  · replace H := H.2 hc
    refine zg_iload_n (pc := 42) dX4_findReaches_42 rfl rfl ?_
    refine zg_iload (pc := 43) dX4_findReaches_43 rfl ?_
    refine zg_ishr (pc := 45) dX4_findReaches_45 ?_
    refine zg_iconst (pc := 46) dX4_findReaches_46 (v := 1) (by decide) ?_
    refine zg_iand (pc := 47) dX4_findReaches_47 ?_
    refine zg_iconst (pc := 48) dX4_findReaches_48 (v := 1) (by decide) ?_
    refine zg_icmp_ne (pc := 49) dX4_findReaches_49 (tgt := 65) (by decide) (fun hc => ?_) (fun hc => ?_)
    · replace H := H.1 hc
      refine zg_iload (pc := 65) dX4_findReaches_65 rfl ?_
      refine zg_aload_n (pc := 67) dX4_findReaches_67 rfl rfl ?_
      refine zg_getR (pc := 68) dX4_findReaches_68 lf_X4_15 kC_37 (by decide) rfl ?_
      refine zg_iload_n (pc := 71) dX4_findReaches_71 rfl rfl ?_
      refine zg_iconst (pc := 72) dX4_findReaches_72 (v := 1) (by decide) ?_
      refine zg_iload (pc := 73) dX4_findReaches_73 rfl ?_
      refine zg_ishl (pc := 75) dX4_findReaches_75 ?_
      refine zg_ior (pc := 76) dX4_findReaches_76 ?_
      obtain ⟨hb, H⟩ := H
      refine zg_iald (pc := 77) dX4_findReaches_77 kC_39 (by decide) hb ?_
      refine zg_mmin (pc := 78) dX4_findReaches_78 lk_X4_39 (Nat.le_of_ble_eq_true rfl) ?_
      refine zg_istore (pc := 81) dX4_findReaches_81 (by decide) (L' := [some (.ref 37), some (.int l1), some (.int l2), some (.int l3), some (.int (if (h.1 39 (Int32.toNatClampNeg (l2 ||| (1 <<< (l5 &&& 31))))) < l4 then (h.1 39 (Int32.toNatClampNeg (l2 ||| (1 <<< (l5 &&& 31))))) else l4)), some (.int l5)]) rfl ?_
      refine zg_iinc (pc := 83) dX4_findReaches_83 rfl (v := l5 + 1) rfl (by decide) (L' := [some (.ref 37), some (.int l1), some (.int l2), some (.int l3), some (.int (if (h.1 39 (Int32.toNatClampNeg (l2 ||| (1 <<< (l5 &&& 31))))) < l4 then (h.1 39 (Int32.toNatClampNeg (l2 ||| (1 <<< (l5 &&& 31))))) else l4)), some (.int (l5 + 1))]) rfl ?_
      refine zg_goto (pc := 86) dX4_findReaches_86 (tgt := 33) (by decide) ?_
      exact hag33 l3 (if (h.1 39 (Int32.toNatClampNeg (l2 ||| (1 <<< (l5 &&& 31))))) < l4 then (h.1 39 (Int32.toNatClampNeg (l2 ||| (1 <<< (l5 &&& 31))))) else l4) (l5 + 1) _ H
    · replace H := H.2 hc
      refine zg_iload_n (pc := 52) dX4_findReaches_52 rfl rfl ?_
      refine zg_aload_n (pc := 53) dX4_findReaches_53 rfl rfl ?_
      refine zg_getR (pc := 54) dX4_findReaches_54 lf_X4_9 kC_37 (by decide) rfl ?_
      refine zg_iload (pc := 57) dX4_findReaches_57 rfl ?_
      obtain ⟨hb, H⟩ := H
      refine zg_iald (pc := 59) dX4_findReaches_59 kC_38 (by decide) hb ?_
      refine zg_iadd (pc := 60) dX4_findReaches_60 ?_
      refine zg_istore_n (pc := 61) dX4_findReaches_61 rfl (by decide) (L' := [some (.ref 37), some (.int l1), some (.int l2), some (.int (l3 + (h.1 38 (Int32.toNatClampNeg l5)))), some (.int l4), some (.int l5)]) rfl ?_
      refine zg_goto (pc := 62) dX4_findReaches_62 (tgt := 83) (by decide) ?_
      refine zg_iinc (pc := 83) dX4_findReaches_83 rfl (v := l5 + 1) rfl (by decide) (L' := [some (.ref 37), some (.int l1), some (.int l2), some (.int (l3 + (h.1 38 (Int32.toNatClampNeg l5)))), some (.int l4), some (.int (l5 + 1))]) rfl ?_
      refine zg_goto (pc := 86) dX4_findReaches_86 (tgt := 33) (by decide) ?_
      exact hag33 (l3 + (h.1 38 (Int32.toNatClampNeg l5))) l4 (l5 + 1) _ H
set_option maxRecDepth 100000 in
theorem sd_X4_findReaches_l11 {d : Nat} {Q : zz_Hp → Prop} {l1 : Int32} {l2 : Int32} {h : zz_Hp}  (H : lp (fun s ag => w_X4_findReaches_l11 ag Q l1 s.1 s.2) (l2, h)) : zz_G zKC zNC (d + 1) mX4_findReaches (qV Q) 11 [some (.ref 37), some (.int l1), some (.int l2), none, none, none] [] h := by
  refine lp_sound (G := fun (s : Int32 × zz_Hp) => zz_G zKC zNC (d + 1) mX4_findReaches (qV Q) 11 [some (.ref 37), some (.int l1), some (.int s.1), none, none, none] [] s.2) ?_ H
  clear H
  intro s ag11 hag11 H
  obtain ⟨l2, h⟩ := s
  replace hag11 : ∀ (l2 : Int32) (h : zz_Hp), ag11 (l2, h) → zz_G zKC zNC (d + 1) mX4_findReaches (qV Q) 11 [some (.ref 37), some (.int l1), some (.int l2), none, none, none] [] h := fun l2 h H => hag11 (l2, h) H
  replace H : w_X4_findReaches_l11 ag11 Q l1 l2 h := H
  show zz_G zKC zNC (d + 1) mX4_findReaches (qV Q) 11 [some (.ref 37), some (.int l1), some (.int l2), none, none, none] [] h
  unfold w_X4_findReaches_l11 at H
  refine zg_iload_n (pc := 11) dX4_findReaches_11 rfl rfl ?_
  refine zg_if_lt (pc := 12) dX4_findReaches_12 (tgt := 110) (by decide) (fun hc => ?_) (fun hc => ?_)
  · replace H := H.1 hc
    exact zg_vret (pc := 110) dX4_findReaches_110 rfl ⟨rfl, H⟩
  · replace H := H.2 hc
    refine zg_iconst (pc := 15) dX4_findReaches_15 (v := 0) (by decide) ?_
    refine zg_istore_n (pc := 16) dX4_findReaches_16 rfl (by decide) (L' := [some (.ref 37), some (.int l1), some (.int l2), some (.int 0), none, none]) rfl ?_
    refine zg_iload_n (pc := 17) dX4_findReaches_17 rfl rfl ?_
    refine zg_iload_n (pc := 18) dX4_findReaches_18 rfl rfl ?_
    refine zg_icmp_ne (pc := 19) dX4_findReaches_19 (tgt := 26) (by decide) (fun hc => ?_) (fun hc => ?_)
    · replace H := H.1 hc
      refine zg_ldc (pc := 26) dX4_findReaches_26 lc_X4_38 ?_
      refine zg_istore (pc := 28) dX4_findReaches_28 (by decide) (L' := [some (.ref 37), some (.int l1), some (.int l2), some (.int 0), some (.int 2147483647), none]) rfl ?_
      refine zg_iconst (pc := 30) dX4_findReaches_30 (v := 0) (by decide) ?_
      refine zg_istore (pc := 31) dX4_findReaches_31 (by decide) (L' := [some (.ref 37), some (.int l1), some (.int l2), some (.int 0), some (.int 2147483647), some (.int 0)]) rfl ?_
      exact sd_X4_findReaches_l33 hag11 H
    · replace H := H.2 hc
      refine zg_iconst (pc := 22) dX4_findReaches_22 (v := 0) (by decide) ?_
      refine zg_goto (pc := 23) dX4_findReaches_23 (tgt := 28) (by decide) ?_
      refine zg_istore (pc := 28) dX4_findReaches_28 (by decide) (L' := [some (.ref 37), some (.int l1), some (.int l2), some (.int 0), some (.int 0), none]) rfl ?_
      refine zg_iconst (pc := 30) dX4_findReaches_30 (v := 0) (by decide) ?_
      refine zg_istore (pc := 31) dX4_findReaches_31 (by decide) (L' := [some (.ref 37), some (.int l1), some (.int l2), some (.int 0), some (.int 0), some (.int 0)]) rfl ?_
      exact sd_X4_findReaches_l33 hag11 H
set_option maxRecDepth 100000 in
theorem sd_X4_findReaches (d : Nat)  {h : zz_Hp} {Q : zz_Hp → Prop} (H : w_X4_findReaches  h Q) : zz_G zKC zNC (d + 1) mX4_findReaches (qV Q) 0 (zz_L0 6 [.ref 37]) [] h := by
  show zz_G zKC zNC (d + 1) mX4_findReaches (qV Q) 0 [some (.ref 37), none, none, none, none, none] [] h
  unfold w_X4_findReaches at H
  refine zg_iconst (pc := 0) dX4_findReaches_0 (v := 1) (by decide) ?_
  refine zg_aload_n (pc := 1) dX4_findReaches_1 rfl rfl ?_
  refine zg_getI (pc := 2) dX4_findReaches_2 lf_X4_18 kC_37 (by decide) rfl ?_
  refine zg_ishl (pc := 5) dX4_findReaches_5 ?_
  refine zg_iconst (pc := 6) dX4_findReaches_6 (v := 1) (by decide) ?_
  refine zg_isub (pc := 7) dX4_findReaches_7 ?_
  refine zg_istore_n (pc := 8) dX4_findReaches_8 rfl (by decide) (L' := [some (.ref 37), some (.int ((1 <<< ((h.1 37 0) &&& 31)) - 1)), none, none, none, none]) rfl ?_
  refine zg_iload_n (pc := 9) dX4_findReaches_9 rfl rfl ?_
  refine zg_istore_n (pc := 10) dX4_findReaches_10 rfl (by decide) (L' := [some (.ref 37), some (.int ((1 <<< ((h.1 37 0) &&& 31)) - 1)), some (.int ((1 <<< ((h.1 37 0) &&& 31)) - 1)), none, none, none]) rfl ?_
  exact sd_X4_findReaches_l11  H
set_option maxRecDepth 100000 in
theorem sd_X4_isBest (d : Nat) {l1 : Int32} {l2 : Int32} {h : zz_Hp} {Q : Int32 → zz_Hp → Prop} (H : w_X4_isBest l1 l2 h Q) : zz_G zKC zNC (d + 0) mX4_isBest (qI Q) 0 (zz_L0 3 [.ref 37, .int l1, .int l2]) [] h := by
  show zz_G zKC zNC (d + 0) mX4_isBest (qI Q) 0 [some (.ref 37), some (.int l1), some (.int l2)] [] h
  unfold w_X4_isBest at H
  refine zg_iload_n (pc := 0) dX4_isBest_0 rfl rfl ?_
  refine zg_iload_n (pc := 1) dX4_isBest_1 rfl rfl ?_
  refine zg_ishr (pc := 2) dX4_isBest_2 ?_
  refine zg_iconst (pc := 3) dX4_isBest_3 (v := 1) (by decide) ?_
  refine zg_iand (pc := 4) dX4_isBest_4 ?_
  refine zg_if_ne (pc := 5) dX4_isBest_5 (tgt := 31) (by decide) (fun hc => ?_) (fun hc => ?_)
  · replace H := H.1 hc
    refine zg_iconst (pc := 31) dX4_isBest_31 (v := 0) (by decide) ?_
    exact zg_zret (pc := 32) dX4_isBest_32 (Or.inl rfl) rfl ⟨_, rfl, H⟩
  · replace H := H.2 hc
    refine zg_aload_n (pc := 8) dX4_isBest_8 rfl rfl ?_
    refine zg_getR (pc := 9) dX4_isBest_9 lf_X4_15 kC_37 (by decide) rfl ?_
    refine zg_iload_n (pc := 12) dX4_isBest_12 rfl rfl ?_
    refine zg_iconst (pc := 13) dX4_isBest_13 (v := 1) (by decide) ?_
    refine zg_iload_n (pc := 14) dX4_isBest_14 rfl rfl ?_
    refine zg_ishl (pc := 15) dX4_isBest_15 ?_
    refine zg_ior (pc := 16) dX4_isBest_16 ?_
    obtain ⟨hb, H⟩ := H
    refine zg_iald (pc := 17) dX4_isBest_17 kC_39 (by decide) hb ?_
    refine zg_aload_n (pc := 18) dX4_isBest_18 rfl rfl ?_
    refine zg_getR (pc := 19) dX4_isBest_19 lf_X4_15 kC_37 (by decide) rfl ?_
    refine zg_iconst (pc := 22) dX4_isBest_22 (v := 0) (by decide) ?_
    obtain ⟨hb, H⟩ := H
    refine zg_iald (pc := 23) dX4_isBest_23 kC_39 (by decide) hb ?_
    refine zg_icmp_gt (pc := 24) dX4_isBest_24 (tgt := 31) (by decide) (fun hc => ?_) (fun hc => ?_)
    · replace H := H.1 hc
      refine zg_iconst (pc := 31) dX4_isBest_31 (v := 0) (by decide) ?_
      exact zg_zret (pc := 32) dX4_isBest_32 (Or.inl rfl) rfl ⟨_, rfl, H⟩
    · replace H := H.2 hc
      refine zg_iconst (pc := 27) dX4_isBest_27 (v := 1) (by decide) ?_
      refine zg_goto (pc := 28) dX4_isBest_28 (tgt := 32) (by decide) ?_
      exact zg_zret (pc := 32) dX4_isBest_32 (Or.inr rfl) rfl ⟨_, rfl, H⟩
