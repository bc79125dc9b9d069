set_option maxRecDepth 100000 in
theorem sd_X9_torqueOf (d : Nat) {l1 : Int32} {h : zz_Hp} {Q : Int32 → zz_Hp → Prop} (H : w_X9_torqueOf l1 h Q) : zz_G zKR zNR (d + 7) mX9_torqueOf (qI Q) 0 (zz_L0 2 [.ref 0, .int l1]) [] h := by
  show zz_G zKR zNR (d + 7) mX9_torqueOf (qI Q) 0 [some (.ref 0), some (.int l1)] [] h
  unfold w_X9_torqueOf at H
  refine zg_aload_n (pc := 0) dX9_torqueOf_0 rfl rfl ?_
  refine zg_iload_n (pc := 1) dX9_torqueOf_1 rfl rfl ?_
  refine zg_iconst (pc := 2) dX9_torqueOf_2 (v := 0) (by decide) ?_
  refine zg_callVi (st := []) (pc := 3) dX9_torqueOf_3 (As := [.int l1, .int 0]) lk_X9_162 kR_0 (by decide) rfl (Nat.le_of_ble_eq_true rfl) (Nat.le_of_ble_eq_true rfl) (sd_X9_torqueIn 5 d H) (fun r2 h1 H => ?_)
  exact zg_iret (pc := 6) dX9_torqueOf_6 rfl ⟨_, rfl, H⟩
set_option maxRecDepth 100000 in
theorem sd_X9_torque_l13 {d : Nat} {Q : Int32 → zz_Hp → Prop} {l1 : Int32} {l2 : Int32} {h : zz_Hp}  (H : lp (fun s ag => w_X9_torque_l13 ag Q l1 s.1 s.2) (l2, h)) : zz_G zKR zNR (d + 8) mX9_torque (qI Q) 13 [some (.ref 0), some (.int l1), some (.int l2)] [] h := by
  refine lp_sound (G := fun (s : Int32 × zz_Hp) => zz_G zKR zNR (d + 8) mX9_torque (qI Q) 13 [some (.ref 0), some (.int l1), some (.int s.1)] [] s.2) ?_ H
  clear H
  intro s ag13 hag13 H
  obtain ⟨l2, h⟩ := s
  replace hag13 : ∀ (l2 : Int32) (h : zz_Hp), ag13 (l2, h) → zz_G zKR zNR (d + 8) mX9_torque (qI Q) 13 [some (.ref 0), some (.int l1), some (.int l2)] [] h := fun l2 h H => hag13 (l2, h) H
  replace H : w_X9_torque_l13 ag13 Q l1 l2 h := H
  show zz_G zKR zNR (d + 8) mX9_torque (qI Q) 13 [some (.ref 0), some (.int l1), some (.int l2)] [] h
  unfold w_X9_torque_l13 at H
  refine zg_iload_n (pc := 13) dX9_torque_13 rfl rfl ?_
  refine zg_iconst (pc := 14) dX9_torque_14 (v := 4) (by decide) ?_
  refine zg_icmp_ge (pc := 15) dX9_torque_15 (tgt := 31) (by decide) (fun hc => ?_) (fun hc => ?_)
  · replace H := H.1 hc
    refine zg_aload_n (pc := 31) dX9_torque_31 rfl rfl ?_
    refine zg_iload_n (pc := 32) dX9_torque_32 rfl rfl ?_
    refine zg_callVv (st := []) (pc := 33) dX9_torque_33 (As := [.int l1]) lk_X9_166 kR_0 (by decide) rfl (Nat.le_of_ble_eq_true rfl) (Nat.le_of_ble_eq_true rfl) (sd_X9_tallyIn 5 (d + 2) H) (fun h3 H => ?_)
    refine zg_aload_n (pc := 36) dX9_torque_36 rfl rfl ?_
    refine zg_iload_n (pc := 37) dX9_torque_37 rfl rfl ?_
    refine zg_callVi (st := []) (pc := 38) dX9_torque_38 (As := [.int l1]) lk_X9_217 kR_0 (by decide) rfl (Nat.le_of_ble_eq_true rfl) (Nat.le_of_ble_eq_true rfl) (sd_X9_torqueOf d H) (fun r6 h5 H => ?_)
    exact zg_iret (pc := 41) dX9_torque_41 rfl ⟨_, rfl, H⟩
  · replace H := H.2 hc
    refine zg_aload_n (pc := 18) dX9_torque_18 rfl rfl ?_
    refine zg_getR (pc := 19) dX9_torque_19 lf_X9_66 kR_0 (by decide) rfl ?_
    refine zg_iload_n (pc := 22) dX9_torque_22 rfl rfl ?_
    refine zg_iconst (pc := 23) dX9_torque_23 (v := 0) (by decide) ?_
    obtain ⟨hb, H⟩ := H
    refine zg_iast (pc := 24) dX9_torque_24 kR_19 (by decide) hb ?_
    generalize eh7 : zz_uI h 19 (Int32.toNatClampNeg l2) 0 = h7
    replace H := H h7 eh7.symm
    refine zg_iinc (pc := 25) dX9_torque_25 rfl (v := l2 + 1) rfl (by decide) (L' := [some (.ref 0), some (.int l1), some (.int (l2 + 1))]) rfl ?_
    refine zg_goto (pc := 28) dX9_torque_28 (tgt := 13) (by decide) ?_
    exact hag13 (l2 + 1) _ H
set_option maxRecDepth 100000 in
theorem sd_X9_torque (d : Nat) {l1 : Int32} {h : zz_Hp} {Q : Int32 → zz_Hp → Prop} (H : w_X9_torque l1 h Q) : zz_G zKR zNR (d + 8) mX9_torque (qI Q) 0 (zz_L0 3 [.ref 0, .int l1]) [] h := by
  show zz_G zKR zNR (d + 8) mX9_torque (qI Q) 0 [some (.ref 0), some (.int l1), none] [] h
  unfold w_X9_torque at H
  refine zg_aload_n (pc := 0) dX9_torque_0 rfl rfl ?_
  refine zg_iload_n (pc := 1) dX9_torque_1 rfl rfl ?_
  refine zg_callVi (st := []) (pc := 2) dX9_torque_2 (As := [.int l1]) lk_X9_147 kR_0 (by decide) rfl (Nat.le_of_ble_eq_true rfl) (Nat.le_of_ble_eq_true rfl) (sd_X9_isYarn (d + 6) H) (fun r2 h1 H => ?_)
  refine zg_if_ne (pc := 5) dX9_torque_5 (tgt := 11) (by decide) (fun hc => ?_) (fun hc => ?_)
  · replace H := H.1 hc
    refine zg_iconst (pc := 11) dX9_torque_11 (v := 0) (by decide) ?_
    refine zg_istore_n (pc := 12) dX9_torque_12 rfl (by decide) (L' := [some (.ref 0), some (.int l1), some (.int 0)]) rfl ?_
    exact sd_X9_torque_l13  H
  · replace H := H.2 hc
    refine zg_ldc (pc := 8) dX9_torque_8 lc_X9_209 ?_
    exact zg_iret (pc := 10) dX9_torque_10 rfl ⟨_, rfl, H⟩
set_option maxRecDepth 100000 in
theorem sd_X9_tally (d : Nat) {l1 : Int32} {h : zz_Hp} {Q : Int32 → zz_Hp → Prop} (H : w_X9_tally l1 h Q) : zz_G zKR zNR (d + 1) mX9_tally (qI Q) 0 (zz_L0 2 [.ref 0, .int l1]) [] h := by
  show zz_G zKR zNR (d + 1) mX9_tally (qI Q) 0 [some (.ref 0), some (.int l1)] [] h
  unfold w_X9_tally at H
  refine zg_iload_n (pc := 0) dX9_tally_0 rfl rfl ?_
  refine zg_iconst (pc := 1) dX9_tally_1 (v := 0) (by decide) ?_
  refine zg_iconst (pc := 2) dX9_tally_2 (v := 3) (by decide) ?_
  refine zg_callSi (st := []) (pc := 3) dX9_tally_3 (As := [.int l1, .int 0, .int 3]) lk_X9_143 rfl (Nat.le_of_ble_eq_true rfl) (Nat.le_of_ble_eq_true rfl) (sd_X9_in d H) (fun r2 h1 H => ?_)
  refine zg_if_eq (pc := 6) dX9_tally_6 (tgt := 18) (by decide) (fun hc => ?_) (fun hc => ?_)
  · replace H := H.1 hc
    refine zg_iconst (pc := 18) dX9_tally_18 (v := (-1)) (by decide) ?_
    exact zg_iret (pc := 19) dX9_tally_19 rfl ⟨_, rfl, H⟩
  · replace H := H.2 hc
    refine zg_aload_n (pc := 9) dX9_tally_9 rfl rfl ?_
    refine zg_getR (pc := 10) dX9_tally_10 lf_X9_66 kR_0 (by decide) rfl ?_
    refine zg_iload_n (pc := 13) dX9_tally_13 rfl rfl ?_
    obtain ⟨hb, H⟩ := H
    refine zg_iald (pc := 14) dX9_tally_14 kR_19 (by decide) hb ?_
    refine zg_goto (pc := 15) dX9_tally_15 (tgt := 19) (by decide) ?_
    exact zg_iret (pc := 19) dX9_tally_19 rfl ⟨_, rfl, H⟩
set_option maxRecDepth 100000 in
theorem sd_X9_common_l6 {d : Nat} {Q : Int64 → zz_Hp → Prop}  {l4 : Int64} {l6 : Int64} {h : zz_Hp}  (H : lp (fun s ag => w_X9_common_l6 ag Q  s.1 s.2.1 s.2.2) (l4, l6, h)) : zz_G zKR zNR (d + 0) mX9_common (qL Q) 6 [none, none, none, none, some (.long l4), none, some (.long l6), none, none, none] [] h := by
  refine lp_sound (G := fun (s : Int64 × Int64 × zz_Hp) => zz_G zKR zNR (d + 0) mX9_common (qL Q) 6 [none, none, none, none, some (.long s.1), none, some (.long s.2.1), none, none, none] [] s.2.2) ?_ H
  clear H
  intro s ag6 hag6 H
  obtain ⟨l4, l6, h⟩ := s
  replace hag6 : ∀ (l4 : Int64) (l6 : Int64) (h : zz_Hp), ag6 (l4, l6, h) → zz_G zKR zNR (d + 0) mX9_common (qL Q) 6 [none, none, none, none, some (.long l4), none, some (.long l6), none, none, none] [] h := fun l4 l6 h H => hag6 (l4, l6, h) H
  replace H : w_X9_common_l6 ag6 Q  l4 l6 h := H
  show zz_G zKR zNR (d + 0) mX9_common (qL Q) 6 [none, none, none, none, some (.long l4), none, some (.long l6), none, none, none] [] h
  unfold w_X9_common_l6 at H
  refine zg_lload (pc := 6) dX9_common_6 rfl ?_
  refine zg_lconst (pc := 8) dX9_common_8 (v := 0) (by decide) ?_
  refine zg_lcmp (pc := 9) dX9_common_9 ?_
  refine zg_if_eq (pc := 10) dX9_common_10 (tgt := 31) (by decide) (fun hc => ?_) (fun hc => ?_)
  · replace H := H.1 hc
    refine zg_lload (pc := 31) dX9_common_31 rfl ?_
    exact zg_lret (pc := 33) dX9_common_33 rfl ⟨_, rfl, H⟩
  · replace H := H.2 hc
    refine zg_lload (pc := 13) dX9_common_13 rfl ?_
    refine zg_lload (pc := 15) dX9_common_15 rfl ?_
    obtain ⟨hb, H⟩ := H
    refine zg_lrem (pc := 17) dX9_common_17 hb ?_
    refine zg_lstore (pc := 18) dX9_common_18 (by decide) (L' := [none, none, none, none, some (.long l4), none, some (.long l6), none, some (.long (l4 - l4 / l6 * l6)), none]) rfl ?_
    refine zg_lload (pc := 20) dX9_common_20 rfl ?_
    refine zg_lstore (pc := 22) dX9_common_22 (by decide) (L' := [none, none, none, none, some (.long l6), none, some (.long l6), none, some (.long (l4 - l4 / l6 * l6)), none]) rfl ?_
    refine zg_lload (pc := 24) dX9_common_24 rfl ?_
    refine zg_lstore (pc := 26) dX9_common_26 (by decide) (L' := [none, none, none, none, some (.long l6), none, some (.long (l4 - l4 / l6 * l6)), none, some (.long (l4 - l4 / l6 * l6)), none]) rfl ?_
    refine zg_goto (pc := 28) dX9_common_28 (tgt := 6) (by decide) ?_
    refine zg_weak (L' := [none, none, none, none, some (.long l6), none, some (.long (l4 - l4 / l6 * l6)), none, none, none]) ⟨rfl, ⟨rfl, trivial⟩⟩ ?_
    exact hag6 l6 (l4 - l4 / l6 * l6) _ H
set_option maxRecDepth 100000 in
theorem sd_X9_common (d : Nat) {l0 : Int64} {l2 : Int64} {h : zz_Hp} {Q : Int64 → zz_Hp → Prop} (H : w_X9_common l0 l2 h Q) : zz_G zKR zNR (d + 0) mX9_common (qL Q) 0 (zz_L0 10 [.long l0, .long l2]) [] h := by
  show zz_G zKR zNR (d + 0) mX9_common (qL Q) 0 [some (.long l0), none, some (.long l2), none, none, none, none, none, none, none] [] h
  unfold w_X9_common at H
  refine zg_lload_n (pc := 0) dX9_common_0 rfl rfl ?_
  refine zg_lstore (pc := 1) dX9_common_1 (by decide) (L' := [some (.long l0), none, some (.long l2), none, some (.long l0), none, none, none, none, none]) rfl ?_
  refine zg_lload_n (pc := 3) dX9_common_3 rfl rfl ?_
  refine zg_lstore (pc := 4) dX9_common_4 (by decide) (L' := [some (.long l0), none, some (.long l2), none, some (.long l0), none, some (.long l2), none, none, none]) rfl ?_
  refine zg_weak (L' := [none, none, none, none, some (.long l0), none, some (.long l2), none, none, none]) ⟨rfl, ⟨rfl, trivial⟩⟩ ?_
  exact sd_X9_common_l6  H
set_option maxRecDepth 100000 in
theorem sd_X9_kept (d : Nat) {l1 : Int32} {l2 : Int32} {l3 : Int32} {h : zz_Hp} {Q : Int64 → zz_Hp → Prop} (H : w_X9_kept l1 l2 l3 h Q) : zz_G zKR zNR (d + 9) mX9_kept (qL Q) 0 (zz_L0 6 [.ref 0, .int l1, .int l2, .int l3]) [] h := by
  show zz_G zKR zNR (d + 9) mX9_kept (qL Q) 0 [some (.ref 0), some (.int l1), some (.int l2), some (.int l3), none, none] [] h
  unfold w_X9_kept at H
  refine zg_aload_n (pc := 0) dX9_kept_0 rfl rfl ?_
  refine zg_iload_n (pc := 1) dX9_kept_1 rfl rfl ?_
  refine zg_callVi (st := []) (pc := 2) dX9_kept_2 (As := [.int l1]) lk_X9_147 kR_0 (by decide) rfl (Nat.le_of_ble_eq_true rfl) (Nat.le_of_ble_eq_true rfl) (sd_X9_isYarn (d + 7) H) (fun r2 h1 H => ?_)
  refine zg_if_eq (pc := 5) dX9_kept_5 (tgt := 17) (by decide) (fun hc => ?_) (fun hc => ?_)
  · replace H := H.1 hc
    refine zg_ldc2 (pc := 17) dX9_kept_17 lc_X9_220 ?_
    exact zg_lret (pc := 20) dX9_kept_20 rfl ⟨_, rfl, H⟩
  · replace H := H.2 hc
    refine zg_iload_n (pc := 8) dX9_kept_8 rfl rfl ?_
    refine zg_iconst (pc := 9) dX9_kept_9 (v := 0) (by decide) ?_
    refine zg_iconst (pc := 10) dX9_kept_10 (v := 1) (by decide) ?_
    refine zg_callSi (st := []) (pc := 11) dX9_kept_11 (As := [.int l3, .int 0, .int 1]) lk_X9_143 rfl (Nat.le_of_ble_eq_true rfl) (Nat.le_of_ble_eq_true rfl) (sd_X9_in (d + 8) H) (fun r4 h3 H => ?_)
    refine zg_if_ne (pc := 14) dX9_kept_14 (tgt := 21) (by decide) (fun hc => ?_) (fun hc => ?_)
    · replace H := H.1 hc
      refine zg_aload_n (pc := 21) dX9_kept_21 rfl rfl ?_
      refine zg_iload_n (pc := 22) dX9_kept_22 rfl rfl ?_
      refine zg_iconst (pc := 23) dX9_kept_23 (v := 0) (by decide) ?_
      refine zg_callVv (st := []) (pc := 24) dX9_kept_24 (As := [.int l1, .int 0]) lk_X9_185 kR_0 (by decide) rfl (Nat.le_of_ble_eq_true rfl) (Nat.le_of_ble_eq_true rfl) (sd_X9_walkOver d H) (fun h5 H => ?_)
      refine zg_iload_n (pc := 27) dX9_kept_27 rfl rfl ?_
      refine zg_iconst (pc := 28) dX9_kept_28 (v := 0) (by decide) ?_
      refine zg_aload_n (pc := 29) dX9_kept_29 rfl rfl ?_
      refine zg_getI (pc := 30) dX9_kept_30 lf_X9_173 kR_0 (by decide) rfl ?_
      refine zg_iconst (pc := 33) dX9_kept_33 (v := 1) (by decide) ?_
      refine zg_isub (pc := 34) dX9_kept_34 ?_
      refine zg_callSi (st := []) (pc := 35) dX9_kept_35 (As := [.int l2, .int 0, .int ((h5.1 0 40) - 1)]) lk_X9_143 rfl (Nat.le_of_ble_eq_true rfl) (Nat.le_of_ble_eq_true rfl) (sd_X9_in (d + 8) H) (fun r8 h7 H => ?_)
      refine zg_if_ne (pc := 38) dX9_kept_38 (tgt := 45) (by decide) (fun hc => ?_) (fun hc => ?_)
      · replace H := H.1 hc
        refine zg_aload_n (pc := 45) dX9_kept_45 rfl rfl ?_
        refine zg_getR (pc := 46) dX9_kept_46 lf_X9_111 kR_0 (by decide) rfl ?_
        refine zg_iload_n (pc := 49) dX9_kept_49 rfl rfl ?_
        obtain ⟨hb, H⟩ := H
        refine zg_lald (pc := 50) dX9_kept_50 kR_34 (by decide) hb ?_
        refine zg_aload_n (pc := 51) dX9_kept_51 rfl rfl ?_
        refine zg_getR (pc := 52) dX9_kept_52 lf_X9_115 kR_0 (by decide) rfl ?_
        refine zg_iload_n (pc := 55) dX9_kept_55 rfl rfl ?_
        obtain ⟨hb, H⟩ := H
        refine zg_lald (pc := 56) dX9_kept_56 kR_35 (by decide) hb ?_
        refine zg_callSl (st := []) (pc := 57) dX9_kept_57 (As := [.long (h7.2 34 (Int32.toNatClampNeg l2)), .long (h7.2 35 (Int32.toNatClampNeg l2))]) lk_X9_222 rfl (Nat.le_of_ble_eq_true rfl) (Nat.le_of_ble_eq_true rfl) (sd_X9_common (d + 8) H) (fun r10 h9 H => ?_)
        refine zg_lstore (pc := 60) dX9_kept_60 (by decide) (L' := [some (.ref 0), some (.int l1), some (.int l2), some (.int l3), some (.long r10), none]) rfl ?_
        refine zg_iload_n (pc := 62) dX9_kept_62 rfl rfl ?_
        refine zg_if_ne (pc := 63) dX9_kept_63 (tgt := 78) (by decide) (fun hc => ?_) (fun hc => ?_)
        · replace H := H.1 hc
          refine zg_aload_n (pc := 78) dX9_kept_78 rfl rfl ?_
          refine zg_getR (pc := 79) dX9_kept_79 lf_X9_115 kR_0 (by decide) rfl ?_
          refine zg_iload_n (pc := 82) dX9_kept_82 rfl rfl ?_
          obtain ⟨hb, H⟩ := H
          refine zg_lald (pc := 83) dX9_kept_83 kR_35 (by decide) hb ?_
          refine zg_lload (pc := 84) dX9_kept_84 rfl ?_
          obtain ⟨hb, H⟩ := H
          refine zg_ldiv (pc := 86) dX9_kept_86 hb ?_
          exact zg_lret (pc := 87) dX9_kept_87 rfl ⟨_, rfl, H⟩
        · replace H := H.2 hc
          refine zg_aload_n (pc := 66) dX9_kept_66 rfl rfl ?_
          refine zg_getR (pc := 67) dX9_kept_67 lf_X9_111 kR_0 (by decide) rfl ?_
          refine zg_iload_n (pc := 70) dX9_kept_70 rfl rfl ?_
          obtain ⟨hb, H⟩ := H
          refine zg_lald (pc := 71) dX9_kept_71 kR_34 (by decide) hb ?_
          refine zg_lload (pc := 72) dX9_kept_72 rfl ?_
          obtain ⟨hb, H⟩ := H
          refine zg_ldiv (pc := 74) dX9_kept_74 hb ?_
          refine zg_goto (pc := 75) dX9_kept_75 (tgt := 87) (by decide) ?_
          exact zg_lret (pc := 87) dX9_kept_87 rfl ⟨_, rfl, H⟩
      · replace H := H.2 hc
        refine zg_ldc2 (pc := 41) dX9_kept_41 lc_X9_220 ?_
        exact zg_lret (pc := 44) dX9_kept_44 rfl ⟨_, rfl, H⟩
    · replace H := H.2 hc
      refine zg_ldc2 (pc := 17) dX9_kept_17 lc_X9_220 ?_
      exact zg_lret (pc := 20) dX9_kept_20 rfl ⟨_, rfl, H⟩
set_option maxRecDepth 100000 in
theorem sd_X9_needs (d : Nat) {l1 : Int32} {l2 : Int32} {l3 : Int32} {h : zz_Hp} {Q : Int32 → zz_Hp → Prop} (H : w_X9_needs l1 l2 l3 h Q) : zz_G zKR zNR (d + 9) mX9_needs (qI Q) 0 (zz_L0 4 [.ref 0, .int l1, .int l2, .int l3]) [] h := by
  show zz_G zKR zNR (d + 9) mX9_needs (qI Q) 0 [some (.ref 0), some (.int l1), some (.int l2), some (.int l3)] [] h
  unfold w_X9_needs at H
  refine zg_aload_n (pc := 0) dX9_needs_0 rfl rfl ?_
  refine zg_iload_n (pc := 1) dX9_needs_1 rfl rfl ?_
  refine zg_callVi (st := []) (pc := 2) dX9_needs_2 (As := [.int l1]) lk_X9_147 kR_0 (by decide) rfl (Nat.le_of_ble_eq_true rfl) (Nat.le_of_ble_eq_true rfl) (sd_X9_isYarn (d + 7) H) (fun r2 h1 H => ?_)
  refine zg_if_eq (pc := 5) dX9_needs_5 (tgt := 19) (by decide) (fun hc => ?_) (fun hc => ?_)
  · replace H := H.1 hc
    refine zg_iconst (pc := 19) dX9_needs_19 (v := (-1)) (by decide) ?_
    exact zg_iret (pc := 20) dX9_needs_20 rfl ⟨_, rfl, H⟩
  · replace H := H.2 hc
    refine zg_iload_n (pc := 8) dX9_needs_8 rfl rfl ?_
    refine zg_iconst (pc := 9) dX9_needs_9 (v := 0) (by decide) ?_
    refine zg_sipush (pc := 10) dX9_needs_10 (v := 9999) (by decide) ?_
    refine zg_callSi (st := []) (pc := 13) dX9_needs_13 (As := [.int l3, .int 0, .int 9999]) lk_X9_143 rfl (Nat.le_of_ble_eq_true rfl) (Nat.le_of_ble_eq_true rfl) (sd_X9_in (d + 8) H) (fun r4 h3 H => ?_)
    refine zg_if_ne (pc := 16) dX9_needs_16 (tgt := 21) (by decide) (fun hc => ?_) (fun hc => ?_)
    · replace H := H.1 hc
      refine zg_aload_n (pc := 21) dX9_needs_21 rfl rfl ?_
      refine zg_iload_n (pc := 22) dX9_needs_22 rfl rfl ?_
      refine zg_iload_n (pc := 23) dX9_needs_23 rfl rfl ?_
      refine zg_callVv (st := []) (pc := 24) dX9_needs_24 (As := [.int l1, .int l3]) lk_X9_185 kR_0 (by decide) rfl (Nat.le_of_ble_eq_true rfl) (Nat.le_of_ble_eq_true rfl) (sd_X9_walkOver d H) (fun h5 H => ?_)
      refine zg_iload_n (pc := 27) dX9_needs_27 rfl rfl ?_
      refine zg_iconst (pc := 28) dX9_needs_28 (v := 0) (by decide) ?_
      refine zg_aload_n (pc := 29) dX9_needs_29 rfl rfl ?_
      refine zg_getI (pc := 30) dX9_needs_30 lf_X9_173 kR_0 (by decide) rfl ?_
      refine zg_iconst (pc := 33) dX9_needs_33 (v := 1) (by decide) ?_
      refine zg_isub (pc := 34) dX9_needs_34 ?_
      refine zg_callSi (st := []) (pc := 35) dX9_needs_35 (As := [.int l2, .int 0, .int ((h5.1 0 40) - 1)]) lk_X9_143 rfl (Nat.le_of_ble_eq_true rfl) (Nat.le_of_ble_eq_true rfl) (sd_X9_in (d + 8) H) (fun r8 h7 H => ?_)
      refine zg_if_eq (pc := 38) dX9_needs_38 (tgt := 50) (by decide) (fun hc => ?_) (fun hc => ?_)
      · replace H := H.1 hc
        refine zg_iconst (pc := 50) dX9_needs_50 (v := (-1)) (by decide) ?_
        exact zg_iret (pc := 51) dX9_needs_51 rfl ⟨_, rfl, H⟩
      · replace H := H.2 hc
        refine zg_aload_n (pc := 41) dX9_needs_41 rfl rfl ?_
        refine zg_getR (pc := 42) dX9_needs_42 lf_X9_108 kR_0 (by decide) rfl ?_
        refine zg_iload_n (pc := 45) dX9_needs_45 rfl rfl ?_
        obtain ⟨hb, H⟩ := H
        refine zg_iald (pc := 46) dX9_needs_46 kR_33 (by decide) hb ?_
        refine zg_goto (pc := 47) dX9_needs_47 (tgt := 51) (by decide) ?_
        exact zg_iret (pc := 51) dX9_needs_51 rfl ⟨_, rfl, H⟩
    · replace H := H.2 hc
      refine zg_iconst (pc := 19) dX9_needs_19 (v := (-1)) (by decide) ?_
      exact zg_iret (pc := 20) dX9_needs_20 rfl ⟨_, rfl, H⟩
set_option maxRecDepth 100000 in
theorem sd_X9_heavyOf_l11 {d : Nat} {Q : Int32 → zz_Hp → Prop}  {l3 : Int32} {l4 : Int32} {h : zz_Hp}  (H : lp (fun s ag => w_X9_heavyOf_l11 ag Q  s.1 s.2.1 s.2.2) (l3, l4, h)) : zz_G zKR zNR (d + 9) mX9_heavyOf (qI Q) 11 [some (.ref 0), none, none, some (.int l3), some (.int l4)] [] h := by
  refine lp_sound (G := fun (s : Int32 × Int32 × zz_Hp) => zz_G zKR zNR (d + 9) mX9_heavyOf (qI Q) 11 [some (.ref 0), none, none, some (.int s.1), some (.int s.2.1)] [] s.2.2) ?_ H
  clear H
  intro s ag11 hag11 H
  obtain ⟨l3, l4, h⟩ := s
  replace hag11 : ∀ (l3 : Int32) (l4 : Int32) (h : zz_Hp), ag11 (l3, l4, h) → zz_G zKR zNR (d + 9) mX9_heavyOf (qI Q) 11 [some (.ref 0), none, none, some (.int l3), some (.int l4)] [] h := fun l3 l4 h H => hag11 (l3, l4, h) H
  replace H : w_X9_heavyOf_l11 ag11 Q  l3 l4 h := H
  show zz_G zKR zNR (d + 9) mX9_heavyOf (qI Q) 11 [some (.ref 0), none, none, some (.int l3), some (.int l4)] [] h
  unfold w_X9_heavyOf_l11 at H
  refine zg_iload (pc := 11) dX9_heavyOf_11 rfl ?_
  refine zg_aload_n (pc := 13) dX9_heavyOf_13 rfl rfl ?_
  refine zg_getI (pc := 14) dX9_heavyOf_14 lf_X9_173 kR_0 (by decide) rfl ?_
  refine zg_icmp_ge (pc := 17) dX9_heavyOf_17 (tgt := 49) (by decide) (fun hc => ?_) (fun hc => ?_)
  · replace H := H.1 hc
    refine zg_iload_n (pc := 49) dX9_heavyOf_49 rfl rfl ?_
    refine zg_bipush (pc := 50) dX9_heavyOf_50 (v := 100) (by decide) ?_
    refine zg_idiv (pc := 52) dX9_heavyOf_52 (by decide) ?_
    exact zg_iret (pc := 53) dX9_heavyOf_53 rfl ⟨_, rfl, H⟩
  · replace H := H.2 hc
    refine zg_iload_n (pc := 20) dX9_heavyOf_20 rfl rfl ?_
    refine zg_aload_n (pc := 21) dX9_heavyOf_21 rfl rfl ?_
    refine zg_getR (pc := 22) dX9_heavyOf_22 lf_X9_21 kR_0 (by decide) rfl ?_
    refine zg_aload_n (pc := 25) dX9_heavyOf_25 rfl rfl ?_
    refine zg_getR (pc := 26) dX9_heavyOf_26 lf_X9_102 kR_0 (by decide) rfl ?_
    refine zg_iload (pc := 29) dX9_heavyOf_29 rfl ?_
    obtain ⟨hb, H⟩ := H
    refine zg_iald (pc := 31) dX9_heavyOf_31 kR_31 (by decide) hb ?_
    obtain ⟨hb, H⟩ := H
    refine zg_iald (pc := 32) dX9_heavyOf_32 kR_4 (by decide) hb ?_
    refine zg_aload_n (pc := 33) dX9_heavyOf_33 rfl rfl ?_
    refine zg_getR (pc := 34) dX9_heavyOf_34 lf_X9_108 kR_0 (by decide) rfl ?_
    refine zg_iload (pc := 37) dX9_heavyOf_37 rfl ?_
    obtain ⟨hb, H⟩ := H
    refine zg_iald (pc := 39) dX9_heavyOf_39 kR_33 (by decide) hb ?_
    refine zg_imul (pc := 40) dX9_heavyOf_40 ?_
    refine zg_iadd (pc := 41) dX9_heavyOf_41 ?_
    refine zg_istore_n (pc := 42) dX9_heavyOf_42 rfl (by decide) (L' := [some (.ref 0), none, none, some (.int (l3 + ((h.1 4 (Int32.toNatClampNeg (h.1 31 (Int32.toNatClampNeg l4)))) * (h.1 33 (Int32.toNatClampNeg l4))))), some (.int l4)]) rfl ?_
    refine zg_iinc (pc := 43) dX9_heavyOf_43 rfl (v := l4 + 1) rfl (by decide) (L' := [some (.ref 0), none, none, some (.int (l3 + ((h.1 4 (Int32.toNatClampNeg (h.1 31 (Int32.toNatClampNeg l4)))) * (h.1 33 (Int32.toNatClampNeg l4))))), some (.int (l4 + 1))]) rfl ?_
    refine zg_goto (pc := 46) dX9_heavyOf_46 (tgt := 11) (by decide) ?_
    exact hag11 (l3 + ((h.1 4 (Int32.toNatClampNeg (h.1 31 (Int32.toNatClampNeg l4)))) * (h.1 33 (Int32.toNatClampNeg l4)))) (l4 + 1) _ H
set_option maxRecDepth 100000 in
theorem sd_X9_heavyOf (d : Nat) {l1 : Int32} {l2 : Int32} {h : zz_Hp} {Q : Int32 → zz_Hp → Prop} (H : w_X9_heavyOf l1 l2 h Q) : zz_G zKR zNR (d + 9) mX9_heavyOf (qI Q) 0 (zz_L0 5 [.ref 0, .int l1, .int l2]) [] h := by
  show zz_G zKR zNR (d + 9) mX9_heavyOf (qI Q) 0 [some (.ref 0), some (.int l1), some (.int l2), none, none] [] h
  unfold w_X9_heavyOf at H
  refine zg_aload_n (pc := 0) dX9_heavyOf_0 rfl rfl ?_
  refine zg_iload_n (pc := 1) dX9_heavyOf_1 rfl rfl ?_
  refine zg_iload_n (pc := 2) dX9_heavyOf_2 rfl rfl ?_
  refine zg_callVv (st := []) (pc := 3) dX9_heavyOf_3 (As := [.int l1, .int l2]) lk_X9_185 kR_0 (by decide) rfl (Nat.le_of_ble_eq_true rfl) (Nat.le_of_ble_eq_true rfl) (sd_X9_walkOver d H) (fun h1 H => ?_)
  refine zg_iconst (pc := 6) dX9_heavyOf_6 (v := 0) (by decide) ?_
  refine zg_istore_n (pc := 7) dX9_heavyOf_7 rfl (by decide) (L' := [some (.ref 0), some (.int l1), some (.int l2), some (.int 0), none]) rfl ?_
  refine zg_iconst (pc := 8) dX9_heavyOf_8 (v := 0) (by decide) ?_
  refine zg_istore (pc := 9) dX9_heavyOf_9 (by decide) (L' := [some (.ref 0), some (.int l1), some (.int l2), some (.int 0), some (.int 0)]) rfl ?_
  refine zg_weak (L' := [some (.ref 0), none, none, some (.int 0), some (.int 0)]) ⟨rfl, ⟨rfl, ⟨rfl, trivial⟩⟩⟩ ?_
  exact sd_X9_heavyOf_l11  H
set_option maxRecDepth 100000 in
theorem sd_X9_heavy (d : Nat) {l1 : Int32} {l2 : Int32} {h : zz_Hp} {Q : Int32 → zz_Hp → Prop} (H : w_X9_heavy l1 l2 h Q) : zz_G zKR zNR (d + 10) mX9_heavy (qI Q) 0 (zz_L0 3 [.ref 0, .int l1, .int l2]) [] h := by
  show zz_G zKR zNR (d + 10) mX9_heavy (qI Q) 0 [some (.ref 0), some (.int l1), some (.int l2)] [] h
  unfold w_X9_heavy at H
  refine zg_aload_n (pc := 0) dX9_heavy_0 rfl rfl ?_
  refine zg_iload_n (pc := 1) dX9_heavy_1 rfl rfl ?_
  refine zg_callVi (st := []) (pc := 2) dX9_heavy_2 (As := [.int l1]) lk_X9_147 kR_0 (by decide) rfl (Nat.le_of_ble_eq_true rfl) (Nat.le_of_ble_eq_true rfl) (sd_X9_isYarn (d + 8) H) (fun r2 h1 H => ?_)
  refine zg_if_eq (pc := 5) dX9_heavy_5 (tgt := 28) (by decide) (fun hc => ?_) (fun hc => ?_)
  · replace H := H.1 hc
    refine zg_iconst (pc := 28) dX9_heavy_28 (v := (-1)) (by decide) ?_
    exact zg_iret (pc := 29) dX9_heavy_29 rfl ⟨_, rfl, H⟩
  · replace H := H.2 hc
    refine zg_iload_n (pc := 8) dX9_heavy_8 rfl rfl ?_
    refine zg_iconst (pc := 9) dX9_heavy_9 (v := 0) (by decide) ?_
    refine zg_sipush (pc := 10) dX9_heavy_10 (v := 9999) (by decide) ?_
    refine zg_callSi (st := []) (pc := 13) dX9_heavy_13 (As := [.int l2, .int 0, .int 9999]) lk_X9_143 rfl (Nat.le_of_ble_eq_true rfl) (Nat.le_of_ble_eq_true rfl) (sd_X9_in (d + 9) H) (fun r4 h3 H => ?_)
    refine zg_if_eq (pc := 16) dX9_heavy_16 (tgt := 28) (by decide) (fun hc => ?_) (fun hc => ?_)
    · replace H := H.1 hc
      refine zg_iconst (pc := 28) dX9_heavy_28 (v := (-1)) (by decide) ?_
      exact zg_iret (pc := 29) dX9_heavy_29 rfl ⟨_, rfl, H⟩
    · replace H := H.2 hc
      refine zg_aload_n (pc := 19) dX9_heavy_19 rfl rfl ?_
      refine zg_iload_n (pc := 20) dX9_heavy_20 rfl rfl ?_
      refine zg_iload_n (pc := 21) dX9_heavy_21 rfl rfl ?_
      refine zg_callVi (st := []) (pc := 22) dX9_heavy_22 (As := [.int l1, .int l2]) lk_X9_226 kR_0 (by decide) rfl (Nat.le_of_ble_eq_true rfl) (Nat.le_of_ble_eq_true rfl) (sd_X9_heavyOf d H) (fun r6 h5 H => ?_)
      refine zg_goto (pc := 25) dX9_heavy_25 (tgt := 29) (by decide) ?_
      exact zg_iret (pc := 29) dX9_heavy_29 rfl ⟨_, rfl, H⟩
set_option maxRecDepth 100000 in
theorem sd_X9_bitsOf_l6 {n d : Nat} {rc : Int32 → zz_Hp → (Int32 → zz_Hp → Prop) → Prop} {Q : Int32 → zz_Hp → Prop} {l1 : Int32} {l2 : Int32} {l3 : Int32} {h : zz_Hp} (hrc : ∀ l1 (h : zz_Hp) (Q : Int32 → zz_Hp → Prop), rc l1 h Q → zz_G zKR zNR (d + n + 0) mX9_bitsOf (qI Q) 0 (zz_L0 4 [.ref 0, .int l1]) [] h) (H : lp (fun s ag => w_X9_bitsOf_l6 rc ag Q l1 s.1 s.2.1 s.2.2) (l2, l3, h)) : zz_G zKR zNR (d + (n + 1) + 0) mX9_bitsOf (qI Q) 6 [some (.ref 0), some (.int l1), some (.int l2), some (.int l3)] [] h := by
  refine lp_sound (G := fun (s : Int32 × Int32 × zz_Hp) => zz_G zKR zNR (d + (n + 1) + 0) mX9_bitsOf (qI Q) 6 [some (.ref 0), some (.int l1), some (.int s.1), some (.int s.2.1)] [] s.2.2) ?_ H
  clear H
  intro s ag6 hag6 H
  obtain ⟨l2, l3, h⟩ := s
  replace hag6 : ∀ (l2 : Int32) (l3 : Int32) (h : zz_Hp), ag6 (l2, l3, h) → zz_G zKR zNR (d + (n + 1) + 0) mX9_bitsOf (qI Q) 6 [some (.ref 0), some (.int l1), some (.int l2), some (.int l3)] [] h := fun l2 l3 h H => hag6 (l2, l3, h) H
  replace H : w_X9_bitsOf_l6 rc ag6 Q l1 l2 l3 h := H
  show zz_G zKR zNR (d + (n + 1) + 0) mX9_bitsOf (qI Q) 6 [some (.ref 0), some (.int l1), some (.int l2), some (.int l3)] [] h
  unfold w_X9_bitsOf_l6 at H
  refine zg_iload_n (pc := 6) dX9_bitsOf_6 rfl rfl ?_
  refine zg_aload_n (pc := 7) dX9_bitsOf_7 rfl rfl ?_
  refine zg_getR (pc := 8) dX9_bitsOf_8 lf_X9_9 kR_0 (by decide) rfl ?_
  refine zg_iload_n (pc := 11) dX9_bitsOf_11 rfl rfl ?_
  obtain ⟨hb, H⟩ := H
  refine zg_iald (pc := 12) dX9_bitsOf_12 kR_1 (by decide) hb ?_
  refine zg_icmp_ge (pc := 13) dX9_bitsOf_13 (tgt := 39) (by decide) (fun hc => ?_) (fun hc => ?_)
  · replace H := H.1 hc
    refine zg_iload_n (pc := 39) dX9_bitsOf_39 rfl rfl ?_
    exact zg_iret (pc := 40) dX9_bitsOf_40 rfl ⟨_, rfl, H⟩
  · replace H := H.2 hc
    refine zg_iload_n (pc := 16) dX9_bitsOf_16 rfl rfl ?_
    refine zg_aload_n (pc := 17) dX9_bitsOf_17 rfl rfl ?_
    refine zg_aload_n (pc := 18) dX9_bitsOf_18 rfl rfl ?_
    refine zg_getR (pc := 19) dX9_bitsOf_19 lf_X9_15 kR_0 (by decide) rfl ?_
    refine zg_iconst (pc := 22) dX9_bitsOf_22 (v := 4) (by decide) ?_
    refine zg_iload_n (pc := 23) dX9_bitsOf_23 rfl rfl ?_
    refine zg_imul (pc := 24) dX9_bitsOf_24 ?_
    refine zg_iload_n (pc := 25) dX9_bitsOf_25 rfl rfl ?_
    refine zg_iadd (pc := 26) dX9_bitsOf_26 ?_
    obtain ⟨hb, H⟩ := H
    refine zg_iald (pc := 27) dX9_bitsOf_27 kR_2 (by decide) hb ?_
    refine zg_callVi (st := [.int l2]) (pc := 28) dX9_bitsOf_28 (As := [.int (h.1 2 (Int32.toNatClampNeg ((4 * l1) + l3)))]) lk_X9_155 kR_0 (by decide) rfl (Nat.le_of_ble_eq_true rfl) (Nat.le_of_ble_eq_true rfl) (hrc (h.1 2 (Int32.toNatClampNeg ((4 * l1) + l3))) _ _ H) (fun r2 h1 H => ?_)
    refine zg_ior (pc := 31) dX9_bitsOf_31 ?_
    refine zg_istore_n (pc := 32) dX9_bitsOf_32 rfl (by decide) (L' := [some (.ref 0), some (.int l1), some (.int (l2 ||| r2)), some (.int l3)]) rfl ?_
    refine zg_iinc (pc := 33) dX9_bitsOf_33 rfl (v := l3 + 1) rfl (by decide) (L' := [some (.ref 0), some (.int l1), some (.int (l2 ||| r2)), some (.int (l3 + 1))]) rfl ?_
    refine zg_goto (pc := 36) dX9_bitsOf_36 (tgt := 6) (by decide) ?_
    exact hag6 (l2 ||| r2) (l3 + 1) _ H
set_option maxRecDepth 100000 in
theorem sd_X9_bitsOf_b {n d : Nat} {rc : Int32 → zz_Hp → (Int32 → zz_Hp → Prop) → Prop} {l1 : Int32} {h : zz_Hp} {Q : Int32 → zz_Hp → Prop} (hrc : ∀ l1 (h : zz_Hp) (Q : Int32 → zz_Hp → Prop), rc l1 h Q → zz_G zKR zNR (d + n + 0) mX9_bitsOf (qI Q) 0 (zz_L0 4 [.ref 0, .int l1]) [] h) (H : w_X9_bitsOf_b rc l1 h Q) : zz_G zKR zNR (d + (n + 1) + 0) mX9_bitsOf (qI Q) 0 [some (.ref 0), some (.int l1), none, none] [] h := by
  unfold w_X9_bitsOf_b at H
  refine zg_iconst (pc := 0) dX9_bitsOf_0 (v := 1) (by decide) ?_
  refine zg_iload_n (pc := 1) dX9_bitsOf_1 rfl rfl ?_
  refine zg_ishl (pc := 2) dX9_bitsOf_2 ?_
  refine zg_istore_n (pc := 3) dX9_bitsOf_3 rfl (by decide) (L' := [some (.ref 0), some (.int l1), some (.int (1 <<< (l1 &&& 31))), none]) rfl ?_
  refine zg_iconst (pc := 4) dX9_bitsOf_4 (v := 0) (by decide) ?_
  refine zg_istore_n (pc := 5) dX9_bitsOf_5 rfl (by decide) (L' := [some (.ref 0), some (.int l1), some (.int (1 <<< (l1 &&& 31))), some (.int 0)]) rfl ?_
  exact sd_X9_bitsOf_l6 hrc H
theorem sd_X9_bitsOf : ∀ (n d : Nat) {l1 : Int32} {h : zz_Hp} {Q : Int32 → zz_Hp → Prop} (_ : w_X9_bitsOf n l1 h Q), zz_G zKR zNR (d + n + 0) mX9_bitsOf (qI Q) 0 (zz_L0 4 [.ref 0, .int l1]) [] h := by
  intro n
  induction n with
  | zero => intro d l1 h Q H; exact H.elim
  | succ n ih => intro d l1 h Q H; exact sd_X9_bitsOf_b (fun l1 h Q H => ih d H) H
set_option maxRecDepth 100000 in
theorem sd_X9_isIn (d : Nat) {l1 : Int32} {l2 : Int32} {h : zz_Hp} {Q : Int32 → zz_Hp → Prop} (H : w_X9_isIn l1 l2 h Q) : zz_G zKR zNR (d + 6) mX9_isIn (qI Q) 0 (zz_L0 3 [.ref 0, .int l1, .int l2]) [] h := by
  show zz_G zKR zNR (d + 6) mX9_isIn (qI Q) 0 [some (.ref 0), some (.int l1), some (.int l2)] [] h
  unfold w_X9_isIn at H
  refine zg_aload_n (pc := 0) dX9_isIn_0 rfl rfl ?_
  refine zg_iload_n (pc := 1) dX9_isIn_1 rfl rfl ?_
  refine zg_callVi (st := []) (pc := 2) dX9_isIn_2 (As := [.int l1]) lk_X9_155 kR_0 (by decide) rfl (Nat.le_of_ble_eq_true rfl) (Nat.le_of_ble_eq_true rfl) (sd_X9_bitsOf 5 d H) (fun r2 h1 H => ?_)
  refine zg_iload_n (pc := 5) dX9_isIn_5 rfl rfl ?_
  refine zg_ishr (pc := 6) dX9_isIn_6 ?_
  refine zg_iconst (pc := 7) dX9_isIn_7 (v := 1) (by decide) ?_
  refine zg_iand (pc := 8) dX9_isIn_8 ?_
  refine zg_iconst (pc := 9) dX9_isIn_9 (v := 1) (by decide) ?_
  refine zg_icmp_ne (pc := 10) dX9_isIn_10 (tgt := 17) (by decide) (fun hc => ?_) (fun hc => ?_)
  · replace H := H.1 hc
    refine zg_iconst (pc := 17) dX9_isIn_17 (v := 0) (by decide) ?_
    exact zg_zret (pc := 18) dX9_isIn_18 (Or.inl rfl) rfl ⟨_, rfl, H⟩
  · replace H := H.2 hc
    refine zg_iconst (pc := 13) dX9_isIn_13 (v := 1) (by decide) ?_
    refine zg_goto (pc := 14) dX9_isIn_14 (tgt := 18) (by decide) ?_
    exact zg_zret (pc := 18) dX9_isIn_18 (Or.inr rfl) rfl ⟨_, rfl, H⟩
set_option maxRecDepth 100000 in
theorem sd_X9_balance_j95 {d : Nat} {ag68 : Int32 × Int32 × Int32 × zz_Hp → Prop} {Q : Int32 → zz_Hp → Prop} {l1 : Int32} {l2 : Int32} {l3 : Int32} {l4 : Int32} {l5 : Int32} {l6 : Int32} {l7 : Int32} {s0 : Int32} {h : zz_Hp} (hag68 : ∀ (l5 : Int32) (l6 : Int32) (l7 : Int32) (h : zz_Hp), ag68 (l5, l6, l7, h) → zz_G zKR zNR (d + 8) mX9_balance (qI Q) 68 [some (.ref 0), some (.int l1), some (.int l2), some (.int l3), some (.int l4), some (.int l5), some (.int l6), some (.int l7), none, none] [] h) (H : w_X9_balance_j95 ag68 Q l1 l2 l3 l4 l5 l6 l7 s0 h) : zz_G zKR zNR (d + 8) mX9_balance (qI Q) 95 [some (.ref 0), some (.int l1), some (.int l2), some (.int l3), some (.int l4), some (.int l5), some (.int l6), some (.int l7), none, none] [.int s0] h := by
  unfold w_X9_balance_j95 at H
  refine zg_istore (pc := 95) dX9_balance_95 (by decide) (L' := [some (.ref 0), some (.int l1), some (.int l2), some (.int l3), some (.int l4), some (.int l5), some (.int l6), some (.int l7), some (.int s0), none]) rfl ?_
  refine zg_aload_n (pc := 97) dX9_balance_97 rfl rfl ?_
  refine zg_getR (pc := 98) dX9_balance_98 lf_X9_24 kR_0 (by decide) rfl ?_
  refine zg_iload_n (pc := 101) dX9_balance_101 rfl rfl ?_
  refine zg_iload (pc := 102) dX9_balance_102 rfl ?_
  obtain ⟨hb, H⟩ := H
  refine zg_iast (pc := 104) dX9_balance_104 kR_5 (by decide) hb ?_
  generalize eh13 : zz_uI h 5 (Int32.toNatClampNeg l2) s0 = h13
  replace H := H h13 eh13.symm
  refine zg_aload_n (pc := 105) dX9_balance_105 rfl rfl ?_
  refine zg_iload_n (pc := 106) dX9_balance_106 rfl rfl ?_
  refine zg_callVi (st := []) (pc := 107) dX9_balance_107 (As := [.int l1]) lk_X9_217 kR_0 (by decide) rfl (Nat.le_of_ble_eq_true rfl) (Nat.le_of_ble_eq_true rfl) (sd_X9_torqueOf d H) (fun r15 h14 H => ?_)
  refine zg_istore (pc := 110) dX9_balance_110 (by decide) (L' := [some (.ref 0), some (.int l1), some (.int l2), some (.int l3), some (.int l4), some (.int l5), some (.int l6), some (.int l7), some (.int s0), some (.int r15)]) rfl ?_
  refine zg_iload (pc := 112) dX9_balance_112 rfl ?_
  refine zg_callSi (st := []) (pc := 114) dX9_balance_114 (As := [.int r15]) lk_X9_170 rfl (Nat.le_of_ble_eq_true rfl) (Nat.le_of_ble_eq_true rfl) (sd_X9_sizeOf (d + 7) H) (fun r17 h16 H => ?_)
  refine zg_iload (pc := 117) dX9_balance_117 rfl ?_
  refine zg_callSi (st := [.int r17]) (pc := 119) dX9_balance_119 (As := [.int l6]) lk_X9_170 rfl (Nat.le_of_ble_eq_true rfl) (Nat.le_of_ble_eq_true rfl) (sd_X9_sizeOf (d + 7) H) (fun r19 h18 H => ?_)
  refine zg_icmp_ge (pc := 122) dX9_balance_122 (tgt := 133) (by decide) (fun hc => ?_) (fun hc => ?_)
  · replace H := H.1 hc
    refine zg_iinc (pc := 133) dX9_balance_133 rfl (v := l7 + 1) rfl (by decide) (L' := [some (.ref 0), some (.int l1), some (.int l2), some (.int l3), some (.int l4), some (.int l5), some (.int l6), some (.int (l7 + 1)), some (.int s0), some (.int r15)]) rfl ?_
    refine zg_goto (pc := 136) dX9_balance_136 (tgt := 68) (by decide) ?_
    refine zg_weak (L' := [some (.ref 0), some (.int l1), some (.int l2), some (.int l3), some (.int l4), some (.int l5), some (.int l6), some (.int (l7 + 1)), none, none]) ⟨rfl, ⟨rfl, ⟨rfl, ⟨rfl, ⟨rfl, ⟨rfl, ⟨rfl, ⟨rfl, trivial⟩⟩⟩⟩⟩⟩⟩⟩ ?_
    exact hag68 l5 l6 (l7 + 1) _ H
  · replace H := H.2 hc
    refine zg_iload (pc := 125) dX9_balance_125 rfl ?_
    refine zg_istore (pc := 127) dX9_balance_127 (by decide) (L' := [some (.ref 0), some (.int l1), some (.int l2), some (.int l3), some (.int l4), some (.int s0), some (.int l6), some (.int l7), some (.int s0), some (.int r15)]) rfl ?_
    refine zg_iload (pc := 129) dX9_balance_129 rfl ?_
    refine zg_istore (pc := 131) dX9_balance_131 (by decide) (L' := [some (.ref 0), some (.int l1), some (.int l2), some (.int l3), some (.int l4), some (.int s0), some (.int r15), some (.int l7), some (.int s0), some (.int r15)]) rfl ?_
    refine zg_iinc (pc := 133) dX9_balance_133 rfl (v := l7 + 1) rfl (by decide) (L' := [some (.ref 0), some (.int l1), some (.int l2), some (.int l3), some (.int l4), some (.int s0), some (.int r15), some (.int (l7 + 1)), some (.int s0), some (.int r15)]) rfl ?_
    refine zg_goto (pc := 136) dX9_balance_136 (tgt := 68) (by decide) ?_
    refine zg_weak (L' := [some (.ref 0), some (.int l1), some (.int l2), some (.int l3), some (.int l4), some (.int s0), some (.int r15), some (.int (l7 + 1)), none, none]) ⟨rfl, ⟨rfl, ⟨rfl, ⟨rfl, ⟨rfl, ⟨rfl, ⟨rfl, ⟨rfl, trivial⟩⟩⟩⟩⟩⟩⟩⟩ ?_
    exact hag68 s0 r15 (l7 + 1) _ H
set_option maxRecDepth 100000 in
theorem sd_X9_balance_l68 {d : Nat} {Q : Int32 → zz_Hp → Prop} {l1 : Int32} {l2 : Int32} {l3 : Int32} {l4 : Int32} {l5 : Int32} {l6 : Int32} {l7 : Int32} {h : zz_Hp}  (H : lp (fun s ag => w_X9_balance_l68 ag Q l1 l2 l3 l4 s.1 s.2.1 s.2.2.1 s.2.2.2) (l5, l6, l7, h)) : zz_G zKR zNR (d + 8) mX9_balance (qI Q) 68 [some (.ref 0), some (.int l1), some (.int l2), some (.int l3), some (.int l4), some (.int l5), some (.int l6), some (.int l7), none, none] [] h := by
  refine lp_sound (G := fun (s : Int32 × Int32 × Int32 × zz_Hp) => zz_G zKR zNR (d + 8) mX9_balance (qI Q) 68 [some (.ref 0), some (.int l1), some (.int l2), some (.int l3), some (.int l4), some (.int s.1), some (.int s.2.1), some (.int s.2.2.1), none, none] [] s.2.2.2) ?_ H
  clear H
  intro s ag68 hag68 H
  obtain ⟨l5, l6, l7, h⟩ := s
  replace hag68 : ∀ (l5 : Int32) (l6 : Int32) (l7 : Int32) (h : zz_Hp), ag68 (l5, l6, l7, h) → zz_G zKR zNR (d + 8) mX9_balance (qI Q) 68 [some (.ref 0), some (.int l1), some (.int l2), some (.int l3), some (.int l4), some (.int l5), some (.int l6), some (.int l7), none, none] [] h := fun l5 l6 l7 h H => hag68 (l5, l6, l7, h) H
  replace H : w_X9_balance_l68 ag68 Q l1 l2 l3 l4 l5 l6 l7 h := H
  show zz_G zKR zNR (d + 8) mX9_balance (qI Q) 68 [some (.ref 0), some (.int l1), some (.int l2), some (.int l3), some (.int l4), some (.int l5), some (.int l6), some (.int l7), none, none] [] h
  unfold w_X9_balance_l68 at H
  refine zg_iload (pc := 68) dX9_balance_68 rfl ?_
  refine zg_sipush (pc := 70) dX9_balance_70 (v := 200) (by decide) ?_
  refine zg_icmp_ge (pc := 73) dX9_balance_73 (tgt := 139) (by decide) (fun hc => ?_) (fun hc => ?_)
  · replace H := H.1 hc
    refine zg_aload_n (pc := 139) dX9_balance_139 rfl rfl ?_
    refine zg_getR (pc := 140) dX9_balance_140 lf_X9_24 kR_0 (by decide) rfl ?_
    refine zg_iload_n (pc := 143) dX9_balance_143 rfl rfl ?_
    refine zg_iload (pc := 144) dX9_balance_144 rfl ?_
    obtain ⟨hb, H⟩ := H
    refine zg_iast (pc := 146) dX9_balance_146 kR_5 (by decide) hb ?_
    generalize eh12 : zz_uI h 5 (Int32.toNatClampNeg l2) l4 = h12
    replace H := H h12 eh12.symm
    refine zg_iload_n (pc := 147) dX9_balance_147 rfl rfl ?_
    refine zg_if_ne (pc := 148) dX9_balance_148 (tgt := 156) (by decide) (fun hc => ?_) (fun hc => ?_)
    · replace H := H.1 hc
      refine zg_iload (pc := 156) dX9_balance_156 rfl ?_
      exact zg_iret (pc := 158) dX9_balance_158 rfl ⟨_, rfl, H⟩
    · replace H := H.2 hc
      refine zg_iload (pc := 151) dX9_balance_151 rfl ?_
      refine zg_goto (pc := 153) dX9_balance_153 (tgt := 158) (by decide) ?_
      exact zg_iret (pc := 158) dX9_balance_158 rfl ⟨_, rfl, H⟩
  · replace H := H.2 hc
    refine zg_iload (pc := 76) dX9_balance_76 rfl ?_
    refine zg_iconst (pc := 78) dX9_balance_78 (v := 2) (by decide) ?_
    refine zg_irem (pc := 79) dX9_balance_79 (by decide) ?_
    refine zg_if_ne (pc := 80) dX9_balance_80 (tgt := 91) (by decide) (fun hc => ?_) (fun hc => ?_)
    · replace H := H.1 hc
      refine zg_iload (pc := 91) dX9_balance_91 rfl ?_
      refine zg_iconst (pc := 93) dX9_balance_93 (v := 2) (by decide) ?_
      refine zg_idiv (pc := 94) dX9_balance_94 (by decide) ?_
      exact sd_X9_balance_j95 hag68 H
    · replace H := H.2 hc
      refine zg_iload (pc := 83) dX9_balance_83 rfl ?_
      refine zg_iconst (pc := 85) dX9_balance_85 (v := 2) (by decide) ?_
      refine zg_idiv (pc := 86) dX9_balance_86 (by decide) ?_
      refine zg_ineg (pc := 87) dX9_balance_87 ?_
      refine zg_goto (pc := 88) dX9_balance_88 (tgt := 95) (by decide) ?_
      exact sd_X9_balance_j95 hag68 H
set_option maxRecDepth 100000 in
theorem sd_X9_balance (d : Nat) {l1 : Int32} {l2 : Int32} {l3 : Int32} {h : zz_Hp} {Q : Int32 → zz_Hp → Prop} (H : w_X9_balance l1 l2 l3 h Q) : zz_G zKR zNR (d + 8) mX9_balance (qI Q) 0 (zz_L0 10 [.ref 0, .int l1, .int l2, .int l3]) [] h := by
  show zz_G zKR zNR (d + 8) mX9_balance (qI Q) 0 [some (.ref 0), some (.int l1), some (.int l2), some (.int l3), none, none, none, none, none, none] [] h
  unfold w_X9_balance at H
  refine zg_aload_n (pc := 0) dX9_balance_0 rfl rfl ?_
  refine zg_iload_n (pc := 1) dX9_balance_1 rfl rfl ?_
  refine zg_callVi (st := []) (pc := 2) dX9_balance_2 (As := [.int l1]) lk_X9_147 kR_0 (by decide) rfl (Nat.le_of_ble_eq_true rfl) (Nat.le_of_ble_eq_true rfl) (sd_X9_isYarn (d + 6) H) (fun r2 h1 H => ?_)
  refine zg_if_eq (pc := 5) dX9_balance_5 (tgt := 25) (by decide) (fun hc => ?_) (fun hc => ?_)
  · replace H := H.1 hc
    refine zg_ldc (pc := 25) dX9_balance_25 lc_X9_209 ?_
    exact zg_iret (pc := 27) dX9_balance_27 rfl ⟨_, rfl, H⟩
  · replace H := H.2 hc
    refine zg_aload_n (pc := 8) dX9_balance_8 rfl rfl ?_
    refine zg_iload_n (pc := 9) dX9_balance_9 rfl rfl ?_
    refine zg_callVi (st := []) (pc := 10) dX9_balance_10 (As := [.int l2]) lk_X9_147 kR_0 (by decide) rfl (Nat.le_of_ble_eq_true rfl) (Nat.le_of_ble_eq_true rfl) (sd_X9_isYarn (d + 6) H) (fun r4 h3 H => ?_)
    refine zg_if_eq (pc := 13) dX9_balance_13 (tgt := 25) (by decide) (fun hc => ?_) (fun hc => ?_)
    · replace H := H.1 hc
      refine zg_ldc (pc := 25) dX9_balance_25 lc_X9_209 ?_
      exact zg_iret (pc := 27) dX9_balance_27 rfl ⟨_, rfl, H⟩
    · replace H := H.2 hc
      refine zg_iload_n (pc := 16) dX9_balance_16 rfl rfl ?_
      refine zg_iconst (pc := 17) dX9_balance_17 (v := 0) (by decide) ?_
      refine zg_iconst (pc := 18) dX9_balance_18 (v := 1) (by decide) ?_
      refine zg_callSi (st := []) (pc := 19) dX9_balance_19 (As := [.int l3, .int 0, .int 1]) lk_X9_143 rfl (Nat.le_of_ble_eq_true rfl) (Nat.le_of_ble_eq_true rfl) (sd_X9_in (d + 7) H) (fun r6 h5 H => ?_)
      refine zg_if_ne (pc := 22) dX9_balance_22 (tgt := 28) (by decide) (fun hc => ?_) (fun hc => ?_)
      · replace H := H.1 hc
        refine zg_aload_n (pc := 28) dX9_balance_28 rfl rfl ?_
        refine zg_iload_n (pc := 29) dX9_balance_29 rfl rfl ?_
        refine zg_iload_n (pc := 30) dX9_balance_30 rfl rfl ?_
        refine zg_callVi (st := []) (pc := 31) dX9_balance_31 (As := [.int l1, .int l2]) lk_X9_229 kR_0 (by decide) rfl (Nat.le_of_ble_eq_true rfl) (Nat.le_of_ble_eq_true rfl) (sd_X9_isIn (d + 1) H) (fun r8 h7 H => ?_)
        refine zg_if_ne (pc := 34) dX9_balance_34 (tgt := 40) (by decide) (fun hc => ?_) (fun hc => ?_)
        · replace H := H.1 hc
          refine zg_aload_n (pc := 40) dX9_balance_40 rfl rfl ?_
          refine zg_getR (pc := 41) dX9_balance_41 lf_X9_24 kR_0 (by decide) rfl ?_
          refine zg_iload_n (pc := 44) dX9_balance_44 rfl rfl ?_
          obtain ⟨hb, H⟩ := H
          refine zg_iald (pc := 45) dX9_balance_45 kR_5 (by decide) hb ?_
          refine zg_istore (pc := 46) dX9_balance_46 (by decide) (L' := [some (.ref 0), some (.int l1), some (.int l2), some (.int l3), some (.int (h7.1 5 (Int32.toNatClampNeg l2))), none, none, none, none, none]) rfl ?_
          refine zg_iconst (pc := 48) dX9_balance_48 (v := 0) (by decide) ?_
          refine zg_istore (pc := 49) dX9_balance_49 (by decide) (L' := [some (.ref 0), some (.int l1), some (.int l2), some (.int l3), some (.int (h7.1 5 (Int32.toNatClampNeg l2))), some (.int 0), none, none, none, none]) rfl ?_
          refine zg_aload_n (pc := 51) dX9_balance_51 rfl rfl ?_
          refine zg_getR (pc := 52) dX9_balance_52 lf_X9_24 kR_0 (by decide) rfl ?_
          refine zg_iload_n (pc := 55) dX9_balance_55 rfl rfl ?_
          refine zg_iconst (pc := 56) dX9_balance_56 (v := 0) (by decide) ?_
          obtain ⟨hb, H⟩ := H
          refine zg_iast (pc := 57) dX9_balance_57 kR_5 (by decide) hb ?_
          generalize eh9 : zz_uI h7 5 (Int32.toNatClampNeg l2) 0 = h9
          replace H := H h9 eh9.symm
          refine zg_aload_n (pc := 58) dX9_balance_58 rfl rfl ?_
          refine zg_iload_n (pc := 59) dX9_balance_59 rfl rfl ?_
          refine zg_callVi (st := []) (pc := 60) dX9_balance_60 (As := [.int l1]) lk_X9_217 kR_0 (by decide) rfl (Nat.le_of_ble_eq_true rfl) (Nat.le_of_ble_eq_true rfl) (sd_X9_torqueOf d H) (fun r11 h10 H => ?_)
          refine zg_istore (pc := 63) dX9_balance_63 (by decide) (L' := [some (.ref 0), some (.int l1), some (.int l2), some (.int l3), some (.int (h7.1 5 (Int32.toNatClampNeg l2))), some (.int 0), some (.int r11), none, none, none]) rfl ?_
          refine zg_iconst (pc := 65) dX9_balance_65 (v := 2) (by decide) ?_
          refine zg_istore (pc := 66) dX9_balance_66 (by decide) (L' := [some (.ref 0), some (.int l1), some (.int l2), some (.int l3), some (.int (h7.1 5 (Int32.toNatClampNeg l2))), some (.int 0), some (.int r11), some (.int 2), none, none]) rfl ?_
          exact sd_X9_balance_l68  H
        · replace H := H.2 hc
          refine zg_ldc (pc := 37) dX9_balance_37 lc_X9_232 ?_
          exact zg_iret (pc := 39) dX9_balance_39 rfl ⟨_, rfl, H⟩
      · replace H := H.2 hc
        refine zg_ldc (pc := 25) dX9_balance_25 lc_X9_209 ?_
        exact zg_iret (pc := 27) dX9_balance_27 rfl ⟨_, rfl, H⟩
set_option maxRecDepth 100000 in
theorem sd_X9_isThread (d : Nat) {l1 : Int32} {h : zz_Hp} {Q : Int32 → zz_Hp → Prop} (H : w_X9_isThread l1 h Q) : zz_G zKR zNR (d + 2) mX9_isThread (qI Q) 0 (zz_L0 2 [.ref 0, .int l1]) [] h := by
  show zz_G zKR zNR (d + 2) mX9_isThread (qI Q) 0 [some (.ref 0), some (.int l1)] [] h
  unfold w_X9_isThread at H
  refine zg_aload_n (pc := 0) dX9_isThread_0 rfl rfl ?_
  refine zg_iload_n (pc := 1) dX9_isThread_1 rfl rfl ?_
  refine zg_callVi (st := []) (pc := 2) dX9_isThread_2 (As := [.int l1]) lk_X9_147 kR_0 (by decide) rfl (Nat.le_of_ble_eq_true rfl) (Nat.le_of_ble_eq_true rfl) (sd_X9_isYarn d H) (fun r2 h1 H => ?_)
  refine zg_if_eq (pc := 5) dX9_isThread_5 (tgt := 21) (by decide) (fun hc => ?_) (fun hc => ?_)
  · replace H := H.1 hc
    refine zg_iconst (pc := 21) dX9_isThread_21 (v := 0) (by decide) ?_
    exact zg_zret (pc := 22) dX9_isThread_22 (Or.inl rfl) rfl ⟨_, rfl, H⟩
  · replace H := H.2 hc
    refine zg_aload_n (pc := 8) dX9_isThread_8 rfl rfl ?_
    refine zg_getR (pc := 9) dX9_isThread_9 lf_X9_9 kR_0 (by decide) rfl ?_
    refine zg_iload_n (pc := 12) dX9_isThread_12 rfl rfl ?_
    obtain ⟨hb, H⟩ := H
    refine zg_iald (pc := 13) dX9_isThread_13 kR_1 (by decide) hb ?_
    refine zg_if_ne (pc := 14) dX9_isThread_14 (tgt := 21) (by decide) (fun hc => ?_) (fun hc => ?_)
    · replace H := H.1 hc
      refine zg_iconst (pc := 21) dX9_isThread_21 (v := 0) (by decide) ?_
      exact zg_zret (pc := 22) dX9_isThread_22 (Or.inl rfl) rfl ⟨_, rfl, H⟩
    · replace H := H.2 hc
      refine zg_iconst (pc := 17) dX9_isThread_17 (v := 1) (by decide) ?_
      refine zg_goto (pc := 18) dX9_isThread_18 (tgt := 22) (by decide) ?_
      exact zg_zret (pc := 22) dX9_isThread_22 (Or.inr rfl) rfl ⟨_, rfl, H⟩
set_option maxRecDepth 100000 in
theorem sd_X9_plan_j121 {d : Nat} {ag51 : Int32 × Int32 × Int32 × zz_Hp → Prop} {Q : Int32 → zz_Hp → Prop} {l1 : Int32} {l2 : Int32} {l3 : Int32} {l4 : Int32} {l7 : Int32} {l10 : Int32}  {h : zz_Hp} (hag51 : ∀ (l5 : Int32) (l6 : Int32) (l7 : Int32) (h : zz_Hp), ag51 (l5, l6, l7, h) → zz_G zKR zNR (d + 3) mX9_plan (qI Q) 51 [some (.ref 0), some (.int l1), some (.int l2), some (.int l3), some (.int l4), some (.int l5), some (.int l6), some (.int l7), none, none, none] [] h) (H : w_X9_plan_j121 ag51 Q l1 l2 l3 l4 l7 l10 h) : zz_G zKR zNR (d + 3) mX9_plan (qI Q) 121 [some (.ref 0), some (.int l1), some (.int l2), some (.int l3), some (.int l4), none, none, some (.int l7), none, none, some (.int l10)] [] h := by
  unfold w_X9_plan_j121 at H
  refine zg_iload (pc := 121) dX9_plan_121 rfl ?_
  refine zg_istore (pc := 123) dX9_plan_123 (by decide) (L' := [some (.ref 0), some (.int l1), some (.int l2), some (.int l3), some (.int l4), some (.int l7), none, some (.int l7), none, none, some (.int l10)]) rfl ?_
  refine zg_iload (pc := 125) dX9_plan_125 rfl ?_
  refine zg_istore (pc := 127) dX9_plan_127 (by decide) (L' := [some (.ref 0), some (.int l1), some (.int l2), some (.int l3), some (.int l4), some (.int l7), some (.int l10), some (.int l7), none, none, some (.int l10)]) rfl ?_
  refine zg_iinc (pc := 129) dX9_plan_129 rfl (v := l7 + 1) rfl (by decide) (L' := [some (.ref 0), some (.int l1), some (.int l2), some (.int l3), some (.int l4), some (.int l7), some (.int l10), some (.int (l7 + 1)), none, none, some (.int l10)]) rfl ?_
  refine zg_goto (pc := 132) dX9_plan_132 (tgt := 51) (by decide) ?_
  refine zg_weak (L' := [some (.ref 0), some (.int l1), some (.int l2), some (.int l3), some (.int l4), some (.int l7), some (.int l10), some (.int (l7 + 1)), none, none, none]) ⟨rfl, ⟨rfl, ⟨rfl, ⟨rfl, ⟨rfl, ⟨rfl, ⟨rfl, ⟨rfl, trivial⟩⟩⟩⟩⟩⟩⟩⟩ ?_
  exact hag51 l7 l10 (l7 + 1) _ H
set_option maxRecDepth 100000 in
theorem sd_X9_plan_l51 {d : Nat} {Q : Int32 → zz_Hp → Prop} {l1 : Int32} {l2 : Int32} {l3 : Int32} {l4 : Int32} {l5 : Int32} {l6 : Int32} {l7 : Int32} {h : zz_Hp}  (H : lp (fun s ag => w_X9_plan_l51 ag Q l1 l2 l3 l4 s.1 s.2.1 s.2.2.1 s.2.2.2) (l5, l6, l7, h)) : zz_G zKR zNR (d + 3) mX9_plan (qI Q) 51 [some (.ref 0), some (.int l1), some (.int l2), some (.int l3), some (.int l4), some (.int l5), some (.int l6), some (.int l7), none, none, none] [] h := by
  refine lp_sound (G := fun (s : Int32 × Int32 × Int32 × zz_Hp) => zz_G zKR zNR (d + 3) mX9_plan (qI Q) 51 [some (.ref 0), some (.int l1), some (.int l2), some (.int l3), some (.int l4), some (.int s.1), some (.int s.2.1), some (.int s.2.2.1), none, none, none] [] s.2.2.2) ?_ H
  clear H
  intro s ag51 hag51 H
  obtain ⟨l5, l6, l7, h⟩ := s
  replace hag51 : ∀ (l5 : Int32) (l6 : Int32) (l7 : Int32) (h : zz_Hp), ag51 (l5, l6, l7, h) → zz_G zKR zNR (d + 3) mX9_plan (qI Q) 51 [some (.ref 0), some (.int l1), some (.int l2), some (.int l3), some (.int l4), some (.int l5), some (.int l6), some (.int l7), none, none, none] [] h := fun l5 l6 l7 h H => hag51 (l5, l6, l7, h) H
  replace H : w_X9_plan_l51 ag51 Q l1 l2 l3 l4 l5 l6 l7 h := H
  show zz_G zKR zNR (d + 3) mX9_plan (qI Q) 51 [some (.ref 0), some (.int l1), some (.int l2), some (.int l3), some (.int l4), some (.int l5), some (.int l6), some (.int l7), none, none, none] [] h
  unfold w_X9_plan_l51 at H
  refine zg_iload (pc := 51) dX9_plan_51 rfl ?_
  refine zg_iconst (pc := 53) dX9_plan_53 (v := 4) (by decide) ?_
  refine zg_icmp_gt (pc := 54) dX9_plan_54 (tgt := 135) (by decide) (fun hc => ?_) (fun hc => ?_)
  · replace H := H.1 hc
    refine zg_iload (pc := 135) dX9_plan_135 rfl ?_
    refine zg_if_ne (pc := 137) dX9_plan_137 (tgt := 145) (by decide) (fun hc => ?_) (fun hc => ?_)
    · replace H := H.1 hc
      refine zg_iload (pc := 145) dX9_plan_145 rfl ?_
      exact zg_iret (pc := 147) dX9_plan_147 rfl ⟨_, rfl, H⟩
    · replace H := H.2 hc
      refine zg_iload (pc := 140) dX9_plan_140 rfl ?_
      refine zg_goto (pc := 142) dX9_plan_142 (tgt := 147) (by decide) ?_
      exact zg_iret (pc := 147) dX9_plan_147 rfl ⟨_, rfl, H⟩
  · replace H := H.2 hc
    refine zg_sipush (pc := 57) dX9_plan_57 (v := 1000) (by decide) ?_
    refine zg_iload_n (pc := 60) dX9_plan_60 rfl rfl ?_
    refine zg_callSi (st := [.int 1000]) (pc := 61) dX9_plan_61 (As := [.int l2]) lk_X9_170 rfl (Nat.le_of_ble_eq_true rfl) (Nat.le_of_ble_eq_true rfl) (sd_X9_sizeOf (d + 2) H) (fun r10 h9 H => ?_)
    refine zg_iload (pc := 64) dX9_plan_64 rfl ?_
    refine zg_imul (pc := 66) dX9_plan_66 ?_
    refine zg_isub (pc := 67) dX9_plan_67 ?_
    refine zg_istore (pc := 68) dX9_plan_68 (by decide) (L' := [some (.ref 0), some (.int l1), some (.int l2), some (.int l3), some (.int l4), some (.int l5), some (.int l6), some (.int l7), some (.int (1000 - (r10 * l7))), none, none]) rfl ?_
    refine zg_ldc (pc := 70) dX9_plan_70 lc_X9_236 ?_
    refine zg_iload (pc := 72) dX9_plan_72 rfl ?_
    refine zg_iadd (pc := 74) dX9_plan_74 ?_
    refine zg_iconst (pc := 75) dX9_plan_75 (v := 1) (by decide) ?_
    refine zg_isub (pc := 76) dX9_plan_76 ?_
    refine zg_iload (pc := 77) dX9_plan_77 rfl ?_
    obtain ⟨hb, H⟩ := H
    refine zg_idiv (pc := 79) dX9_plan_79 hb ?_
    refine zg_istore (pc := 80) dX9_plan_80 (by decide) (L' := [some (.ref 0), some (.int l1), some (.int l2), some (.int l3), some (.int l4), some (.int l5), some (.int l6), some (.int l7), some (.int (1000 - (r10 * l7))), some (.int (((100000 + (1000 - (r10 * l7))) - 1) / (1000 - (r10 * l7)))), none]) rfl ?_
    refine zg_iload (pc := 82) dX9_plan_82 rfl ?_
    refine zg_aload_n (pc := 84) dX9_plan_84 rfl rfl ?_
    refine zg_getR (pc := 85) dX9_plan_85 lf_X9_21 kR_0 (by decide) rfl ?_
    refine zg_iload_n (pc := 88) dX9_plan_88 rfl rfl ?_
    obtain ⟨hb, H⟩ := H
    refine zg_iald (pc := 89) dX9_plan_89 kR_4 (by decide) hb ?_
    refine zg_imul (pc := 90) dX9_plan_90 ?_
    refine zg_iload (pc := 91) dX9_plan_91 rfl ?_
    refine zg_imul (pc := 93) dX9_plan_93 ?_
    refine zg_bipush (pc := 94) dX9_plan_94 (v := 100) (by decide) ?_
    refine zg_idiv (pc := 96) dX9_plan_96 (by decide) ?_
    refine zg_istore (pc := 97) dX9_plan_97 (by decide) (L' := [some (.ref 0), some (.int l1), some (.int l2), some (.int l3), some (.int l4), some (.int l5), some (.int l6), some (.int l7), some (.int (1000 - (r10 * l7))), some (.int (((100000 + (1000 - (r10 * l7))) - 1) / (1000 - (r10 * l7)))), some (.int (((l7 * (h9.1 4 (Int32.toNatClampNeg l1))) * (((100000 + (1000 - (r10 * l7))) - 1) / (1000 - (r10 * l7)))) / 100))]) rfl ?_
    refine zg_iload (pc := 99) dX9_plan_99 rfl ?_
    refine zg_if_eq (pc := 101) dX9_plan_101 (tgt := 121) (by decide) (fun hc => ?_) (fun hc => ?_)
    · replace H := H.1 hc
      refine zg_weak (L' := [some (.ref 0), some (.int l1), some (.int l2), some (.int l3), some (.int l4), none, none, some (.int l7), none, none, some (.int (((l7 * (h9.1 4 (Int32.toNatClampNeg l1))) * (((100000 + (1000 - (r10 * l7))) - 1) / (1000 - (r10 * l7)))) / 100))]) ⟨rfl, ⟨rfl, ⟨rfl, ⟨rfl, ⟨rfl, ⟨rfl, ⟨rfl, trivial⟩⟩⟩⟩⟩⟩⟩ ?_
      exact sd_X9_plan_j121 hag51 H
    · replace H := H.2 hc
      refine zg_iload (pc := 104) dX9_plan_104 rfl ?_
      refine zg_iload_n (pc := 106) dX9_plan_106 rfl rfl ?_
      refine zg_isub (pc := 107) dX9_plan_107 ?_
      refine zg_callSi (st := []) (pc := 108) dX9_plan_108 (As := [.int ((((l7 * (h9.1 4 (Int32.toNatClampNeg l1))) * (((100000 + (1000 - (r10 * l7))) - 1) / (1000 - (r10 * l7)))) / 100) - l3)]) lk_X9_170 rfl (Nat.le_of_ble_eq_true rfl) (Nat.le_of_ble_eq_true rfl) (sd_X9_sizeOf (d + 2) H) (fun r12 h11 H => ?_)
      refine zg_iload (pc := 111) dX9_plan_111 rfl ?_
      refine zg_iload_n (pc := 113) dX9_plan_113 rfl rfl ?_
      refine zg_isub (pc := 114) dX9_plan_114 ?_
      refine zg_callSi (st := [.int r12]) (pc := 115) dX9_plan_115 (As := [.int (l6 - l3)]) lk_X9_170 rfl (Nat.le_of_ble_eq_true rfl) (Nat.le_of_ble_eq_true rfl) (sd_X9_sizeOf (d + 2) H) (fun r14 h13 H => ?_)
      refine zg_icmp_ge (pc := 118) dX9_plan_118 (tgt := 129) (by decide) (fun hc => ?_) (fun hc => ?_)
      · replace H := H.1 hc
        refine zg_iinc (pc := 129) dX9_plan_129 rfl (v := l7 + 1) rfl (by decide) (L' := [some (.ref 0), some (.int l1), some (.int l2), some (.int l3), some (.int l4), some (.int l5), some (.int l6), some (.int (l7 + 1)), some (.int (1000 - (r10 * l7))), some (.int (((100000 + (1000 - (r10 * l7))) - 1) / (1000 - (r10 * l7)))), some (.int (((l7 * (h9.1 4 (Int32.toNatClampNeg l1))) * (((100000 + (1000 - (r10 * l7))) - 1) / (1000 - (r10 * l7)))) / 100))]) rfl ?_
        refine zg_goto (pc := 132) dX9_plan_132 (tgt := 51) (by decide) ?_
        refine zg_weak (L' := [some (.ref 0), some (.int l1), some (.int l2), some (.int l3), some (.int l4), some (.int l5), some (.int l6), some (.int (l7 + 1)), none, none, none]) ⟨rfl, ⟨rfl, ⟨rfl, ⟨rfl, ⟨rfl, ⟨rfl, ⟨rfl, ⟨rfl, trivial⟩⟩⟩⟩⟩⟩⟩⟩ ?_
        exact hag51 l5 l6 (l7 + 1) _ H
      · replace H := H.2 hc
        refine zg_weak (L' := [some (.ref 0), some (.int l1), some (.int l2), some (.int l3), some (.int l4), none, none, some (.int l7), none, none, some (.int (((l7 * (h9.1 4 (Int32.toNatClampNeg l1))) * (((100000 + (1000 - (r10 * l7))) - 1) / (1000 - (r10 * l7)))) / 100))]) ⟨rfl, ⟨rfl, ⟨rfl, ⟨rfl, ⟨rfl, ⟨rfl, ⟨rfl, trivial⟩⟩⟩⟩⟩⟩⟩ ?_
        exact sd_X9_plan_j121 hag51 H
set_option maxRecDepth 100000 in
theorem sd_X9_plan (d : Nat) {l1 : Int32} {l2 : Int32} {l3 : Int32} {l4 : Int32} {h : zz_Hp} {Q : Int32 → zz_Hp → Prop} (H : w_X9_plan l1 l2 l3 l4 h Q) : zz_G zKR zNR (d + 3) mX9_plan (qI Q) 0 (zz_L0 11 [.ref 0, .int l1, .int l2, .int l3, .int l4]) [] h := by
  show zz_G zKR zNR (d + 3) mX9_plan (qI Q) 0 [some (.ref 0), some (.int l1), some (.int l2), some (.int l3), some (.int l4), none, none, none, none, none, none] [] h
  unfold w_X9_plan at H
  refine zg_aload_n (pc := 0) dX9_plan_0 rfl rfl ?_
  refine zg_iload_n (pc := 1) dX9_plan_1 rfl rfl ?_
  refine zg_callVi (st := []) (pc := 2) dX9_plan_2 (As := [.int l1]) lk_X9_233 kR_0 (by decide) rfl (Nat.le_of_ble_eq_true rfl) (Nat.le_of_ble_eq_true rfl) (sd_X9_isThread d H) (fun r2 h1 H => ?_)
  refine zg_if_eq (pc := 5) dX9_plan_5 (tgt := 40) (by decide) (fun hc => ?_) (fun hc => ?_)
  · replace H := H.1 hc
    refine zg_iconst (pc := 40) dX9_plan_40 (v := (-1)) (by decide) ?_
    exact zg_iret (pc := 41) dX9_plan_41 rfl ⟨_, rfl, H⟩
  · replace H := H.2 hc
    refine zg_iload_n (pc := 8) dX9_plan_8 rfl rfl ?_
    refine zg_bipush (pc := 9) dX9_plan_9 (v := (-99)) (by decide) ?_
    refine zg_bipush (pc := 11) dX9_plan_11 (v := 99) (by decide) ?_
    refine zg_callSi (st := []) (pc := 13) dX9_plan_13 (As := [.int l2, .int ((-99)), .int 99]) lk_X9_143 rfl (Nat.le_of_ble_eq_true rfl) (Nat.le_of_ble_eq_true rfl) (sd_X9_in (d + 2) H) (fun r4 h3 H => ?_)
    refine zg_if_eq (pc := 16) dX9_plan_16 (tgt := 40) (by decide) (fun hc => ?_) (fun hc => ?_)
    · replace H := H.1 hc
      refine zg_iconst (pc := 40) dX9_plan_40 (v := (-1)) (by decide) ?_
      exact zg_iret (pc := 41) dX9_plan_41 rfl ⟨_, rfl, H⟩
    · replace H := H.2 hc
      refine zg_iload_n (pc := 19) dX9_plan_19 rfl rfl ?_
      refine zg_iconst (pc := 20) dX9_plan_20 (v := 0) (by decide) ?_
      refine zg_sipush (pc := 21) dX9_plan_21 (v := 9999) (by decide) ?_
      refine zg_callSi (st := []) (pc := 24) dX9_plan_24 (As := [.int l3, .int 0, .int 9999]) lk_X9_143 rfl (Nat.le_of_ble_eq_true rfl) (Nat.le_of_ble_eq_true rfl) (sd_X9_in (d + 2) H) (fun r6 h5 H => ?_)
      refine zg_if_eq (pc := 27) dX9_plan_27 (tgt := 40) (by decide) (fun hc => ?_) (fun hc => ?_)
      · replace H := H.1 hc
        refine zg_iconst (pc := 40) dX9_plan_40 (v := (-1)) (by decide) ?_
        exact zg_iret (pc := 41) dX9_plan_41 rfl ⟨_, rfl, H⟩
      · replace H := H.2 hc
        refine zg_iload (pc := 30) dX9_plan_30 rfl ?_
        refine zg_iconst (pc := 32) dX9_plan_32 (v := 0) (by decide) ?_
        refine zg_iconst (pc := 33) dX9_plan_33 (v := 1) (by decide) ?_
        refine zg_callSi (st := []) (pc := 34) dX9_plan_34 (As := [.int l4, .int 0, .int 1]) lk_X9_143 rfl (Nat.le_of_ble_eq_true rfl) (Nat.le_of_ble_eq_true rfl) (sd_X9_in (d + 2) H) (fun r8 h7 H => ?_)
        refine zg_if_ne (pc := 37) dX9_plan_37 (tgt := 42) (by decide) (fun hc => ?_) (fun hc => ?_)
        · replace H := H.1 hc
          refine zg_iconst (pc := 42) dX9_plan_42 (v := 0) (by decide) ?_
          refine zg_istore (pc := 43) dX9_plan_43 (by decide) (L' := [some (.ref 0), some (.int l1), some (.int l2), some (.int l3), some (.int l4), some (.int 0), none, none, none, none, none]) rfl ?_
          refine zg_iconst (pc := 45) dX9_plan_45 (v := 0) (by decide) ?_
          refine zg_istore (pc := 46) dX9_plan_46 (by decide) (L' := [some (.ref 0), some (.int l1), some (.int l2), some (.int l3), some (.int l4), some (.int 0), some (.int 0), none, none, none, none]) rfl ?_
          refine zg_iconst (pc := 48) dX9_plan_48 (v := 2) (by decide) ?_
          refine zg_istore (pc := 49) dX9_plan_49 (by decide) (L' := [some (.ref 0), some (.int l1), some (.int l2), some (.int l3), some (.int l4), some (.int 0), some (.int 0), some (.int 2), none, none, none]) rfl ?_
          exact sd_X9_plan_l51  H
        · replace H := H.2 hc
          refine zg_iconst (pc := 40) dX9_plan_40 (v := (-1)) (by decide) ?_
          exact zg_iret (pc := 41) dX9_plan_41 rfl ⟨_, rfl, H⟩
set_option maxRecDepth 100000 in
theorem sd_X9_lacks_l87 {d : Nat} {Q : Int32 → zz_Hp → Prop}  {l3 : Int32} {l4 : Int32} {h : zz_Hp}  (H : lp (fun s ag => w_X9_lacks_l87 ag Q  s.1 s.2.1 s.2.2) (l3, l4, h)) : zz_G zKR zNR (d + 9) mX9_lacks (qI Q) 87 [some (.ref 0), none, none, some (.int l3), some (.int l4)] [] h := by
  refine lp_sound (G := fun (s : Int32 × Int32 × zz_Hp) => zz_G zKR zNR (d + 9) mX9_lacks (qI Q) 87 [some (.ref 0), none, none, some (.int s.1), some (.int s.2.1)] [] s.2.2) ?_ H
  clear H
  intro s ag87 hag87 H
  obtain ⟨l3, l4, h⟩ := s
  replace hag87 : ∀ (l3 : Int32) (l4 : Int32) (h : zz_Hp), ag87 (l3, l4, h) → zz_G zKR zNR (d + 9) mX9_lacks (qI Q) 87 [some (.ref 0), none, none, some (.int l3), some (.int l4)] [] h := fun l3 l4 h H => hag87 (l3, l4, h) H
  replace H : w_X9_lacks_l87 ag87 Q  l3 l4 h := H
  show zz_G zKR zNR (d + 9) mX9_lacks (qI Q) 87 [some (.ref 0), none, none, some (.int l3), some (.int l4)] [] h
  unfold w_X9_lacks_l87 at H
  refine zg_iload (pc := 87) dX9_lacks_87 rfl ?_
  refine zg_aload_n (pc := 89) dX9_lacks_89 rfl rfl ?_
  refine zg_getI (pc := 90) dX9_lacks_90 lf_X9_139 kR_0 (by decide) rfl ?_
  refine zg_icmp_ge (pc := 93) dX9_lacks_93 (tgt := 129) (by decide) (fun hc => ?_) (fun hc => ?_)
  · replace H := H.1 hc
    refine zg_iload_n (pc := 129) dX9_lacks_129 rfl rfl ?_
    exact zg_zret (pc := 130) dX9_lacks_130 H.1 rfl ⟨_, rfl, H.2⟩
  · replace H := H.2 hc
    refine zg_iload_n (pc := 96) dX9_lacks_96 rfl rfl ?_
    refine zg_if_ne (pc := 97) dX9_lacks_97 (tgt := 117) (by decide) (fun hc => ?_) (fun hc => ?_)
    · replace H := H.1 hc
      refine zg_iconst (pc := 117) dX9_lacks_117 (v := 1) (by decide) ?_
      refine zg_goto (pc := 118) dX9_lacks_118 (tgt := 122) (by decide) ?_
      refine zg_istore_n (pc := 122) dX9_lacks_122 rfl (by decide) (L' := [some (.ref 0), none, none, some (.int 1), some (.int l4)]) rfl ?_
      refine zg_iinc (pc := 123) dX9_lacks_123 rfl (v := l4 + 1) rfl (by decide) (L' := [some (.ref 0), none, none, some (.int 1), some (.int (l4 + 1))]) rfl ?_
      refine zg_goto (pc := 126) dX9_lacks_126 (tgt := 87) (by decide) ?_
      exact hag87 1 (l4 + 1) _ H
    · replace H := H.2 hc
      refine zg_aload_n (pc := 100) dX9_lacks_100 rfl rfl ?_
      refine zg_getR (pc := 101) dX9_lacks_101 lf_X9_118 kR_0 (by decide) rfl ?_
      refine zg_iload (pc := 104) dX9_lacks_104 rfl ?_
      obtain ⟨hb, H⟩ := H
      refine zg_iald (pc := 106) dX9_lacks_106 kR_36 (by decide) hb ?_
      refine zg_aload_n (pc := 107) dX9_lacks_107 rfl rfl ?_
      refine zg_getR (pc := 108) dX9_lacks_108 lf_X9_27 kR_0 (by decide) rfl ?_
      refine zg_iload (pc := 111) dX9_lacks_111 rfl ?_
      obtain ⟨hb, H⟩ := H
      refine zg_iald (pc := 113) dX9_lacks_113 kR_6 (by decide) hb ?_
      refine zg_icmp_le (pc := 114) dX9_lacks_114 (tgt := 121) (by decide) (fun hc => ?_) (fun hc => ?_)
      · replace H := H.1 hc
        refine zg_iconst (pc := 121) dX9_lacks_121 (v := 0) (by decide) ?_
        refine zg_istore_n (pc := 122) dX9_lacks_122 rfl (by decide) (L' := [some (.ref 0), none, none, some (.int 0), some (.int l4)]) rfl ?_
        refine zg_iinc (pc := 123) dX9_lacks_123 rfl (v := l4 + 1) rfl (by decide) (L' := [some (.ref 0), none, none, some (.int 0), some (.int (l4 + 1))]) rfl ?_
        refine zg_goto (pc := 126) dX9_lacks_126 (tgt := 87) (by decide) ?_
        exact hag87 0 (l4 + 1) _ H
      · replace H := H.2 hc
        refine zg_iconst (pc := 117) dX9_lacks_117 (v := 1) (by decide) ?_
        refine zg_goto (pc := 118) dX9_lacks_118 (tgt := 122) (by decide) ?_
        refine zg_istore_n (pc := 122) dX9_lacks_122 rfl (by decide) (L' := [some (.ref 0), none, none, some (.int 1), some (.int l4)]) rfl ?_
        refine zg_iinc (pc := 123) dX9_lacks_123 rfl (v := l4 + 1) rfl (by decide) (L' := [some (.ref 0), none, none, some (.int 1), some (.int (l4 + 1))]) rfl ?_
        refine zg_goto (pc := 126) dX9_lacks_126 (tgt := 87) (by decide) ?_
        exact hag87 1 (l4 + 1) _ H
set_option maxRecDepth 100000 in
theorem sd_X9_lacks_l31 {d : Nat} {Q : Int32 → zz_Hp → Prop} {l1 : Int32} {l2 : Int32} {l3 : Int32} {h : zz_Hp}  (H : lp (fun s ag => w_X9_lacks_l31 ag Q l1 l2 s.1 s.2) (l3, h)) : zz_G zKR zNR (d + 9) mX9_lacks (qI Q) 31 [some (.ref 0), some (.int l1), some (.int l2), some (.int l3), none] [] h := by
  refine lp_sound (G := fun (s : Int32 × zz_Hp) => zz_G zKR zNR (d + 9) mX9_lacks (qI Q) 31 [some (.ref 0), some (.int l1), some (.int l2), some (.int s.1), none] [] s.2) ?_ H
  clear H
  intro s ag31 hag31 H
  obtain ⟨l3, h⟩ := s
  replace hag31 : ∀ (l3 : Int32) (h : zz_Hp), ag31 (l3, h) → zz_G zKR zNR (d + 9) mX9_lacks (qI Q) 31 [some (.ref 0), some (.int l1), some (.int l2), some (.int l3), none] [] h := fun l3 h H => hag31 (l3, h) H
  replace H : w_X9_lacks_l31 ag31 Q l1 l2 l3 h := H
  show zz_G zKR zNR (d + 9) mX9_lacks (qI Q) 31 [some (.ref 0), some (.int l1), some (.int l2), some (.int l3), none] [] h
  unfold w_X9_lacks_l31 at H
  refine zg_iload_n (pc := 31) dX9_lacks_31 rfl rfl ?_
  refine zg_aload_n (pc := 32) dX9_lacks_32 rfl rfl ?_
  refine zg_getI (pc := 33) dX9_lacks_33 lf_X9_173 kR_0 (by decide) rfl ?_
  refine zg_icmp_ge (pc := 36) dX9_lacks_36 (tgt := 65) (by decide) (fun hc => ?_) (fun hc => ?_)
  · replace H := H.1 hc
    refine zg_aload_n (pc := 65) dX9_lacks_65 rfl rfl ?_
    refine zg_getR (pc := 66) dX9_lacks_66 lf_X9_27 kR_0 (by decide) rfl ?_
    refine zg_iload_n (pc := 69) dX9_lacks_69 rfl rfl ?_
    obtain ⟨hb, H⟩ := H
    refine zg_iald (pc := 70) dX9_lacks_70 kR_6 (by decide) hb ?_
    refine zg_iload_n (pc := 71) dX9_lacks_71 rfl rfl ?_
    refine zg_iadd (pc := 72) dX9_lacks_72 ?_
    refine zg_ldc (pc := 73) dX9_lacks_73 lc_X9_189 ?_
    refine zg_icmp_le (pc := 75) dX9_lacks_75 (tgt := 82) (by decide) (fun hc => ?_) (fun hc => ?_)
    · replace H := H.1 hc
      refine zg_iconst (pc := 82) dX9_lacks_82 (v := 0) (by decide) ?_
      refine zg_istore_n (pc := 83) dX9_lacks_83 rfl (by decide) (L' := [some (.ref 0), some (.int l1), some (.int l2), some (.int 0), none]) rfl ?_
      refine zg_iconst (pc := 84) dX9_lacks_84 (v := 0) (by decide) ?_
      refine zg_istore (pc := 85) dX9_lacks_85 (by decide) (L' := [some (.ref 0), some (.int l1), some (.int l2), some (.int 0), some (.int 0)]) rfl ?_
      refine zg_weak (L' := [some (.ref 0), none, none, some (.int 0), some (.int 0)]) ⟨rfl, ⟨rfl, ⟨rfl, trivial⟩⟩⟩ ?_
      exact sd_X9_lacks_l87  H
    · replace H := H.2 hc
      refine zg_iconst (pc := 78) dX9_lacks_78 (v := 1) (by decide) ?_
      refine zg_goto (pc := 79) dX9_lacks_79 (tgt := 83) (by decide) ?_
      refine zg_istore_n (pc := 83) dX9_lacks_83 rfl (by decide) (L' := [some (.ref 0), some (.int l1), some (.int l2), some (.int 1), none]) rfl ?_
      refine zg_iconst (pc := 84) dX9_lacks_84 (v := 0) (by decide) ?_
      refine zg_istore (pc := 85) dX9_lacks_85 (by decide) (L' := [some (.ref 0), some (.int l1), some (.int l2), some (.int 1), some (.int 0)]) rfl ?_
      refine zg_weak (L' := [some (.ref 0), none, none, some (.int 1), some (.int 0)]) ⟨rfl, ⟨rfl, ⟨rfl, trivial⟩⟩⟩ ?_
      exact sd_X9_lacks_l87  H
  · replace H := H.2 hc
    refine zg_aload_n (pc := 39) dX9_lacks_39 rfl rfl ?_
    refine zg_getR (pc := 40) dX9_lacks_40 lf_X9_118 kR_0 (by decide) rfl ?_
    refine zg_aload_n (pc := 43) dX9_lacks_43 rfl rfl ?_
    refine zg_getR (pc := 44) dX9_lacks_44 lf_X9_102 kR_0 (by decide) rfl ?_
    refine zg_iload_n (pc := 47) dX9_lacks_47 rfl rfl ?_
    obtain ⟨hb, H⟩ := H
    refine zg_iald (pc := 48) dX9_lacks_48 kR_31 (by decide) hb ?_
    refine zg_dup2 (pc := 49) dX9_lacks_49 rfl rfl ?_
    obtain ⟨hb, H⟩ := H
    refine zg_iald (pc := 50) dX9_lacks_50 kR_36 (by decide) hb ?_
    refine zg_aload_n (pc := 51) dX9_lacks_51 rfl rfl ?_
    refine zg_getR (pc := 52) dX9_lacks_52 lf_X9_108 kR_0 (by decide) rfl ?_
    refine zg_iload_n (pc := 55) dX9_lacks_55 rfl rfl ?_
    obtain ⟨hb, H⟩ := H
    refine zg_iald (pc := 56) dX9_lacks_56 kR_33 (by decide) hb ?_
    refine zg_iadd (pc := 57) dX9_lacks_57 ?_
    obtain ⟨hb, H⟩ := H
    refine zg_iast (pc := 58) dX9_lacks_58 kR_36 (by decide) hb ?_
    generalize eh3 : zz_uI h 36 (Int32.toNatClampNeg (h.1 31 (Int32.toNatClampNeg l3))) ((h.1 36 (Int32.toNatClampNeg (h.1 31 (Int32.toNatClampNeg l3)))) + (h.1 33 (Int32.toNatClampNeg l3))) = h3
    replace H := H h3 eh3.symm
    refine zg_iinc (pc := 59) dX9_lacks_59 rfl (v := l3 + 1) rfl (by decide) (L' := [some (.ref 0), some (.int l1), some (.int l2), some (.int (l3 + 1)), none]) rfl ?_
    refine zg_goto (pc := 62) dX9_lacks_62 (tgt := 31) (by decide) ?_
    exact hag31 (l3 + 1) _ H
set_option maxRecDepth 100000 in
theorem sd_X9_lacks_l8 {d : Nat} {Q : Int32 → zz_Hp → Prop} {l1 : Int32} {l2 : Int32} {l3 : Int32} {h : zz_Hp}  (H : lp (fun s ag => w_X9_lacks_l8 ag Q l1 l2 s.1 s.2) (l3, h)) : zz_G zKR zNR (d + 9) mX9_lacks (qI Q) 8 [some (.ref 0), some (.int l1), some (.int l2), some (.int l3), none] [] h := by
  refine lp_sound (G := fun (s : Int32 × zz_Hp) => zz_G zKR zNR (d + 9) mX9_lacks (qI Q) 8 [some (.ref 0), some (.int l1), some (.int l2), some (.int s.1), none] [] s.2) ?_ H
  clear H
  intro s ag8 hag8 H
  obtain ⟨l3, h⟩ := s
  replace hag8 : ∀ (l3 : Int32) (h : zz_Hp), ag8 (l3, h) → zz_G zKR zNR (d + 9) mX9_lacks (qI Q) 8 [some (.ref 0), some (.int l1), some (.int l2), some (.int l3), none] [] h := fun l3 h H => hag8 (l3, h) H
  replace H : w_X9_lacks_l8 ag8 Q l1 l2 l3 h := H
  show zz_G zKR zNR (d + 9) mX9_lacks (qI Q) 8 [some (.ref 0), some (.int l1), some (.int l2), some (.int l3), none] [] h
  unfold w_X9_lacks_l8 at H
  refine zg_iload_n (pc := 8) dX9_lacks_8 rfl rfl ?_
  refine zg_aload_n (pc := 9) dX9_lacks_9 rfl rfl ?_
  refine zg_getI (pc := 10) dX9_lacks_10 lf_X9_139 kR_0 (by decide) rfl ?_
  refine zg_icmp_ge (pc := 13) dX9_lacks_13 (tgt := 29) (by decide) (fun hc => ?_) (fun hc => ?_)
  · replace H := H.1 hc
    refine zg_iconst (pc := 29) dX9_lacks_29 (v := 0) (by decide) ?_
    refine zg_istore_n (pc := 30) dX9_lacks_30 rfl (by decide) (L' := [some (.ref 0), some (.int l1), some (.int l2), some (.int 0), none]) rfl ?_
    exact sd_X9_lacks_l31  H
  · replace H := H.2 hc
    refine zg_aload_n (pc := 16) dX9_lacks_16 rfl rfl ?_
    refine zg_getR (pc := 17) dX9_lacks_17 lf_X9_118 kR_0 (by decide) rfl ?_
    refine zg_iload_n (pc := 20) dX9_lacks_20 rfl rfl ?_
    refine zg_iconst (pc := 21) dX9_lacks_21 (v := 0) (by decide) ?_
    obtain ⟨hb, H⟩ := H
    refine zg_iast (pc := 22) dX9_lacks_22 kR_36 (by decide) hb ?_
    generalize eh4 : zz_uI h 36 (Int32.toNatClampNeg l3) 0 = h4
    replace H := H h4 eh4.symm
    refine zg_iinc (pc := 23) dX9_lacks_23 rfl (v := l3 + 1) rfl (by decide) (L' := [some (.ref 0), some (.int l1), some (.int l2), some (.int (l3 + 1)), none]) rfl ?_
    refine zg_goto (pc := 26) dX9_lacks_26 (tgt := 8) (by decide) ?_
    exact hag8 (l3 + 1) _ H
set_option maxRecDepth 100000 in
theorem sd_X9_lacks (d : Nat) {l1 : Int32} {l2 : Int32} {h : zz_Hp} {Q : Int32 → zz_Hp → Prop} (H : w_X9_lacks l1 l2 h Q) : zz_G zKR zNR (d + 9) mX9_lacks (qI Q) 0 (zz_L0 5 [.ref 0, .int l1, .int l2]) [] h := by
  show zz_G zKR zNR (d + 9) mX9_lacks (qI Q) 0 [some (.ref 0), some (.int l1), some (.int l2), none, none] [] h
  unfold w_X9_lacks at H
  refine zg_aload_n (pc := 0) dX9_lacks_0 rfl rfl ?_
  refine zg_iload_n (pc := 1) dX9_lacks_1 rfl rfl ?_
  refine zg_iload_n (pc := 2) dX9_lacks_2 rfl rfl ?_
  refine zg_callVv (st := []) (pc := 3) dX9_lacks_3 (As := [.int l1, .int l2]) lk_X9_185 kR_0 (by decide) rfl (Nat.le_of_ble_eq_true rfl) (Nat.le_of_ble_eq_true rfl) (sd_X9_walkOver d H) (fun h1 H => ?_)
  refine zg_iconst (pc := 6) dX9_lacks_6 (v := 0) (by decide) ?_
  refine zg_istore_n (pc := 7) dX9_lacks_7 rfl (by decide) (L' := [some (.ref 0), some (.int l1), some (.int l2), some (.int 0), none]) rfl ?_
  exact sd_X9_lacks_l8  H
set_option maxRecDepth 100000 in
theorem sd_X9_can_l28 {d : Nat} {Q : Int32 → zz_Hp → Prop} {l1 : Int32} {l2 : Int32} {l3 : Int32} {h : zz_Hp}  (H : lp (fun s ag => w_X9_can_l28 ag Q l1 s.1 s.2.1 s.2.2) (l2, l3, h)) : zz_G zKR zNR (d + 10) mX9_can (qI Q) 28 [some (.ref 0), some (.int l1), some (.int l2), some (.int l3), none] [] h := by
  refine lp_sound (G := fun (s : Int32 × Int32 × zz_Hp) => zz_G zKR zNR (d + 10) mX9_can (qI Q) 28 [some (.ref 0), some (.int l1), some (.int s.1), some (.int s.2.1), none] [] s.2.2) ?_ H
  clear H
  intro s ag28 hag28 H
  obtain ⟨l2, l3, h⟩ := s
  replace hag28 : ∀ (l2 : Int32) (l3 : Int32) (h : zz_Hp), ag28 (l2, l3, h) → zz_G zKR zNR (d + 10) mX9_can (qI Q) 28 [some (.ref 0), some (.int l1), some (.int l2), some (.int l3), none] [] h := fun l2 l3 h H => hag28 (l2, l3, h) H
  replace H : w_X9_can_l28 ag28 Q l1 l2 l3 h := H
  show zz_G zKR zNR (d + 10) mX9_can (qI Q) 28 [some (.ref 0), some (.int l1), some (.int l2), some (.int l3), none] [] h
  unfold w_X9_can_l28 at H
  refine zg_iload_n (pc := 28) dX9_can_28 rfl rfl ?_
  refine zg_iload_n (pc := 29) dX9_can_29 rfl rfl ?_
  refine zg_icmp_ge (pc := 30) dX9_can_30 (tgt := 66) (by decide) (fun hc => ?_) (fun hc => ?_)
  · replace H := H.1 hc
    refine zg_iload_n (pc := 66) dX9_can_66 rfl rfl ?_
    exact zg_iret (pc := 67) dX9_can_67 rfl ⟨_, rfl, H⟩
  · replace H := H.2 hc
    refine zg_iload_n (pc := 33) dX9_can_33 rfl rfl ?_
    refine zg_iload_n (pc := 34) dX9_can_34 rfl rfl ?_
    refine zg_iadd (pc := 35) dX9_can_35 ?_
    refine zg_iconst (pc := 36) dX9_can_36 (v := 1) (by decide) ?_
    refine zg_iadd (pc := 37) dX9_can_37 ?_
    refine zg_iconst (pc := 38) dX9_can_38 (v := 2) (by decide) ?_
    refine zg_idiv (pc := 39) dX9_can_39 (by decide) ?_
    refine zg_istore (pc := 40) dX9_can_40 (by decide) (L' := [some (.ref 0), some (.int l1), some (.int l2), some (.int l3), some (.int (((l2 + l3) + 1) / 2))]) rfl ?_
    refine zg_aload_n (pc := 42) dX9_can_42 rfl rfl ?_
    refine zg_iload_n (pc := 43) dX9_can_43 rfl rfl ?_
    refine zg_iload (pc := 44) dX9_can_44 rfl ?_
    refine zg_callVi (st := []) (pc := 46) dX9_can_46 (As := [.int l1, .int (((l2 + l3) + 1) / 2)]) lk_X9_190 kR_0 (by decide) rfl (Nat.le_of_ble_eq_true rfl) (Nat.le_of_ble_eq_true rfl) (sd_X9_lacks d H) (fun r4 h3 H => ?_)
    refine zg_if_eq (pc := 49) dX9_can_49 (tgt := 60) (by decide) (fun hc => ?_) (fun hc => ?_)
    · replace H := H.1 hc
      refine zg_iload (pc := 60) dX9_can_60 rfl ?_
      refine zg_istore_n (pc := 62) dX9_can_62 rfl (by decide) (L' := [some (.ref 0), some (.int l1), some (.int (((l2 + l3) + 1) / 2)), some (.int l3), some (.int (((l2 + l3) + 1) / 2))]) rfl ?_
      refine zg_goto (pc := 63) dX9_can_63 (tgt := 28) (by decide) ?_
      refine zg_weak (L' := [some (.ref 0), some (.int l1), some (.int (((l2 + l3) + 1) / 2)), some (.int l3), none]) ⟨rfl, ⟨rfl, ⟨rfl, ⟨rfl, trivial⟩⟩⟩⟩ ?_
      exact hag28 (((l2 + l3) + 1) / 2) l3 _ H
    · replace H := H.2 hc
      refine zg_iload (pc := 52) dX9_can_52 rfl ?_
      refine zg_iconst (pc := 54) dX9_can_54 (v := 1) (by decide) ?_
      refine zg_isub (pc := 55) dX9_can_55 ?_
      refine zg_istore_n (pc := 56) dX9_can_56 rfl (by decide) (L' := [some (.ref 0), some (.int l1), some (.int l2), some (.int ((((l2 + l3) + 1) / 2) - 1)), some (.int (((l2 + l3) + 1) / 2))]) rfl ?_
      refine zg_goto (pc := 57) dX9_can_57 (tgt := 63) (by decide) ?_
      refine zg_goto (pc := 63) dX9_can_63 (tgt := 28) (by decide) ?_
      refine zg_weak (L' := [some (.ref 0), some (.int l1), some (.int l2), some (.int ((((l2 + l3) + 1) / 2) - 1)), none]) ⟨rfl, ⟨rfl, ⟨rfl, ⟨rfl, trivial⟩⟩⟩⟩ ?_
      exact hag28 l2 ((((l2 + l3) + 1) / 2) - 1) _ H
set_option maxRecDepth 100000 in
theorem sd_X9_can (d : Nat) {l1 : Int32} {h : zz_Hp} {Q : Int32 → zz_Hp → Prop} (H : w_X9_can l1 h Q) : zz_G zKR zNR (d + 10) mX9_can (qI Q) 0 (zz_L0 5 [.ref 0, .int l1]) [] h := by
  show zz_G zKR zNR (d + 10) mX9_can (qI Q) 0 [some (.ref 0), some (.int l1), none, none, none] [] h
  unfold w_X9_can at H
  refine zg_aload_n (pc := 0) dX9_can_0 rfl rfl ?_
  refine zg_iload_n (pc := 1) dX9_can_1 rfl rfl ?_
  refine zg_callVi (st := []) (pc := 2) dX9_can_2 (As := [.int l1]) lk_X9_147 kR_0 (by decide) rfl (Nat.le_of_ble_eq_true rfl) (Nat.le_of_ble_eq_true rfl) (sd_X9_isYarn (d + 8) H) (fun r2 h1 H => ?_)
  refine zg_if_ne (pc := 5) dX9_can_5 (tgt := 10) (by decide) (fun hc => ?_) (fun hc => ?_)
  · replace H := H.1 hc
    refine zg_aload_n (pc := 10) dX9_can_10 rfl rfl ?_
    refine zg_getR (pc := 11) dX9_can_11 lf_X9_9 kR_0 (by decide) rfl ?_
    refine zg_iload_n (pc := 14) dX9_can_14 rfl rfl ?_
    obtain ⟨hb, H⟩ := H
    refine zg_iald (pc := 15) dX9_can_15 kR_1 (by decide) hb ?_
    refine zg_if_ne (pc := 16) dX9_can_16 (tgt := 22) (by decide) (fun hc => ?_) (fun hc => ?_)
    · replace H := H.1 hc
      refine zg_iconst (pc := 22) dX9_can_22 (v := 0) (by decide) ?_
      refine zg_istore_n (pc := 23) dX9_can_23 rfl (by decide) (L' := [some (.ref 0), some (.int l1), some (.int 0), none, none]) rfl ?_
      refine zg_sipush (pc := 24) dX9_can_24 (v := 9999) (by decide) ?_
      refine zg_istore_n (pc := 27) dX9_can_27 rfl (by decide) (L' := [some (.ref 0), some (.int l1), some (.int 0), some (.int 9999), none]) rfl ?_
      exact sd_X9_can_l28  H
    · replace H := H.2 hc
      refine zg_bipush (pc := 19) dX9_can_19 (v := (-5)) (by decide) ?_
      exact zg_iret (pc := 21) dX9_can_21 rfl ⟨_, rfl, H⟩
  · replace H := H.2 hc
    refine zg_iconst (pc := 8) dX9_can_8 (v := (-1)) (by decide) ?_
    exact zg_iret (pc := 9) dX9_can_9 rfl ⟨_, rfl, H⟩
set_option maxRecDepth 100000 in
theorem sd_X9_areAlike_l82 {n d : Nat} {rc : Int32 → Int32 → Int32 → zz_Hp → (Int32 → zz_Hp → Prop) → Prop} {Q : Int32 → zz_Hp → Prop} {l1 : Int32} {l2 : Int32} {l3 : Int32} {l4 : Int32} {h : zz_Hp} (hrc : ∀ l1 l2 l3 (h : zz_Hp) (Q : Int32 → zz_Hp → Prop), rc l1 l2 l3 h Q → zz_G zKR zNR (d + n + 0) mX9_areAlike (qI Q) 0 (zz_L0 5 [.ref 0, .int l1, .int l2, .int l3]) [] h) (H : lp (fun s ag => w_X9_areAlike_l82 rc ag Q l1 l2 l3 s.1 s.2) (l4, h)) : zz_G zKR zNR (d + (n + 1) + 0) mX9_areAlike (qI Q) 82 [some (.ref 0), some (.int l1), some (.int l2), some (.int l3), some (.int l4)] [] h := by
  refine lp_sound (G := fun (s : Int32 × zz_Hp) => zz_G zKR zNR (d + (n + 1) + 0) mX9_areAlike (qI Q) 82 [some (.ref 0), some (.int l1), some (.int l2), some (.int l3), some (.int s.1)] [] s.2) ?_ H
  clear H
  intro s ag82 hag82 H
  obtain ⟨l4, h⟩ := s
  replace hag82 : ∀ (l4 : Int32) (h : zz_Hp), ag82 (l4, h) → zz_G zKR zNR (d + (n + 1) + 0) mX9_areAlike (qI Q) 82 [some (.ref 0), some (.int l1), some (.int l2), some (.int l3), some (.int l4)] [] h := fun l4 h H => hag82 (l4, h) H
  replace H : w_X9_areAlike_l82 rc ag82 Q l1 l2 l3 l4 h := H
  show zz_G zKR zNR (d + (n + 1) + 0) mX9_areAlike (qI Q) 82 [some (.ref 0), some (.int l1), some (.int l2), some (.int l3), some (.int l4)] [] h
  unfold w_X9_areAlike_l82 at H
  refine zg_iload (pc := 82) dX9_areAlike_82 rfl ?_
  refine zg_aload_n (pc := 84) dX9_areAlike_84 rfl rfl ?_
  refine zg_getR (pc := 85) dX9_areAlike_85 lf_X9_9 kR_0 (by decide) rfl ?_
  refine zg_iload_n (pc := 88) dX9_areAlike_88 rfl rfl ?_
  obtain ⟨hb, H⟩ := H
  refine zg_iald (pc := 89) dX9_areAlike_89 kR_1 (by decide) hb ?_
  refine zg_icmp_ge (pc := 90) dX9_areAlike_90 (tgt := 131) (by decide) (fun hc => ?_) (fun hc => ?_)
  · replace H := H.1 hc
    refine zg_iconst (pc := 131) dX9_areAlike_131 (v := 1) (by decide) ?_
    exact zg_zret (pc := 132) dX9_areAlike_132 (Or.inr rfl) rfl ⟨_, rfl, H⟩
  · replace H := H.2 hc
    refine zg_aload_n (pc := 93) dX9_areAlike_93 rfl rfl ?_
    refine zg_aload_n (pc := 94) dX9_areAlike_94 rfl rfl ?_
    refine zg_getR (pc := 95) dX9_areAlike_95 lf_X9_15 kR_0 (by decide) rfl ?_
    refine zg_iconst (pc := 98) dX9_areAlike_98 (v := 4) (by decide) ?_
    refine zg_iload_n (pc := 99) dX9_areAlike_99 rfl rfl ?_
    refine zg_imul (pc := 100) dX9_areAlike_100 ?_
    refine zg_iload (pc := 101) dX9_areAlike_101 rfl ?_
    refine zg_iadd (pc := 103) dX9_areAlike_103 ?_
    obtain ⟨hb, H⟩ := H
    refine zg_iald (pc := 104) dX9_areAlike_104 kR_2 (by decide) hb ?_
    refine zg_aload_n (pc := 105) dX9_areAlike_105 rfl rfl ?_
    refine zg_getR (pc := 106) dX9_areAlike_106 lf_X9_15 kR_0 (by decide) rfl ?_
    refine zg_iconst (pc := 109) dX9_areAlike_109 (v := 4) (by decide) ?_
    refine zg_iload_n (pc := 110) dX9_areAlike_110 rfl rfl ?_
    refine zg_imul (pc := 111) dX9_areAlike_111 ?_
    refine zg_iload (pc := 112) dX9_areAlike_112 rfl ?_
    refine zg_iadd (pc := 114) dX9_areAlike_114 ?_
    obtain ⟨hb, H⟩ := H
    refine zg_iald (pc := 115) dX9_areAlike_115 kR_2 (by decide) hb ?_
    refine zg_iload_n (pc := 116) dX9_areAlike_116 rfl rfl ?_
    refine zg_callVi (st := []) (pc := 117) dX9_areAlike_117 (As := [.int (h.1 2 (Int32.toNatClampNeg ((4 * l1) + l4))), .int (h.1 2 (Int32.toNatClampNeg ((4 * l2) + l4))), .int l3]) lk_X9_237 kR_0 (by decide) rfl (Nat.le_of_ble_eq_true rfl) (Nat.le_of_ble_eq_true rfl) (hrc (h.1 2 (Int32.toNatClampNeg ((4 * l1) + l4))) (h.1 2 (Int32.toNatClampNeg ((4 * l2) + l4))) l3 _ _ H) (fun r2 h1 H => ?_)
    refine zg_if_ne (pc := 120) dX9_areAlike_120 (tgt := 125) (by decide) (fun hc => ?_) (fun hc => ?_)
    · replace H := H.1 hc
      refine zg_iinc (pc := 125) dX9_areAlike_125 rfl (v := l4 + 1) rfl (by decide) (L' := [some (.ref 0), some (.int l1), some (.int l2), some (.int l3), some (.int (l4 + 1))]) rfl ?_
      refine zg_goto (pc := 128) dX9_areAlike_128 (tgt := 82) (by decide) ?_
      exact hag82 (l4 + 1) _ H
    · replace H := H.2 hc
      refine zg_iconst (pc := 123) dX9_areAlike_123 (v := 0) (by decide) ?_
      exact zg_zret (pc := 124) dX9_areAlike_124 (Or.inl rfl) rfl ⟨_, rfl, H⟩
set_option maxRecDepth 100000 in
theorem sd_X9_areAlike_b {n d : Nat} {rc : Int32 → Int32 → Int32 → zz_Hp → (Int32 → zz_Hp → Prop) → Prop} {l1 : Int32} {l2 : Int32} {l3 : Int32} {h : zz_Hp} {Q : Int32 → zz_Hp → Prop} (hrc : ∀ l1 l2 l3 (h : zz_Hp) (Q : Int32 → zz_Hp → Prop), rc l1 l2 l3 h Q → zz_G zKR zNR (d + n + 0) mX9_areAlike (qI Q) 0 (zz_L0 5 [.ref 0, .int l1, .int l2, .int l3]) [] h) (H : w_X9_areAlike_b rc l1 l2 l3 h Q) : zz_G zKR zNR (d + (n + 1) + 0) mX9_areAlike (qI Q) 0 [some (.ref 0), some (.int l1), some (.int l2), some (.int l3), none] [] h := by
  unfold w_X9_areAlike_b at H
  refine zg_aload_n (pc := 0) dX9_areAlike_0 rfl rfl ?_
  refine zg_getR (pc := 1) dX9_areAlike_1 lf_X9_9 kR_0 (by decide) rfl ?_
  refine zg_iload_n (pc := 4) dX9_areAlike_4 rfl rfl ?_
  obtain ⟨hb, H⟩ := H
  refine zg_iald (pc := 5) dX9_areAlike_5 kR_1 (by decide) hb ?_
  refine zg_aload_n (pc := 6) dX9_areAlike_6 rfl rfl ?_
  refine zg_getR (pc := 7) dX9_areAlike_7 lf_X9_9 kR_0 (by decide) rfl ?_
  refine zg_iload_n (pc := 10) dX9_areAlike_10 rfl rfl ?_
  obtain ⟨hb, H⟩ := H
  refine zg_iald (pc := 11) dX9_areAlike_11 kR_1 (by decide) hb ?_
  refine zg_icmp_ne (pc := 12) dX9_areAlike_12 (tgt := 32) (by decide) (fun hc => ?_) (fun hc => ?_)
  · replace H := H.1 hc
    refine zg_iconst (pc := 32) dX9_areAlike_32 (v := 0) (by decide) ?_
    exact zg_zret (pc := 33) dX9_areAlike_33 (Or.inl rfl) rfl ⟨_, rfl, H⟩
  · replace H := H.2 hc
    refine zg_aload_n (pc := 15) dX9_areAlike_15 rfl rfl ?_
    refine zg_getR (pc := 16) dX9_areAlike_16 lf_X9_24 kR_0 (by decide) rfl ?_
    refine zg_iload_n (pc := 19) dX9_areAlike_19 rfl rfl ?_
    obtain ⟨hb, H⟩ := H
    refine zg_iald (pc := 20) dX9_areAlike_20 kR_5 (by decide) hb ?_
    refine zg_iload_n (pc := 21) dX9_areAlike_21 rfl rfl ?_
    refine zg_aload_n (pc := 22) dX9_areAlike_22 rfl rfl ?_
    refine zg_getR (pc := 23) dX9_areAlike_23 lf_X9_24 kR_0 (by decide) rfl ?_
    refine zg_iload_n (pc := 26) dX9_areAlike_26 rfl rfl ?_
    obtain ⟨hb, H⟩ := H
    refine zg_iald (pc := 27) dX9_areAlike_27 kR_5 (by decide) hb ?_
    refine zg_imul (pc := 28) dX9_areAlike_28 ?_
    refine zg_icmp_eq (pc := 29) dX9_areAlike_29 (tgt := 34) (by decide) (fun hc => ?_) (fun hc => ?_)
    · replace H := H.1 hc
      refine zg_aload_n (pc := 34) dX9_areAlike_34 rfl rfl ?_
      refine zg_getR (pc := 35) dX9_areAlike_35 lf_X9_9 kR_0 (by decide) rfl ?_
      refine zg_iload_n (pc := 38) dX9_areAlike_38 rfl rfl ?_
      obtain ⟨hb, H⟩ := H
      refine zg_iald (pc := 39) dX9_areAlike_39 kR_1 (by decide) hb ?_
      refine zg_if_ne (pc := 40) dX9_areAlike_40 (tgt := 79) (by decide) (fun hc => ?_) (fun hc => ?_)
      · replace H := H.1 hc
        refine zg_iconst (pc := 79) dX9_areAlike_79 (v := 0) (by decide) ?_
        refine zg_istore (pc := 80) dX9_areAlike_80 (by decide) (L' := [some (.ref 0), some (.int l1), some (.int l2), some (.int l3), some (.int 0)]) rfl ?_
        exact sd_X9_areAlike_l82 hrc H
      · replace H := H.2 hc
        refine zg_aload_n (pc := 43) dX9_areAlike_43 rfl rfl ?_
        refine zg_getR (pc := 44) dX9_areAlike_44 lf_X9_18 kR_0 (by decide) rfl ?_
        refine zg_iload_n (pc := 47) dX9_areAlike_47 rfl rfl ?_
        obtain ⟨hb, H⟩ := H
        refine zg_iald (pc := 48) dX9_areAlike_48 kR_3 (by decide) hb ?_
        refine zg_aload_n (pc := 49) dX9_areAlike_49 rfl rfl ?_
        refine zg_getR (pc := 50) dX9_areAlike_50 lf_X9_18 kR_0 (by decide) rfl ?_
        refine zg_iload_n (pc := 53) dX9_areAlike_53 rfl rfl ?_
        obtain ⟨hb, H⟩ := H
        refine zg_iald (pc := 54) dX9_areAlike_54 kR_3 (by decide) hb ?_
        refine zg_icmp_ne (pc := 55) dX9_areAlike_55 (tgt := 77) (by decide) (fun hc => ?_) (fun hc => ?_)
        · replace H := H.1 hc
          refine zg_iconst (pc := 77) dX9_areAlike_77 (v := 0) (by decide) ?_
          exact zg_zret (pc := 78) dX9_areAlike_78 (Or.inl rfl) rfl ⟨_, rfl, H⟩
        · replace H := H.2 hc
          refine zg_aload_n (pc := 58) dX9_areAlike_58 rfl rfl ?_
          refine zg_getR (pc := 59) dX9_areAlike_59 lf_X9_21 kR_0 (by decide) rfl ?_
          refine zg_iload_n (pc := 62) dX9_areAlike_62 rfl rfl ?_
          obtain ⟨hb, H⟩ := H
          refine zg_iald (pc := 63) dX9_areAlike_63 kR_4 (by decide) hb ?_
          refine zg_aload_n (pc := 64) dX9_areAlike_64 rfl rfl ?_
          refine zg_getR (pc := 65) dX9_areAlike_65 lf_X9_21 kR_0 (by decide) rfl ?_
          refine zg_iload_n (pc := 68) dX9_areAlike_68 rfl rfl ?_
          obtain ⟨hb, H⟩ := H
          refine zg_iald (pc := 69) dX9_areAlike_69 kR_4 (by decide) hb ?_
          refine zg_icmp_ne (pc := 70) dX9_areAlike_70 (tgt := 77) (by decide) (fun hc => ?_) (fun hc => ?_)
          · replace H := H.1 hc
            refine zg_iconst (pc := 77) dX9_areAlike_77 (v := 0) (by decide) ?_
            exact zg_zret (pc := 78) dX9_areAlike_78 (Or.inl rfl) rfl ⟨_, rfl, H⟩
          · replace H := H.2 hc
            refine zg_iconst (pc := 73) dX9_areAlike_73 (v := 1) (by decide) ?_
            refine zg_goto (pc := 74) dX9_areAlike_74 (tgt := 78) (by decide) ?_
            exact zg_zret (pc := 78) dX9_areAlike_78 (Or.inr rfl) rfl ⟨_, rfl, H⟩
    · replace H := H.2 hc
      refine zg_iconst (pc := 32) dX9_areAlike_32 (v := 0) (by decide) ?_
      exact zg_zret (pc := 33) dX9_areAlike_33 (Or.inl rfl) rfl ⟨_, rfl, H⟩
theorem sd_X9_areAlike : ∀ (n d : Nat) {l1 : Int32} {l2 : Int32} {l3 : Int32} {h : zz_Hp} {Q : Int32 → zz_Hp → Prop} (_ : w_X9_areAlike n l1 l2 l3 h Q), zz_G zKR zNR (d + n + 0) mX9_areAlike (qI Q) 0 (zz_L0 5 [.ref 0, .int l1, .int l2, .int l3]) [] h := by
  intro n
  induction n with
  | zero => intro d l1 l2 l3 h Q H; exact H.elim
  | succ n ih => intro d l1 l2 l3 h Q H; exact sd_X9_areAlike_b (fun l1 l2 l3 h Q H => ih d H) H
set_option maxRecDepth 100000 in
theorem sd_X9_alike_j39 {d : Nat} {Q : Int32 → zz_Hp → Prop}  {s0 : Int32} {s1 : Int32} {s2 : Int32} {h : zz_Hp}  (H : w_X9_alike_j39 Q s0 s1 s2 h) : zz_G zKR zNR (d + 6) mX9_alike (qI Q) 39 [none, none, none, none] [.int s0, .int s1, .int s2, .ref 0] h := by
  unfold w_X9_alike_j39 at H
  refine zg_callVi (st := []) (pc := 39) dX9_alike_39 (As := [.int s2, .int s1, .int s0]) lk_X9_237 kR_0 (by decide) rfl (Nat.le_of_ble_eq_true rfl) (Nat.le_of_ble_eq_true rfl) (sd_X9_areAlike 5 d H) (fun r8 h7 H => ?_)
  refine zg_if_eq (pc := 42) dX9_alike_42 (tgt := 49) (by decide) (fun hc => ?_) (fun hc => ?_)
  · replace H := H.1 hc
    refine zg_iconst (pc := 49) dX9_alike_49 (v := 0) (by decide) ?_
    exact zg_iret (pc := 50) dX9_alike_50 rfl ⟨_, rfl, H⟩
  · replace H := H.2 hc
    refine zg_iconst (pc := 45) dX9_alike_45 (v := 1) (by decide) ?_
    refine zg_goto (pc := 46) dX9_alike_46 (tgt := 50) (by decide) ?_
    exact zg_iret (pc := 50) dX9_alike_50 rfl ⟨_, rfl, H⟩
set_option maxRecDepth 100000 in
theorem sd_X9_alike (d : Nat) {l1 : Int32} {l2 : Int32} {l3 : Int32} {h : zz_Hp} {Q : Int32 → zz_Hp → Prop} (H : w_X9_alike l1 l2 l3 h Q) : zz_G zKR zNR (d + 6) mX9_alike (qI Q) 0 (zz_L0 4 [.ref 0, .int l1, .int l2, .int l3]) [] h := by
  show zz_G zKR zNR (d + 6) mX9_alike (qI Q) 0 [some (.ref 0), some (.int l1), some (.int l2), some (.int l3)] [] h
  unfold w_X9_alike at H
  refine zg_aload_n (pc := 0) dX9_alike_0 rfl rfl ?_
  refine zg_iload_n (pc := 1) dX9_alike_1 rfl rfl ?_
  refine zg_callVi (st := []) (pc := 2) dX9_alike_2 (As := [.int l1]) lk_X9_147 kR_0 (by decide) rfl (Nat.le_of_ble_eq_true rfl) (Nat.le_of_ble_eq_true rfl) (sd_X9_isYarn (d + 4) H) (fun r2 h1 H => ?_)
  refine zg_if_eq (pc := 5) dX9_alike_5 (tgt := 25) (by decide) (fun hc => ?_) (fun hc => ?_)
  · replace H := H.1 hc
    refine zg_iconst (pc := 25) dX9_alike_25 (v := (-1)) (by decide) ?_
    exact zg_iret (pc := 26) dX9_alike_26 rfl ⟨_, rfl, H⟩
  · replace H := H.2 hc
    refine zg_aload_n (pc := 8) dX9_alike_8 rfl rfl ?_
    refine zg_iload_n (pc := 9) dX9_alike_9 rfl rfl ?_
    refine zg_callVi (st := []) (pc := 10) dX9_alike_10 (As := [.int l2]) lk_X9_147 kR_0 (by decide) rfl (Nat.le_of_ble_eq_true rfl) (Nat.le_of_ble_eq_true rfl) (sd_X9_isYarn (d + 4) H) (fun r4 h3 H => ?_)
    refine zg_if_eq (pc := 13) dX9_alike_13 (tgt := 25) (by decide) (fun hc => ?_) (fun hc => ?_)
    · replace H := H.1 hc
      refine zg_iconst (pc := 25) dX9_alike_25 (v := (-1)) (by decide) ?_
      exact zg_iret (pc := 26) dX9_alike_26 rfl ⟨_, rfl, H⟩
    · replace H := H.2 hc
      refine zg_iload_n (pc := 16) dX9_alike_16 rfl rfl ?_
      refine zg_iconst (pc := 17) dX9_alike_17 (v := 0) (by decide) ?_
      refine zg_iconst (pc := 18) dX9_alike_18 (v := 1) (by decide) ?_
      refine zg_callSi (st := []) (pc := 19) dX9_alike_19 (As := [.int l3, .int 0, .int 1]) lk_X9_143 rfl (Nat.le_of_ble_eq_true rfl) (Nat.le_of_ble_eq_true rfl) (sd_X9_in (d + 5) H) (fun r6 h5 H => ?_)
      refine zg_if_ne (pc := 22) dX9_alike_22 (tgt := 27) (by decide) (fun hc => ?_) (fun hc => ?_)
      · replace H := H.1 hc
        refine zg_aload_n (pc := 27) dX9_alike_27 rfl rfl ?_
        refine zg_iload_n (pc := 28) dX9_alike_28 rfl rfl ?_
        refine zg_iload_n (pc := 29) dX9_alike_29 rfl rfl ?_
        refine zg_iload_n (pc := 30) dX9_alike_30 rfl rfl ?_
        refine zg_if_ne (pc := 31) dX9_alike_31 (tgt := 38) (by decide) (fun hc => ?_) (fun hc => ?_)
        · replace H := H.1 hc
          refine zg_iconst (pc := 38) dX9_alike_38 (v := (-1)) (by decide) ?_
          refine zg_weak (L' := [none, none, none, none]) trivial ?_
          exact sd_X9_alike_j39  H
        · replace H := H.2 hc
          refine zg_iconst (pc := 34) dX9_alike_34 (v := 1) (by decide) ?_
          refine zg_goto (pc := 35) dX9_alike_35 (tgt := 39) (by decide) ?_
          refine zg_weak (L' := [none, none, none, none]) trivial ?_
          exact sd_X9_alike_j39  H
      · replace H := H.2 hc
        refine zg_iconst (pc := 25) dX9_alike_25 (v := (-1)) (by decide) ?_
        exact zg_iret (pc := 26) dX9_alike_26 rfl ⟨_, rfl, H⟩
set_option maxRecDepth 100000 in
theorem sd_X9_inside (d : Nat) {l1 : Int32} {h : zz_Hp} {Q : Int32 → zz_Hp → Prop} (H : w_X9_inside l1 h Q) : zz_G zKR zNR (d + 6) mX9_inside (qI Q) 0 (zz_L0 2 [.ref 0, .int l1]) [] h := by
  show zz_G zKR zNR (d + 6) mX9_inside (qI Q) 0 [some (.ref 0), some (.int l1)] [] h
  unfold w_X9_inside at H
  refine zg_aload_n (pc := 0) dX9_inside_0 rfl rfl ?_
  refine zg_iload_n (pc := 1) dX9_inside_1 rfl rfl ?_
  refine zg_callVi (st := []) (pc := 2) dX9_inside_2 (As := [.int l1]) lk_X9_147 kR_0 (by decide) rfl (Nat.le_of_ble_eq_true rfl) (Nat.le_of_ble_eq_true rfl) (sd_X9_isYarn (d + 4) H) (fun r2 h1 H => ?_)
  refine zg_if_eq (pc := 5) dX9_inside_5 (tgt := 16) (by decide) (fun hc => ?_) (fun hc => ?_)
  · replace H := H.1 hc
    refine zg_iconst (pc := 16) dX9_inside_16 (v := (-1)) (by decide) ?_
    exact zg_iret (pc := 17) dX9_inside_17 rfl ⟨_, rfl, H⟩
  · replace H := H.2 hc
    refine zg_aload_n (pc := 8) dX9_inside_8 rfl rfl ?_
    refine zg_iload_n (pc := 9) dX9_inside_9 rfl rfl ?_
    refine zg_callVi (st := []) (pc := 10) dX9_inside_10 (As := [.int l1]) lk_X9_155 kR_0 (by decide) rfl (Nat.le_of_ble_eq_true rfl) (Nat.le_of_ble_eq_true rfl) (sd_X9_bitsOf 5 d H) (fun r4 h3 H => ?_)
    refine zg_goto (pc := 13) dX9_inside_13 (tgt := 17) (by decide) ?_
    exact zg_iret (pc := 17) dX9_inside_17 rfl ⟨_, rfl, H⟩
set_option maxRecDepth 100000 in
theorem sd_X9_isMade_l13 {d : Nat} {Q : Int32 → zz_Hp → Prop} {l1 : Int32} {l2 : Int32} {l3 : Int32} {h : zz_Hp}  (H : lp (fun s ag => w_X9_isMade_l13 ag Q l1 l2 s.1 s.2) (l3, h)) : zz_G zKR zNR (d + 10) mX9_isMade (qI Q) 13 [some (.ref 0), some (.int l1), some (.int l2), some (.int l3)] [] h := by
  refine lp_sound (G := fun (s : Int32 × zz_Hp) => zz_G zKR zNR (d + 10) mX9_isMade (qI Q) 13 [some (.ref 0), some (.int l1), some (.int l2), some (.int s.1)] [] s.2) ?_ H
  clear H
  intro s ag13 hag13 H
  obtain ⟨l3, h⟩ := s
  replace hag13 : ∀ (l3 : Int32) (h : zz_Hp), ag13 (l3, h) → zz_G zKR zNR (d + 10) mX9_isMade (qI Q) 13 [some (.ref 0), some (.int l1), some (.int l2), some (.int l3)] [] h := fun l3 h H => hag13 (l3, h) H
  replace H : w_X9_isMade_l13 ag13 Q l1 l2 l3 h := H
  show zz_G zKR zNR (d + 10) mX9_isMade (qI Q) 13 [some (.ref 0), some (.int l1), some (.int l2), some (.int l3)] [] h
  unfold w_X9_isMade_l13 at H
  refine zg_iload_n (pc := 13) dX9_isMade_13 rfl rfl ?_
  refine zg_aload_n (pc := 14) dX9_isMade_14 rfl rfl ?_
  refine zg_getI (pc := 15) dX9_isMade_15 lf_X9_139 kR_0 (by decide) rfl ?_
  refine zg_icmp_ge (pc := 18) dX9_isMade_18 (tgt := 42) (by decide) (fun hc => ?_) (fun hc => ?_)
  · replace H := H.1 hc
    refine zg_aload_n (pc := 42) dX9_isMade_42 rfl rfl ?_
    refine zg_getR (pc := 43) dX9_isMade_43 lf_X9_27 kR_0 (by decide) rfl ?_
    refine zg_iload_n (pc := 46) dX9_isMade_46 rfl rfl ?_
    refine zg_dup2 (pc := 47) dX9_isMade_47 rfl rfl ?_
    obtain ⟨hb, H⟩ := H
    refine zg_iald (pc := 48) dX9_isMade_48 kR_6 (by decide) hb ?_
    refine zg_iload_n (pc := 49) dX9_isMade_49 rfl rfl ?_
    refine zg_iadd (pc := 50) dX9_isMade_50 ?_
    obtain ⟨hb, H⟩ := H
    refine zg_iast (pc := 51) dX9_isMade_51 kR_6 (by decide) hb ?_
    generalize eh3 : zz_uI h 6 (Int32.toNatClampNeg l1) ((h.1 6 (Int32.toNatClampNeg l1)) + l2) = h3
    replace H := H h3 eh3.symm
    refine zg_iconst (pc := 52) dX9_isMade_52 (v := 1) (by decide) ?_
    exact zg_zret (pc := 53) dX9_isMade_53 (Or.inr rfl) rfl ⟨_, rfl, H⟩
  · replace H := H.2 hc
    refine zg_aload_n (pc := 21) dX9_isMade_21 rfl rfl ?_
    refine zg_getR (pc := 22) dX9_isMade_22 lf_X9_27 kR_0 (by decide) rfl ?_
    refine zg_iload_n (pc := 25) dX9_isMade_25 rfl rfl ?_
    refine zg_dup2 (pc := 26) dX9_isMade_26 rfl rfl ?_
    obtain ⟨hb, H⟩ := H
    refine zg_iald (pc := 27) dX9_isMade_27 kR_6 (by decide) hb ?_
    refine zg_aload_n (pc := 28) dX9_isMade_28 rfl rfl ?_
    refine zg_getR (pc := 29) dX9_isMade_29 lf_X9_118 kR_0 (by decide) rfl ?_
    refine zg_iload_n (pc := 32) dX9_isMade_32 rfl rfl ?_
    obtain ⟨hb, H⟩ := H
    refine zg_iald (pc := 33) dX9_isMade_33 kR_36 (by decide) hb ?_
    refine zg_isub (pc := 34) dX9_isMade_34 ?_
    obtain ⟨hb, H⟩ := H
    refine zg_iast (pc := 35) dX9_isMade_35 kR_6 (by decide) hb ?_
    generalize eh4 : zz_uI h 6 (Int32.toNatClampNeg l3) ((h.1 6 (Int32.toNatClampNeg l3)) - (h.1 36 (Int32.toNatClampNeg l3))) = h4
    replace H := H h4 eh4.symm
    refine zg_iinc (pc := 36) dX9_isMade_36 rfl (v := l3 + 1) rfl (by decide) (L' := [some (.ref 0), some (.int l1), some (.int l2), some (.int (l3 + 1))]) rfl ?_
    refine zg_goto (pc := 39) dX9_isMade_39 (tgt := 13) (by decide) ?_
    exact hag13 (l3 + 1) _ H
set_option maxRecDepth 100000 in
theorem sd_X9_isMade (d : Nat) {l1 : Int32} {l2 : Int32} {h : zz_Hp} {Q : Int32 → zz_Hp → Prop} (H : w_X9_isMade l1 l2 h Q) : zz_G zKR zNR (d + 10) mX9_isMade (qI Q) 0 (zz_L0 4 [.ref 0, .int l1, .int l2]) [] h := by
  show zz_G zKR zNR (d + 10) mX9_isMade (qI Q) 0 [some (.ref 0), some (.int l1), some (.int l2), none] [] h
  unfold w_X9_isMade at H
  refine zg_aload_n (pc := 0) dX9_isMade_0 rfl rfl ?_
  refine zg_iload_n (pc := 1) dX9_isMade_1 rfl rfl ?_
  refine zg_iload_n (pc := 2) dX9_isMade_2 rfl rfl ?_
  refine zg_callVi (st := []) (pc := 3) dX9_isMade_3 (As := [.int l1, .int l2]) lk_X9_190 kR_0 (by decide) rfl (Nat.le_of_ble_eq_true rfl) (Nat.le_of_ble_eq_true rfl) (sd_X9_lacks d H) (fun r2 h1 H => ?_)
  refine zg_if_eq (pc := 6) dX9_isMade_6 (tgt := 11) (by decide) (fun hc => ?_) (fun hc => ?_)
  · replace H := H.1 hc
    refine zg_iconst (pc := 11) dX9_isMade_11 (v := 0) (by decide) ?_
    refine zg_istore_n (pc := 12) dX9_isMade_12 rfl (by decide) (L' := [some (.ref 0), some (.int l1), some (.int l2), some (.int 0)]) rfl ?_
    exact sd_X9_isMade_l13  H
  · replace H := H.2 hc
    refine zg_iconst (pc := 9) dX9_isMade_9 (v := 0) (by decide) ?_
    exact zg_zret (pc := 10) dX9_isMade_10 (Or.inl rfl) rfl ⟨_, rfl, H⟩
set_option maxRecDepth 100000 in
theorem sd_X9_make (d : Nat) {l1 : Int32} {l2 : Int32} {h : zz_Hp} {Q : Int32 → zz_Hp → Prop} (H : w_X9_make l1 l2 h Q) : zz_G zKR zNR (d + 11) mX9_make (qI Q) 0 (zz_L0 3 [.ref 0, .int l1, .int l2]) [] h := by
  show zz_G zKR zNR (d + 11) mX9_make (qI Q) 0 [some (.ref 0), some (.int l1), some (.int l2)] [] h
  unfold w_X9_make at H
  refine zg_aload_n (pc := 0) dX9_make_0 rfl rfl ?_
  refine zg_iload_n (pc := 1) dX9_make_1 rfl rfl ?_
  refine zg_callVi (st := []) (pc := 2) dX9_make_2 (As := [.int l1]) lk_X9_147 kR_0 (by decide) rfl (Nat.le_of_ble_eq_true rfl) (Nat.le_of_ble_eq_true rfl) (sd_X9_isYarn (d + 9) H) (fun r2 h1 H => ?_)
  refine zg_if_eq (pc := 5) dX9_make_5 (tgt := 19) (by decide) (fun hc => ?_) (fun hc => ?_)
  · replace H := H.1 hc
    refine zg_iconst (pc := 19) dX9_make_19 (v := (-1)) (by decide) ?_
    exact zg_iret (pc := 20) dX9_make_20 rfl ⟨_, rfl, H⟩
  · replace H := H.2 hc
    refine zg_iload_n (pc := 8) dX9_make_8 rfl rfl ?_
    refine zg_iconst (pc := 9) dX9_make_9 (v := 1) (by decide) ?_
    refine zg_sipush (pc := 10) dX9_make_10 (v := 9999) (by decide) ?_
    refine zg_callSi (st := []) (pc := 13) dX9_make_13 (As := [.int l2, .int 1, .int 9999]) lk_X9_143 rfl (Nat.le_of_ble_eq_true rfl) (Nat.le_of_ble_eq_true rfl) (sd_X9_in (d + 10) H) (fun r4 h3 H => ?_)
    refine zg_if_ne (pc := 16) dX9_make_16 (tgt := 21) (by decide) (fun hc => ?_) (fun hc => ?_)
    · replace H := H.1 hc
      refine zg_aload_n (pc := 21) dX9_make_21 rfl rfl ?_
      refine zg_getR (pc := 22) dX9_make_22 lf_X9_9 kR_0 (by decide) rfl ?_
      refine zg_iload_n (pc := 25) dX9_make_25 rfl rfl ?_
      obtain ⟨hb, H⟩ := H
      refine zg_iald (pc := 26) dX9_make_26 kR_1 (by decide) hb ?_
      refine zg_if_eq (pc := 27) dX9_make_27 (tgt := 39) (by decide) (fun hc => ?_) (fun hc => ?_)
      · replace H := H.1 hc
        refine zg_bipush (pc := 39) dX9_make_39 (v := (-5)) (by decide) ?_
        exact zg_iret (pc := 41) dX9_make_41 rfl ⟨_, rfl, H⟩
      · replace H := H.2 hc
        refine zg_aload_n (pc := 30) dX9_make_30 rfl rfl ?_
        refine zg_iload_n (pc := 31) dX9_make_31 rfl rfl ?_
        refine zg_iload_n (pc := 32) dX9_make_32 rfl rfl ?_
        refine zg_callVi (st := []) (pc := 33) dX9_make_33 (As := [.int l1, .int l2]) lk_X9_240 kR_0 (by decide) rfl (Nat.le_of_ble_eq_true rfl) (Nat.le_of_ble_eq_true rfl) (sd_X9_isMade d H) (fun r6 h5 H => ?_)
        refine zg_if_ne (pc := 36) dX9_make_36 (tgt := 42) (by decide) (fun hc => ?_) (fun hc => ?_)
        · replace H := H.1 hc
          refine zg_aload_n (pc := 42) dX9_make_42 rfl rfl ?_
          refine zg_iconst (pc := 43) dX9_make_43 (v := 0) (by decide) ?_
          refine zg_putI (pc := 44) dX9_make_44 lp_X9_206 kR_0 (by decide) rfl ?_
          generalize eh7 : zz_uI h5 0 16 0 = h7
          replace H := H h7 eh7.symm
          refine zg_aload_n (pc := 47) dX9_make_47 rfl rfl ?_
          refine zg_getR (pc := 48) dX9_make_48 lf_X9_27 kR_0 (by decide) rfl ?_
          refine zg_iload_n (pc := 51) dX9_make_51 rfl rfl ?_
          obtain ⟨hb, H⟩ := H
          refine zg_iald (pc := 52) dX9_make_52 kR_6 (by decide) hb ?_
          exact zg_iret (pc := 53) dX9_make_53 rfl ⟨_, rfl, H⟩
        · replace H := H.2 hc
          refine zg_bipush (pc := 39) dX9_make_39 (v := (-5)) (by decide) ?_
          exact zg_iret (pc := 41) dX9_make_41 rfl ⟨_, rfl, H⟩
    · replace H := H.2 hc
      refine zg_iconst (pc := 19) dX9_make_19 (v := (-1)) (by decide) ?_
      exact zg_iret (pc := 20) dX9_make_20 rfl ⟨_, rfl, H⟩
set_option maxRecDepth 100000 in
theorem sd_X9_lay (d : Nat) {l1 : Int32} {l2 : Int32} {l3 : Int32} {h : zz_Hp} {Q : Int32 → zz_Hp → Prop} (H : w_X9_lay l1 l2 l3 h Q) : zz_G zKR zNR (d + 2) mX9_lay (qI Q) 0 (zz_L0 4 [.ref 0, .int l1, .int l2, .int l3]) [] h := by
  show zz_G zKR zNR (d + 2) mX9_lay (qI Q) 0 [some (.ref 0), some (.int l1), some (.int l2), some (.int l3)] [] h
  unfold w_X9_lay at H
  refine zg_iload_n (pc := 0) dX9_lay_0 rfl rfl ?_
  refine zg_iconst (pc := 1) dX9_lay_1 (v := (-1)) (by decide) ?_
  refine zg_icmp_ne (pc := 2) dX9_lay_2 (tgt := 12) (by decide) (fun hc => ?_) (fun hc => ?_)
  · replace H := H.1 hc
    refine zg_aload_n (pc := 12) dX9_lay_12 rfl rfl ?_
    refine zg_iload_n (pc := 13) dX9_lay_13 rfl rfl ?_
    refine zg_callVi (st := []) (pc := 14) dX9_lay_14 (As := [.int l1]) lk_X9_147 kR_0 (by decide) rfl (Nat.le_of_ble_eq_true rfl) (Nat.le_of_ble_eq_true rfl) (sd_X9_isYarn d H) (fun r2 h1 H => ?_)
    refine zg_if_eq (pc := 17) dX9_lay_17 (tgt := 39) (by decide) (fun hc => ?_) (fun hc => ?_)
    · replace H := H.1 hc
      refine zg_iconst (pc := 39) dX9_lay_39 (v := (-1)) (by decide) ?_
      exact zg_iret (pc := 40) dX9_lay_40 rfl ⟨_, rfl, H⟩
    · replace H := H.2 hc
      refine zg_iload_n (pc := 20) dX9_lay_20 rfl rfl ?_
      refine zg_iconst (pc := 21) dX9_lay_21 (v := 1) (by decide) ?_
      refine zg_bipush (pc := 22) dX9_lay_22 (v := 40) (by decide) ?_
      refine zg_callSi (st := []) (pc := 24) dX9_lay_24 (As := [.int l2, .int 1, .int 40]) lk_X9_143 rfl (Nat.le_of_ble_eq_true rfl) (Nat.le_of_ble_eq_true rfl) (sd_X9_in (d + 1) H) (fun r4 h3 H => ?_)
      refine zg_if_eq (pc := 27) dX9_lay_27 (tgt := 39) (by decide) (fun hc => ?_) (fun hc => ?_)
      · replace H := H.1 hc
        refine zg_iconst (pc := 39) dX9_lay_39 (v := (-1)) (by decide) ?_
        exact zg_iret (pc := 40) dX9_lay_40 rfl ⟨_, rfl, H⟩
      · replace H := H.2 hc
        refine zg_iload_n (pc := 30) dX9_lay_30 rfl rfl ?_
        refine zg_iconst (pc := 31) dX9_lay_31 (v := 0) (by decide) ?_
        refine zg_iconst (pc := 32) dX9_lay_32 (v := 1) (by decide) ?_
        refine zg_callSi (st := []) (pc := 33) dX9_lay_33 (As := [.int l3, .int 0, .int 1]) lk_X9_143 rfl (Nat.le_of_ble_eq_true rfl) (Nat.le_of_ble_eq_true rfl) (sd_X9_in (d + 1) H) (fun r6 h5 H => ?_)
        refine zg_if_ne (pc := 36) dX9_lay_36 (tgt := 41) (by decide) (fun hc => ?_) (fun hc => ?_)
        · replace H := H.1 hc
          refine zg_aload_n (pc := 41) dX9_lay_41 rfl rfl ?_
          refine zg_getI (pc := 42) dX9_lay_42 lf_X9_200 kR_0 (by decide) rfl ?_
          refine zg_bipush (pc := 45) dX9_lay_45 (v := 8) (by decide) ?_
          refine zg_icmp_ne (pc := 47) dX9_lay_47 (tgt := 53) (by decide) (fun hc => ?_) (fun hc => ?_)
          · replace H := H.1 hc
            refine zg_aload_n (pc := 53) dX9_lay_53 rfl rfl ?_
            refine zg_getR (pc := 54) dX9_lay_54 lf_X9_33 kR_0 (by decide) rfl ?_
            refine zg_aload_n (pc := 57) dX9_lay_57 rfl rfl ?_
            refine zg_getI (pc := 58) dX9_lay_58 lf_X9_200 kR_0 (by decide) rfl ?_
            refine zg_iload_n (pc := 61) dX9_lay_61 rfl rfl ?_
            obtain ⟨hb, H⟩ := H
            refine zg_iast (pc := 62) dX9_lay_62 kR_8 (by decide) hb ?_
            generalize eh7 : zz_uI h5 8 (Int32.toNatClampNeg (h5.1 0 9)) l1 = h7
            replace H := H h7 eh7.symm
            refine zg_aload_n (pc := 63) dX9_lay_63 rfl rfl ?_
            refine zg_getR (pc := 64) dX9_lay_64 lf_X9_36 kR_0 (by decide) rfl ?_
            refine zg_aload_n (pc := 67) dX9_lay_67 rfl rfl ?_
            refine zg_getI (pc := 68) dX9_lay_68 lf_X9_200 kR_0 (by decide) rfl ?_
            refine zg_iload_n (pc := 71) dX9_lay_71 rfl rfl ?_
            obtain ⟨hb, H⟩ := H
            refine zg_iast (pc := 72) dX9_lay_72 kR_9 (by decide) hb ?_
            generalize eh8 : zz_uI h7 9 (Int32.toNatClampNeg (h7.1 0 9)) l2 = h8
            replace H := H h8 eh8.symm
            refine zg_aload_n (pc := 73) dX9_lay_73 rfl rfl ?_
            refine zg_getR (pc := 74) dX9_lay_74 lf_X9_39 kR_0 (by decide) rfl ?_
            refine zg_aload_n (pc := 77) dX9_lay_77 rfl rfl ?_
            refine zg_getI (pc := 78) dX9_lay_78 lf_X9_200 kR_0 (by decide) rfl ?_
            refine zg_iload_n (pc := 81) dX9_lay_81 rfl rfl ?_
            obtain ⟨hb, H⟩ := H
            refine zg_iast (pc := 82) dX9_lay_82 kR_10 (by decide) hb ?_
            generalize eh9 : zz_uI h8 10 (Int32.toNatClampNeg (h8.1 0 9)) l3 = h9
            replace H := H h9 eh9.symm
            refine zg_aload_n (pc := 83) dX9_lay_83 rfl rfl ?_
            refine zg_dup (pc := 84) dX9_lay_84 rfl ?_
            refine zg_getI (pc := 85) dX9_lay_85 lf_X9_200 kR_0 (by decide) rfl ?_
            refine zg_iconst (pc := 88) dX9_lay_88 (v := 1) (by decide) ?_
            refine zg_iadd (pc := 89) dX9_lay_89 ?_
            refine zg_putI (pc := 90) dX9_lay_90 lp_X9_200 kR_0 (by decide) rfl ?_
            generalize eh10 : zz_uI h9 0 9 ((h9.1 0 9) + 1) = h10
            replace H := H h10 eh10.symm
            refine zg_aload_n (pc := 93) dX9_lay_93 rfl rfl ?_
            refine zg_getI (pc := 94) dX9_lay_94 lf_X9_200 kR_0 (by decide) rfl ?_
            exact zg_iret (pc := 97) dX9_lay_97 rfl ⟨_, rfl, H⟩
          · replace H := H.2 hc
            refine zg_bipush (pc := 50) dX9_lay_50 (v := (-3)) (by decide) ?_
            exact zg_iret (pc := 52) dX9_lay_52 rfl ⟨_, rfl, H⟩
        · replace H := H.2 hc
          refine zg_iconst (pc := 39) dX9_lay_39 (v := (-1)) (by decide) ?_
          exact zg_iret (pc := 40) dX9_lay_40 rfl ⟨_, rfl, H⟩
  · replace H := H.2 hc
    refine zg_aload_n (pc := 5) dX9_lay_5 rfl rfl ?_
    refine zg_iconst (pc := 6) dX9_lay_6 (v := 0) (by decide) ?_
    refine zg_putI (pc := 7) dX9_lay_7 lp_X9_200 kR_0 (by decide) rfl ?_
    generalize eh11 : zz_uI h 0 9 0 = h11
    replace H := H h11 eh11.symm
    refine zg_iconst (pc := 10) dX9_lay_10 (v := 0) (by decide) ?_
    exact zg_iret (pc := 11) dX9_lay_11 rfl ⟨_, rfl, H⟩
set_option maxRecDepth 100000 in
theorem sd_X9_skewOf (d : Nat) {l1 : Int32} {h : zz_Hp} {Q : Int32 → zz_Hp → Prop} (H : w_X9_skewOf l1 h Q) : zz_G zKR zNR (d + 8) mX9_skewOf (qI Q) 0 (zz_L0 3 [.ref 0, .int l1]) [] h := by
  show zz_G zKR zNR (d + 8) mX9_skewOf (qI Q) 0 [some (.ref 0), some (.int l1), none] [] h
  unfold w_X9_skewOf at H
  refine zg_aload_n (pc := 0) dX9_skewOf_0 rfl rfl ?_
  refine zg_aload_n (pc := 1) dX9_skewOf_1 rfl rfl ?_
  refine zg_getR (pc := 2) dX9_skewOf_2 lf_X9_33 kR_0 (by decide) rfl ?_
  refine zg_iload_n (pc := 5) dX9_skewOf_5 rfl rfl ?_
  obtain ⟨hb, H⟩ := H
  refine zg_iald (pc := 6) dX9_skewOf_6 kR_8 (by decide) hb ?_
  refine zg_callVi (st := []) (pc := 7) dX9_skewOf_7 (As := [.int (h.1 8 (Int32.toNatClampNeg l1))]) lk_X9_217 kR_0 (by decide) rfl (Nat.le_of_ble_eq_true rfl) (Nat.le_of_ble_eq_true rfl) (sd_X9_torqueOf d H) (fun r2 h1 H => ?_)
  refine zg_aload_n (pc := 10) dX9_skewOf_10 rfl rfl ?_
  refine zg_getR (pc := 11) dX9_skewOf_11 lf_X9_36 kR_0 (by decide) rfl ?_
  refine zg_iload_n (pc := 14) dX9_skewOf_14 rfl rfl ?_
  obtain ⟨hb, H⟩ := H
  refine zg_iald (pc := 15) dX9_skewOf_15 kR_9 (by decide) hb ?_
  refine zg_imul (pc := 16) dX9_skewOf_16 ?_
  refine zg_istore_n (pc := 17) dX9_skewOf_17 rfl (by decide) (L' := [some (.ref 0), some (.int l1), some (.int (r2 * (h1.1 9 (Int32.toNatClampNeg l1))))]) rfl ?_
  refine zg_aload_n (pc := 18) dX9_skewOf_18 rfl rfl ?_
  refine zg_getR (pc := 19) dX9_skewOf_19 lf_X9_39 kR_0 (by decide) rfl ?_
  refine zg_iload_n (pc := 22) dX9_skewOf_22 rfl rfl ?_
  obtain ⟨hb, H⟩ := H
  refine zg_iald (pc := 23) dX9_skewOf_23 kR_10 (by decide) hb ?_
  refine zg_iconst (pc := 24) dX9_skewOf_24 (v := 1) (by decide) ?_
  refine zg_icmp_ne (pc := 25) dX9_skewOf_25 (tgt := 33) (by decide) (fun hc => ?_) (fun hc => ?_)
  · replace H := H.1 hc
    refine zg_iload_n (pc := 33) dX9_skewOf_33 rfl rfl ?_
    exact zg_iret (pc := 34) dX9_skewOf_34 rfl ⟨_, rfl, H⟩
  · replace H := H.2 hc
    refine zg_iload_n (pc := 28) dX9_skewOf_28 rfl rfl ?_
    refine zg_ineg (pc := 29) dX9_skewOf_29 ?_
    refine zg_goto (pc := 30) dX9_skewOf_30 (tgt := 34) (by decide) ?_
    exact zg_iret (pc := 34) dX9_skewOf_34 rfl ⟨_, rfl, H⟩
set_option maxRecDepth 100000 in
theorem sd_X9_skew_l19 {d : Nat} {Q : Int32 → zz_Hp → Prop} {l1 : Int32} {l2 : Int32} {l3 : Int32} {h : zz_Hp}  (H : lp (fun s ag => w_X9_skew_l19 ag Q l1 s.1 s.2.1 s.2.2) (l2, l3, h)) : zz_G zKR zNR (d + 9) mX9_skew (qI Q) 19 [some (.ref 0), some (.int l1), some (.int l2), some (.int l3)] [] h := by
  refine lp_sound (G := fun (s : Int32 × Int32 × zz_Hp) => zz_G zKR zNR (d + 9) mX9_skew (qI Q) 19 [some (.ref 0), some (.int l1), some (.int s.1), some (.int s.2.1)] [] s.2.2) ?_ H
  clear H
  intro s ag19 hag19 H
  obtain ⟨l2, l3, h⟩ := s
  replace hag19 : ∀ (l2 : Int32) (l3 : Int32) (h : zz_Hp), ag19 (l2, l3, h) → zz_G zKR zNR (d + 9) mX9_skew (qI Q) 19 [some (.ref 0), some (.int l1), some (.int l2), some (.int l3)] [] h := fun l2 l3 h H => hag19 (l2, l3, h) H
  replace H : w_X9_skew_l19 ag19 Q l1 l2 l3 h := H
  show zz_G zKR zNR (d + 9) mX9_skew (qI Q) 19 [some (.ref 0), some (.int l1), some (.int l2), some (.int l3)] [] h
  unfold w_X9_skew_l19 at H
  refine zg_iload_n (pc := 19) dX9_skew_19 rfl rfl ?_
  refine zg_iload_n (pc := 20) dX9_skew_20 rfl rfl ?_
  refine zg_icmp_ge (pc := 21) dX9_skew_21 (tgt := 38) (by decide) (fun hc => ?_) (fun hc => ?_)
  · replace H := H.1 hc
    refine zg_iload_n (pc := 38) dX9_skew_38 rfl rfl ?_
    exact zg_iret (pc := 39) dX9_skew_39 rfl ⟨_, rfl, H⟩
  · replace H := H.2 hc
    refine zg_iload_n (pc := 24) dX9_skew_24 rfl rfl ?_
    refine zg_aload_n (pc := 25) dX9_skew_25 rfl rfl ?_
    refine zg_iload_n (pc := 26) dX9_skew_26 rfl rfl ?_
    refine zg_callVi (st := [.int l2]) (pc := 27) dX9_skew_27 (As := [.int l3]) lk_X9_243 kR_0 (by decide) rfl (Nat.le_of_ble_eq_true rfl) (Nat.le_of_ble_eq_true rfl) (sd_X9_skewOf d H) (fun r4 h3 H => ?_)
    refine zg_iadd (pc := 30) dX9_skew_30 ?_
    refine zg_istore_n (pc := 31) dX9_skew_31 rfl (by decide) (L' := [some (.ref 0), some (.int l1), some (.int (l2 + r4)), some (.int l3)]) rfl ?_
    refine zg_iinc (pc := 32) dX9_skew_32 rfl (v := l3 + 1) rfl (by decide) (L' := [some (.ref 0), some (.int l1), some (.int (l2 + r4)), some (.int (l3 + 1))]) rfl ?_
    refine zg_goto (pc := 35) dX9_skew_35 (tgt := 19) (by decide) ?_
    exact hag19 (l2 + r4) (l3 + 1) _ H
set_option maxRecDepth 100000 in
theorem sd_X9_skew (d : Nat) {l1 : Int32} {h : zz_Hp} {Q : Int32 → zz_Hp → Prop} (H : w_X9_skew l1 h Q) : zz_G zKR zNR (d + 9) mX9_skew (qI Q) 0 (zz_L0 4 [.ref 0, .int l1]) [] h := by
  show zz_G zKR zNR (d + 9) mX9_skew (qI Q) 0 [some (.ref 0), some (.int l1), none, none] [] h
  unfold w_X9_skew at H
  refine zg_iload_n (pc := 0) dX9_skew_0 rfl rfl ?_
  refine zg_iconst (pc := 1) dX9_skew_1 (v := 0) (by decide) ?_
  refine zg_aload_n (pc := 2) dX9_skew_2 rfl rfl ?_
  refine zg_getI (pc := 3) dX9_skew_3 lf_X9_200 kR_0 (by decide) rfl ?_
  refine zg_callSi (st := []) (pc := 6) dX9_skew_6 (As := [.int l1, .int 0, .int (h.1 0 9)]) lk_X9_143 rfl (Nat.le_of_ble_eq_true rfl) (Nat.le_of_ble_eq_true rfl) (sd_X9_in (d + 8) H) (fun r2 h1 H => ?_)
  refine zg_if_ne (pc := 9) dX9_skew_9 (tgt := 15) (by decide) (fun hc => ?_) (fun hc => ?_)
  · replace H := H.1 hc
    refine zg_iconst (pc := 15) dX9_skew_15 (v := 0) (by decide) ?_
    refine zg_istore_n (pc := 16) dX9_skew_16 rfl (by decide) (L' := [some (.ref 0), some (.int l1), some (.int 0), none]) rfl ?_
    refine zg_iconst (pc := 17) dX9_skew_17 (v := 0) (by decide) ?_
    refine zg_istore_n (pc := 18) dX9_skew_18 rfl (by decide) (L' := [some (.ref 0), some (.int l1), some (.int 0), some (.int 0)]) rfl ?_
    exact sd_X9_skew_l19  H
  · replace H := H.2 hc
    refine zg_ldc (pc := 12) dX9_skew_12 lc_X9_209 ?_
    exact zg_iret (pc := 14) dX9_skew_14 rfl ⟨_, rfl, H⟩
set_option maxRecDepth 100000 in
theorem sd_X9_worst_l6 {d : Nat} {Q : Int32 → zz_Hp → Prop}  {l1 : Int32} {l2 : Int32} {l3 : Int32} {h : zz_Hp}  (H : lp (fun s ag => w_X9_worst_l6 ag Q  s.1 s.2.1 s.2.2.1 s.2.2.2) (l1, l2, l3, h)) : zz_G zKR zNR (d + 9) mX9_worst (qI Q) 6 [some (.ref 0), some (.int l1), some (.int l2), some (.int l3)] [] h := by
  refine lp_sound (G := fun (s : Int32 × Int32 × Int32 × zz_Hp) => zz_G zKR zNR (d + 9) mX9_worst (qI Q) 6 [some (.ref 0), some (.int s.1), some (.int s.2.1), some (.int s.2.2.1)] [] s.2.2.2) ?_ H
  clear H
  intro s ag6 hag6 H
  obtain ⟨l1, l2, l3, h⟩ := s
  replace hag6 : ∀ (l1 : Int32) (l2 : Int32) (l3 : Int32) (h : zz_Hp), ag6 (l1, l2, l3, h) → zz_G zKR zNR (d + 9) mX9_worst (qI Q) 6 [some (.ref 0), some (.int l1), some (.int l2), some (.int l3)] [] h := fun l1 l2 l3 h H => hag6 (l1, l2, l3, h) H
  replace H : w_X9_worst_l6 ag6 Q  l1 l2 l3 h := H
  show zz_G zKR zNR (d + 9) mX9_worst (qI Q) 6 [some (.ref 0), some (.int l1), some (.int l2), some (.int l3)] [] h
  unfold w_X9_worst_l6 at H
  refine zg_iload_n (pc := 6) dX9_worst_6 rfl rfl ?_
  refine zg_aload_n (pc := 7) dX9_worst_7 rfl rfl ?_
  refine zg_getI (pc := 8) dX9_worst_8 lf_X9_200 kR_0 (by decide) rfl ?_
  refine zg_icmp_ge (pc := 11) dX9_worst_11 (tgt := 45) (by decide) (fun hc => ?_) (fun hc => ?_)
  · replace H := H.1 hc
    refine zg_iload_n (pc := 45) dX9_worst_45 rfl rfl ?_
    exact zg_iret (pc := 46) dX9_worst_46 rfl ⟨_, rfl, H⟩
  · replace H := H.2 hc
    refine zg_iload_n (pc := 14) dX9_worst_14 rfl rfl ?_
    refine zg_aload_n (pc := 15) dX9_worst_15 rfl rfl ?_
    refine zg_iload_n (pc := 16) dX9_worst_16 rfl rfl ?_
    refine zg_callVi (st := [.int l2]) (pc := 17) dX9_worst_17 (As := [.int l3]) lk_X9_243 kR_0 (by decide) rfl (Nat.le_of_ble_eq_true rfl) (Nat.le_of_ble_eq_true rfl) (sd_X9_skewOf d H) (fun r2 h1 H => ?_)
    refine zg_iadd (pc := 20) dX9_worst_20 ?_
    refine zg_istore_n (pc := 21) dX9_worst_21 rfl (by decide) (L' := [some (.ref 0), some (.int l1), some (.int (l2 + r2)), some (.int l3)]) rfl ?_
    refine zg_iload_n (pc := 22) dX9_worst_22 rfl rfl ?_
    refine zg_callSi (st := []) (pc := 23) dX9_worst_23 (As := [.int (l2 + r2)]) lk_X9_170 rfl (Nat.le_of_ble_eq_true rfl) (Nat.le_of_ble_eq_true rfl) (sd_X9_sizeOf (d + 8) H) (fun r4 h3 H => ?_)
    refine zg_iload_n (pc := 26) dX9_worst_26 rfl rfl ?_
    refine zg_icmp_le (pc := 27) dX9_worst_27 (tgt := 37) (by decide) (fun hc => ?_) (fun hc => ?_)
    · replace H := H.1 hc
      refine zg_iload_n (pc := 37) dX9_worst_37 rfl rfl ?_
      refine zg_istore_n (pc := 38) dX9_worst_38 rfl (by decide) (L' := [some (.ref 0), some (.int l1), some (.int (l2 + r2)), some (.int l3)]) rfl ?_
      refine zg_iinc (pc := 39) dX9_worst_39 rfl (v := l3 + 1) rfl (by decide) (L' := [some (.ref 0), some (.int l1), some (.int (l2 + r2)), some (.int (l3 + 1))]) rfl ?_
      refine zg_goto (pc := 42) dX9_worst_42 (tgt := 6) (by decide) ?_
      exact hag6 l1 (l2 + r2) (l3 + 1) _ H
    · replace H := H.2 hc
      refine zg_iload_n (pc := 30) dX9_worst_30 rfl rfl ?_
      refine zg_callSi (st := []) (pc := 31) dX9_worst_31 (As := [.int (l2 + r2)]) lk_X9_170 rfl (Nat.le_of_ble_eq_true rfl) (Nat.le_of_ble_eq_true rfl) (sd_X9_sizeOf (d + 8) H) (fun r6 h5 H => ?_)
      refine zg_goto (pc := 34) dX9_worst_34 (tgt := 38) (by decide) ?_
      refine zg_istore_n (pc := 38) dX9_worst_38 rfl (by decide) (L' := [some (.ref 0), some (.int r6), some (.int (l2 + r2)), some (.int l3)]) rfl ?_
      refine zg_iinc (pc := 39) dX9_worst_39 rfl (v := l3 + 1) rfl (by decide) (L' := [some (.ref 0), some (.int r6), some (.int (l2 + r2)), some (.int (l3 + 1))]) rfl ?_
      refine zg_goto (pc := 42) dX9_worst_42 (tgt := 6) (by decide) ?_
      exact hag6 r6 (l2 + r2) (l3 + 1) _ H
set_option maxRecDepth 100000 in
theorem sd_X9_worst (d : Nat)  {h : zz_Hp} {Q : Int32 → zz_Hp → Prop} (H : w_X9_worst  h Q) : zz_G zKR zNR (d + 9) mX9_worst (qI Q) 0 (zz_L0 4 [.ref 0]) [] h := by
  show zz_G zKR zNR (d + 9) mX9_worst (qI Q) 0 [some (.ref 0), none, none, none] [] h
  unfold w_X9_worst at H
  refine zg_iconst (pc := 0) dX9_worst_0 (v := 0) (by decide) ?_
  refine zg_istore_n (pc := 1) dX9_worst_1 rfl (by decide) (L' := [some (.ref 0), some (.int 0), none, none]) rfl ?_
  refine zg_iconst (pc := 2) dX9_worst_2 (v := 0) (by decide) ?_
  refine zg_istore_n (pc := 3) dX9_worst_3 rfl (by decide) (L' := [some (.ref 0), some (.int 0), some (.int 0), none]) rfl ?_
  refine zg_iconst (pc := 4) dX9_worst_4 (v := 0) (by decide) ?_
  refine zg_istore_n (pc := 5) dX9_worst_5 rfl (by decide) (L' := [some (.ref 0), some (.int 0), some (.int 0), some (.int 0)]) rfl ?_
  exact sd_X9_worst_l6  H
set_option maxRecDepth 100000 in
theorem sd_X9_arrange_j129 {n d : Nat} {rc : Int32 → Int32 → Int32 → Int32 → zz_Hp → (zz_Hp → Prop) → Prop} {ag60 : Int32 × zz_Hp → Prop} {Q : zz_Hp → Prop} {l1 : Int32} {l2 : Int32} {l3 : Int32} {l4 : Int32} {l5 : Int32} {s0 : Int32} {s1 : Int32} {s2 : Int32} {s3 : Int32} {h : zz_Hp} (hrc : ∀ l1 l2 l3 l4 (h : zz_Hp) (Q : zz_Hp → Prop), rc l1 l2 l3 l4 h Q → zz_G zKR zNR (d + n + 1) mX9_arrange (qV Q) 0 (zz_L0 7 [.ref 0, .int l1, .int l2, .int l3, .int l4]) [] h) (hag60 : ∀ (l5 : Int32) (h : zz_Hp), ag60 (l5, h) → zz_G zKR zNR (d + (n + 1) + 1) mX9_arrange (qV Q) 60 [some (.ref 0), some (.int l1), some (.int l2), some (.int l3), some (.int l4), some (.int l5), none] [] h) (H : w_X9_arrange_j129 rc ag60 Q l1 l2 l3 l4 l5 s0 s1 s2 s3 h) : zz_G zKR zNR (d + (n + 1) + 1) mX9_arrange (qV Q) 129 [some (.ref 0), some (.int l1), some (.int l2), some (.int l3), some (.int l4), some (.int l5), none] [.int s0, .int s1, .int s2, .int s3, .ref 0] h := by
  unfold w_X9_arrange_j129 at H
  refine zg_callVv (st := []) (pc := 129) dX9_arrange_129 (As := [.int s3, .int s2, .int s1, .int s0]) lk_X9_249 kR_0 (by decide) rfl (Nat.le_of_ble_eq_true rfl) (Nat.le_of_ble_eq_true rfl) (hrc s3 s2 s1 s0 _ _ H) (fun h4 H => ?_)
  refine zg_iinc (pc := 132) dX9_arrange_132 rfl (v := l5 + 1) rfl (by decide) (L' := [some (.ref 0), some (.int l1), some (.int l2), some (.int l3), some (.int l4), some (.int (l5 + 1)), none]) rfl ?_
  refine zg_goto (pc := 135) dX9_arrange_135 (tgt := 60) (by decide) ?_
  exact hag60 (l5 + 1) _ H
set_option maxRecDepth 100000 in
theorem sd_X9_arrange_l60 {n d : Nat} {rc : Int32 → Int32 → Int32 → Int32 → zz_Hp → (zz_Hp → Prop) → Prop} {Q : zz_Hp → Prop} {l1 : Int32} {l2 : Int32} {l3 : Int32} {l4 : Int32} {l5 : Int32} {h : zz_Hp} (hrc : ∀ l1 l2 l3 l4 (h : zz_Hp) (Q : zz_Hp → Prop), rc l1 l2 l3 l4 h Q → zz_G zKR zNR (d + n + 1) mX9_arrange (qV Q) 0 (zz_L0 7 [.ref 0, .int l1, .int l2, .int l3, .int l4]) [] h) (H : lp (fun s ag => w_X9_arrange_l60 rc ag Q l1 l2 l3 l4 s.1 s.2) (l5, h)) : zz_G zKR zNR (d + (n + 1) + 1) mX9_arrange (qV Q) 60 [some (.ref 0), some (.int l1), some (.int l2), some (.int l3), some (.int l4), some (.int l5), none] [] h := by
  refine lp_sound (G := fun (s : Int32 × zz_Hp) => zz_G zKR zNR (d + (n + 1) + 1) mX9_arrange (qV Q) 60 [some (.ref 0), some (.int l1), some (.int l2), some (.int l3), some (.int l4), some (.int s.1), none] [] s.2) ?_ H
  clear H
  intro s ag60 hag60 H
  obtain ⟨l5, h⟩ := s
  replace hag60 : ∀ (l5 : Int32) (h : zz_Hp), ag60 (l5, h) → zz_G zKR zNR (d + (n + 1) + 1) mX9_arrange (qV Q) 60 [some (.ref 0), some (.int l1), some (.int l2), some (.int l3), some (.int l4), some (.int l5), none] [] h := fun l5 h H => hag60 (l5, h) H
  replace H : w_X9_arrange_l60 rc ag60 Q l1 l2 l3 l4 l5 h := H
  show zz_G zKR zNR (d + (n + 1) + 1) mX9_arrange (qV Q) 60 [some (.ref 0), some (.int l1), some (.int l2), some (.int l3), some (.int l4), some (.int l5), none] [] h
  unfold w_X9_arrange_l60 at H
  refine zg_iload (pc := 60) dX9_arrange_60 rfl ?_
  refine zg_aload_n (pc := 62) dX9_arrange_62 rfl rfl ?_
  refine zg_getI (pc := 63) dX9_arrange_63 lf_X9_200 kR_0 (by decide) rfl ?_
  refine zg_icmp_ge (pc := 66) dX9_arrange_66 (tgt := 138) (by decide) (fun hc => ?_) (fun hc => ?_)
  · replace H := H.1 hc
    exact zg_vret (pc := 138) dX9_arrange_138 rfl ⟨rfl, H⟩
  · replace H := H.2 hc
    refine zg_iload_n (pc := 69) dX9_arrange_69 rfl rfl ?_
    refine zg_iload (pc := 70) dX9_arrange_70 rfl ?_
    refine zg_ishr (pc := 72) dX9_arrange_72 ?_
    refine zg_iconst (pc := 73) dX9_arrange_73 (v := 1) (by decide) ?_
    refine zg_iand (pc := 74) dX9_arrange_74 ?_
    refine zg_if_ne (pc := 75) dX9_arrange_75 (tgt := 132) (by decide) (fun hc => ?_) (fun hc => ?_)
    · replace H := H.1 hc
      refine zg_iinc (pc := 132) dX9_arrange_132 rfl (v := l5 + 1) rfl (by decide) (L' := [some (.ref 0), some (.int l1), some (.int l2), some (.int l3), some (.int l4), some (.int (l5 + 1)), none]) rfl ?_
      refine zg_goto (pc := 135) dX9_arrange_135 (tgt := 60) (by decide) ?_
      exact hag60 (l5 + 1) _ H
    · replace H := H.2 hc
      refine zg_aload_n (pc := 78) dX9_arrange_78 rfl rfl ?_
      refine zg_getR (pc := 79) dX9_arrange_79 lf_X9_124 kR_0 (by decide) rfl ?_
      refine zg_iload_n (pc := 82) dX9_arrange_82 rfl rfl ?_
      refine zg_iload (pc := 83) dX9_arrange_83 rfl ?_
      obtain ⟨hb, H⟩ := H
      refine zg_iast (pc := 85) dX9_arrange_85 kR_38 (by decide) hb ?_
      generalize eh1 : zz_uI h 38 (Int32.toNatClampNeg l1) l5 = h1
      replace H := H h1 eh1.symm
      refine zg_iload_n (pc := 86) dX9_arrange_86 rfl rfl ?_
      refine zg_aload_n (pc := 87) dX9_arrange_87 rfl rfl ?_
      refine zg_getR (pc := 88) dX9_arrange_88 lf_X9_121 kR_0 (by decide) rfl ?_
      refine zg_iload (pc := 91) dX9_arrange_91 rfl ?_
      obtain ⟨hb, H⟩ := H
      refine zg_iald (pc := 93) dX9_arrange_93 kR_37 (by decide) hb ?_
      refine zg_iadd (pc := 94) dX9_arrange_94 ?_
      refine zg_istore (pc := 95) dX9_arrange_95 (by decide) (L' := [some (.ref 0), some (.int l1), some (.int l2), some (.int l3), some (.int l4), some (.int l5), some (.int (l3 + (h1.1 37 (Int32.toNatClampNeg l5))))]) rfl ?_
      refine zg_aload_n (pc := 97) dX9_arrange_97 rfl rfl ?_
      refine zg_iload_n (pc := 98) dX9_arrange_98 rfl rfl ?_
      refine zg_iconst (pc := 99) dX9_arrange_99 (v := 1) (by decide) ?_
      refine zg_iadd (pc := 100) dX9_arrange_100 ?_
      refine zg_iload_n (pc := 101) dX9_arrange_101 rfl rfl ?_
      refine zg_iconst (pc := 102) dX9_arrange_102 (v := 1) (by decide) ?_
      refine zg_iload (pc := 103) dX9_arrange_103 rfl ?_
      refine zg_ishl (pc := 105) dX9_arrange_105 ?_
      refine zg_ior (pc := 106) dX9_arrange_106 ?_
      refine zg_iload (pc := 107) dX9_arrange_107 rfl ?_
      refine zg_iload (pc := 109) dX9_arrange_109 rfl ?_
      refine zg_callSi (st := [.int (l3 + (h1.1 37 (Int32.toNatClampNeg l5))), .int (l2 ||| (1 <<< (l5 &&& 31))), .int (l1 + 1), .ref 0]) (pc := 111) dX9_arrange_111 (As := [.int (l3 + (h1.1 37 (Int32.toNatClampNeg l5)))]) lk_X9_170 rfl (Nat.le_of_ble_eq_true rfl) (Nat.le_of_ble_eq_true rfl) (sd_X9_sizeOf (d + (n + 1)) H) (fun r3 h2 H => ?_)
      refine zg_iload (pc := 114) dX9_arrange_114 rfl ?_
      refine zg_icmp_le (pc := 116) dX9_arrange_116 (tgt := 127) (by decide) (fun hc => ?_) (fun hc => ?_)
      · replace H := H.1 hc
        refine zg_iload (pc := 127) dX9_arrange_127 rfl ?_
        refine zg_weak (L' := [some (.ref 0), some (.int l1), some (.int l2), some (.int l3), some (.int l4), some (.int l5), none]) ⟨rfl, ⟨rfl, ⟨rfl, ⟨rfl, ⟨rfl, ⟨rfl, trivial⟩⟩⟩⟩⟩⟩ ?_
        exact sd_X9_arrange_j129 hrc hag60 H
      · replace H := H.2 hc
        refine zg_iload (pc := 119) dX9_arrange_119 rfl ?_
        refine zg_callSi (st := [.int (l3 + (h1.1 37 (Int32.toNatClampNeg l5))), .int (l2 ||| (1 <<< (l5 &&& 31))), .int (l1 + 1), .ref 0]) (pc := 121) dX9_arrange_121 (As := [.int (l3 + (h1.1 37 (Int32.toNatClampNeg l5)))]) lk_X9_170 rfl (Nat.le_of_ble_eq_true rfl) (Nat.le_of_ble_eq_true rfl) (sd_X9_sizeOf (d + (n + 1)) H) (fun r7 h6 H => ?_)
        refine zg_goto (pc := 124) dX9_arrange_124 (tgt := 129) (by decide) ?_
        refine zg_weak (L' := [some (.ref 0), some (.int l1), some (.int l2), some (.int l3), some (.int l4), some (.int l5), none]) ⟨rfl, ⟨rfl, ⟨rfl, ⟨rfl, ⟨rfl, ⟨rfl, trivial⟩⟩⟩⟩⟩⟩ ?_
        exact sd_X9_arrange_j129 hrc hag60 H
set_option maxRecDepth 100000 in
theorem sd_X9_arrange_l27 {n d : Nat} {rc : Int32 → Int32 → Int32 → Int32 → zz_Hp → (zz_Hp → Prop) → Prop} {Q : zz_Hp → Prop}  {l5 : Int32} {h : zz_Hp} (hrc : ∀ l1 l2 l3 l4 (h : zz_Hp) (Q : zz_Hp → Prop), rc l1 l2 l3 l4 h Q → zz_G zKR zNR (d + n + 1) mX9_arrange (qV Q) 0 (zz_L0 7 [.ref 0, .int l1, .int l2, .int l3, .int l4]) [] h) (H : lp (fun s ag => w_X9_arrange_l27 rc ag Q  s.1 s.2) (l5, h)) : zz_G zKR zNR (d + (n + 1) + 1) mX9_arrange (qV Q) 27 [some (.ref 0), none, none, none, none, some (.int l5), none] [] h := by
  refine lp_sound (G := fun (s : Int32 × zz_Hp) => zz_G zKR zNR (d + (n + 1) + 1) mX9_arrange (qV Q) 27 [some (.ref 0), none, none, none, none, some (.int s.1), none] [] s.2) ?_ H
  clear H
  intro s ag27 hag27 H
  obtain ⟨l5, h⟩ := s
  replace hag27 : ∀ (l5 : Int32) (h : zz_Hp), ag27 (l5, h) → zz_G zKR zNR (d + (n + 1) + 1) mX9_arrange (qV Q) 27 [some (.ref 0), none, none, none, none, some (.int l5), none] [] h := fun l5 h H => hag27 (l5, h) H
  replace H : w_X9_arrange_l27 rc ag27 Q  l5 h := H
  show zz_G zKR zNR (d + (n + 1) + 1) mX9_arrange (qV Q) 27 [some (.ref 0), none, none, none, none, some (.int l5), none] [] h
  unfold w_X9_arrange_l27 at H
  refine zg_iload (pc := 27) dX9_arrange_27 rfl ?_
  refine zg_aload_n (pc := 29) dX9_arrange_29 rfl rfl ?_
  refine zg_getI (pc := 30) dX9_arrange_30 lf_X9_200 kR_0 (by decide) rfl ?_
  refine zg_icmp_ge (pc := 33) dX9_arrange_33 (tgt := 56) (by decide) (fun hc => ?_) (fun hc => ?_)
  · replace H := H.1 hc
    exact zg_vret (pc := 56) dX9_arrange_56 rfl ⟨rfl, H⟩
  · replace H := H.2 hc
    refine zg_aload_n (pc := 36) dX9_arrange_36 rfl rfl ?_
    refine zg_getR (pc := 37) dX9_arrange_37 lf_X9_127 kR_0 (by decide) rfl ?_
    refine zg_iload (pc := 40) dX9_arrange_40 rfl ?_
    refine zg_aload_n (pc := 42) dX9_arrange_42 rfl rfl ?_
    refine zg_getR (pc := 43) dX9_arrange_43 lf_X9_124 kR_0 (by decide) rfl ?_
    refine zg_iload (pc := 46) dX9_arrange_46 rfl ?_
    obtain ⟨hb, H⟩ := H
    refine zg_iald (pc := 48) dX9_arrange_48 kR_38 (by decide) hb ?_
    obtain ⟨hb, H⟩ := H
    refine zg_iast (pc := 49) dX9_arrange_49 kR_39 (by decide) hb ?_
    generalize eh9 : zz_uI h 39 (Int32.toNatClampNeg l5) (h.1 38 (Int32.toNatClampNeg l5)) = h9
    replace H := H h9 eh9.symm
    refine zg_iinc (pc := 50) dX9_arrange_50 rfl (v := l5 + 1) rfl (by decide) (L' := [some (.ref 0), none, none, none, none, some (.int (l5 + 1)), none]) rfl ?_
    refine zg_goto (pc := 53) dX9_arrange_53 (tgt := 27) (by decide) ?_
    exact hag27 (l5 + 1) _ H
set_option maxRecDepth 100000 in
theorem sd_X9_arrange_b {n d : Nat} {rc : Int32 → Int32 → Int32 → Int32 → zz_Hp → (zz_Hp → Prop) → Prop} {l1 : Int32} {l2 : Int32} {l3 : Int32} {l4 : Int32} {h : zz_Hp} {Q : zz_Hp → Prop} (hrc : ∀ l1 l2 l3 l4 (h : zz_Hp) (Q : zz_Hp → Prop), rc l1 l2 l3 l4 h Q → zz_G zKR zNR (d + n + 1) mX9_arrange (qV Q) 0 (zz_L0 7 [.ref 0, .int l1, .int l2, .int l3, .int l4]) [] h) (H : w_X9_arrange_b rc l1 l2 l3 l4 h Q) : zz_G zKR zNR (d + (n + 1) + 1) mX9_arrange (qV Q) 0 [some (.ref 0), some (.int l1), some (.int l2), some (.int l3), some (.int l4), none, none] [] h := by
  unfold w_X9_arrange_b at H
  refine zg_iload (pc := 0) dX9_arrange_0 rfl ?_
  refine zg_aload_n (pc := 2) dX9_arrange_2 rfl rfl ?_
  refine zg_getI (pc := 3) dX9_arrange_3 lf_X9_246 kR_0 (by decide) rfl ?_
  refine zg_icmp_lt (pc := 6) dX9_arrange_6 (tgt := 10) (by decide) (fun hc => ?_) (fun hc => ?_)
  · replace H := H.1 hc
    refine zg_iload_n (pc := 10) dX9_arrange_10 rfl rfl ?_
    refine zg_aload_n (pc := 11) dX9_arrange_11 rfl rfl ?_
    refine zg_getI (pc := 12) dX9_arrange_12 lf_X9_200 kR_0 (by decide) rfl ?_
    refine zg_icmp_ne (pc := 15) dX9_arrange_15 (tgt := 57) (by decide) (fun hc => ?_) (fun hc => ?_)
    · replace H := H.1 hc
      refine zg_iconst (pc := 57) dX9_arrange_57 (v := 0) (by decide) ?_
      refine zg_istore (pc := 58) dX9_arrange_58 (by decide) (L' := [some (.ref 0), some (.int l1), some (.int l2), some (.int l3), some (.int l4), some (.int 0), none]) rfl ?_
      exact sd_X9_arrange_l60 hrc H
    · replace H := H.2 hc
      refine zg_aload_n (pc := 18) dX9_arrange_18 rfl rfl ?_
      refine zg_iload (pc := 19) dX9_arrange_19 rfl ?_
      refine zg_putI (pc := 21) dX9_arrange_21 lp_X9_246 kR_0 (by decide) rfl ?_
      generalize eh8 : zz_uI h 0 50 l4 = h8
      replace H := H h8 eh8.symm
      refine zg_iconst (pc := 24) dX9_arrange_24 (v := 0) (by decide) ?_
      refine zg_istore (pc := 25) dX9_arrange_25 (by decide) (L' := [some (.ref 0), some (.int l1), some (.int l2), some (.int l3), some (.int l4), some (.int 0), none]) rfl ?_
      refine zg_weak (L' := [some (.ref 0), none, none, none, none, some (.int 0), none]) ⟨rfl, ⟨rfl, trivial⟩⟩ ?_
      exact sd_X9_arrange_l27 hrc H
  · replace H := H.2 hc
    exact zg_vret (pc := 9) dX9_arrange_9 rfl ⟨rfl, H⟩
theorem sd_X9_arrange : ∀ (n d : Nat) {l1 : Int32} {l2 : Int32} {l3 : Int32} {l4 : Int32} {h : zz_Hp} {Q : zz_Hp → Prop} (_ : w_X9_arrange n l1 l2 l3 l4 h Q), zz_G zKR zNR (d + n + 1) mX9_arrange (qV Q) 0 (zz_L0 7 [.ref 0, .int l1, .int l2, .int l3, .int l4]) [] h := by
  intro n
  induction n with
  | zero => intro d l1 l2 l3 l4 h Q H; exact H.elim
  | succ n ih => intro d l1 l2 l3 l4 h Q H; exact sd_X9_arrange_b (fun l1 l2 l3 l4 h Q H => ih d H) H
set_option maxRecDepth 100000 in
theorem sd_X9_order_l18 {d : Nat} {Q : Int32 → zz_Hp → Prop} {l1 : Int32} {l2 : Int32} {h : zz_Hp}  (H : lp (fun s ag => w_X9_order_l18 ag Q l1 s.1 s.2) (l2, h)) : zz_G zKR zNR (d + 12) mX9_order (qI Q) 18 [some (.ref 0), some (.int l1), some (.int l2)] [] h := by
  refine lp_sound (G := fun (s : Int32 × zz_Hp) => zz_G zKR zNR (d + 12) mX9_order (qI Q) 18 [some (.ref 0), some (.int l1), some (.int s.1)] [] s.2) ?_ H
  clear H
  intro s ag18 hag18 H
  obtain ⟨l2, h⟩ := s
  replace hag18 : ∀ (l2 : Int32) (h : zz_Hp), ag18 (l2, h) → zz_G zKR zNR (d + 12) mX9_order (qI Q) 18 [some (.ref 0), some (.int l1), some (.int l2)] [] h := fun l2 h H => hag18 (l2, h) H
  replace H : w_X9_order_l18 ag18 Q l1 l2 h := H
  show zz_G zKR zNR (d + 12) mX9_order (qI Q) 18 [some (.ref 0), some (.int l1), some (.int l2)] [] h
  unfold w_X9_order_l18 at H
  refine zg_iload_n (pc := 18) dX9_order_18 rfl rfl ?_
  refine zg_aload_n (pc := 19) dX9_order_19 rfl rfl ?_
  refine zg_getI (pc := 20) dX9_order_20 lf_X9_200 kR_0 (by decide) rfl ?_
  refine zg_icmp_ge (pc := 23) dX9_order_23 (tgt := 43) (by decide) (fun hc => ?_) (fun hc => ?_)
  · replace H := H.1 hc
    refine zg_aload_n (pc := 43) dX9_order_43 rfl rfl ?_
    refine zg_ldc (pc := 44) dX9_order_44 lc_X9_253 ?_
    refine zg_putI (pc := 46) dX9_order_46 lp_X9_246 kR_0 (by decide) rfl ?_
    generalize eh3 : zz_uI h 0 50 2147483647 = h3
    replace H := H h3 eh3.symm
    refine zg_aload_n (pc := 49) dX9_order_49 rfl rfl ?_
    refine zg_iconst (pc := 50) dX9_order_50 (v := 0) (by decide) ?_
    refine zg_iconst (pc := 51) dX9_order_51 (v := 0) (by decide) ?_
    refine zg_iconst (pc := 52) dX9_order_52 (v := 0) (by decide) ?_
    refine zg_iconst (pc := 53) dX9_order_53 (v := 0) (by decide) ?_
    refine zg_callVv (st := []) (pc := 54) dX9_order_54 (As := [.int 0, .int 0, .int 0, .int 0]) lk_X9_249 kR_0 (by decide) rfl (Nat.le_of_ble_eq_true rfl) (Nat.le_of_ble_eq_true rfl) (sd_X9_arrange 10 d H) (fun h4 H => ?_)
    refine zg_iload_n (pc := 57) dX9_order_57 rfl rfl ?_
    refine zg_iconst (pc := 58) dX9_order_58 (v := (-1)) (by decide) ?_
    refine zg_icmp_ne (pc := 59) dX9_order_59 (tgt := 69) (by decide) (fun hc => ?_) (fun hc => ?_)
    · replace H := H.1 hc
      refine zg_aload_n (pc := 69) dX9_order_69 rfl rfl ?_
      refine zg_getR (pc := 70) dX9_order_70 lf_X9_127 kR_0 (by decide) rfl ?_
      refine zg_iload_n (pc := 73) dX9_order_73 rfl rfl ?_
      obtain ⟨hb, H⟩ := H
      refine zg_iald (pc := 74) dX9_order_74 kR_39 (by decide) hb ?_
      exact zg_iret (pc := 75) dX9_order_75 rfl ⟨_, rfl, H⟩
    · replace H := H.2 hc
      refine zg_aload_n (pc := 62) dX9_order_62 rfl rfl ?_
      refine zg_getI (pc := 63) dX9_order_63 lf_X9_246 kR_0 (by decide) rfl ?_
      refine zg_goto (pc := 66) dX9_order_66 (tgt := 75) (by decide) ?_
      exact zg_iret (pc := 75) dX9_order_75 rfl ⟨_, rfl, H⟩
  · replace H := H.2 hc
    refine zg_aload_n (pc := 26) dX9_order_26 rfl rfl ?_
    refine zg_getR (pc := 27) dX9_order_27 lf_X9_121 kR_0 (by decide) rfl ?_
    refine zg_iload_n (pc := 30) dX9_order_30 rfl rfl ?_
    refine zg_aload_n (pc := 31) dX9_order_31 rfl rfl ?_
    refine zg_iload_n (pc := 32) dX9_order_32 rfl rfl ?_
    refine zg_callVi (st := [.int l2, .ref 37]) (pc := 33) dX9_order_33 (As := [.int l2]) lk_X9_243 kR_0 (by decide) rfl (Nat.le_of_ble_eq_true rfl) (Nat.le_of_ble_eq_true rfl) (sd_X9_skewOf (d + 3) H) (fun r7 h6 H => ?_)
    obtain ⟨hb, H⟩ := H
    refine zg_iast (pc := 36) dX9_order_36 kR_37 (by decide) hb ?_
    generalize eh8 : zz_uI h6 37 (Int32.toNatClampNeg l2) r7 = h8
    replace H := H h8 eh8.symm
    refine zg_iinc (pc := 37) dX9_order_37 rfl (v := l2 + 1) rfl (by decide) (L' := [some (.ref 0), some (.int l1), some (.int (l2 + 1))]) rfl ?_
    refine zg_goto (pc := 40) dX9_order_40 (tgt := 18) (by decide) ?_
    exact hag18 (l2 + 1) _ H
set_option maxRecDepth 100000 in
theorem sd_X9_order (d : Nat) {l1 : Int32} {h : zz_Hp} {Q : Int32 → zz_Hp → Prop} (H : w_X9_order l1 h Q) : zz_G zKR zNR (d + 12) mX9_order (qI Q) 0 (zz_L0 3 [.ref 0, .int l1]) [] h := by
  show zz_G zKR zNR (d + 12) mX9_order (qI Q) 0 [some (.ref 0), some (.int l1), none] [] h
  unfold w_X9_order at H
  refine zg_iload_n (pc := 0) dX9_order_0 rfl rfl ?_
  refine zg_iconst (pc := 1) dX9_order_1 (v := (-1)) (by decide) ?_
  refine zg_aload_n (pc := 2) dX9_order_2 rfl rfl ?_
  refine zg_getI (pc := 3) dX9_order_3 lf_X9_200 kR_0 (by decide) rfl ?_
  refine zg_iconst (pc := 6) dX9_order_6 (v := 1) (by decide) ?_
  refine zg_isub (pc := 7) dX9_order_7 ?_
  refine zg_callSi (st := []) (pc := 8) dX9_order_8 (As := [.int l1, .int ((-1)), .int ((h.1 0 9) - 1)]) lk_X9_143 rfl (Nat.le_of_ble_eq_true rfl) (Nat.le_of_ble_eq_true rfl) (sd_X9_in (d + 11) H) (fun r2 h1 H => ?_)
  refine zg_if_ne (pc := 11) dX9_order_11 (tgt := 16) (by decide) (fun hc => ?_) (fun hc => ?_)
  · replace H := H.1 hc
    refine zg_iconst (pc := 16) dX9_order_16 (v := 0) (by decide) ?_
    refine zg_istore_n (pc := 17) dX9_order_17 rfl (by decide) (L' := [some (.ref 0), some (.int l1), some (.int 0)]) rfl ?_
    exact sd_X9_order_l18  H
  · replace H := H.2 hc
    refine zg_iconst (pc := 14) dX9_order_14 (v := (-1)) (by decide) ?_
    exact zg_iret (pc := 15) dX9_order_15 rfl ⟨_, rfl, H⟩
set_option maxRecDepth 100000 in
theorem sd_X9_turned_l10 {d : Nat} {Q : Int32 → zz_Hp → Prop}  {l1 : Int32} {l2 : Int32} {l3 : Int32} {h : zz_Hp}  (H : lp (fun s ag => w_X9_turned_l10 ag Q  s.1 s.2.1 s.2.2.1 s.2.2.2) (l1, l2, l3, h)) : zz_G zKR zNR (d + 10) mX9_turned (qI Q) 10 [some (.ref 0), some (.int l1), some (.int l2), some (.int l3), none] [] h := by
  refine lp_sound (G := fun (s : Int32 × Int32 × Int32 × zz_Hp) => zz_G zKR zNR (d + 10) mX9_turned (qI Q) 10 [some (.ref 0), some (.int s.1), some (.int s.2.1), some (.int s.2.2.1), none] [] s.2.2.2) ?_ H
  clear H
  intro s ag10 hag10 H
  obtain ⟨l1, l2, l3, h⟩ := s
  replace hag10 : ∀ (l1 : Int32) (l2 : Int32) (l3 : Int32) (h : zz_Hp), ag10 (l1, l2, l3, h) → zz_G zKR zNR (d + 10) mX9_turned (qI Q) 10 [some (.ref 0), some (.int l1), some (.int l2), some (.int l3), none] [] h := fun l1 l2 l3 h H => hag10 (l1, l2, l3, h) H
  replace H : w_X9_turned_l10 ag10 Q  l1 l2 l3 h := H
  show zz_G zKR zNR (d + 10) mX9_turned (qI Q) 10 [some (.ref 0), some (.int l1), some (.int l2), some (.int l3), none] [] h
  unfold w_X9_turned_l10 at H
  refine zg_iload_n (pc := 10) dX9_turned_10 rfl rfl ?_
  refine zg_aload_n (pc := 11) dX9_turned_11 rfl rfl ?_
  refine zg_getI (pc := 12) dX9_turned_12 lf_X9_200 kR_0 (by decide) rfl ?_
  refine zg_icmp_ge (pc := 15) dX9_turned_15 (tgt := 69) (by decide) (fun hc => ?_) (fun hc => ?_)
  · replace H := H.1 hc
    refine zg_iload_n (pc := 69) dX9_turned_69 rfl rfl ?_
    exact zg_iret (pc := 70) dX9_turned_70 rfl ⟨_, rfl, H⟩
  · replace H := H.2 hc
    refine zg_aload_n (pc := 18) dX9_turned_18 rfl rfl ?_
    refine zg_getR (pc := 19) dX9_turned_19 lf_X9_39 kR_0 (by decide) rfl ?_
    refine zg_iload_n (pc := 22) dX9_turned_22 rfl rfl ?_
    refine zg_iconst (pc := 23) dX9_turned_23 (v := 1) (by decide) ?_
    refine zg_aload_n (pc := 24) dX9_turned_24 rfl rfl ?_
    refine zg_getR (pc := 25) dX9_turned_25 lf_X9_39 kR_0 (by decide) rfl ?_
    refine zg_iload_n (pc := 28) dX9_turned_28 rfl rfl ?_
    obtain ⟨hb, H⟩ := H
    refine zg_iald (pc := 29) dX9_turned_29 kR_10 (by decide) hb ?_
    refine zg_isub (pc := 30) dX9_turned_30 ?_
    obtain ⟨hb, H⟩ := H
    refine zg_iast (pc := 31) dX9_turned_31 kR_10 (by decide) hb ?_
    generalize eh3 : zz_uI h 10 (Int32.toNatClampNeg l3) (1 - (h.1 10 (Int32.toNatClampNeg l3))) = h3
    replace H := H h3 eh3.symm
    refine zg_aload_n (pc := 32) dX9_turned_32 rfl rfl ?_
    refine zg_callVi (st := []) (pc := 33) dX9_turned_33 (As := []) lk_X9_254 kR_0 (by decide) rfl (Nat.le_of_ble_eq_true rfl) (Nat.le_of_ble_eq_true rfl) (sd_X9_worst d H) (fun r5 h4 H => ?_)
    refine zg_istore (pc := 36) dX9_turned_36 (by decide) (L' := [some (.ref 0), some (.int l1), some (.int l2), some (.int l3), some (.int r5)]) rfl ?_
    refine zg_aload_n (pc := 38) dX9_turned_38 rfl rfl ?_
    refine zg_getR (pc := 39) dX9_turned_39 lf_X9_39 kR_0 (by decide) rfl ?_
    refine zg_iload_n (pc := 42) dX9_turned_42 rfl rfl ?_
    refine zg_iconst (pc := 43) dX9_turned_43 (v := 1) (by decide) ?_
    refine zg_aload_n (pc := 44) dX9_turned_44 rfl rfl ?_
    refine zg_getR (pc := 45) dX9_turned_45 lf_X9_39 kR_0 (by decide) rfl ?_
    refine zg_iload_n (pc := 48) dX9_turned_48 rfl rfl ?_
    obtain ⟨hb, H⟩ := H
    refine zg_iald (pc := 49) dX9_turned_49 kR_10 (by decide) hb ?_
    refine zg_isub (pc := 50) dX9_turned_50 ?_
    obtain ⟨hb, H⟩ := H
    refine zg_iast (pc := 51) dX9_turned_51 kR_10 (by decide) hb ?_
    generalize eh6 : zz_uI h4 10 (Int32.toNatClampNeg l3) (1 - (h4.1 10 (Int32.toNatClampNeg l3))) = h6
    replace H := H h6 eh6.symm
    refine zg_iload (pc := 52) dX9_turned_52 rfl ?_
    refine zg_iload_n (pc := 54) dX9_turned_54 rfl rfl ?_
    refine zg_icmp_ge (pc := 55) dX9_turned_55 (tgt := 63) (by decide) (fun hc => ?_) (fun hc => ?_)
    · replace H := H.1 hc
      refine zg_iinc (pc := 63) dX9_turned_63 rfl (v := l3 + 1) rfl (by decide) (L' := [some (.ref 0), some (.int l1), some (.int l2), some (.int (l3 + 1)), some (.int r5)]) rfl ?_
      refine zg_goto (pc := 66) dX9_turned_66 (tgt := 10) (by decide) ?_
      refine zg_weak (L' := [some (.ref 0), some (.int l1), some (.int l2), some (.int (l3 + 1)), none]) ⟨rfl, ⟨rfl, ⟨rfl, ⟨rfl, trivial⟩⟩⟩⟩ ?_
      exact hag10 l1 l2 (l3 + 1) _ H
    · replace H := H.2 hc
      refine zg_iload_n (pc := 58) dX9_turned_58 rfl rfl ?_
      refine zg_istore_n (pc := 59) dX9_turned_59 rfl (by decide) (L' := [some (.ref 0), some (.int l3), some (.int l2), some (.int l3), some (.int r5)]) rfl ?_
      refine zg_iload (pc := 60) dX9_turned_60 rfl ?_
      refine zg_istore_n (pc := 62) dX9_turned_62 rfl (by decide) (L' := [some (.ref 0), some (.int l3), some (.int r5), some (.int l3), some (.int r5)]) rfl ?_
      refine zg_iinc (pc := 63) dX9_turned_63 rfl (v := l3 + 1) rfl (by decide) (L' := [some (.ref 0), some (.int l3), some (.int r5), some (.int (l3 + 1)), some (.int r5)]) rfl ?_
      refine zg_goto (pc := 66) dX9_turned_66 (tgt := 10) (by decide) ?_
      refine zg_weak (L' := [some (.ref 0), some (.int l3), some (.int r5), some (.int (l3 + 1)), none]) ⟨rfl, ⟨rfl, ⟨rfl, ⟨rfl, trivial⟩⟩⟩⟩ ?_
      exact hag10 l3 r5 (l3 + 1) _ H
set_option maxRecDepth 100000 in
theorem sd_X9_turned (d : Nat)  {h : zz_Hp} {Q : Int32 → zz_Hp → Prop} (H : w_X9_turned  h Q) : zz_G zKR zNR (d + 10) mX9_turned (qI Q) 0 (zz_L0 5 [.ref 0]) [] h := by
  show zz_G zKR zNR (d + 10) mX9_turned (qI Q) 0 [some (.ref 0), none, none, none, none] [] h
  unfold w_X9_turned at H
  refine zg_bipush (pc := 0) dX9_turned_0 (v := (-2)) (by decide) ?_
  refine zg_istore_n (pc := 2) dX9_turned_2 rfl (by decide) (L' := [some (.ref 0), some (.int ((-2))), none, none, none]) rfl ?_
  refine zg_aload_n (pc := 3) dX9_turned_3 rfl rfl ?_
  refine zg_callVi (st := []) (pc := 4) dX9_turned_4 (As := []) lk_X9_254 kR_0 (by decide) rfl (Nat.le_of_ble_eq_true rfl) (Nat.le_of_ble_eq_true rfl) (sd_X9_worst d H) (fun r2 h1 H => ?_)
  refine zg_istore_n (pc := 7) dX9_turned_7 rfl (by decide) (L' := [some (.ref 0), some (.int ((-2))), some (.int r2), none, none]) rfl ?_
  refine zg_iconst (pc := 8) dX9_turned_8 (v := 0) (by decide) ?_
  refine zg_istore_n (pc := 9) dX9_turned_9 rfl (by decide) (L' := [some (.ref 0), some (.int ((-2))), some (.int r2), some (.int 0), none]) rfl ?_
  exact sd_X9_turned_l10  H
set_option maxRecDepth 100000 in
theorem sd_X9_isTold_j68 {d : Nat} {Q : Int32 → zz_Hp → Prop} {l4 : Int32} {l5 : Int32} {l6 : Int32}  {h : zz_Hp}  (H : w_X9_isTold_j68 Q l4 l5 l6 h) : zz_G zKR zNR (d + 8) mX9_isTold (qI Q) 68 [some (.ref 0), none, none, none, some (.int l4), some (.int l5), some (.int l6), none] [] h := by
  unfold w_X9_isTold_j68 at H
  refine zg_aload_n (pc := 68) dX9_isTold_68 rfl rfl ?_
  refine zg_getR (pc := 69) dX9_isTold_69 lf_X9_24 kR_0 (by decide) rfl ?_
  refine zg_iload (pc := 72) dX9_isTold_72 rfl ?_
  refine zg_iload (pc := 74) dX9_isTold_74 rfl ?_
  obtain ⟨hb, H⟩ := H
  refine zg_iast (pc := 76) dX9_isTold_76 kR_5 (by decide) hb ?_
  generalize eh1 : zz_uI h 5 (Int32.toNatClampNeg l4) l5 = h1
  replace H := H h1 eh1.symm
  refine zg_iload (pc := 77) dX9_isTold_77 rfl ?_
  exact zg_zret (pc := 79) dX9_isTold_79 H.1 rfl ⟨_, rfl, H.2⟩
set_option maxRecDepth 100000 in
theorem sd_X9_isTold_l15 {d : Nat} {Q : Int32 → zz_Hp → Prop} {l1 : Int32} {l2 : Int32} {l3 : Int32} {l4 : Int32} {l5 : Int32} {l6 : Int32} {l7 : Int32} {h : zz_Hp}  (H : lp (fun s ag => w_X9_isTold_l15 ag Q l1 l2 l3 l4 l5 s.1 s.2.1 s.2.2) (l6, l7, h)) : zz_G zKR zNR (d + 8) mX9_isTold (qI Q) 15 [some (.ref 0), some (.int l1), some (.int l2), some (.int l3), some (.int l4), some (.int l5), some (.int l6), some (.int l7)] [] h := by
  refine lp_sound (G := fun (s : Int32 × Int32 × zz_Hp) => zz_G zKR zNR (d + 8) mX9_isTold (qI Q) 15 [some (.ref 0), some (.int l1), some (.int l2), some (.int l3), some (.int l4), some (.int l5), some (.int s.1), some (.int s.2.1)] [] s.2.2) ?_ H
  clear H
  intro s ag15 hag15 H
  obtain ⟨l6, l7, h⟩ := s
  replace hag15 : ∀ (l6 : Int32) (l7 : Int32) (h : zz_Hp), ag15 (l6, l7, h) → zz_G zKR zNR (d + 8) mX9_isTold (qI Q) 15 [some (.ref 0), some (.int l1), some (.int l2), some (.int l3), some (.int l4), some (.int l5), some (.int l6), some (.int l7)] [] h := fun l6 l7 h H => hag15 (l6, l7, h) H
  replace H : w_X9_isTold_l15 ag15 Q l1 l2 l3 l4 l5 l6 l7 h := H
  show zz_G zKR zNR (d + 8) mX9_isTold (qI Q) 15 [some (.ref 0), some (.int l1), some (.int l2), some (.int l3), some (.int l4), some (.int l5), some (.int l6), some (.int l7)] [] h
  unfold w_X9_isTold_l15 at H
  refine zg_iload (pc := 15) dX9_isTold_15 rfl ?_
  refine zg_iload_n (pc := 17) dX9_isTold_17 rfl rfl ?_
  refine zg_icmp_ge (pc := 18) dX9_isTold_18 (tgt := 68) (by decide) (fun hc => ?_) (fun hc => ?_)
  · replace H := H.1 hc
    refine zg_weak (L' := [some (.ref 0), none, none, none, some (.int l4), some (.int l5), some (.int l6), none]) ⟨rfl, ⟨rfl, ⟨rfl, ⟨rfl, trivial⟩⟩⟩⟩ ?_
    exact sd_X9_isTold_j68  H
  · replace H := H.2 hc
    refine zg_iload (pc := 21) dX9_isTold_21 rfl ?_
    refine zg_if_eq (pc := 23) dX9_isTold_23 (tgt := 68) (by decide) (fun hc => ?_) (fun hc => ?_)
    · replace H := H.1 hc
      refine zg_weak (L' := [some (.ref 0), none, none, none, some (.int l4), some (.int l5), some (.int l6), none]) ⟨rfl, ⟨rfl, ⟨rfl, ⟨rfl, trivial⟩⟩⟩⟩ ?_
      exact sd_X9_isTold_j68  H
    · replace H := H.2 hc
      refine zg_aload_n (pc := 26) dX9_isTold_26 rfl rfl ?_
      refine zg_getR (pc := 27) dX9_isTold_27 lf_X9_24 kR_0 (by decide) rfl ?_
      refine zg_iload (pc := 30) dX9_isTold_30 rfl ?_
      refine zg_iload (pc := 32) dX9_isTold_32 rfl ?_
      obtain ⟨hb, H⟩ := H
      refine zg_iast (pc := 34) dX9_isTold_34 kR_5 (by decide) hb ?_
      generalize eh2 : zz_uI h 5 (Int32.toNatClampNeg l4) l7 = h2
      replace H := H h2 eh2.symm
      refine zg_aload_n (pc := 35) dX9_isTold_35 rfl rfl ?_
      refine zg_iload_n (pc := 36) dX9_isTold_36 rfl rfl ?_
      refine zg_callVi (st := []) (pc := 37) dX9_isTold_37 (As := [.int l3]) lk_X9_217 kR_0 (by decide) rfl (Nat.le_of_ble_eq_true rfl) (Nat.le_of_ble_eq_true rfl) (sd_X9_torqueOf d H) (fun r4 h3 H => ?_)
      refine zg_aload_n (pc := 40) dX9_isTold_40 rfl rfl ?_
      refine zg_getR (pc := 41) dX9_isTold_41 lf_X9_63 kR_0 (by decide) rfl ?_
      refine zg_bipush (pc := 44) dX9_isTold_44 (v := 40) (by decide) ?_
      refine zg_iload_n (pc := 46) dX9_isTold_46 rfl rfl ?_
      refine zg_imul (pc := 47) dX9_isTold_47 ?_
      refine zg_iload (pc := 48) dX9_isTold_48 rfl ?_
      refine zg_iadd (pc := 50) dX9_isTold_50 ?_
      obtain ⟨hb, H⟩ := H
      refine zg_iald (pc := 51) dX9_isTold_51 kR_18 (by decide) hb ?_
      refine zg_icmp_ne (pc := 52) dX9_isTold_52 (tgt := 59) (by decide) (fun hc => ?_) (fun hc => ?_)
      · replace H := H.1 hc
        refine zg_iconst (pc := 59) dX9_isTold_59 (v := 0) (by decide) ?_
        refine zg_istore (pc := 60) dX9_isTold_60 (by decide) (L' := [some (.ref 0), some (.int l1), some (.int l2), some (.int l3), some (.int l4), some (.int l5), some (.int 0), some (.int l7)]) rfl ?_
        refine zg_iinc (pc := 62) dX9_isTold_62 rfl (v := l7 + 1) rfl (by decide) (L' := [some (.ref 0), some (.int l1), some (.int l2), some (.int l3), some (.int l4), some (.int l5), some (.int 0), some (.int (l7 + 1))]) rfl ?_
        refine zg_goto (pc := 65) dX9_isTold_65 (tgt := 15) (by decide) ?_
        exact hag15 0 (l7 + 1) _ H
      · replace H := H.2 hc
        refine zg_iconst (pc := 55) dX9_isTold_55 (v := 1) (by decide) ?_
        refine zg_goto (pc := 56) dX9_isTold_56 (tgt := 60) (by decide) ?_
        refine zg_istore (pc := 60) dX9_isTold_60 (by decide) (L' := [some (.ref 0), some (.int l1), some (.int l2), some (.int l3), some (.int l4), some (.int l5), some (.int 1), some (.int l7)]) rfl ?_
        refine zg_iinc (pc := 62) dX9_isTold_62 rfl (v := l7 + 1) rfl (by decide) (L' := [some (.ref 0), some (.int l1), some (.int l2), some (.int l3), some (.int l4), some (.int l5), some (.int 1), some (.int (l7 + 1))]) rfl ?_
        refine zg_goto (pc := 65) dX9_isTold_65 (tgt := 15) (by decide) ?_
        exact hag15 1 (l7 + 1) _ H
set_option maxRecDepth 100000 in
theorem sd_X9_isTold (d : Nat) {l1 : Int32} {l2 : Int32} {l3 : Int32} {l4 : Int32} {h : zz_Hp} {Q : Int32 → zz_Hp → Prop} (H : w_X9_isTold l1 l2 l3 l4 h Q) : zz_G zKR zNR (d + 8) mX9_isTold (qI Q) 0 (zz_L0 8 [.ref 0, .int l1, .int l2, .int l3, .int l4]) [] h := by
  show zz_G zKR zNR (d + 8) mX9_isTold (qI Q) 0 [some (.ref 0), some (.int l1), some (.int l2), some (.int l3), some (.int l4), none, none, none] [] h
  unfold w_X9_isTold at H
  refine zg_aload_n (pc := 0) dX9_isTold_0 rfl rfl ?_
  refine zg_getR (pc := 1) dX9_isTold_1 lf_X9_24 kR_0 (by decide) rfl ?_
  refine zg_iload (pc := 4) dX9_isTold_4 rfl ?_
  obtain ⟨hb, H⟩ := H
  refine zg_iald (pc := 6) dX9_isTold_6 kR_5 (by decide) hb ?_
  refine zg_istore (pc := 7) dX9_isTold_7 (by decide) (L' := [some (.ref 0), some (.int l1), some (.int l2), some (.int l3), some (.int l4), some (.int (h.1 5 (Int32.toNatClampNeg l4))), none, none]) rfl ?_
  refine zg_iconst (pc := 9) dX9_isTold_9 (v := 1) (by decide) ?_
  refine zg_istore (pc := 10) dX9_isTold_10 (by decide) (L' := [some (.ref 0), some (.int l1), some (.int l2), some (.int l3), some (.int l4), some (.int (h.1 5 (Int32.toNatClampNeg l4))), some (.int 1), none]) rfl ?_
  refine zg_iconst (pc := 12) dX9_isTold_12 (v := 0) (by decide) ?_
  refine zg_istore (pc := 13) dX9_isTold_13 (by decide) (L' := [some (.ref 0), some (.int l1), some (.int l2), some (.int l3), some (.int l4), some (.int (h.1 5 (Int32.toNatClampNeg l4))), some (.int 1), some (.int 0)]) rfl ?_
  exact sd_X9_isTold_l15  H
set_option maxRecDepth 100000 in
theorem sd_X9_fits_l218 {d : Nat} {Q : Int32 → zz_Hp → Prop} {l1 : Int32} {l2 : Int32} {l3 : Int32} {l5 : Int32} {l6 : Int32} {l7 : Int32} {l8 : Int32} {l9 : Int32} {l10 : Int32} {l11 : Int32} {h : zz_Hp}  (H : lp (fun s ag => w_X9_fits_l218 ag Q l1 l2 l3 l5 l6 l7 l8 s.1 s.2.1 s.2.2.1 s.2.2.2) (l9, l10, l11, h)) : zz_G zKR zNR (d + 9) mX9_fits (qI Q) 218 [some (.ref 0), some (.int l1), some (.int l2), some (.int l3), none, some (.int l5), some (.int l6), some (.int l7), some (.int l8), some (.int l9), some (.int l10), some (.int l11)] [] h := by
  refine lp_sound (G := fun (s : Int32 × Int32 × Int32 × zz_Hp) => zz_G zKR zNR (d + 9) mX9_fits (qI Q) 218 [some (.ref 0), some (.int l1), some (.int l2), some (.int l3), none, some (.int l5), some (.int l6), some (.int l7), some (.int l8), some (.int s.1), some (.int s.2.1), some (.int s.2.2.1)] [] s.2.2.2) ?_ H
  clear H
  intro s ag218 hag218 H
  obtain ⟨l9, l10, l11, h⟩ := s
  replace hag218 : ∀ (l9 : Int32) (l10 : Int32) (l11 : Int32) (h : zz_Hp), ag218 (l9, l10, l11, h) → zz_G zKR zNR (d + 9) mX9_fits (qI Q) 218 [some (.ref 0), some (.int l1), some (.int l2), some (.int l3), none, some (.int l5), some (.int l6), some (.int l7), some (.int l8), some (.int l9), some (.int l10), some (.int l11)] [] h := fun l9 l10 l11 h H => hag218 (l9, l10, l11, h) H
  replace H : w_X9_fits_l218 ag218 Q l1 l2 l3 l5 l6 l7 l8 l9 l10 l11 h := H
  show zz_G zKR zNR (d + 9) mX9_fits (qI Q) 218 [some (.ref 0), some (.int l1), some (.int l2), some (.int l3), none, some (.int l5), some (.int l6), some (.int l7), some (.int l8), some (.int l9), some (.int l10), some (.int l11)] [] h
  unfold w_X9_fits_l218 at H
  refine zg_iload (pc := 218) dX9_fits_218 rfl ?_
  refine zg_iconst (pc := 220) dX9_fits_220 (v := 1) (by decide) ?_
  refine zg_icmp_lt (pc := 221) dX9_fits_221 (tgt := 258) (by decide) (fun hc => ?_) (fun hc => ?_)
  · replace H := H.1 hc
    refine zg_aload_n (pc := 258) dX9_fits_258 rfl rfl ?_
    refine zg_getR (pc := 259) dX9_fits_259 lf_X9_21 kR_0 (by decide) rfl ?_
    refine zg_iload (pc := 262) dX9_fits_262 rfl ?_
    refine zg_iload (pc := 264) dX9_fits_264 rfl ?_
    obtain ⟨hb, H⟩ := H
    refine zg_iast (pc := 266) dX9_fits_266 kR_4 (by decide) hb ?_
    generalize eh15 : zz_uI h 4 (Int32.toNatClampNeg l6) l8 = h15
    replace H := H h15 eh15.symm
    refine zg_iload (pc := 267) dX9_fits_267 rfl ?_
    refine zg_iconst (pc := 269) dX9_fits_269 (v := 1) (by decide) ?_
    refine zg_icmp_ne (pc := 270) dX9_fits_270 (tgt := 278) (by decide) (fun hc => ?_) (fun hc => ?_)
    · replace H := H.1 hc
      refine zg_iload (pc := 278) dX9_fits_278 rfl ?_
      exact zg_iret (pc := 280) dX9_fits_280 rfl ⟨_, rfl, H⟩
    · replace H := H.2 hc
      refine zg_iload (pc := 273) dX9_fits_273 rfl ?_
      refine zg_goto (pc := 275) dX9_fits_275 (tgt := 280) (by decide) ?_
      exact zg_iret (pc := 280) dX9_fits_280 rfl ⟨_, rfl, H⟩
  · replace H := H.2 hc
    refine zg_aload_n (pc := 224) dX9_fits_224 rfl rfl ?_
    refine zg_getR (pc := 225) dX9_fits_225 lf_X9_21 kR_0 (by decide) rfl ?_
    refine zg_iload (pc := 228) dX9_fits_228 rfl ?_
    refine zg_iload (pc := 230) dX9_fits_230 rfl ?_
    obtain ⟨hb, H⟩ := H
    refine zg_iast (pc := 232) dX9_fits_232 kR_4 (by decide) hb ?_
    generalize eh16 : zz_uI h 4 (Int32.toNatClampNeg l6) l11 = h16
    replace H := H h16 eh16.symm
    refine zg_aload_n (pc := 233) dX9_fits_233 rfl rfl ?_
    refine zg_iload_n (pc := 234) dX9_fits_234 rfl rfl ?_
    refine zg_iload_n (pc := 235) dX9_fits_235 rfl rfl ?_
    refine zg_iload_n (pc := 236) dX9_fits_236 rfl rfl ?_
    refine zg_iload (pc := 237) dX9_fits_237 rfl ?_
    refine zg_callVi (st := []) (pc := 239) dX9_fits_239 (As := [.int l1, .int l2, .int l3, .int l7]) lk_X9_258 kR_0 (by decide) rfl (Nat.le_of_ble_eq_true rfl) (Nat.le_of_ble_eq_true rfl) (sd_X9_isTold d H) (fun r18 h17 H => ?_)
    refine zg_if_eq (pc := 242) dX9_fits_242 (tgt := 252) (by decide) (fun hc => ?_) (fun hc => ?_)
    · replace H := H.1 hc
      refine zg_iinc (pc := 252) dX9_fits_252 rfl (v := l11 + (-1)) rfl (by decide) (L' := [some (.ref 0), some (.int l1), some (.int l2), some (.int l3), none, some (.int l5), some (.int l6), some (.int l7), some (.int l8), some (.int l9), some (.int l10), some (.int (l11 + (-1)))]) rfl ?_
      refine zg_goto (pc := 255) dX9_fits_255 (tgt := 218) (by decide) ?_
      exact hag218 l9 l10 (l11 + (-1)) _ H
    · replace H := H.2 hc
      refine zg_iinc (pc := 245) dX9_fits_245 rfl (v := l9 + 1) rfl (by decide) (L' := [some (.ref 0), some (.int l1), some (.int l2), some (.int l3), none, some (.int l5), some (.int l6), some (.int l7), some (.int l8), some (.int (l9 + 1)), some (.int l10), some (.int l11)]) rfl ?_
      refine zg_iload (pc := 248) dX9_fits_248 rfl ?_
      refine zg_istore (pc := 250) dX9_fits_250 (by decide) (L' := [some (.ref 0), some (.int l1), some (.int l2), some (.int l3), none, some (.int l5), some (.int l6), some (.int l7), some (.int l8), some (.int (l9 + 1)), some (.int l11), some (.int l11)]) rfl ?_
      refine zg_iinc (pc := 252) dX9_fits_252 rfl (v := l11 + (-1)) rfl (by decide) (L' := [some (.ref 0), some (.int l1), some (.int l2), some (.int l3), none, some (.int l5), some (.int l6), some (.int l7), some (.int l8), some (.int (l9 + 1)), some (.int l11), some (.int (l11 + (-1)))]) rfl ?_
      refine zg_goto (pc := 255) dX9_fits_255 (tgt := 218) (by decide) ?_
      exact hag218 (l9 + 1) l11 (l11 + (-1)) _ H
set_option maxRecDepth 100000 in
theorem sd_X9_fits_l140 {d : Nat} {Q : Int32 → zz_Hp → Prop} {l1 : Int32} {l2 : Int32} {l3 : Int32} {l6 : Int32} {l7 : Int32} {l8 : Int32} {l9 : Int32} {l10 : Int32} {h : zz_Hp}  (H : lp (fun s ag => w_X9_fits_l140 ag Q l1 l2 l3 l6 l7 l8 s.1 s.2.1 s.2.2) (l9, l10, h)) : zz_G zKR zNR (d + 9) mX9_fits (qI Q) 140 [some (.ref 0), some (.int l1), some (.int l2), some (.int l3), none, none, some (.int l6), some (.int l7), some (.int l8), some (.int l9), some (.int l10), none] [] h := by
  refine lp_sound (G := fun (s : Int32 × Int32 × zz_Hp) => zz_G zKR zNR (d + 9) mX9_fits (qI Q) 140 [some (.ref 0), some (.int l1), some (.int l2), some (.int l3), none, none, some (.int l6), some (.int l7), some (.int l8), some (.int s.1), some (.int s.2.1), none] [] s.2.2) ?_ H
  clear H
  intro s ag140 hag140 H
  obtain ⟨l9, l10, h⟩ := s
  replace hag140 : ∀ (l9 : Int32) (l10 : Int32) (h : zz_Hp), ag140 (l9, l10, h) → zz_G zKR zNR (d + 9) mX9_fits (qI Q) 140 [some (.ref 0), some (.int l1), some (.int l2), some (.int l3), none, none, some (.int l6), some (.int l7), some (.int l8), some (.int l9), some (.int l10), none] [] h := fun l9 l10 h H => hag140 (l9, l10, h) H
  replace H : w_X9_fits_l140 ag140 Q l1 l2 l3 l6 l7 l8 l9 l10 h := H
  show zz_G zKR zNR (d + 9) mX9_fits (qI Q) 140 [some (.ref 0), some (.int l1), some (.int l2), some (.int l3), none, none, some (.int l6), some (.int l7), some (.int l8), some (.int l9), some (.int l10), none] [] h
  unfold w_X9_fits_l140 at H
  refine zg_iload (pc := 140) dX9_fits_140 rfl ?_
  refine zg_iconst (pc := 142) dX9_fits_142 (v := 4) (by decide) ?_
  refine zg_icmp_ge (pc := 143) dX9_fits_143 (tgt := 186) (by decide) (fun hc => ?_) (fun hc => ?_)
  · replace H := H.1 hc
    refine zg_aload_n (pc := 186) dX9_fits_186 rfl rfl ?_
    refine zg_getR (pc := 187) dX9_fits_187 lf_X9_18 kR_0 (by decide) rfl ?_
    refine zg_iload (pc := 190) dX9_fits_190 rfl ?_
    refine zg_iload (pc := 192) dX9_fits_192 rfl ?_
    obtain ⟨hb, H⟩ := H
    refine zg_iast (pc := 194) dX9_fits_194 kR_3 (by decide) hb ?_
    generalize eh19 : zz_uI h 3 (Int32.toNatClampNeg l6) l8 = h19
    replace H := H h19 eh19.symm
    refine zg_iload (pc := 195) dX9_fits_195 rfl ?_
    exact zg_iret (pc := 197) dX9_fits_197 rfl ⟨_, rfl, H⟩
  · replace H := H.2 hc
    refine zg_aload_n (pc := 146) dX9_fits_146 rfl rfl ?_
    refine zg_getR (pc := 147) dX9_fits_147 lf_X9_18 kR_0 (by decide) rfl ?_
    refine zg_iload (pc := 150) dX9_fits_150 rfl ?_
    refine zg_iload (pc := 152) dX9_fits_152 rfl ?_
    obtain ⟨hb, H⟩ := H
    refine zg_iast (pc := 154) dX9_fits_154 kR_3 (by decide) hb ?_
    generalize eh20 : zz_uI h 3 (Int32.toNatClampNeg l6) l10 = h20
    replace H := H h20 eh20.symm
    refine zg_iload (pc := 155) dX9_fits_155 rfl ?_
    refine zg_aload_n (pc := 157) dX9_fits_157 rfl rfl ?_
    refine zg_iload_n (pc := 158) dX9_fits_158 rfl rfl ?_
    refine zg_iload_n (pc := 159) dX9_fits_159 rfl rfl ?_
    refine zg_iload_n (pc := 160) dX9_fits_160 rfl rfl ?_
    refine zg_iload (pc := 161) dX9_fits_161 rfl ?_
    refine zg_callVi (st := [.int l9]) (pc := 163) dX9_fits_163 (As := [.int l1, .int l2, .int l3, .int l7]) lk_X9_258 kR_0 (by decide) rfl (Nat.le_of_ble_eq_true rfl) (Nat.le_of_ble_eq_true rfl) (sd_X9_isTold d H) (fun r22 h21 H => ?_)
    refine zg_if_eq (pc := 166) dX9_fits_166 (tgt := 176) (by decide) (fun hc => ?_) (fun hc => ?_)
    · replace H := H.1 hc
      refine zg_iconst (pc := 176) dX9_fits_176 (v := 0) (by decide) ?_
      refine zg_ior (pc := 177) dX9_fits_177 ?_
      refine zg_istore (pc := 178) dX9_fits_178 (by decide) (L' := [some (.ref 0), some (.int l1), some (.int l2), some (.int l3), none, none, some (.int l6), some (.int l7), some (.int l8), some (.int (l9 ||| 0)), some (.int l10), none]) rfl ?_
      refine zg_iinc (pc := 180) dX9_fits_180 rfl (v := l10 + 1) rfl (by decide) (L' := [some (.ref 0), some (.int l1), some (.int l2), some (.int l3), none, none, some (.int l6), some (.int l7), some (.int l8), some (.int (l9 ||| 0)), some (.int (l10 + 1)), none]) rfl ?_
      refine zg_goto (pc := 183) dX9_fits_183 (tgt := 140) (by decide) ?_
      exact hag140 (l9 ||| 0) (l10 + 1) _ H
    · replace H := H.2 hc
      refine zg_iconst (pc := 169) dX9_fits_169 (v := 1) (by decide) ?_
      refine zg_iload (pc := 170) dX9_fits_170 rfl ?_
      refine zg_ishl (pc := 172) dX9_fits_172 ?_
      refine zg_goto (pc := 173) dX9_fits_173 (tgt := 177) (by decide) ?_
      refine zg_ior (pc := 177) dX9_fits_177 ?_
      refine zg_istore (pc := 178) dX9_fits_178 (by decide) (L' := [some (.ref 0), some (.int l1), some (.int l2), some (.int l3), none, none, some (.int l6), some (.int l7), some (.int l8), some (.int (l9 ||| (1 <<< (l10 &&& 31)))), some (.int l10), none]) rfl ?_
      refine zg_iinc (pc := 180) dX9_fits_180 rfl (v := l10 + 1) rfl (by decide) (L' := [some (.ref 0), some (.int l1), some (.int l2), some (.int l3), none, none, some (.int l6), some (.int l7), some (.int l8), some (.int (l9 ||| (1 <<< (l10 &&& 31)))), some (.int (l10 + 1)), none]) rfl ?_
      refine zg_goto (pc := 183) dX9_fits_183 (tgt := 140) (by decide) ?_
      exact hag140 (l9 ||| (1 <<< (l10 &&& 31))) (l10 + 1) _ H
set_option maxRecDepth 100000 in
theorem sd_X9_fits (d : Nat) {l1 : Int32} {l2 : Int32} {l3 : Int32} {l4 : Int32} {l5 : Int32} {h : zz_Hp} {Q : Int32 → zz_Hp → Prop} (H : w_X9_fits l1 l2 l3 l4 l5 h Q) : zz_G zKR zNR (d + 9) mX9_fits (qI Q) 0 (zz_L0 12 [.ref 0, .int l1, .int l2, .int l3, .int l4, .int l5]) [] h := by
  show zz_G zKR zNR (d + 9) mX9_fits (qI Q) 0 [some (.ref 0), some (.int l1), some (.int l2), some (.int l3), some (.int l4), some (.int l5), none, none, none, none, none, none] [] h
  unfold w_X9_fits at H
  refine zg_iload_n (pc := 0) dX9_fits_0 rfl rfl ?_
  refine zg_iconst (pc := 1) dX9_fits_1 (v := 0) (by decide) ?_
  refine zg_iconst (pc := 2) dX9_fits_2 (v := 2) (by decide) ?_
  refine zg_callSi (st := []) (pc := 3) dX9_fits_3 (As := [.int l1, .int 0, .int 2]) lk_X9_143 rfl (Nat.le_of_ble_eq_true rfl) (Nat.le_of_ble_eq_true rfl) (sd_X9_in (d + 8) H) (fun r2 h1 H => ?_)
  refine zg_if_eq (pc := 6) dX9_fits_6 (tgt := 66) (by decide) (fun hc => ?_) (fun hc => ?_)
  · replace H := H.1 hc
    refine zg_iconst (pc := 66) dX9_fits_66 (v := (-1)) (by decide) ?_
    exact zg_iret (pc := 67) dX9_fits_67 rfl ⟨_, rfl, H⟩
  · replace H := H.2 hc
    refine zg_iload_n (pc := 9) dX9_fits_9 rfl rfl ?_
    refine zg_iconst (pc := 10) dX9_fits_10 (v := 0) (by decide) ?_
    refine zg_bipush (pc := 11) dX9_fits_11 (v := 40) (by decide) ?_
    refine zg_callSi (st := []) (pc := 13) dX9_fits_13 (As := [.int l2, .int 0, .int 40]) lk_X9_143 rfl (Nat.le_of_ble_eq_true rfl) (Nat.le_of_ble_eq_true rfl) (sd_X9_in (d + 8) H) (fun r4 h3 H => ?_)
    refine zg_if_eq (pc := 16) dX9_fits_16 (tgt := 66) (by decide) (fun hc => ?_) (fun hc => ?_)
    · replace H := H.1 hc
      refine zg_iconst (pc := 66) dX9_fits_66 (v := (-1)) (by decide) ?_
      exact zg_iret (pc := 67) dX9_fits_67 rfl ⟨_, rfl, H⟩
    · replace H := H.2 hc
      refine zg_aload_n (pc := 19) dX9_fits_19 rfl rfl ?_
      refine zg_iload_n (pc := 20) dX9_fits_20 rfl rfl ?_
      refine zg_callVi (st := []) (pc := 21) dX9_fits_21 (As := [.int l3]) lk_X9_147 kR_0 (by decide) rfl (Nat.le_of_ble_eq_true rfl) (Nat.le_of_ble_eq_true rfl) (sd_X9_isYarn (d + 7) H) (fun r6 h5 H => ?_)
      refine zg_if_eq (pc := 24) dX9_fits_24 (tgt := 66) (by decide) (fun hc => ?_) (fun hc => ?_)
      · replace H := H.1 hc
        refine zg_iconst (pc := 66) dX9_fits_66 (v := (-1)) (by decide) ?_
        exact zg_iret (pc := 67) dX9_fits_67 rfl ⟨_, rfl, H⟩
      · replace H := H.2 hc
        refine zg_iload (pc := 27) dX9_fits_27 rfl ?_
        refine zg_if_lt (pc := 29) dX9_fits_29 (tgt := 66) (by decide) (fun hc => ?_) (fun hc => ?_)
        · replace H := H.1 hc
          refine zg_iconst (pc := 66) dX9_fits_66 (v := (-1)) (by decide) ?_
          exact zg_iret (pc := 67) dX9_fits_67 rfl ⟨_, rfl, H⟩
        · replace H := H.2 hc
          refine zg_aload_n (pc := 32) dX9_fits_32 rfl rfl ?_
          refine zg_iload (pc := 33) dX9_fits_33 rfl ?_
          refine zg_bipush (pc := 35) dX9_fits_35 (v := 16) (by decide) ?_
          refine zg_idiv (pc := 37) dX9_fits_37 (by decide) ?_
          refine zg_callVi (st := []) (pc := 38) dX9_fits_38 (As := [.int (l4 / 16)]) lk_X9_233 kR_0 (by decide) rfl (Nat.le_of_ble_eq_true rfl) (Nat.le_of_ble_eq_true rfl) (sd_X9_isThread (d + 6) H) (fun r8 h7 H => ?_)
          refine zg_if_eq (pc := 41) dX9_fits_41 (tgt := 66) (by decide) (fun hc => ?_) (fun hc => ?_)
          · replace H := H.1 hc
            refine zg_iconst (pc := 66) dX9_fits_66 (v := (-1)) (by decide) ?_
            exact zg_iret (pc := 67) dX9_fits_67 rfl ⟨_, rfl, H⟩
          · replace H := H.2 hc
            refine zg_aload_n (pc := 44) dX9_fits_44 rfl rfl ?_
            refine zg_iload (pc := 45) dX9_fits_45 rfl ?_
            refine zg_bipush (pc := 47) dX9_fits_47 (v := 16) (by decide) ?_
            refine zg_irem (pc := 49) dX9_fits_49 (by decide) ?_
            refine zg_callVi (st := []) (pc := 50) dX9_fits_50 (As := [.int (l4 - l4 / 16 * 16)]) lk_X9_147 kR_0 (by decide) rfl (Nat.le_of_ble_eq_true rfl) (Nat.le_of_ble_eq_true rfl) (sd_X9_isYarn (d + 7) H) (fun r10 h9 H => ?_)
            refine zg_if_eq (pc := 53) dX9_fits_53 (tgt := 66) (by decide) (fun hc => ?_) (fun hc => ?_)
            · replace H := H.1 hc
              refine zg_iconst (pc := 66) dX9_fits_66 (v := (-1)) (by decide) ?_
              exact zg_iret (pc := 67) dX9_fits_67 rfl ⟨_, rfl, H⟩
            · replace H := H.2 hc
              refine zg_iload (pc := 56) dX9_fits_56 rfl ?_
              refine zg_iconst (pc := 58) dX9_fits_58 (v := 0) (by decide) ?_
              refine zg_iconst (pc := 59) dX9_fits_59 (v := 2) (by decide) ?_
              refine zg_callSi (st := []) (pc := 60) dX9_fits_60 (As := [.int l5, .int 0, .int 2]) lk_X9_143 rfl (Nat.le_of_ble_eq_true rfl) (Nat.le_of_ble_eq_true rfl) (sd_X9_in (d + 8) H) (fun r12 h11 H => ?_)
              refine zg_if_ne (pc := 63) dX9_fits_63 (tgt := 68) (by decide) (fun hc => ?_) (fun hc => ?_)
              · replace H := H.1 hc
                refine zg_iload (pc := 68) dX9_fits_68 rfl ?_
                refine zg_bipush (pc := 70) dX9_fits_70 (v := 16) (by decide) ?_
                refine zg_idiv (pc := 72) dX9_fits_72 (by decide) ?_
                refine zg_istore (pc := 73) dX9_fits_73 (by decide) (L' := [some (.ref 0), some (.int l1), some (.int l2), some (.int l3), some (.int l4), some (.int l5), some (.int (l4 / 16)), none, none, none, none, none]) rfl ?_
                refine zg_iload (pc := 75) dX9_fits_75 rfl ?_
                refine zg_bipush (pc := 77) dX9_fits_77 (v := 16) (by decide) ?_
                refine zg_irem (pc := 79) dX9_fits_79 (by decide) ?_
                refine zg_istore (pc := 80) dX9_fits_80 (by decide) (L' := [some (.ref 0), some (.int l1), some (.int l2), some (.int l3), some (.int l4), some (.int l5), some (.int (l4 / 16)), some (.int (l4 - l4 / 16 * 16)), none, none, none, none]) rfl ?_
                refine zg_aload_n (pc := 82) dX9_fits_82 rfl rfl ?_
                refine zg_iload_n (pc := 83) dX9_fits_83 rfl rfl ?_
                refine zg_iload (pc := 84) dX9_fits_84 rfl ?_
                refine zg_callVi (st := []) (pc := 86) dX9_fits_86 (As := [.int l3, .int (l4 - l4 / 16 * 16)]) lk_X9_229 kR_0 (by decide) rfl (Nat.le_of_ble_eq_true rfl) (Nat.le_of_ble_eq_true rfl) (sd_X9_isIn (d + 2) H) (fun r14 h13 H => ?_)
                refine zg_if_ne (pc := 89) dX9_fits_89 (tgt := 95) (by decide) (fun hc => ?_) (fun hc => ?_)
                · replace H := H.1 hc
                  refine zg_aload_n (pc := 95) dX9_fits_95 rfl rfl ?_
                  refine zg_getR (pc := 96) dX9_fits_96 lf_X9_60 kR_0 (by decide) rfl ?_
                  refine zg_iload_n (pc := 99) dX9_fits_99 rfl rfl ?_
                  obtain ⟨hb, H⟩ := H
                  refine zg_iald (pc := 100) dX9_fits_100 kR_17 (by decide) hb ?_
                  refine zg_if_ge (pc := 101) dX9_fits_101 (tgt := 107) (by decide) (fun hc => ?_) (fun hc => ?_)
                  · replace H := H.1 hc
                    refine zg_aload_n (pc := 107) dX9_fits_107 rfl rfl ?_
                    refine zg_getR (pc := 108) dX9_fits_108 lf_X9_60 kR_0 (by decide) rfl ?_
                    refine zg_iload_n (pc := 111) dX9_fits_111 rfl rfl ?_
                    obtain ⟨hb, H⟩ := H
                    refine zg_iald (pc := 112) dX9_fits_112 kR_17 (by decide) hb ?_
                    refine zg_iload_n (pc := 113) dX9_fits_113 rfl rfl ?_
                    refine zg_icmp_ge (pc := 114) dX9_fits_114 (tgt := 120) (by decide) (fun hc => ?_) (fun hc => ?_)
                    · replace H := H.1 hc
                      refine zg_iload (pc := 120) dX9_fits_120 rfl ?_
                      refine zg_if_ne (pc := 122) dX9_fits_122 (tgt := 198) (by decide) (fun hc => ?_) (fun hc => ?_)
                      · replace H := H.1 hc
                        refine zg_aload_n (pc := 198) dX9_fits_198 rfl rfl ?_
                        refine zg_getR (pc := 199) dX9_fits_199 lf_X9_21 kR_0 (by decide) rfl ?_
                        refine zg_iload (pc := 202) dX9_fits_202 rfl ?_
                        obtain ⟨hb, H⟩ := H
                        refine zg_iald (pc := 204) dX9_fits_204 kR_4 (by decide) hb ?_
                        refine zg_istore (pc := 205) dX9_fits_205 (by decide) (L' := [some (.ref 0), some (.int l1), some (.int l2), some (.int l3), some (.int l4), some (.int l5), some (.int (l4 / 16)), some (.int (l4 - l4 / 16 * 16)), some (.int (h13.1 4 (Int32.toNatClampNeg (l4 / 16)))), none, none, none]) rfl ?_
                        refine zg_iconst (pc := 207) dX9_fits_207 (v := 0) (by decide) ?_
                        refine zg_istore (pc := 208) dX9_fits_208 (by decide) (L' := [some (.ref 0), some (.int l1), some (.int l2), some (.int l3), some (.int l4), some (.int l5), some (.int (l4 / 16)), some (.int (l4 - l4 / 16 * 16)), some (.int (h13.1 4 (Int32.toNatClampNeg (l4 / 16)))), some (.int 0), none, none]) rfl ?_
                        refine zg_bipush (pc := 210) dX9_fits_210 (v := (-2)) (by decide) ?_
                        refine zg_istore (pc := 212) dX9_fits_212 (by decide) (L' := [some (.ref 0), some (.int l1), some (.int l2), some (.int l3), some (.int l4), some (.int l5), some (.int (l4 / 16)), some (.int (l4 - l4 / 16 * 16)), some (.int (h13.1 4 (Int32.toNatClampNeg (l4 / 16)))), some (.int 0), some (.int ((-2))), none]) rfl ?_
                        refine zg_bipush (pc := 214) dX9_fits_214 (v := 99) (by decide) ?_
                        refine zg_istore (pc := 216) dX9_fits_216 (by decide) (L' := [some (.ref 0), some (.int l1), some (.int l2), some (.int l3), some (.int l4), some (.int l5), some (.int (l4 / 16)), some (.int (l4 - l4 / 16 * 16)), some (.int (h13.1 4 (Int32.toNatClampNeg (l4 / 16)))), some (.int 0), some (.int ((-2))), some (.int 99)]) rfl ?_
                        refine zg_weak (L' := [some (.ref 0), some (.int l1), some (.int l2), some (.int l3), none, some (.int l5), some (.int (l4 / 16)), some (.int (l4 - l4 / 16 * 16)), some (.int (h13.1 4 (Int32.toNatClampNeg (l4 / 16)))), some (.int 0), some (.int ((-2))), some (.int 99)]) ⟨rfl, ⟨rfl, ⟨rfl, ⟨rfl, ⟨rfl, ⟨rfl, ⟨rfl, ⟨rfl, ⟨rfl, ⟨rfl, ⟨rfl, trivial⟩⟩⟩⟩⟩⟩⟩⟩⟩⟩⟩ ?_
                        exact sd_X9_fits_l218  H
                      · replace H := H.2 hc
                        refine zg_aload_n (pc := 125) dX9_fits_125 rfl rfl ?_
                        refine zg_getR (pc := 126) dX9_fits_126 lf_X9_18 kR_0 (by decide) rfl ?_
                        refine zg_iload (pc := 129) dX9_fits_129 rfl ?_
                        obtain ⟨hb, H⟩ := H
                        refine zg_iald (pc := 131) dX9_fits_131 kR_3 (by decide) hb ?_
                        refine zg_istore (pc := 132) dX9_fits_132 (by decide) (L' := [some (.ref 0), some (.int l1), some (.int l2), some (.int l3), some (.int l4), some (.int l5), some (.int (l4 / 16)), some (.int (l4 - l4 / 16 * 16)), some (.int (h13.1 3 (Int32.toNatClampNeg (l4 / 16)))), none, none, none]) rfl ?_
                        refine zg_iconst (pc := 134) dX9_fits_134 (v := 0) (by decide) ?_
                        refine zg_istore (pc := 135) dX9_fits_135 (by decide) (L' := [some (.ref 0), some (.int l1), some (.int l2), some (.int l3), some (.int l4), some (.int l5), some (.int (l4 / 16)), some (.int (l4 - l4 / 16 * 16)), some (.int (h13.1 3 (Int32.toNatClampNeg (l4 / 16)))), some (.int 0), none, none]) rfl ?_
                        refine zg_iconst (pc := 137) dX9_fits_137 (v := 0) (by decide) ?_
                        refine zg_istore (pc := 138) dX9_fits_138 (by decide) (L' := [some (.ref 0), some (.int l1), some (.int l2), some (.int l3), some (.int l4), some (.int l5), some (.int (l4 / 16)), some (.int (l4 - l4 / 16 * 16)), some (.int (h13.1 3 (Int32.toNatClampNeg (l4 / 16)))), some (.int 0), some (.int 0), none]) rfl ?_
                        refine zg_weak (L' := [some (.ref 0), some (.int l1), some (.int l2), some (.int l3), none, none, some (.int (l4 / 16)), some (.int (l4 - l4 / 16 * 16)), some (.int (h13.1 3 (Int32.toNatClampNeg (l4 / 16)))), some (.int 0), some (.int 0), none]) ⟨rfl, ⟨rfl, ⟨rfl, ⟨rfl, ⟨rfl, ⟨rfl, ⟨rfl, ⟨rfl, ⟨rfl, trivial⟩⟩⟩⟩⟩⟩⟩⟩⟩ ?_
                        exact sd_X9_fits_l140  H
                    · replace H := H.2 hc
                      refine zg_bipush (pc := 117) dX9_fits_117 (v := (-13)) (by decide) ?_
                      exact zg_iret (pc := 119) dX9_fits_119 rfl ⟨_, rfl, H⟩
                  · replace H := H.2 hc
                    refine zg_bipush (pc := 104) dX9_fits_104 (v := (-11)) (by decide) ?_
                    exact zg_iret (pc := 106) dX9_fits_106 rfl ⟨_, rfl, H⟩
                · replace H := H.2 hc
                  refine zg_bipush (pc := 92) dX9_fits_92 (v := (-5)) (by decide) ?_
                  exact zg_iret (pc := 94) dX9_fits_94 rfl ⟨_, rfl, H⟩
              · replace H := H.2 hc
                refine zg_iconst (pc := 66) dX9_fits_66 (v := (-1)) (by decide) ?_
                exact zg_iret (pc := 67) dX9_fits_67 rfl ⟨_, rfl, H⟩
set_option maxRecDepth 100000 in
theorem sd_X9_job (d : Nat) {l1 : Int32} {l2 : Int32} {h : zz_Hp} {Q : Int32 → zz_Hp → Prop} (H : w_X9_job l1 l2 h Q) : zz_G zKR zNR (d + 2) mX9_job (qI Q) 0 (zz_L0 3 [.ref 0, .int l1, .int l2]) [] h := by
  show zz_G zKR zNR (d + 2) mX9_job (qI Q) 0 [some (.ref 0), some (.int l1), some (.int l2)] [] h
  unfold w_X9_job at H
  refine zg_aload_n (pc := 0) dX9_job_0 rfl rfl ?_
  refine zg_iload_n (pc := 1) dX9_job_1 rfl rfl ?_
  refine zg_callVi (st := []) (pc := 2) dX9_job_2 (As := [.int l1]) lk_X9_147 kR_0 (by decide) rfl (Nat.le_of_ble_eq_true rfl) (Nat.le_of_ble_eq_true rfl) (sd_X9_isYarn d H) (fun r2 h1 H => ?_)
  refine zg_if_eq (pc := 5) dX9_job_5 (tgt := 19) (by decide) (fun hc => ?_) (fun hc => ?_)
  · replace H := H.1 hc
    refine zg_iconst (pc := 19) dX9_job_19 (v := (-1)) (by decide) ?_
    exact zg_iret (pc := 20) dX9_job_20 rfl ⟨_, rfl, H⟩
  · replace H := H.2 hc
    refine zg_iload_n (pc := 8) dX9_job_8 rfl rfl ?_
    refine zg_iconst (pc := 9) dX9_job_9 (v := 1) (by decide) ?_
    refine zg_sipush (pc := 10) dX9_job_10 (v := 9999) (by decide) ?_
    refine zg_callSi (st := []) (pc := 13) dX9_job_13 (As := [.int l2, .int 1, .int 9999]) lk_X9_143 rfl (Nat.le_of_ble_eq_true rfl) (Nat.le_of_ble_eq_true rfl) (sd_X9_in (d + 1) H) (fun r4 h3 H => ?_)
    refine zg_if_ne (pc := 16) dX9_job_16 (tgt := 21) (by decide) (fun hc => ?_) (fun hc => ?_)
    · replace H := H.1 hc
      refine zg_aload_n (pc := 21) dX9_job_21 rfl rfl ?_
      refine zg_getR (pc := 22) dX9_job_22 lf_X9_9 kR_0 (by decide) rfl ?_
      refine zg_iload_n (pc := 25) dX9_job_25 rfl rfl ?_
      obtain ⟨hb, H⟩ := H
      refine zg_iald (pc := 26) dX9_job_26 kR_1 (by decide) hb ?_
      refine zg_if_ne (pc := 27) dX9_job_27 (tgt := 33) (by decide) (fun hc => ?_) (fun hc => ?_)
      · replace H := H.1 hc
        refine zg_aload_n (pc := 33) dX9_job_33 rfl rfl ?_
        refine zg_getI (pc := 34) dX9_job_34 lf_X9_203 kR_0 (by decide) rfl ?_
        refine zg_bipush (pc := 37) dX9_job_37 (v := 8) (by decide) ?_
        refine zg_icmp_ne (pc := 39) dX9_job_39 (tgt := 45) (by decide) (fun hc => ?_) (fun hc => ?_)
        · replace H := H.1 hc
          refine zg_aload_n (pc := 45) dX9_job_45 rfl rfl ?_
          refine zg_getR (pc := 46) dX9_job_46 lf_X9_42 kR_0 (by decide) rfl ?_
          refine zg_aload_n (pc := 49) dX9_job_49 rfl rfl ?_
          refine zg_getI (pc := 50) dX9_job_50 lf_X9_203 kR_0 (by decide) rfl ?_
          refine zg_iload_n (pc := 53) dX9_job_53 rfl rfl ?_
          obtain ⟨hb, H⟩ := H
          refine zg_iast (pc := 54) dX9_job_54 kR_11 (by decide) hb ?_
          generalize eh5 : zz_uI h3 11 (Int32.toNatClampNeg (h3.1 0 13)) l1 = h5
          replace H := H h5 eh5.symm
          refine zg_aload_n (pc := 55) dX9_job_55 rfl rfl ?_
          refine zg_getR (pc := 56) dX9_job_56 lf_X9_45 kR_0 (by decide) rfl ?_
          refine zg_aload_n (pc := 59) dX9_job_59 rfl rfl ?_
          refine zg_getI (pc := 60) dX9_job_60 lf_X9_203 kR_0 (by decide) rfl ?_
          refine zg_iload_n (pc := 63) dX9_job_63 rfl rfl ?_
          obtain ⟨hb, H⟩ := H
          refine zg_iast (pc := 64) dX9_job_64 kR_12 (by decide) hb ?_
          generalize eh6 : zz_uI h5 12 (Int32.toNatClampNeg (h5.1 0 13)) l2 = h6
          replace H := H h6 eh6.symm
          refine zg_aload_n (pc := 65) dX9_job_65 rfl rfl ?_
          refine zg_dup (pc := 66) dX9_job_66 rfl ?_
          refine zg_getI (pc := 67) dX9_job_67 lf_X9_203 kR_0 (by decide) rfl ?_
          refine zg_iconst (pc := 70) dX9_job_70 (v := 1) (by decide) ?_
          refine zg_iadd (pc := 71) dX9_job_71 ?_
          refine zg_putI (pc := 72) dX9_job_72 lp_X9_203 kR_0 (by decide) rfl ?_
          generalize eh7 : zz_uI h6 0 13 ((h6.1 0 13) + 1) = h7
          replace H := H h7 eh7.symm
          refine zg_aload_n (pc := 75) dX9_job_75 rfl rfl ?_
          refine zg_getI (pc := 76) dX9_job_76 lf_X9_203 kR_0 (by decide) rfl ?_
          exact zg_iret (pc := 79) dX9_job_79 rfl ⟨_, rfl, H⟩
        · replace H := H.2 hc
          refine zg_bipush (pc := 42) dX9_job_42 (v := (-3)) (by decide) ?_
          exact zg_iret (pc := 44) dX9_job_44 rfl ⟨_, rfl, H⟩
      · replace H := H.2 hc
        refine zg_bipush (pc := 30) dX9_job_30 (v := (-5)) (by decide) ?_
        exact zg_iret (pc := 32) dX9_job_32 rfl ⟨_, rfl, H⟩
    · replace H := H.2 hc
      refine zg_iconst (pc := 19) dX9_job_19 (v := (-1)) (by decide) ?_
      exact zg_iret (pc := 20) dX9_job_20 rfl ⟨_, rfl, H⟩
set_option maxRecDepth 100000 in
theorem sd_X9_do1_l49 {d : Nat} {Q : Int32 → zz_Hp → Prop}  {l1 : Int32} {h : zz_Hp}  (H : lp (fun s ag => w_X9_do1_l49 ag Q  s.1 s.2) (l1, h)) : zz_G zKR zNR (d + 11) mX9_do1 (qI Q) 49 [some (.ref 0), some (.int l1)] [] h := by
  refine lp_sound (G := fun (s : Int32 × zz_Hp) => zz_G zKR zNR (d + 11) mX9_do1 (qI Q) 49 [some (.ref 0), some (.int s.1)] [] s.2) ?_ H
  clear H
  intro s ag49 hag49 H
  obtain ⟨l1, h⟩ := s
  replace hag49 : ∀ (l1 : Int32) (h : zz_Hp), ag49 (l1, h) → zz_G zKR zNR (d + 11) mX9_do1 (qI Q) 49 [some (.ref 0), some (.int l1)] [] h := fun l1 h H => hag49 (l1, h) H
  replace H : w_X9_do1_l49 ag49 Q  l1 h := H
  show zz_G zKR zNR (d + 11) mX9_do1 (qI Q) 49 [some (.ref 0), some (.int l1)] [] h
  unfold w_X9_do1_l49 at H
  refine zg_iload_n (pc := 49) dX9_do1_49 rfl rfl ?_
  refine zg_aload_n (pc := 50) dX9_do1_50 rfl rfl ?_
  refine zg_getI (pc := 51) dX9_do1_51 lf_X9_203 kR_0 (by decide) rfl ?_
  refine zg_icmp_ge (pc := 54) dX9_do1_54 (tgt := 91) (by decide) (fun hc => ?_) (fun hc => ?_)
  · replace H := H.1 hc
    refine zg_aload_n (pc := 91) dX9_do1_91 rfl rfl ?_
    refine zg_getI (pc := 92) dX9_do1_92 lf_X9_203 kR_0 (by decide) rfl ?_
    exact zg_iret (pc := 95) dX9_do1_95 rfl ⟨_, rfl, H⟩
  · replace H := H.2 hc
    refine zg_aload_n (pc := 57) dX9_do1_57 rfl rfl ?_
    refine zg_getR (pc := 58) dX9_do1_58 lf_X9_42 kR_0 (by decide) rfl ?_
    refine zg_iload_n (pc := 61) dX9_do1_61 rfl rfl ?_
    refine zg_aload_n (pc := 62) dX9_do1_62 rfl rfl ?_
    refine zg_getR (pc := 63) dX9_do1_63 lf_X9_42 kR_0 (by decide) rfl ?_
    refine zg_iload_n (pc := 66) dX9_do1_66 rfl rfl ?_
    refine zg_iconst (pc := 67) dX9_do1_67 (v := 1) (by decide) ?_
    refine zg_iadd (pc := 68) dX9_do1_68 ?_
    obtain ⟨hb, H⟩ := H
    refine zg_iald (pc := 69) dX9_do1_69 kR_11 (by decide) hb ?_
    obtain ⟨hb, H⟩ := H
    refine zg_iast (pc := 70) dX9_do1_70 kR_11 (by decide) hb ?_
    generalize eh5 : zz_uI h 11 (Int32.toNatClampNeg l1) (h.1 11 (Int32.toNatClampNeg (l1 + 1))) = h5
    replace H := H h5 eh5.symm
    refine zg_aload_n (pc := 71) dX9_do1_71 rfl rfl ?_
    refine zg_getR (pc := 72) dX9_do1_72 lf_X9_45 kR_0 (by decide) rfl ?_
    refine zg_iload_n (pc := 75) dX9_do1_75 rfl rfl ?_
    refine zg_aload_n (pc := 76) dX9_do1_76 rfl rfl ?_
    refine zg_getR (pc := 77) dX9_do1_77 lf_X9_45 kR_0 (by decide) rfl ?_
    refine zg_iload_n (pc := 80) dX9_do1_80 rfl rfl ?_
    refine zg_iconst (pc := 81) dX9_do1_81 (v := 1) (by decide) ?_
    refine zg_iadd (pc := 82) dX9_do1_82 ?_
    obtain ⟨hb, H⟩ := H
    refine zg_iald (pc := 83) dX9_do1_83 kR_12 (by decide) hb ?_
    obtain ⟨hb, H⟩ := H
    refine zg_iast (pc := 84) dX9_do1_84 kR_12 (by decide) hb ?_
    generalize eh6 : zz_uI h5 12 (Int32.toNatClampNeg l1) (h5.1 12 (Int32.toNatClampNeg (l1 + 1))) = h6
    replace H := H h6 eh6.symm
    refine zg_iinc (pc := 85) dX9_do1_85 rfl (v := l1 + 1) rfl (by decide) (L' := [some (.ref 0), some (.int (l1 + 1))]) rfl ?_
    refine zg_goto (pc := 88) dX9_do1_88 (tgt := 49) (by decide) ?_
    exact hag49 (l1 + 1) _ H
