set_option maxRecDepth 100000 in
theorem sd_X7_write (d : Nat) {l1 : Int32} {l2 : Int32} {l3 : Int32} {h : zz_Hp} {Q : zz_Hp → Prop} (H : w_X7_write l1 l2 l3 h Q) : zz_G zKC zNC (d + 0) mX7_write (qV Q) 0 (zz_L0 4 [.ref 2, .int l1, .int l2, .int l3]) [] h := by
  show zz_G zKC zNC (d + 0) mX7_write (qV Q) 0 [some (.ref 2), some (.int l1), some (.int l2), some (.int l3)] [] h
  unfold w_X7_write at H
  refine zg_aload_n (pc := 0) dX7_write_0 rfl rfl ?_
  refine zg_getR (pc := 1) dX7_write_1 lf_X7_9 kC_2 (by decide) rfl ?_
  refine zg_iload_n (pc := 4) dX7_write_4 rfl rfl ?_
  refine zg_bipush (pc := 5) dX7_write_5 (v := 8) (by decide) ?_
  refine zg_imul (pc := 7) dX7_write_7 ?_
  refine zg_iload_n (pc := 8) dX7_write_8 rfl rfl ?_
  refine zg_iadd (pc := 9) dX7_write_9 ?_
  refine zg_iload_n (pc := 10) dX7_write_10 rfl rfl ?_
  obtain ⟨hb, H⟩ := H
  refine zg_iast (pc := 11) dX7_write_11 kC_3 (by decide) hb ?_
  generalize eh1 : zz_uI h 3 (Int32.toNatClampNeg ((l1 * 8) + l2)) l3 = h1
  replace H := H h1 eh1.symm
  exact zg_vret (pc := 12) dX7_write_12 rfl ⟨rfl, H⟩
set_option maxRecDepth 100000 in
theorem sd_X8_inRange (d : Nat) {l0 : Int32} {l1 : Int32} {l2 : Int32} {h : zz_Hp} {Q : Int32 → zz_Hp → Prop} (H : w_X8_inRange l0 l1 l2 h Q) : zz_G zKC zNC (d + 0) mX8_inRange (qI Q) 0 (zz_L0 3 [.int l0, .int l1, .int l2]) [] h := by
  show zz_G zKC zNC (d + 0) mX8_inRange (qI Q) 0 [some (.int l0), some (.int l1), some (.int l2)] [] h
  unfold w_X8_inRange at H
  refine zg_iload_n (pc := 0) dX8_inRange_0 rfl rfl ?_
  refine zg_iload_n (pc := 1) dX8_inRange_1 rfl rfl ?_
  refine zg_icmp_lt (pc := 2) dX8_inRange_2 (tgt := 14) (by decide) (fun hc => ?_) (fun hc => ?_)
  · replace H := H.1 hc
    refine zg_iconst (pc := 14) dX8_inRange_14 (v := 0) (by decide) ?_
    exact zg_zret (pc := 15) dX8_inRange_15 (Or.inl rfl) rfl ⟨_, rfl, H⟩
  · replace H := H.2 hc
    refine zg_iload_n (pc := 5) dX8_inRange_5 rfl rfl ?_
    refine zg_iload_n (pc := 6) dX8_inRange_6 rfl rfl ?_
    refine zg_icmp_gt (pc := 7) dX8_inRange_7 (tgt := 14) (by decide) (fun hc => ?_) (fun hc => ?_)
    · replace H := H.1 hc
      refine zg_iconst (pc := 14) dX8_inRange_14 (v := 0) (by decide) ?_
      exact zg_zret (pc := 15) dX8_inRange_15 (Or.inl rfl) rfl ⟨_, rfl, H⟩
    · replace H := H.2 hc
      refine zg_iconst (pc := 10) dX8_inRange_10 (v := 1) (by decide) ?_
      refine zg_goto (pc := 11) dX8_inRange_11 (tgt := 15) (by decide) ?_
      exact zg_zret (pc := 15) dX8_inRange_15 (Or.inr rfl) rfl ⟨_, rfl, H⟩
set_option maxRecDepth 100000 in
theorem sd_X8_canBeTold (d : Nat) {l0 : Int32} {l1 : Int32} {h : zz_Hp} {Q : Int32 → zz_Hp → Prop} (H : w_X8_canBeTold l0 l1 h Q) : zz_G zKC zNC (d + 1) mX8_canBeTold (qI Q) 0 (zz_L0 2 [.int l0, .int l1]) [] h := by
  show zz_G zKC zNC (d + 1) mX8_canBeTold (qI Q) 0 [some (.int l0), some (.int l1)] [] h
  unfold w_X8_canBeTold at H
  refine zg_iload_n (pc := 0) dX8_canBeTold_0 rfl rfl ?_
  refine zg_iconst (pc := 1) dX8_canBeTold_1 (v := 0) (by decide) ?_
  refine zg_iconst (pc := 2) dX8_canBeTold_2 (v := 3) (by decide) ?_
  refine zg_callSi (st := []) (pc := 3) dX8_canBeTold_3 (As := [.int l0, .int 0, .int 3]) lk_X8_121 rfl (Nat.le_of_ble_eq_true rfl) (Nat.le_of_ble_eq_true rfl) (sd_X8_inRange d H) (fun r2 h1 H => ?_)
  refine zg_if_eq (pc := 6) dX8_canBeTold_6 (tgt := 30) (by decide) (fun hc => ?_) (fun hc => ?_)
  · replace H := H.1 hc
    refine zg_iconst (pc := 30) dX8_canBeTold_30 (v := 0) (by decide) ?_
    exact zg_zret (pc := 31) dX8_canBeTold_31 (Or.inl rfl) rfl ⟨_, rfl, H⟩
  · replace H := H.2 hc
    refine zg_iload_n (pc := 9) dX8_canBeTold_9 rfl rfl ?_
    refine zg_getLT (pc := 10) dX8_canBeTold_10 ls_X8_345 ?_
    refine zg_iload_n (pc := 13) dX8_canBeTold_13 rfl rfl ?_
    obtain ⟨hb, H⟩ := H
    refine zg_aldLT (pc := 14) dX8_canBeTold_14 hb ?_
    refine zg_getMT (pc := 15) dX8_canBeTold_15 ls_X8_348 ?_
    refine zg_iload_n (pc := 18) dX8_canBeTold_18 rfl rfl ?_
    obtain ⟨hb, H⟩ := H
    refine zg_aldMT (pc := 19) dX8_canBeTold_19 hb ?_
    refine zg_callSi (st := []) (pc := 20) dX8_canBeTold_20 (As := [.int l1, .int (zz_lt (Int32.toNatClampNeg l0)), .int (zz_mt (Int32.toNatClampNeg l0))]) lk_X8_121 rfl (Nat.le_of_ble_eq_true rfl) (Nat.le_of_ble_eq_true rfl) (sd_X8_inRange d H) (fun r4 h3 H => ?_)
    refine zg_if_eq (pc := 23) dX8_canBeTold_23 (tgt := 30) (by decide) (fun hc => ?_) (fun hc => ?_)
    · replace H := H.1 hc
      refine zg_iconst (pc := 30) dX8_canBeTold_30 (v := 0) (by decide) ?_
      exact zg_zret (pc := 31) dX8_canBeTold_31 (Or.inl rfl) rfl ⟨_, rfl, H⟩
    · replace H := H.2 hc
      refine zg_iconst (pc := 26) dX8_canBeTold_26 (v := 1) (by decide) ?_
      refine zg_goto (pc := 27) dX8_canBeTold_27 (tgt := 31) (by decide) ?_
      exact zg_zret (pc := 31) dX8_canBeTold_31 (Or.inr rfl) rfl ⟨_, rfl, H⟩
set_option maxRecDepth 100000 in
theorem sd_X7_addThread (d : Nat) {l1 : Int32} {l2 : Int32} {l3 : Int32} {h : zz_Hp} {Q : Int32 → zz_Hp → Prop} (H : w_X7_addThread l1 l2 l3 h Q) : zz_G zKC zNC (d + 2) mX7_addThread (qI Q) 0 (zz_L0 5 [.ref 2, .int l1, .int l2, .int l3]) [] h := by
  show zz_G zKC zNC (d + 2) mX7_addThread (qI Q) 0 [some (.ref 2), some (.int l1), some (.int l2), some (.int l3), none] [] h
  unfold w_X7_addThread at H
  refine zg_iconst (pc := 0) dX7_addThread_0 (v := 2) (by decide) ?_
  refine zg_iload_n (pc := 1) dX7_addThread_1 rfl rfl ?_
  refine zg_callNi (st := []) (pc := 2) dX7_addThread_2 (As := [.int 2, .int l1]) lk_X7_33 rfl (Nat.le_of_ble_eq_true rfl) (Nat.le_of_ble_eq_true rfl) (sd_X8_canBeTold d H) (fun r2 h1 H => ?_)
  refine zg_if_eq (pc := 5) dX7_addThread_5 (tgt := 24) (by decide) (fun hc => ?_) (fun hc => ?_)
  · replace H := H.1 hc
    refine zg_iconst (pc := 24) dX7_addThread_24 (v := (-1)) (by decide) ?_
    exact zg_iret (pc := 25) dX7_addThread_25 rfl ⟨_, rfl, H⟩
  · replace H := H.2 hc
    refine zg_iconst (pc := 8) dX7_addThread_8 (v := 1) (by decide) ?_
    refine zg_iload_n (pc := 9) dX7_addThread_9 rfl rfl ?_
    refine zg_callNi (st := []) (pc := 10) dX7_addThread_10 (As := [.int 1, .int l2]) lk_X7_33 rfl (Nat.le_of_ble_eq_true rfl) (Nat.le_of_ble_eq_true rfl) (sd_X8_canBeTold d H) (fun r4 h3 H => ?_)
    refine zg_if_eq (pc := 13) dX7_addThread_13 (tgt := 24) (by decide) (fun hc => ?_) (fun hc => ?_)
    · replace H := H.1 hc
      refine zg_iconst (pc := 24) dX7_addThread_24 (v := (-1)) (by decide) ?_
      exact zg_iret (pc := 25) dX7_addThread_25 rfl ⟨_, rfl, H⟩
    · replace H := H.2 hc
      refine zg_iconst (pc := 16) dX7_addThread_16 (v := 0) (by decide) ?_
      refine zg_iload_n (pc := 17) dX7_addThread_17 rfl rfl ?_
      refine zg_callNi (st := []) (pc := 18) dX7_addThread_18 (As := [.int 0, .int l3]) lk_X7_33 rfl (Nat.le_of_ble_eq_true rfl) (Nat.le_of_ble_eq_true rfl) (sd_X8_canBeTold d H) (fun r6 h5 H => ?_)
      refine zg_if_ne (pc := 21) dX7_addThread_21 (tgt := 26) (by decide) (fun hc => ?_) (fun hc => ?_)
      · replace H := H.1 hc
        refine zg_aload_n (pc := 26) dX7_addThread_26 rfl rfl ?_
        refine zg_getI (pc := 27) dX7_addThread_27 lf_X7_18 kC_2 (by decide) rfl ?_
        refine zg_bipush (pc := 30) dX7_addThread_30 (v := 16) (by decide) ?_
        refine zg_icmp_lt (pc := 32) dX7_addThread_32 (tgt := 38) (by decide) (fun hc => ?_) (fun hc => ?_)
        · replace H := H.1 hc
          refine zg_aload_n (pc := 38) dX7_addThread_38 rfl rfl ?_
          refine zg_getI (pc := 39) dX7_addThread_39 lf_X7_18 kC_2 (by decide) rfl ?_
          refine zg_istore (pc := 42) dX7_addThread_42 (by decide) (L' := [some (.ref 2), some (.int l1), some (.int l2), some (.int l3), some (.int (h5.1 2 0))]) rfl ?_
          refine zg_aload_n (pc := 44) dX7_addThread_44 rfl rfl ?_
          refine zg_dup (pc := 45) dX7_addThread_45 rfl ?_
          refine zg_getI (pc := 46) dX7_addThread_46 lf_X7_18 kC_2 (by decide) rfl ?_
          refine zg_iconst (pc := 49) dX7_addThread_49 (v := 1) (by decide) ?_
          refine zg_iadd (pc := 50) dX7_addThread_50 ?_
          refine zg_putI (pc := 51) dX7_addThread_51 lp_X7_18 kC_2 (by decide) rfl ?_
          generalize eh7 : zz_uI h5 2 0 ((h5.1 2 0) + 1) = h7
          replace H := H h7 eh7.symm
          refine zg_aload_n (pc := 54) dX7_addThread_54 rfl rfl ?_
          refine zg_iload (pc := 55) dX7_addThread_55 rfl ?_
          refine zg_iconst (pc := 57) dX7_addThread_57 (v := 0) (by decide) ?_
          refine zg_iload_n (pc := 58) dX7_addThread_58 rfl rfl ?_
          refine zg_callVv (st := []) (pc := 59) dX7_addThread_59 (As := [.int (h5.1 2 0), .int 0, .int l3]) lk_X7_37 kC_2 (by decide) rfl (Nat.le_of_ble_eq_true rfl) (Nat.le_of_ble_eq_true rfl) (sd_X7_write (d + 1) H) (fun h8 H => ?_)
          refine zg_aload_n (pc := 62) dX7_addThread_62 rfl rfl ?_
          refine zg_iload (pc := 63) dX7_addThread_63 rfl ?_
          refine zg_iconst (pc := 65) dX7_addThread_65 (v := 1) (by decide) ?_
          refine zg_iload_n (pc := 66) dX7_addThread_66 rfl rfl ?_
          refine zg_callVv (st := []) (pc := 67) dX7_addThread_67 (As := [.int (h5.1 2 0), .int 1, .int l2]) lk_X7_37 kC_2 (by decide) rfl (Nat.le_of_ble_eq_true rfl) (Nat.le_of_ble_eq_true rfl) (sd_X7_write (d + 1) H) (fun h10 H => ?_)
          refine zg_aload_n (pc := 70) dX7_addThread_70 rfl rfl ?_
          refine zg_iload (pc := 71) dX7_addThread_71 rfl ?_
          refine zg_iconst (pc := 73) dX7_addThread_73 (v := 2) (by decide) ?_
          refine zg_iload_n (pc := 74) dX7_addThread_74 rfl rfl ?_
          refine zg_callVv (st := []) (pc := 75) dX7_addThread_75 (As := [.int (h5.1 2 0), .int 2, .int l1]) lk_X7_37 kC_2 (by decide) rfl (Nat.le_of_ble_eq_true rfl) (Nat.le_of_ble_eq_true rfl) (sd_X7_write (d + 1) H) (fun h12 H => ?_)
          refine zg_aload_n (pc := 78) dX7_addThread_78 rfl rfl ?_
          refine zg_iload (pc := 79) dX7_addThread_79 rfl ?_
          refine zg_iconst (pc := 81) dX7_addThread_81 (v := 3) (by decide) ?_
          refine zg_iconst (pc := 82) dX7_addThread_82 (v := 0) (by decide) ?_
          refine zg_callVv (st := []) (pc := 83) dX7_addThread_83 (As := [.int (h5.1 2 0), .int 3, .int 0]) lk_X7_37 kC_2 (by decide) rfl (Nat.le_of_ble_eq_true rfl) (Nat.le_of_ble_eq_true rfl) (sd_X7_write (d + 1) H) (fun h14 H => ?_)
          refine zg_aload_n (pc := 86) dX7_addThread_86 rfl rfl ?_
          refine zg_iload (pc := 87) dX7_addThread_87 rfl ?_
          refine zg_iconst (pc := 89) dX7_addThread_89 (v := 4) (by decide) ?_
          refine zg_iconst (pc := 90) dX7_addThread_90 (v := 0) (by decide) ?_
          refine zg_callVv (st := []) (pc := 91) dX7_addThread_91 (As := [.int (h5.1 2 0), .int 4, .int 0]) lk_X7_37 kC_2 (by decide) rfl (Nat.le_of_ble_eq_true rfl) (Nat.le_of_ble_eq_true rfl) (sd_X7_write (d + 1) H) (fun h16 H => ?_)
          refine zg_aload_n (pc := 94) dX7_addThread_94 rfl rfl ?_
          refine zg_iload (pc := 95) dX7_addThread_95 rfl ?_
          refine zg_iconst (pc := 97) dX7_addThread_97 (v := 5) (by decide) ?_
          refine zg_iconst (pc := 98) dX7_addThread_98 (v := 0) (by decide) ?_
          refine zg_callVv (st := []) (pc := 99) dX7_addThread_99 (As := [.int (h5.1 2 0), .int 5, .int 0]) lk_X7_37 kC_2 (by decide) rfl (Nat.le_of_ble_eq_true rfl) (Nat.le_of_ble_eq_true rfl) (sd_X7_write (d + 1) H) (fun h18 H => ?_)
          refine zg_aload_n (pc := 102) dX7_addThread_102 rfl rfl ?_
          refine zg_iload (pc := 103) dX7_addThread_103 rfl ?_
          refine zg_bipush (pc := 105) dX7_addThread_105 (v := 6) (by decide) ?_
          refine zg_iconst (pc := 107) dX7_addThread_107 (v := 1) (by decide) ?_
          refine zg_callVv (st := []) (pc := 108) dX7_addThread_108 (As := [.int (h5.1 2 0), .int 6, .int 1]) lk_X7_37 kC_2 (by decide) rfl (Nat.le_of_ble_eq_true rfl) (Nat.le_of_ble_eq_true rfl) (sd_X7_write (d + 1) H) (fun h20 H => ?_)
          refine zg_aload_n (pc := 111) dX7_addThread_111 rfl rfl ?_
          refine zg_iload (pc := 112) dX7_addThread_112 rfl ?_
          refine zg_bipush (pc := 114) dX7_addThread_114 (v := 7) (by decide) ?_
          refine zg_iconst (pc := 116) dX7_addThread_116 (v := 1) (by decide) ?_
          refine zg_iload (pc := 117) dX7_addThread_117 rfl ?_
          refine zg_ishl (pc := 119) dX7_addThread_119 ?_
          refine zg_callVv (st := []) (pc := 120) dX7_addThread_120 (As := [.int (h5.1 2 0), .int 7, .int (1 <<< ((h5.1 2 0) &&& 31))]) lk_X7_37 kC_2 (by decide) rfl (Nat.le_of_ble_eq_true rfl) (Nat.le_of_ble_eq_true rfl) (sd_X7_write (d + 1) H) (fun h22 H => ?_)
          refine zg_iload (pc := 123) dX7_addThread_123 rfl ?_
          exact zg_iret (pc := 125) dX7_addThread_125 rfl ⟨_, rfl, H⟩
        · replace H := H.2 hc
          refine zg_bipush (pc := 35) dX7_addThread_35 (v := (-3)) (by decide) ?_
          exact zg_iret (pc := 37) dX7_addThread_37 rfl ⟨_, rfl, H⟩
      · replace H := H.2 hc
        refine zg_iconst (pc := 24) dX7_addThread_24 (v := (-1)) (by decide) ?_
        exact zg_iret (pc := 25) dX7_addThread_25 rfl ⟨_, rfl, H⟩
set_option maxRecDepth 100000 in
theorem sd_X8_thread (d : Nat) {l1 : Int32} {l2 : Int32} {l3 : Int32} {h : zz_Hp} {Q : Int32 → zz_Hp → Prop} (H : w_X8_thread l1 l2 l3 h Q) : zz_G zKC zNC (d + 3) mX8_thread (qI Q) 0 (zz_L0 4 [.ref 0, .int l1, .int l2, .int l3]) [] h := by
  show zz_G zKC zNC (d + 3) mX8_thread (qI Q) 0 [some (.ref 0), some (.int l1), some (.int l2), some (.int l3)] [] h
  unfold w_X8_thread at H
  refine zg_aload_n (pc := 0) dX8_thread_0 rfl rfl ?_
  refine zg_getR (pc := 1) dX8_thread_1 lf_X8_12 kC_0 (by decide) rfl ?_
  refine zg_getR (pc := 4) dX8_thread_4 lf_X8_75 kC_1 (by decide) rfl ?_
  refine zg_iload_n (pc := 7) dX8_thread_7 rfl rfl ?_
  refine zg_iload_n (pc := 8) dX8_thread_8 rfl rfl ?_
  refine zg_iload_n (pc := 9) dX8_thread_9 rfl rfl ?_
  refine zg_callVi (st := []) (pc := 10) dX8_thread_10 (As := [.int l1, .int l2, .int l3]) lk_X8_79 kC_2 (by decide) rfl (Nat.le_of_ble_eq_true rfl) (Nat.le_of_ble_eq_true rfl) (sd_X7_addThread d H) (fun r2 h1 H => ?_)
  exact zg_iret (pc := 13) dX8_thread_13 rfl ⟨_, rfl, H⟩
set_option maxRecDepth 100000 in
theorem sd_X7_fact (d : Nat) {l1 : Int32} {l2 : Int32} {h : zz_Hp} {Q : Int32 → zz_Hp → Prop} (H : w_X7_fact l1 l2 h Q) : zz_G zKC zNC (d + 0) mX7_fact (qI Q) 0 (zz_L0 3 [.ref 2, .int l1, .int l2]) [] h := by
  show zz_G zKC zNC (d + 0) mX7_fact (qI Q) 0 [some (.ref 2), some (.int l1), some (.int l2)] [] h
  unfold w_X7_fact at H
  refine zg_aload_n (pc := 0) dX7_fact_0 rfl rfl ?_
  refine zg_getR (pc := 1) dX7_fact_1 lf_X7_9 kC_2 (by decide) rfl ?_
  refine zg_iload_n (pc := 4) dX7_fact_4 rfl rfl ?_
  refine zg_bipush (pc := 5) dX7_fact_5 (v := 8) (by decide) ?_
  refine zg_imul (pc := 7) dX7_fact_7 ?_
  refine zg_iload_n (pc := 8) dX7_fact_8 rfl rfl ?_
  refine zg_iadd (pc := 9) dX7_fact_9 ?_
  obtain ⟨hb, H⟩ := H
  refine zg_iald (pc := 10) dX7_fact_10 kC_3 (by decide) hb ?_
  exact zg_iret (pc := 11) dX7_fact_11 rfl ⟨_, rfl, H⟩
set_option maxRecDepth 100000 in
theorem sd_X7_has (d : Nat) {l1 : Int32} {h : zz_Hp} {Q : Int32 → zz_Hp → Prop} (H : w_X7_has l1 h Q) : zz_G zKC zNC (d + 0) mX7_has (qI Q) 0 (zz_L0 2 [.ref 2, .int l1]) [] h := by
  show zz_G zKC zNC (d + 0) mX7_has (qI Q) 0 [some (.ref 2), some (.int l1)] [] h
  unfold w_X7_has at H
  refine zg_iload_n (pc := 0) dX7_has_0 rfl rfl ?_
  refine zg_if_lt (pc := 1) dX7_has_1 (tgt := 16) (by decide) (fun hc => ?_) (fun hc => ?_)
  · replace H := H.1 hc
    refine zg_iconst (pc := 16) dX7_has_16 (v := 0) (by decide) ?_
    exact zg_zret (pc := 17) dX7_has_17 (Or.inl rfl) rfl ⟨_, rfl, H⟩
  · replace H := H.2 hc
    refine zg_iload_n (pc := 4) dX7_has_4 rfl rfl ?_
    refine zg_aload_n (pc := 5) dX7_has_5 rfl rfl ?_
    refine zg_getI (pc := 6) dX7_has_6 lf_X7_18 kC_2 (by decide) rfl ?_
    refine zg_icmp_ge (pc := 9) dX7_has_9 (tgt := 16) (by decide) (fun hc => ?_) (fun hc => ?_)
    · replace H := H.1 hc
      refine zg_iconst (pc := 16) dX7_has_16 (v := 0) (by decide) ?_
      exact zg_zret (pc := 17) dX7_has_17 (Or.inl rfl) rfl ⟨_, rfl, H⟩
    · replace H := H.2 hc
      refine zg_iconst (pc := 12) dX7_has_12 (v := 1) (by decide) ?_
      refine zg_goto (pc := 13) dX7_has_13 (tgt := 17) (by decide) ?_
      exact zg_zret (pc := 17) dX7_has_17 (Or.inr rfl) rfl ⟨_, rfl, H⟩
set_option maxRecDepth 100000 in
theorem sd_X7_canBePart (d : Nat) {l1 : Int32} {h : zz_Hp} {Q : Int32 → zz_Hp → Prop} (H : w_X7_canBePart l1 h Q) : zz_G zKC zNC (d + 1) mX7_canBePart (qI Q) 0 (zz_L0 2 [.ref 2, .int l1]) [] h := by
  show zz_G zKC zNC (d + 1) mX7_canBePart (qI Q) 0 [some (.ref 2), some (.int l1)] [] h
  unfold w_X7_canBePart at H
  refine zg_aload_n (pc := 0) dX7_canBePart_0 rfl rfl ?_
  refine zg_iload_n (pc := 1) dX7_canBePart_1 rfl rfl ?_
  refine zg_callVi (st := []) (pc := 2) dX7_canBePart_2 (As := [.int l1]) lk_X7_22 kC_2 (by decide) rfl (Nat.le_of_ble_eq_true rfl) (Nat.le_of_ble_eq_true rfl) (sd_X7_has d H) (fun r2 h1 H => ?_)
  refine zg_if_eq (pc := 5) dX7_canBePart_5 (tgt := 22) (by decide) (fun hc => ?_) (fun hc => ?_)
  · replace H := H.1 hc
    refine zg_iconst (pc := 22) dX7_canBePart_22 (v := 0) (by decide) ?_
    exact zg_zret (pc := 23) dX7_canBePart_23 (Or.inl rfl) rfl ⟨_, rfl, H⟩
  · replace H := H.2 hc
    refine zg_aload_n (pc := 8) dX7_canBePart_8 rfl rfl ?_
    refine zg_iload_n (pc := 9) dX7_canBePart_9 rfl rfl ?_
    refine zg_iconst (pc := 10) dX7_canBePart_10 (v := 5) (by decide) ?_
    refine zg_callVi (st := []) (pc := 11) dX7_canBePart_11 (As := [.int l1, .int 5]) lk_X7_26 kC_2 (by decide) rfl (Nat.le_of_ble_eq_true rfl) (Nat.le_of_ble_eq_true rfl) (sd_X7_fact d H) (fun r4 h3 H => ?_)
    refine zg_iconst (pc := 14) dX7_canBePart_14 (v := 3) (by decide) ?_
    refine zg_icmp_ge (pc := 15) dX7_canBePart_15 (tgt := 22) (by decide) (fun hc => ?_) (fun hc => ?_)
    · replace H := H.1 hc
      refine zg_iconst (pc := 22) dX7_canBePart_22 (v := 0) (by decide) ?_
      exact zg_zret (pc := 23) dX7_canBePart_23 (Or.inl rfl) rfl ⟨_, rfl, H⟩
    · replace H := H.2 hc
      refine zg_iconst (pc := 18) dX7_canBePart_18 (v := 1) (by decide) ?_
      refine zg_goto (pc := 19) dX7_canBePart_19 (tgt := 23) (by decide) ?_
      exact zg_zret (pc := 23) dX7_canBePart_23 (Or.inr rfl) rfl ⟨_, rfl, H⟩
set_option maxRecDepth 100000 in
theorem sd_X8_part (d : Nat) {l1 : Int32} {h : zz_Hp} {Q : Int32 → zz_Hp → Prop} (H : w_X8_part l1 h Q) : zz_G zKC zNC (d + 2) mX8_part (qI Q) 0 (zz_L0 2 [.ref 0, .int l1]) [] h := by
  show zz_G zKC zNC (d + 2) mX8_part (qI Q) 0 [some (.ref 0), some (.int l1)] [] h
  unfold w_X8_part at H
  refine zg_aload_n (pc := 0) dX8_part_0 rfl rfl ?_
  refine zg_getR (pc := 1) dX8_part_1 lf_X8_12 kC_0 (by decide) rfl ?_
  refine zg_getR (pc := 4) dX8_part_4 lf_X8_75 kC_1 (by decide) rfl ?_
  refine zg_iload_n (pc := 7) dX8_part_7 rfl rfl ?_
  refine zg_callVi (st := []) (pc := 8) dX8_part_8 (As := [.int l1]) lk_X8_85 kC_2 (by decide) rfl (Nat.le_of_ble_eq_true rfl) (Nat.le_of_ble_eq_true rfl) (sd_X7_has (d + 1) H) (fun r2 h1 H => ?_)
  refine zg_if_ne (pc := 11) dX8_part_11 (tgt := 16) (by decide) (fun hc => ?_) (fun hc => ?_)
  · replace H := H.1 hc
    refine zg_aload_n (pc := 16) dX8_part_16 rfl rfl ?_
    refine zg_getI (pc := 17) dX8_part_17 lf_X8_89 kC_0 (by decide) rfl ?_
    refine zg_iconst (pc := 20) dX8_part_20 (v := 4) (by decide) ?_
    refine zg_icmp_lt (pc := 21) dX8_part_21 (tgt := 27) (by decide) (fun hc => ?_) (fun hc => ?_)
    · replace H := H.1 hc
      refine zg_aload_n (pc := 27) dX8_part_27 rfl rfl ?_
      refine zg_getR (pc := 28) dX8_part_28 lf_X8_12 kC_0 (by decide) rfl ?_
      refine zg_getR (pc := 31) dX8_part_31 lf_X8_75 kC_1 (by decide) rfl ?_
      refine zg_iload_n (pc := 34) dX8_part_34 rfl rfl ?_
      refine zg_callVi (st := []) (pc := 35) dX8_part_35 (As := [.int l1]) lk_X8_93 kC_2 (by decide) rfl (Nat.le_of_ble_eq_true rfl) (Nat.le_of_ble_eq_true rfl) (sd_X7_canBePart d H) (fun r4 h3 H => ?_)
      refine zg_if_ne (pc := 38) dX8_part_38 (tgt := 44) (by decide) (fun hc => ?_) (fun hc => ?_)
      · replace H := H.1 hc
        refine zg_aload_n (pc := 44) dX8_part_44 rfl rfl ?_
        refine zg_getR (pc := 45) dX8_part_45 lf_X8_21 kC_0 (by decide) rfl ?_
        refine zg_aload_n (pc := 48) dX8_part_48 rfl rfl ?_
        refine zg_getI (pc := 49) dX8_part_49 lf_X8_89 kC_0 (by decide) rfl ?_
        refine zg_iload_n (pc := 52) dX8_part_52 rfl rfl ?_
        obtain ⟨hb, H⟩ := H
        refine zg_iast (pc := 53) dX8_part_53 kC_17 (by decide) hb ?_
        generalize eh5 : zz_uI h3 17 (Int32.toNatClampNeg (h3.1 0 4)) l1 = h5
        replace H := H h5 eh5.symm
        refine zg_aload_n (pc := 54) dX8_part_54 rfl rfl ?_
        refine zg_dup (pc := 55) dX8_part_55 rfl ?_
        refine zg_getI (pc := 56) dX8_part_56 lf_X8_89 kC_0 (by decide) rfl ?_
        refine zg_iconst (pc := 59) dX8_part_59 (v := 1) (by decide) ?_
        refine zg_iadd (pc := 60) dX8_part_60 ?_
        refine zg_putI (pc := 61) dX8_part_61 lp_X8_89 kC_0 (by decide) rfl ?_
        generalize eh6 : zz_uI h5 0 4 ((h5.1 0 4) + 1) = h6
        replace H := H h6 eh6.symm
        refine zg_aload_n (pc := 64) dX8_part_64 rfl rfl ?_
        refine zg_getI (pc := 65) dX8_part_65 lf_X8_89 kC_0 (by decide) rfl ?_
        exact zg_iret (pc := 68) dX8_part_68 rfl ⟨_, rfl, H⟩
      · replace H := H.2 hc
        refine zg_bipush (pc := 41) dX8_part_41 (v := (-5)) (by decide) ?_
        exact zg_iret (pc := 43) dX8_part_43 rfl ⟨_, rfl, H⟩
    · replace H := H.2 hc
      refine zg_bipush (pc := 24) dX8_part_24 (v := (-3)) (by decide) ?_
      exact zg_iret (pc := 26) dX8_part_26 rfl ⟨_, rfl, H⟩
  · replace H := H.2 hc
    refine zg_iconst (pc := 14) dX8_part_14 (v := (-1)) (by decide) ?_
    exact zg_iret (pc := 15) dX8_part_15 rfl ⟨_, rfl, H⟩
set_option maxRecDepth 100000 in
theorem sd_X7_join_2_17_l14 {d : Nat} {Q : zz_Hp → Prop} {l1 : Int32} {l3 : Int32} {l4 : Int32} {l5 : Int32} {l6 : Int32} {l7 : Int32} {h : zz_Hp}  (H : lp (fun s ag => w_X7_join_2_17_l14 ag Q l1 l3 s.1 s.2.1 s.2.2.1 s.2.2.2.1 s.2.2.2.2) (l4, l5, l6, l7, h)) : zz_G zKC zNC (d + 1) mX7_join (qV Q) 14 [some (.ref 2), some (.int l1), some (.ref 17), some (.int l3), some (.int l4), some (.int l5), some (.int l6), some (.int l7), none] [] h := by
  refine lp_sound (G := fun (s : Int32 × Int32 × Int32 × Int32 × zz_Hp) => zz_G zKC zNC (d + 1) mX7_join (qV Q) 14 [some (.ref 2), some (.int l1), some (.ref 17), some (.int l3), some (.int s.1), some (.int s.2.1), some (.int s.2.2.1), some (.int s.2.2.2.1), none] [] s.2.2.2.2) ?_ H
  clear H
  intro s ag14 hag14 H
  obtain ⟨l4, l5, l6, l7, h⟩ := s
  replace hag14 : ∀ (l4 : Int32) (l5 : Int32) (l6 : Int32) (l7 : Int32) (h : zz_Hp), ag14 (l4, l5, l6, l7, h) → zz_G zKC zNC (d + 1) mX7_join (qV Q) 14 [some (.ref 2), some (.int l1), some (.ref 17), some (.int l3), some (.int l4), some (.int l5), some (.int l6), some (.int l7), none] [] h := fun l4 l5 l6 l7 h H => hag14 (l4, l5, l6, l7, h) H
  replace H : w_X7_join_2_17_l14 ag14 Q l1 l3 l4 l5 l6 l7 h := H
  show zz_G zKC zNC (d + 1) mX7_join (qV Q) 14 [some (.ref 2), some (.int l1), some (.ref 17), some (.int l3), some (.int l4), some (.int l5), some (.int l6), some (.int l7), none] [] h
  unfold w_X7_join_2_17_l14 at H
  refine zg_iload (pc := 14) dX7_join_14 rfl ?_
  refine zg_iload_n (pc := 16) dX7_join_16 rfl rfl ?_
  refine zg_icmp_ge (pc := 17) dX7_join_17 (tgt := 87) (by decide) (fun hc => ?_) (fun hc => ?_)
  · replace H := H.1 hc
    refine zg_aload_n (pc := 87) dX7_join_87 rfl rfl ?_
    refine zg_iload_n (pc := 88) dX7_join_88 rfl rfl ?_
    refine zg_iconst (pc := 89) dX7_join_89 (v := 4) (by decide) ?_
    refine zg_iload_n (pc := 90) dX7_join_90 rfl rfl ?_
    refine zg_callVv (st := []) (pc := 91) dX7_join_91 (As := [.int l1, .int 4, .int l3]) lk_X7_37 kC_2 (by decide) rfl (Nat.le_of_ble_eq_true rfl) (Nat.le_of_ble_eq_true rfl) (sd_X7_write d H) (fun h1 H => ?_)
    refine zg_aload_n (pc := 94) dX7_join_94 rfl rfl ?_
    refine zg_iload_n (pc := 95) dX7_join_95 rfl rfl ?_
    refine zg_iconst (pc := 96) dX7_join_96 (v := 5) (by decide) ?_
    refine zg_iload (pc := 97) dX7_join_97 rfl ?_
    refine zg_callVv (st := []) (pc := 99) dX7_join_99 (As := [.int l1, .int 5, .int l4]) lk_X7_37 kC_2 (by decide) rfl (Nat.le_of_ble_eq_true rfl) (Nat.le_of_ble_eq_true rfl) (sd_X7_write d H) (fun h3 H => ?_)
    refine zg_aload_n (pc := 102) dX7_join_102 rfl rfl ?_
    refine zg_iload_n (pc := 103) dX7_join_103 rfl rfl ?_
    refine zg_bipush (pc := 104) dX7_join_104 (v := 6) (by decide) ?_
    refine zg_iload (pc := 106) dX7_join_106 rfl ?_
    refine zg_callVv (st := []) (pc := 108) dX7_join_108 (As := [.int l1, .int 6, .int l5]) lk_X7_37 kC_2 (by decide) rfl (Nat.le_of_ble_eq_true rfl) (Nat.le_of_ble_eq_true rfl) (sd_X7_write d H) (fun h5 H => ?_)
    refine zg_aload_n (pc := 111) dX7_join_111 rfl rfl ?_
    refine zg_iload_n (pc := 112) dX7_join_112 rfl rfl ?_
    refine zg_bipush (pc := 113) dX7_join_113 (v := 7) (by decide) ?_
    refine zg_iload (pc := 115) dX7_join_115 rfl ?_
    refine zg_callVv (st := []) (pc := 117) dX7_join_117 (As := [.int l1, .int 7, .int l6]) lk_X7_37 kC_2 (by decide) rfl (Nat.le_of_ble_eq_true rfl) (Nat.le_of_ble_eq_true rfl) (sd_X7_write d H) (fun h7 H => ?_)
    exact zg_vret (pc := 120) dX7_join_120 rfl ⟨rfl, H⟩
  · replace H := H.2 hc
    refine zg_aload_n (pc := 20) dX7_join_20 rfl rfl ?_
    refine zg_iload (pc := 21) dX7_join_21 rfl ?_
    obtain ⟨hb, H⟩ := H
    refine zg_iald (pc := 23) dX7_join_23 kC_17 (by decide) hb ?_
    refine zg_istore (pc := 24) dX7_join_24 (by decide) (L' := [some (.ref 2), some (.int l1), some (.ref 17), some (.int l3), some (.int l4), some (.int l5), some (.int l6), some (.int l7), some (.int (h.1 17 (Int32.toNatClampNeg l7)))]) rfl ?_
    refine zg_aload_n (pc := 26) dX7_join_26 rfl rfl ?_
    refine zg_getR (pc := 27) dX7_join_27 lf_X7_15 kC_2 (by decide) rfl ?_
    refine zg_iload_n (pc := 30) dX7_join_30 rfl rfl ?_
    refine zg_iconst (pc := 31) dX7_join_31 (v := 4) (by decide) ?_
    refine zg_imul (pc := 32) dX7_join_32 ?_
    refine zg_iload (pc := 33) dX7_join_33 rfl ?_
    refine zg_iadd (pc := 35) dX7_join_35 ?_
    refine zg_iload (pc := 36) dX7_join_36 rfl ?_
    obtain ⟨hb, H⟩ := H
    refine zg_iast (pc := 38) dX7_join_38 kC_4 (by decide) hb ?_
    generalize eh9 : zz_uI h 4 (Int32.toNatClampNeg ((l1 * 4) + l7)) (h.1 17 (Int32.toNatClampNeg l7)) = h9
    replace H := H h9 eh9.symm
    refine zg_iload (pc := 39) dX7_join_39 rfl ?_
    refine zg_aload_n (pc := 41) dX7_join_41 rfl rfl ?_
    refine zg_iload (pc := 42) dX7_join_42 rfl ?_
    refine zg_iconst (pc := 44) dX7_join_44 (v := 5) (by decide) ?_
    refine zg_callVi (st := [.int l4]) (pc := 45) dX7_join_45 (As := [.int (h.1 17 (Int32.toNatClampNeg l7)), .int 5]) lk_X7_26 kC_2 (by decide) rfl (Nat.le_of_ble_eq_true rfl) (Nat.le_of_ble_eq_true rfl) (sd_X7_fact d H) (fun r11 h10 H => ?_)
    refine zg_iconst (pc := 48) dX7_join_48 (v := 1) (by decide) ?_
    refine zg_iadd (pc := 49) dX7_join_49 ?_
    refine zg_mmax (pc := 50) dX7_join_50 lk_X7_52 (Nat.le_of_ble_eq_true rfl) ?_
    refine zg_istore (pc := 53) dX7_join_53 (by decide) (L' := [some (.ref 2), some (.int l1), some (.ref 17), some (.int l3), some (.int (if l4 < (r11 + 1) then (r11 + 1) else l4)), some (.int l5), some (.int l6), some (.int l7), some (.int (h.1 17 (Int32.toNatClampNeg l7)))]) rfl ?_
    refine zg_iload (pc := 55) dX7_join_55 rfl ?_
    refine zg_aload_n (pc := 57) dX7_join_57 rfl rfl ?_
    refine zg_iload (pc := 58) dX7_join_58 rfl ?_
    refine zg_bipush (pc := 60) dX7_join_60 (v := 6) (by decide) ?_
    refine zg_callVi (st := [.int l5]) (pc := 62) dX7_join_62 (As := [.int (h.1 17 (Int32.toNatClampNeg l7)), .int 6]) lk_X7_26 kC_2 (by decide) rfl (Nat.le_of_ble_eq_true rfl) (Nat.le_of_ble_eq_true rfl) (sd_X7_fact d H) (fun r13 h12 H => ?_)
    refine zg_iadd (pc := 65) dX7_join_65 ?_
    refine zg_istore (pc := 66) dX7_join_66 (by decide) (L' := [some (.ref 2), some (.int l1), some (.ref 17), some (.int l3), some (.int (if l4 < (r11 + 1) then (r11 + 1) else l4)), some (.int (l5 + r13)), some (.int l6), some (.int l7), some (.int (h.1 17 (Int32.toNatClampNeg l7)))]) rfl ?_
    refine zg_iload (pc := 68) dX7_join_68 rfl ?_
    refine zg_aload_n (pc := 70) dX7_join_70 rfl rfl ?_
    refine zg_iload (pc := 71) dX7_join_71 rfl ?_
    refine zg_bipush (pc := 73) dX7_join_73 (v := 7) (by decide) ?_
    refine zg_callVi (st := [.int l6]) (pc := 75) dX7_join_75 (As := [.int (h.1 17 (Int32.toNatClampNeg l7)), .int 7]) lk_X7_26 kC_2 (by decide) rfl (Nat.le_of_ble_eq_true rfl) (Nat.le_of_ble_eq_true rfl) (sd_X7_fact d H) (fun r15 h14 H => ?_)
    refine zg_ior (pc := 78) dX7_join_78 ?_
    refine zg_istore (pc := 79) dX7_join_79 (by decide) (L' := [some (.ref 2), some (.int l1), some (.ref 17), some (.int l3), some (.int (if l4 < (r11 + 1) then (r11 + 1) else l4)), some (.int (l5 + r13)), some (.int (l6 ||| r15)), some (.int l7), some (.int (h.1 17 (Int32.toNatClampNeg l7)))]) rfl ?_
    refine zg_iinc (pc := 81) dX7_join_81 rfl (v := l7 + 1) rfl (by decide) (L' := [some (.ref 2), some (.int l1), some (.ref 17), some (.int l3), some (.int (if l4 < (r11 + 1) then (r11 + 1) else l4)), some (.int (l5 + r13)), some (.int (l6 ||| r15)), some (.int (l7 + 1)), some (.int (h.1 17 (Int32.toNatClampNeg l7)))]) rfl ?_
    refine zg_goto (pc := 84) dX7_join_84 (tgt := 14) (by decide) ?_
    refine zg_weak (L' := [some (.ref 2), some (.int l1), some (.ref 17), some (.int l3), some (.int (if l4 < (r11 + 1) then (r11 + 1) else l4)), some (.int (l5 + r13)), some (.int (l6 ||| r15)), some (.int (l7 + 1)), none]) ⟨rfl, ⟨rfl, ⟨rfl, ⟨rfl, ⟨rfl, ⟨rfl, ⟨rfl, ⟨rfl, trivial⟩⟩⟩⟩⟩⟩⟩⟩ ?_
    exact hag14 (if l4 < (r11 + 1) then (r11 + 1) else l4) (l5 + r13) (l6 ||| r15) (l7 + 1) _ H
set_option maxRecDepth 100000 in
theorem sd_X7_join_2_17 (d : Nat) {l1 : Int32} {l3 : Int32} {h : zz_Hp} {Q : zz_Hp → Prop} (H : w_X7_join_2_17 l1 l3 h Q) : zz_G zKC zNC (d + 1) mX7_join (qV Q) 0 (zz_L0 9 [.ref 2, .int l1, .ref 17, .int l3]) [] h := by
  show zz_G zKC zNC (d + 1) mX7_join (qV Q) 0 [some (.ref 2), some (.int l1), some (.ref 17), some (.int l3), none, none, none, none, none] [] h
  unfold w_X7_join_2_17 at H
  refine zg_iconst (pc := 0) dX7_join_0 (v := 0) (by decide) ?_
  refine zg_istore (pc := 1) dX7_join_1 (by decide) (L' := [some (.ref 2), some (.int l1), some (.ref 17), some (.int l3), some (.int 0), none, none, none, none]) rfl ?_
  refine zg_iconst (pc := 3) dX7_join_3 (v := 0) (by decide) ?_
  refine zg_istore (pc := 4) dX7_join_4 (by decide) (L' := [some (.ref 2), some (.int l1), some (.ref 17), some (.int l3), some (.int 0), some (.int 0), none, none, none]) rfl ?_
  refine zg_iconst (pc := 6) dX7_join_6 (v := 1) (by decide) ?_
  refine zg_iload_n (pc := 7) dX7_join_7 rfl rfl ?_
  refine zg_ishl (pc := 8) dX7_join_8 ?_
  refine zg_istore (pc := 9) dX7_join_9 (by decide) (L' := [some (.ref 2), some (.int l1), some (.ref 17), some (.int l3), some (.int 0), some (.int 0), some (.int (1 <<< (l1 &&& 31))), none, none]) rfl ?_
  refine zg_iconst (pc := 11) dX7_join_11 (v := 0) (by decide) ?_
  refine zg_istore (pc := 12) dX7_join_12 (by decide) (L' := [some (.ref 2), some (.int l1), some (.ref 17), some (.int l3), some (.int 0), some (.int 0), some (.int (1 <<< (l1 &&& 31))), some (.int 0), none]) rfl ?_
  exact sd_X7_join_2_17_l14  H
set_option maxRecDepth 100000 in
theorem sd_X7_addPlied_2_17_l31 {d : Nat} {Q : Int32 → zz_Hp → Prop} {l2 : Int32} {l3 : Int32} {l4 : Int32} {h : zz_Hp}  (H : lp (fun s ag => w_X7_addPlied_2_17_l31 ag Q l2 l3 s.1 s.2) (l4, h)) : zz_G zKC zNC (d + 2) mX7_addPlied (qI Q) 31 [some (.ref 2), some (.ref 17), some (.int l2), some (.int l3), some (.int l4)] [] h := by
  refine lp_sound (G := fun (s : Int32 × zz_Hp) => zz_G zKC zNC (d + 2) mX7_addPlied (qI Q) 31 [some (.ref 2), some (.ref 17), some (.int l2), some (.int l3), some (.int s.1)] [] s.2) ?_ H
  clear H
  intro s ag31 hag31 H
  obtain ⟨l4, h⟩ := s
  replace hag31 : ∀ (l4 : Int32) (h : zz_Hp), ag31 (l4, h) → zz_G zKC zNC (d + 2) mX7_addPlied (qI Q) 31 [some (.ref 2), some (.ref 17), some (.int l2), some (.int l3), some (.int l4)] [] h := fun l4 h H => hag31 (l4, h) H
  replace H : w_X7_addPlied_2_17_l31 ag31 Q l2 l3 l4 h := H
  show zz_G zKC zNC (d + 2) mX7_addPlied (qI Q) 31 [some (.ref 2), some (.ref 17), some (.int l2), some (.int l3), some (.int l4)] [] h
  unfold w_X7_addPlied_2_17_l31 at H
  refine zg_iload (pc := 31) dX7_addPlied_31 rfl ?_
  refine zg_iload_n (pc := 33) dX7_addPlied_33 rfl rfl ?_
  refine zg_icmp_ge (pc := 34) dX7_addPlied_34 (tgt := 57) (by decide) (fun hc => ?_) (fun hc => ?_)
  · replace H := H.1 hc
    refine zg_aload_n (pc := 57) dX7_addPlied_57 rfl rfl ?_
    refine zg_getI (pc := 58) dX7_addPlied_58 lf_X7_18 kC_2 (by decide) rfl ?_
    refine zg_bipush (pc := 61) dX7_addPlied_61 (v := 16) (by decide) ?_
    refine zg_icmp_lt (pc := 63) dX7_addPlied_63 (tgt := 69) (by decide) (fun hc => ?_) (fun hc => ?_)
    · replace H := H.1 hc
      refine zg_aload_n (pc := 69) dX7_addPlied_69 rfl rfl ?_
      refine zg_getI (pc := 70) dX7_addPlied_70 lf_X7_18 kC_2 (by decide) rfl ?_
      refine zg_istore (pc := 73) dX7_addPlied_73 (by decide) (L' := [some (.ref 2), some (.ref 17), some (.int l2), some (.int l3), some (.int (h.1 2 0))]) rfl ?_
      refine zg_aload_n (pc := 75) dX7_addPlied_75 rfl rfl ?_
      refine zg_dup (pc := 76) dX7_addPlied_76 rfl ?_
      refine zg_getI (pc := 77) dX7_addPlied_77 lf_X7_18 kC_2 (by decide) rfl ?_
      refine zg_iconst (pc := 80) dX7_addPlied_80 (v := 1) (by decide) ?_
      refine zg_iadd (pc := 81) dX7_addPlied_81 ?_
      refine zg_putI (pc := 82) dX7_addPlied_82 lp_X7_18 kC_2 (by decide) rfl ?_
      generalize eh5 : zz_uI h 2 0 ((h.1 2 0) + 1) = h5
      replace H := H h5 eh5.symm
      refine zg_aload_n (pc := 85) dX7_addPlied_85 rfl rfl ?_
      refine zg_iload (pc := 86) dX7_addPlied_86 rfl ?_
      refine zg_iconst (pc := 88) dX7_addPlied_88 (v := 0) (by decide) ?_
      refine zg_iload_n (pc := 89) dX7_addPlied_89 rfl rfl ?_
      refine zg_callVv (st := []) (pc := 90) dX7_addPlied_90 (As := [.int (h.1 2 0), .int 0, .int l3]) lk_X7_37 kC_2 (by decide) rfl (Nat.le_of_ble_eq_true rfl) (Nat.le_of_ble_eq_true rfl) (sd_X7_write (d + 1) H) (fun h6 H => ?_)
      refine zg_aload_n (pc := 93) dX7_addPlied_93 rfl rfl ?_
      refine zg_iload (pc := 94) dX7_addPlied_94 rfl ?_
      refine zg_iconst (pc := 96) dX7_addPlied_96 (v := 1) (by decide) ?_
      refine zg_iconst (pc := 97) dX7_addPlied_97 (v := (-1)) (by decide) ?_
      refine zg_callVv (st := []) (pc := 98) dX7_addPlied_98 (As := [.int (h.1 2 0), .int 1, .int ((-1))]) lk_X7_37 kC_2 (by decide) rfl (Nat.le_of_ble_eq_true rfl) (Nat.le_of_ble_eq_true rfl) (sd_X7_write (d + 1) H) (fun h8 H => ?_)
      refine zg_aload_n (pc := 101) dX7_addPlied_101 rfl rfl ?_
      refine zg_iload (pc := 102) dX7_addPlied_102 rfl ?_
      refine zg_iconst (pc := 104) dX7_addPlied_104 (v := 2) (by decide) ?_
      refine zg_iconst (pc := 105) dX7_addPlied_105 (v := (-1)) (by decide) ?_
      refine zg_callVv (st := []) (pc := 106) dX7_addPlied_106 (As := [.int (h.1 2 0), .int 2, .int ((-1))]) lk_X7_37 kC_2 (by decide) rfl (Nat.le_of_ble_eq_true rfl) (Nat.le_of_ble_eq_true rfl) (sd_X7_write (d + 1) H) (fun h10 H => ?_)
      refine zg_aload_n (pc := 109) dX7_addPlied_109 rfl rfl ?_
      refine zg_iload (pc := 110) dX7_addPlied_110 rfl ?_
      refine zg_iconst (pc := 112) dX7_addPlied_112 (v := 3) (by decide) ?_
      refine zg_iconst (pc := 113) dX7_addPlied_113 (v := 0) (by decide) ?_
      refine zg_callVv (st := []) (pc := 114) dX7_addPlied_114 (As := [.int (h.1 2 0), .int 3, .int 0]) lk_X7_37 kC_2 (by decide) rfl (Nat.le_of_ble_eq_true rfl) (Nat.le_of_ble_eq_true rfl) (sd_X7_write (d + 1) H) (fun h12 H => ?_)
      refine zg_aload_n (pc := 117) dX7_addPlied_117 rfl rfl ?_
      refine zg_iload (pc := 118) dX7_addPlied_118 rfl ?_
      refine zg_aload_n (pc := 120) dX7_addPlied_120 rfl rfl ?_
      refine zg_iload_n (pc := 121) dX7_addPlied_121 rfl rfl ?_
      refine zg_callVv (st := []) (pc := 122) dX7_addPlied_122 (As := [.int (h.1 2 0), .ref 17, .int l2]) lk_X7_48 kC_2 (by decide) rfl (Nat.le_of_ble_eq_true rfl) (Nat.le_of_ble_eq_true rfl) (sd_X7_join_2_17 d H) (fun h14 H => ?_)
      refine zg_iload (pc := 125) dX7_addPlied_125 rfl ?_
      exact zg_iret (pc := 127) dX7_addPlied_127 rfl ⟨_, rfl, H⟩
    · replace H := H.2 hc
      refine zg_bipush (pc := 66) dX7_addPlied_66 (v := (-3)) (by decide) ?_
      exact zg_iret (pc := 68) dX7_addPlied_68 rfl ⟨_, rfl, H⟩
  · replace H := H.2 hc
    refine zg_aload_n (pc := 37) dX7_addPlied_37 rfl rfl ?_
    refine zg_aload_n (pc := 38) dX7_addPlied_38 rfl rfl ?_
    refine zg_iload (pc := 39) dX7_addPlied_39 rfl ?_
    obtain ⟨hb, H⟩ := H
    refine zg_iald (pc := 41) dX7_addPlied_41 kC_17 (by decide) hb ?_
    refine zg_callVi (st := []) (pc := 42) dX7_addPlied_42 (As := [.int (h.1 17 (Int32.toNatClampNeg l4))]) lk_X7_45 kC_2 (by decide) rfl (Nat.le_of_ble_eq_true rfl) (Nat.le_of_ble_eq_true rfl) (sd_X7_canBePart d H) (fun r17 h16 H => ?_)
    refine zg_if_ne (pc := 45) dX7_addPlied_45 (tgt := 51) (by decide) (fun hc => ?_) (fun hc => ?_)
    · replace H := H.1 hc
      refine zg_iinc (pc := 51) dX7_addPlied_51 rfl (v := l4 + 1) rfl (by decide) (L' := [some (.ref 2), some (.ref 17), some (.int l2), some (.int l3), some (.int (l4 + 1))]) rfl ?_
      refine zg_goto (pc := 54) dX7_addPlied_54 (tgt := 31) (by decide) ?_
      exact hag31 (l4 + 1) _ H
    · replace H := H.2 hc
      refine zg_bipush (pc := 48) dX7_addPlied_48 (v := (-5)) (by decide) ?_
      exact zg_iret (pc := 50) dX7_addPlied_50 rfl ⟨_, rfl, H⟩
set_option maxRecDepth 100000 in
theorem sd_X7_addPlied_2_17 (d : Nat) {l2 : Int32} {l3 : Int32} {h : zz_Hp} {Q : Int32 → zz_Hp → Prop} (H : w_X7_addPlied_2_17 l2 l3 h Q) : zz_G zKC zNC (d + 2) mX7_addPlied (qI Q) 0 (zz_L0 5 [.ref 2, .ref 17, .int l2, .int l3]) [] h := by
  show zz_G zKC zNC (d + 2) mX7_addPlied (qI Q) 0 [some (.ref 2), some (.ref 17), some (.int l2), some (.int l3), none] [] h
  unfold w_X7_addPlied_2_17 at H
  refine zg_iconst (pc := 0) dX7_addPlied_0 (v := 0) (by decide) ?_
  refine zg_iload_n (pc := 1) dX7_addPlied_1 rfl rfl ?_
  refine zg_callNi (st := []) (pc := 2) dX7_addPlied_2 (As := [.int 0, .int l3]) lk_X7_33 rfl (Nat.le_of_ble_eq_true rfl) (Nat.le_of_ble_eq_true rfl) (sd_X8_canBeTold d H) (fun r2 h1 H => ?_)
  refine zg_if_ne (pc := 5) dX7_addPlied_5 (tgt := 10) (by decide) (fun hc => ?_) (fun hc => ?_)
  · replace H := H.1 hc
    refine zg_iload_n (pc := 10) dX7_addPlied_10 rfl rfl ?_
    refine zg_iconst (pc := 11) dX7_addPlied_11 (v := 2) (by decide) ?_
    refine zg_iconst (pc := 12) dX7_addPlied_12 (v := 4) (by decide) ?_
    refine zg_callNi (st := []) (pc := 13) dX7_addPlied_13 (As := [.int l2, .int 2, .int 4]) lk_X7_41 rfl (Nat.le_of_ble_eq_true rfl) (Nat.le_of_ble_eq_true rfl) (sd_X8_inRange (d + 1) H) (fun r4 h3 H => ?_)
    refine zg_if_eq (pc := 16) dX7_addPlied_16 (tgt := 25) (by decide) (fun hc => ?_) (fun hc => ?_)
    · replace H := H.1 hc
      refine zg_bipush (pc := 25) dX7_addPlied_25 (v := (-5)) (by decide) ?_
      exact zg_iret (pc := 27) dX7_addPlied_27 rfl ⟨_, rfl, H⟩
    · replace H := H.2 hc
      refine zg_iload_n (pc := 19) dX7_addPlied_19 rfl rfl ?_
      refine zg_aload_n (pc := 20) dX7_addPlied_20 rfl rfl ?_
      refine zg_alen (pc := 21) dX7_addPlied_21 (Or.inl rfl) (v := 4) (by decide) kC_17 (by decide) ?_
      refine zg_icmp_le (pc := 22) dX7_addPlied_22 (tgt := 28) (by decide) (fun hc => ?_) (fun hc => ?_)
      · replace H := H.1 hc
        refine zg_iconst (pc := 28) dX7_addPlied_28 (v := 0) (by decide) ?_
        refine zg_istore (pc := 29) dX7_addPlied_29 (by decide) (L' := [some (.ref 2), some (.ref 17), some (.int l2), some (.int l3), some (.int 0)]) rfl ?_
        exact sd_X7_addPlied_2_17_l31  H
      · replace H := H.2 hc
        refine zg_bipush (pc := 25) dX7_addPlied_25 (v := (-5)) (by decide) ?_
        exact zg_iret (pc := 27) dX7_addPlied_27 rfl ⟨_, rfl, H⟩
  · replace H := H.2 hc
    refine zg_iconst (pc := 8) dX7_addPlied_8 (v := (-1)) (by decide) ?_
    exact zg_iret (pc := 9) dX7_addPlied_9 rfl ⟨_, rfl, H⟩
set_option maxRecDepth 100000 in
theorem sd_X8_ply (d : Nat) {l1 : Int32} {h : zz_Hp} {Q : Int32 → zz_Hp → Prop} (H : w_X8_ply l1 h Q) : zz_G zKC zNC (d + 3) mX8_ply (qI Q) 0 (zz_L0 3 [.ref 0, .int l1]) [] h := by
  show zz_G zKC zNC (d + 3) mX8_ply (qI Q) 0 [some (.ref 0), some (.int l1), none] [] h
  unfold w_X8_ply at H
  refine zg_aload_n (pc := 0) dX8_ply_0 rfl rfl ?_
  refine zg_getR (pc := 1) dX8_ply_1 lf_X8_12 kC_0 (by decide) rfl ?_
  refine zg_getR (pc := 4) dX8_ply_4 lf_X8_75 kC_1 (by decide) rfl ?_
  refine zg_aload_n (pc := 7) dX8_ply_7 rfl rfl ?_
  refine zg_getR (pc := 8) dX8_ply_8 lf_X8_21 kC_0 (by decide) rfl ?_
  refine zg_aload_n (pc := 11) dX8_ply_11 rfl rfl ?_
  refine zg_getI (pc := 12) dX8_ply_12 lf_X8_89 kC_0 (by decide) rfl ?_
  refine zg_iload_n (pc := 15) dX8_ply_15 rfl rfl ?_
  refine zg_callVi (st := []) (pc := 16) dX8_ply_16 (As := [.ref 17, .int (h.1 0 4), .int l1]) lk_X8_96 kC_2 (by decide) rfl (Nat.le_of_ble_eq_true rfl) (Nat.le_of_ble_eq_true rfl) (sd_X7_addPlied_2_17 d H) (fun r2 h1 H => ?_)
  refine zg_istore_n (pc := 19) dX8_ply_19 rfl (by decide) (L' := [some (.ref 0), some (.int l1), some (.int r2)]) rfl ?_
  refine zg_iload_n (pc := 20) dX8_ply_20 rfl rfl ?_
  refine zg_if_lt (pc := 21) dX8_ply_21 (tgt := 29) (by decide) (fun hc => ?_) (fun hc => ?_)
  · replace H := H.1 hc
    refine zg_iload_n (pc := 29) dX8_ply_29 rfl rfl ?_
    exact zg_iret (pc := 30) dX8_ply_30 rfl ⟨_, rfl, H⟩
  · replace H := H.2 hc
    refine zg_aload_n (pc := 24) dX8_ply_24 rfl rfl ?_
    refine zg_iconst (pc := 25) dX8_ply_25 (v := 0) (by decide) ?_
    refine zg_putI (pc := 26) dX8_ply_26 lp_X8_89 kC_0 (by decide) rfl ?_
    generalize eh3 : zz_uI h1 0 4 0 = h3
    replace H := H h3 eh3.symm
    refine zg_iload_n (pc := 29) dX8_ply_29 rfl rfl ?_
    exact zg_iret (pc := 30) dX8_ply_30 rfl ⟨_, rfl, H⟩
set_option maxRecDepth 100000 in
theorem sd_X1_empty_5 (d : Nat)  {h : zz_Hp} {Q : zz_Hp → Prop} (H : w_X1_empty_5  h Q) : zz_G zKC zNC (d + 0) mX1_empty (qV Q) 0 (zz_L0 1 [.ref 5]) [] h := by
  show zz_G zKC zNC (d + 0) mX1_empty (qV Q) 0 [some (.ref 5)] [] h
  unfold w_X1_empty_5 at H
  refine zg_aload_n (pc := 0) dX1_empty_0 rfl rfl ?_
  refine zg_iconst (pc := 1) dX1_empty_1 (v := 0) (by decide) ?_
  refine zg_putI (pc := 2) dX1_empty_2 lp_X1_13 kC_5 (by decide) rfl ?_
  generalize eh1 : zz_uI h 5 0 0 = h1
  replace H := H h1 eh1.symm
  exact zg_vret (pc := 5) dX1_empty_5 rfl ⟨rfl, H⟩
set_option maxRecDepth 100000 in
theorem sd_X1_empty_7 (d : Nat)  {h : zz_Hp} {Q : zz_Hp → Prop} (H : w_X1_empty_7  h Q) : zz_G zKC zNC (d + 0) mX1_empty (qV Q) 0 (zz_L0 1 [.ref 7]) [] h := by
  show zz_G zKC zNC (d + 0) mX1_empty (qV Q) 0 [some (.ref 7)] [] h
  unfold w_X1_empty_7 at H
  refine zg_aload_n (pc := 0) dX1_empty_0 rfl rfl ?_
  refine zg_iconst (pc := 1) dX1_empty_1 (v := 0) (by decide) ?_
  refine zg_putI (pc := 2) dX1_empty_2 lp_X1_13 kC_7 (by decide) rfl ?_
  generalize eh1 : zz_uI h 7 0 0 = h1
  replace H := H h1 eh1.symm
  exact zg_vret (pc := 5) dX1_empty_5 rfl ⟨rfl, H⟩
set_option maxRecDepth 100000 in
theorem sd_X0_empty (d : Nat)  {h : zz_Hp} {Q : zz_Hp → Prop} (H : w_X0_empty  h Q) : zz_G zKC zNC (d + 1) mX0_empty (qV Q) 0 (zz_L0 1 [.ref 1]) [] h := by
  show zz_G zKC zNC (d + 1) mX0_empty (qV Q) 0 [some (.ref 1)] [] h
  unfold w_X0_empty at H
  refine zg_aload_n (pc := 0) dX0_empty_0 rfl rfl ?_
  refine zg_getR (pc := 1) dX0_empty_1 lf_X0_12 kC_1 (by decide) rfl ?_
  refine zg_iconst (pc := 4) dX0_empty_4 (v := 0) (by decide) ?_
  refine zg_putI (pc := 5) dX0_empty_5 lp_X0_30 kC_2 (by decide) rfl ?_
  generalize eh1 : zz_uI h 2 0 0 = h1
  replace H := H h1 eh1.symm
  refine zg_aload_n (pc := 8) dX0_empty_8 rfl rfl ?_
  refine zg_getR (pc := 9) dX0_empty_9 lf_X0_23 kC_1 (by decide) rfl ?_
  refine zg_callVv (st := []) (pc := 12) dX0_empty_12 (As := []) lk_X0_34 kC_5 (by decide) rfl (Nat.le_of_ble_eq_true rfl) (Nat.le_of_ble_eq_true rfl) (sd_X1_empty_5 d H) (fun h2 H => ?_)
  refine zg_aload_n (pc := 15) dX0_empty_15 rfl rfl ?_
  refine zg_getR (pc := 16) dX0_empty_16 lf_X0_27 kC_1 (by decide) rfl ?_
  refine zg_callVv (st := []) (pc := 19) dX0_empty_19 (As := []) lk_X0_34 kC_7 (by decide) rfl (Nat.le_of_ble_eq_true rfl) (Nat.le_of_ble_eq_true rfl) (sd_X1_empty_7 d H) (fun h4 H => ?_)
  exact zg_vret (pc := 22) dX0_empty_22 rfl ⟨rfl, H⟩
set_option maxRecDepth 100000 in
theorem sd_X1_empty_18 (d : Nat)  {h : zz_Hp} {Q : zz_Hp → Prop} (H : w_X1_empty_18  h Q) : zz_G zKC zNC (d + 0) mX1_empty (qV Q) 0 (zz_L0 1 [.ref 18]) [] h := by
  show zz_G zKC zNC (d + 0) mX1_empty (qV Q) 0 [some (.ref 18)] [] h
  unfold w_X1_empty_18 at H
  refine zg_aload_n (pc := 0) dX1_empty_0 rfl rfl ?_
  refine zg_iconst (pc := 1) dX1_empty_1 (v := 0) (by decide) ?_
  refine zg_putI (pc := 2) dX1_empty_2 lp_X1_13 kC_18 (by decide) rfl ?_
  generalize eh1 : zz_uI h 18 0 0 = h1
  replace H := H h1 eh1.symm
  exact zg_vret (pc := 5) dX1_empty_5 rfl ⟨rfl, H⟩
set_option maxRecDepth 100000 in
theorem sd_X8_clear (d : Nat)  {h : zz_Hp} {Q : Int32 → zz_Hp → Prop} (H : w_X8_clear  h Q) : zz_G zKC zNC (d + 2) mX8_clear (qI Q) 0 (zz_L0 2 [.ref 0]) [] h := by
  show zz_G zKC zNC (d + 2) mX8_clear (qI Q) 0 [some (.ref 0), none] [] h
  unfold w_X8_clear at H
  refine zg_aload_n (pc := 0) dX8_clear_0 rfl rfl ?_
  refine zg_getR (pc := 1) dX8_clear_1 lf_X8_12 kC_0 (by decide) rfl ?_
  refine zg_getR (pc := 4) dX8_clear_4 lf_X8_75 kC_1 (by decide) rfl ?_
  refine zg_getI (pc := 7) dX8_clear_7 lf_X8_100 kC_2 (by decide) rfl ?_
  refine zg_istore_n (pc := 10) dX8_clear_10 rfl (by decide) (L' := [some (.ref 0), some (.int (h.1 2 0))]) rfl ?_
  refine zg_aload_n (pc := 11) dX8_clear_11 rfl rfl ?_
  refine zg_getR (pc := 12) dX8_clear_12 lf_X8_12 kC_0 (by decide) rfl ?_
  refine zg_callVv (st := []) (pc := 15) dX8_clear_15 (As := []) lk_X8_103 kC_1 (by decide) rfl (Nat.le_of_ble_eq_true rfl) (Nat.le_of_ble_eq_true rfl) (sd_X0_empty d H) (fun h1 H => ?_)
  refine zg_aload_n (pc := 18) dX8_clear_18 rfl rfl ?_
  refine zg_iconst (pc := 19) dX8_clear_19 (v := 0) (by decide) ?_
  refine zg_putI (pc := 20) dX8_clear_20 lp_X8_89 kC_0 (by decide) rfl ?_
  generalize eh3 : zz_uI h1 0 4 0 = h3
  replace H := H h3 eh3.symm
  refine zg_aload_n (pc := 23) dX8_clear_23 rfl rfl ?_
  refine zg_getR (pc := 24) dX8_clear_24 lf_X8_30 kC_0 (by decide) rfl ?_
  refine zg_callVv (st := []) (pc := 27) dX8_clear_27 (As := []) lk_X8_106 kC_18 (by decide) rfl (Nat.le_of_ble_eq_true rfl) (Nat.le_of_ble_eq_true rfl) (sd_X1_empty_18 (d + 1) H) (fun h4 H => ?_)
  refine zg_iload_n (pc := 30) dX8_clear_30 rfl rfl ?_
  exact zg_iret (pc := 31) dX8_clear_31 rfl ⟨_, rfl, H⟩
set_option maxRecDepth 100000 in
theorem sd_X1_isFull_18 (d : Nat)  {h : zz_Hp} {Q : Int32 → zz_Hp → Prop} (H : w_X1_isFull_18  h Q) : zz_G zKC zNC (d + 0) mX1_isFull (qI Q) 0 (zz_L0 1 [.ref 18]) [] h := by
  show zz_G zKC zNC (d + 0) mX1_isFull (qI Q) 0 [some (.ref 18)] [] h
  unfold w_X1_isFull_18 at H
  refine zg_aload_n (pc := 0) dX1_isFull_0 rfl rfl ?_
  refine zg_getI (pc := 1) dX1_isFull_1 lf_X1_13 kC_18 (by decide) rfl ?_
  refine zg_iconst (pc := 4) dX1_isFull_4 (v := 1) (by decide) ?_
  refine zg_iadd (pc := 5) dX1_isFull_5 ?_
  refine zg_iconst (pc := 6) dX1_isFull_6 (v := 3) (by decide) ?_
  refine zg_imul (pc := 7) dX1_isFull_7 ?_
  refine zg_aload_n (pc := 8) dX1_isFull_8 rfl rfl ?_
  refine zg_getR (pc := 9) dX1_isFull_9 lf_X1_9 kC_18 (by decide) rfl ?_
  refine zg_alen (pc := 12) dX1_isFull_12 (Or.inl rfl) (v := 30) (by decide) kC_19 (by decide) ?_
  refine zg_icmp_le (pc := 13) dX1_isFull_13 (tgt := 20) (by decide) (fun hc => ?_) (fun hc => ?_)
  · replace H := H.1 hc
    refine zg_iconst (pc := 20) dX1_isFull_20 (v := 0) (by decide) ?_
    exact zg_zret (pc := 21) dX1_isFull_21 (Or.inl rfl) rfl ⟨_, rfl, H⟩
  · replace H := H.2 hc
    refine zg_iconst (pc := 16) dX1_isFull_16 (v := 1) (by decide) ?_
    refine zg_goto (pc := 17) dX1_isFull_17 (tgt := 21) (by decide) ?_
    exact zg_zret (pc := 21) dX1_isFull_21 (Or.inr rfl) rfl ⟨_, rfl, H⟩
set_option maxRecDepth 100000 in
theorem sd_X1_add_18 (d : Nat) {l1 : Int32} {l2 : Int32} {l3 : Int32} {h : zz_Hp} {Q : zz_Hp → Prop} (H : w_X1_add_18 l1 l2 l3 h Q) : zz_G zKC zNC (d + 1) mX1_add (qV Q) 0 (zz_L0 4 [.ref 18, .int l1, .int l2, .int l3]) [] h := by
  show zz_G zKC zNC (d + 1) mX1_add (qV Q) 0 [some (.ref 18), some (.int l1), some (.int l2), some (.int l3)] [] h
  unfold w_X1_add_18 at H
  refine zg_aload_n (pc := 0) dX1_add_0 rfl rfl ?_
  refine zg_callVi (st := []) (pc := 1) dX1_add_1 (As := []) lk_X1_17 kC_18 (by decide) rfl (Nat.le_of_ble_eq_true rfl) (Nat.le_of_ble_eq_true rfl) (sd_X1_isFull_18 d H) (fun r2 h1 H => ?_)
  refine zg_if_ne (pc := 4) dX1_add_4 (tgt := 57) (by decide) (fun hc => ?_) (fun hc => ?_)
  · replace H := H.1 hc
    exact zg_vret (pc := 57) dX1_add_57 rfl ⟨rfl, H⟩
  · replace H := H.2 hc
    refine zg_aload_n (pc := 7) dX1_add_7 rfl rfl ?_
    refine zg_getR (pc := 8) dX1_add_8 lf_X1_9 kC_18 (by decide) rfl ?_
    refine zg_aload_n (pc := 11) dX1_add_11 rfl rfl ?_
    refine zg_getI (pc := 12) dX1_add_12 lf_X1_13 kC_18 (by decide) rfl ?_
    refine zg_iconst (pc := 15) dX1_add_15 (v := 3) (by decide) ?_
    refine zg_imul (pc := 16) dX1_add_16 ?_
    refine zg_iload_n (pc := 17) dX1_add_17 rfl rfl ?_
    obtain ⟨hb, H⟩ := H
    refine zg_iast (pc := 18) dX1_add_18 kC_19 (by decide) hb ?_
    generalize eh3 : zz_uI h1 19 (Int32.toNatClampNeg ((h1.1 18 0) * 3)) l1 = h3
    replace H := H h3 eh3.symm
    refine zg_aload_n (pc := 19) dX1_add_19 rfl rfl ?_
    refine zg_getR (pc := 20) dX1_add_20 lf_X1_9 kC_18 (by decide) rfl ?_
    refine zg_aload_n (pc := 23) dX1_add_23 rfl rfl ?_
    refine zg_getI (pc := 24) dX1_add_24 lf_X1_13 kC_18 (by decide) rfl ?_
    refine zg_iconst (pc := 27) dX1_add_27 (v := 3) (by decide) ?_
    refine zg_imul (pc := 28) dX1_add_28 ?_
    refine zg_iconst (pc := 29) dX1_add_29 (v := 1) (by decide) ?_
    refine zg_iadd (pc := 30) dX1_add_30 ?_
    refine zg_iload_n (pc := 31) dX1_add_31 rfl rfl ?_
    obtain ⟨hb, H⟩ := H
    refine zg_iast (pc := 32) dX1_add_32 kC_19 (by decide) hb ?_
    generalize eh4 : zz_uI h3 19 (Int32.toNatClampNeg (((h3.1 18 0) * 3) + 1)) l2 = h4
    replace H := H h4 eh4.symm
    refine zg_aload_n (pc := 33) dX1_add_33 rfl rfl ?_
    refine zg_getR (pc := 34) dX1_add_34 lf_X1_9 kC_18 (by decide) rfl ?_
    refine zg_aload_n (pc := 37) dX1_add_37 rfl rfl ?_
    refine zg_getI (pc := 38) dX1_add_38 lf_X1_13 kC_18 (by decide) rfl ?_
    refine zg_iconst (pc := 41) dX1_add_41 (v := 3) (by decide) ?_
    refine zg_imul (pc := 42) dX1_add_42 ?_
    refine zg_iconst (pc := 43) dX1_add_43 (v := 2) (by decide) ?_
    refine zg_iadd (pc := 44) dX1_add_44 ?_
    refine zg_iload_n (pc := 45) dX1_add_45 rfl rfl ?_
    obtain ⟨hb, H⟩ := H
    refine zg_iast (pc := 46) dX1_add_46 kC_19 (by decide) hb ?_
    generalize eh5 : zz_uI h4 19 (Int32.toNatClampNeg (((h4.1 18 0) * 3) + 2)) l3 = h5
    replace H := H h5 eh5.symm
    refine zg_aload_n (pc := 47) dX1_add_47 rfl rfl ?_
    refine zg_dup (pc := 48) dX1_add_48 rfl ?_
    refine zg_getI (pc := 49) dX1_add_49 lf_X1_13 kC_18 (by decide) rfl ?_
    refine zg_iconst (pc := 52) dX1_add_52 (v := 1) (by decide) ?_
    refine zg_iadd (pc := 53) dX1_add_53 ?_
    refine zg_putI (pc := 54) dX1_add_54 lp_X1_13 kC_18 (by decide) rfl ?_
    generalize eh6 : zz_uI h5 18 0 ((h5.1 18 0) + 1) = h6
    replace H := H h6 eh6.symm
    exact zg_vret (pc := 57) dX1_add_57 rfl ⟨rfl, H⟩
set_option maxRecDepth 100000 in
theorem sd_X1_drop_18 (d : Nat) {l1 : Int32} {h : zz_Hp} {Q : zz_Hp → Prop} (H : w_X1_drop_18 l1 h Q) : zz_G zKC zNC (d + 1) mX1_drop (qV Q) 0 (zz_L0 2 [.ref 18, .int l1]) [] h := by
  show zz_G zKC zNC (d + 1) mX1_drop (qV Q) 0 [some (.ref 18), some (.int l1)] [] h
  unfold w_X1_drop_18 at H
  refine zg_iload_n (pc := 0) dX1_drop_0 rfl rfl ?_
  refine zg_if_lt (pc := 1) dX1_drop_1 (tgt := 51) (by decide) (fun hc => ?_) (fun hc => ?_)
  · replace H := H.1 hc
    exact zg_vret (pc := 51) dX1_drop_51 rfl ⟨rfl, H⟩
  · replace H := H.2 hc
    refine zg_iload_n (pc := 4) dX1_drop_4 rfl rfl ?_
    refine zg_aload_n (pc := 5) dX1_drop_5 rfl rfl ?_
    refine zg_getI (pc := 6) dX1_drop_6 lf_X1_13 kC_18 (by decide) rfl ?_
    refine zg_icmp_ge (pc := 9) dX1_drop_9 (tgt := 51) (by decide) (fun hc => ?_) (fun hc => ?_)
    · replace H := H.1 hc
      exact zg_vret (pc := 51) dX1_drop_51 rfl ⟨rfl, H⟩
    · replace H := H.2 hc
      refine zg_aload_n (pc := 12) dX1_drop_12 rfl rfl ?_
      refine zg_getR (pc := 13) dX1_drop_13 lf_X1_9 kC_18 (by decide) rfl ?_
      refine zg_iload_n (pc := 16) dX1_drop_16 rfl rfl ?_
      refine zg_iconst (pc := 17) dX1_drop_17 (v := 1) (by decide) ?_
      refine zg_iadd (pc := 18) dX1_drop_18 ?_
      refine zg_iconst (pc := 19) dX1_drop_19 (v := 3) (by decide) ?_
      refine zg_imul (pc := 20) dX1_drop_20 ?_
      refine zg_aload_n (pc := 21) dX1_drop_21 rfl rfl ?_
      refine zg_getR (pc := 22) dX1_drop_22 lf_X1_9 kC_18 (by decide) rfl ?_
      refine zg_iload_n (pc := 25) dX1_drop_25 rfl rfl ?_
      refine zg_iconst (pc := 26) dX1_drop_26 (v := 3) (by decide) ?_
      refine zg_imul (pc := 27) dX1_drop_27 ?_
      refine zg_aload_n (pc := 28) dX1_drop_28 rfl rfl ?_
      refine zg_getI (pc := 29) dX1_drop_29 lf_X1_13 kC_18 (by decide) rfl ?_
      refine zg_iload_n (pc := 32) dX1_drop_32 rfl rfl ?_
      refine zg_isub (pc := 33) dX1_drop_33 ?_
      refine zg_iconst (pc := 34) dX1_drop_34 (v := 1) (by decide) ?_
      refine zg_isub (pc := 35) dX1_drop_35 ?_
      refine zg_iconst (pc := 36) dX1_drop_36 (v := 3) (by decide) ?_
      refine zg_imul (pc := 37) dX1_drop_37 ?_
      obtain ⟨hb1, hb2, hb3, hb4, hb5, H⟩ := H
      refine zg_copy (pc := 38) dX1_drop_38 lk_X1_21 kC_19 kC_19 (by decide) (by decide) hb1 hb2 hb3 hb4 hb5 (Nat.le_of_ble_eq_true rfl) ?_
      generalize eh1 : zz_uC h 19 19 (Int32.toNatClampNeg ((l1 + 1) * 3)) (Int32.toNatClampNeg (l1 * 3)) (Int32.toNatClampNeg ((((h.1 18 0) - l1) - 1) * 3)) = h1
      replace H := H h1 eh1.symm
      refine zg_aload_n (pc := 41) dX1_drop_41 rfl rfl ?_
      refine zg_dup (pc := 42) dX1_drop_42 rfl ?_
      refine zg_getI (pc := 43) dX1_drop_43 lf_X1_13 kC_18 (by decide) rfl ?_
      refine zg_iconst (pc := 46) dX1_drop_46 (v := 1) (by decide) ?_
      refine zg_isub (pc := 47) dX1_drop_47 ?_
      refine zg_putI (pc := 48) dX1_drop_48 lp_X1_13 kC_18 (by decide) rfl ?_
      generalize eh2 : zz_uI h1 18 0 ((h1.1 18 0) - 1) = h2
      replace H := H h2 eh2.symm
      exact zg_vret (pc := 51) dX1_drop_51 rfl ⟨rfl, H⟩
set_option maxRecDepth 100000 in
theorem sd_X7_isThread (d : Nat) {l1 : Int32} {h : zz_Hp} {Q : Int32 → zz_Hp → Prop} (H : w_X7_isThread l1 h Q) : zz_G zKC zNC (d + 1) mX7_isThread (qI Q) 0 (zz_L0 2 [.ref 2, .int l1]) [] h := by
  show zz_G zKC zNC (d + 1) mX7_isThread (qI Q) 0 [some (.ref 2), some (.int l1)] [] h
  unfold w_X7_isThread at H
  refine zg_aload_n (pc := 0) dX7_isThread_0 rfl rfl ?_
  refine zg_iload_n (pc := 1) dX7_isThread_1 rfl rfl ?_
  refine zg_callVi (st := []) (pc := 2) dX7_isThread_2 (As := [.int l1]) lk_X7_22 kC_2 (by decide) rfl (Nat.le_of_ble_eq_true rfl) (Nat.le_of_ble_eq_true rfl) (sd_X7_has d H) (fun r2 h1 H => ?_)
  refine zg_if_eq (pc := 5) dX7_isThread_5 (tgt := 21) (by decide) (fun hc => ?_) (fun hc => ?_)
  · replace H := H.1 hc
    refine zg_iconst (pc := 21) dX7_isThread_21 (v := 0) (by decide) ?_
    exact zg_zret (pc := 22) dX7_isThread_22 (Or.inl rfl) rfl ⟨_, rfl, H⟩
  · replace H := H.2 hc
    refine zg_aload_n (pc := 8) dX7_isThread_8 rfl rfl ?_
    refine zg_iload_n (pc := 9) dX7_isThread_9 rfl rfl ?_
    refine zg_iconst (pc := 10) dX7_isThread_10 (v := 4) (by decide) ?_
    refine zg_callVi (st := []) (pc := 11) dX7_isThread_11 (As := [.int l1, .int 4]) lk_X7_26 kC_2 (by decide) rfl (Nat.le_of_ble_eq_true rfl) (Nat.le_of_ble_eq_true rfl) (sd_X7_fact d H) (fun r4 h3 H => ?_)
    refine zg_if_ne (pc := 14) dX7_isThread_14 (tgt := 21) (by decide) (fun hc => ?_) (fun hc => ?_)
    · replace H := H.1 hc
      refine zg_iconst (pc := 21) dX7_isThread_21 (v := 0) (by decide) ?_
      exact zg_zret (pc := 22) dX7_isThread_22 (Or.inl rfl) rfl ⟨_, rfl, H⟩
    · replace H := H.2 hc
      refine zg_iconst (pc := 17) dX7_isThread_17 (v := 1) (by decide) ?_
      refine zg_goto (pc := 18) dX7_isThread_18 (tgt := 22) (by decide) ?_
      exact zg_zret (pc := 22) dX7_isThread_22 (Or.inr rfl) rfl ⟨_, rfl, H⟩
set_option maxRecDepth 100000 in
theorem sd_X7_tell_j41 {d : Nat} {Q : Int32 → zz_Hp → Prop} {l1 : Int32} {l2 : Int32} {l3 : Int32}  {h : zz_Hp}  (H : w_X7_tell_j41 Q l1 l2 l3 h) : zz_G zKC zNC (d + 2) mX7_tell (qI Q) 41 [some (.ref 2), some (.int l1), some (.int l2), some (.int l3), none] [] h := by
  unfold w_X7_tell_j41 at H
  refine zg_aload_n (pc := 41) dX7_tell_41 rfl rfl ?_
  refine zg_iload_n (pc := 42) dX7_tell_42 rfl rfl ?_
  refine zg_iload_n (pc := 43) dX7_tell_43 rfl rfl ?_
  refine zg_callVi (st := []) (pc := 44) dX7_tell_44 (As := [.int l2, .int l1]) lk_X7_26 kC_2 (by decide) rfl (Nat.le_of_ble_eq_true rfl) (Nat.le_of_ble_eq_true rfl) (sd_X7_fact (d + 1) H) (fun r8 h7 H => ?_)
  refine zg_istore (pc := 47) dX7_tell_47 (by decide) (L' := [some (.ref 2), some (.int l1), some (.int l2), some (.int l3), some (.int r8)]) rfl ?_
  refine zg_aload_n (pc := 49) dX7_tell_49 rfl rfl ?_
  refine zg_iload_n (pc := 50) dX7_tell_50 rfl rfl ?_
  refine zg_iload_n (pc := 51) dX7_tell_51 rfl rfl ?_
  refine zg_iload_n (pc := 52) dX7_tell_52 rfl rfl ?_
  refine zg_callVv (st := []) (pc := 53) dX7_tell_53 (As := [.int l2, .int l1, .int l3]) lk_X7_37 kC_2 (by decide) rfl (Nat.le_of_ble_eq_true rfl) (Nat.le_of_ble_eq_true rfl) (sd_X7_write (d + 1) H) (fun h9 H => ?_)
  refine zg_iload (pc := 56) dX7_tell_56 rfl ?_
  exact zg_iret (pc := 58) dX7_tell_58 rfl ⟨_, rfl, H⟩
set_option maxRecDepth 100000 in
theorem sd_X7_tell (d : Nat) {l1 : Int32} {l2 : Int32} {l3 : Int32} {h : zz_Hp} {Q : Int32 → zz_Hp → Prop} (H : w_X7_tell l1 l2 l3 h Q) : zz_G zKC zNC (d + 2) mX7_tell (qI Q) 0 (zz_L0 5 [.ref 2, .int l1, .int l2, .int l3]) [] h := by
  show zz_G zKC zNC (d + 2) mX7_tell (qI Q) 0 [some (.ref 2), some (.int l1), some (.int l2), some (.int l3), none] [] h
  unfold w_X7_tell at H
  refine zg_iload_n (pc := 0) dX7_tell_0 rfl rfl ?_
  refine zg_iload_n (pc := 1) dX7_tell_1 rfl rfl ?_
  refine zg_callNi (st := []) (pc := 2) dX7_tell_2 (As := [.int l1, .int l3]) lk_X7_33 rfl (Nat.le_of_ble_eq_true rfl) (Nat.le_of_ble_eq_true rfl) (sd_X8_canBeTold d H) (fun r2 h1 H => ?_)
  refine zg_if_eq (pc := 5) dX7_tell_5 (tgt := 16) (by decide) (fun hc => ?_) (fun hc => ?_)
  · replace H := H.1 hc
    refine zg_ldc (pc := 16) dX7_tell_16 lc_X7_57 ?_
    exact zg_iret (pc := 18) dX7_tell_18 rfl ⟨_, rfl, H⟩
  · replace H := H.2 hc
    refine zg_aload_n (pc := 8) dX7_tell_8 rfl rfl ?_
    refine zg_iload_n (pc := 9) dX7_tell_9 rfl rfl ?_
    refine zg_callVi (st := []) (pc := 10) dX7_tell_10 (As := [.int l2]) lk_X7_22 kC_2 (by decide) rfl (Nat.le_of_ble_eq_true rfl) (Nat.le_of_ble_eq_true rfl) (sd_X7_has (d + 1) H) (fun r4 h3 H => ?_)
    refine zg_if_ne (pc := 13) dX7_tell_13 (tgt := 19) (by decide) (fun hc => ?_) (fun hc => ?_)
    · replace H := H.1 hc
      refine zg_aload_n (pc := 19) dX7_tell_19 rfl rfl ?_
      refine zg_iload_n (pc := 20) dX7_tell_20 rfl rfl ?_
      refine zg_callVi (st := []) (pc := 21) dX7_tell_21 (As := [.int l2]) lk_X7_58 kC_2 (by decide) rfl (Nat.le_of_ble_eq_true rfl) (Nat.le_of_ble_eq_true rfl) (sd_X7_isThread d H) (fun r6 h5 H => ?_)
      refine zg_if_ne (pc := 24) dX7_tell_24 (tgt := 41) (by decide) (fun hc => ?_) (fun hc => ?_)
      · replace H := H.1 hc
        exact sd_X7_tell_j41  H
      · replace H := H.2 hc
        refine zg_iload_n (pc := 27) dX7_tell_27 rfl rfl ?_
        refine zg_iconst (pc := 28) dX7_tell_28 (v := 1) (by decide) ?_
        refine zg_icmp_eq (pc := 29) dX7_tell_29 (tgt := 37) (by decide) (fun hc => ?_) (fun hc => ?_)
        · replace H := H.1 hc
          refine zg_sipush (pc := 37) dX7_tell_37 (v := (-10000)) (by decide) ?_
          exact zg_iret (pc := 40) dX7_tell_40 rfl ⟨_, rfl, H⟩
        · replace H := H.2 hc
          refine zg_iload_n (pc := 32) dX7_tell_32 rfl rfl ?_
          refine zg_iconst (pc := 33) dX7_tell_33 (v := 2) (by decide) ?_
          refine zg_icmp_ne (pc := 34) dX7_tell_34 (tgt := 41) (by decide) (fun hc => ?_) (fun hc => ?_)
          · replace H := H.1 hc
            exact sd_X7_tell_j41  H
          · replace H := H.2 hc
            refine zg_sipush (pc := 37) dX7_tell_37 (v := (-10000)) (by decide) ?_
            exact zg_iret (pc := 40) dX7_tell_40 rfl ⟨_, rfl, H⟩
    · replace H := H.2 hc
      refine zg_ldc (pc := 16) dX7_tell_16 lc_X7_57 ?_
      exact zg_iret (pc := 18) dX7_tell_18 rfl ⟨_, rfl, H⟩
set_option maxRecDepth 100000 in
theorem sd_X8_set_j47 {d : Nat} {Q : Int32 → zz_Hp → Prop} {l1 : Int32} {l2 : Int32} {l4 : Int32}  {h : zz_Hp}  (H : w_X8_set_j47 Q l1 l2 l4 h) : zz_G zKC zNC (d + 3) mX8_set (qI Q) 47 [some (.ref 0), some (.int l1), some (.int l2), none, some (.int l4)] [] h := by
  unfold w_X8_set_j47 at H
  refine zg_aload_n (pc := 47) dX8_set_47 rfl rfl ?_
  refine zg_getR (pc := 48) dX8_set_48 lf_X8_30 kC_0 (by decide) rfl ?_
  refine zg_iload_n (pc := 51) dX8_set_51 rfl rfl ?_
  refine zg_iload_n (pc := 52) dX8_set_52 rfl rfl ?_
  refine zg_iload (pc := 53) dX8_set_53 rfl ?_
  refine zg_callVv (st := []) (pc := 55) dX8_set_55 (As := [.int l1, .int l2, .int l4]) lk_X8_117 kC_18 (by decide) rfl (Nat.le_of_ble_eq_true rfl) (Nat.le_of_ble_eq_true rfl) (sd_X1_add_18 (d + 1) H) (fun h5 H => ?_)
  refine zg_iload (pc := 58) dX8_set_58 rfl ?_
  exact zg_iret (pc := 60) dX8_set_60 rfl ⟨_, rfl, H⟩
set_option maxRecDepth 100000 in
theorem sd_X8_set (d : Nat) {l1 : Int32} {l2 : Int32} {l3 : Int32} {h : zz_Hp} {Q : Int32 → zz_Hp → Prop} (H : w_X8_set l1 l2 l3 h Q) : zz_G zKC zNC (d + 3) mX8_set (qI Q) 0 (zz_L0 5 [.ref 0, .int l1, .int l2, .int l3]) [] h := by
  show zz_G zKC zNC (d + 3) mX8_set (qI Q) 0 [some (.ref 0), some (.int l1), some (.int l2), some (.int l3), none] [] h
  unfold w_X8_set at H
  refine zg_aload_n (pc := 0) dX8_set_0 rfl rfl ?_
  refine zg_getR (pc := 1) dX8_set_1 lf_X8_12 kC_0 (by decide) rfl ?_
  refine zg_getR (pc := 4) dX8_set_4 lf_X8_75 kC_1 (by decide) rfl ?_
  refine zg_iload_n (pc := 7) dX8_set_7 rfl rfl ?_
  refine zg_iload_n (pc := 8) dX8_set_8 rfl rfl ?_
  refine zg_iload_n (pc := 9) dX8_set_9 rfl rfl ?_
  refine zg_callVi (st := []) (pc := 10) dX8_set_10 (As := [.int l1, .int l2, .int l3]) lk_X8_107 kC_2 (by decide) rfl (Nat.le_of_ble_eq_true rfl) (Nat.le_of_ble_eq_true rfl) (sd_X7_tell d H) (fun r2 h1 H => ?_)
  refine zg_istore (pc := 13) dX8_set_13 (by decide) (L' := [some (.ref 0), some (.int l1), some (.int l2), some (.int l3), some (.int r2)]) rfl ?_
  refine zg_iload (pc := 15) dX8_set_15 rfl ?_
  refine zg_sipush (pc := 17) dX8_set_17 (v := (-10000)) (by decide) ?_
  refine zg_icmp_le (pc := 20) dX8_set_20 (tgt := 58) (by decide) (fun hc => ?_) (fun hc => ?_)
  · replace H := H.1 hc
    refine zg_iload (pc := 58) dX8_set_58 rfl ?_
    exact zg_iret (pc := 60) dX8_set_60 rfl ⟨_, rfl, H⟩
  · replace H := H.2 hc
    refine zg_iload (pc := 23) dX8_set_23 rfl ?_
    refine zg_iload_n (pc := 25) dX8_set_25 rfl rfl ?_
    refine zg_icmp_eq (pc := 26) dX8_set_26 (tgt := 58) (by decide) (fun hc => ?_) (fun hc => ?_)
    · replace H := H.1 hc
      refine zg_iload (pc := 58) dX8_set_58 rfl ?_
      exact zg_iret (pc := 60) dX8_set_60 rfl ⟨_, rfl, H⟩
    · replace H := H.2 hc
      refine zg_aload_n (pc := 29) dX8_set_29 rfl rfl ?_
      refine zg_getR (pc := 30) dX8_set_30 lf_X8_30 kC_0 (by decide) rfl ?_
      refine zg_callVi (st := []) (pc := 33) dX8_set_33 (As := []) lk_X8_110 kC_18 (by decide) rfl (Nat.le_of_ble_eq_true rfl) (Nat.le_of_ble_eq_true rfl) (sd_X1_isFull_18 (d + 2) H) (fun r4 h3 H => ?_)
      refine zg_if_eq (pc := 36) dX8_set_36 (tgt := 47) (by decide) (fun hc => ?_) (fun hc => ?_)
      · replace H := H.1 hc
        refine zg_weak (L' := [some (.ref 0), some (.int l1), some (.int l2), none, some (.int r2)]) ⟨rfl, ⟨rfl, ⟨rfl, ⟨rfl, trivial⟩⟩⟩⟩ ?_
        exact sd_X8_set_j47  H
      · replace H := H.2 hc
        refine zg_aload_n (pc := 39) dX8_set_39 rfl rfl ?_
        refine zg_getR (pc := 40) dX8_set_40 lf_X8_30 kC_0 (by decide) rfl ?_
        refine zg_iconst (pc := 43) dX8_set_43 (v := 0) (by decide) ?_
        refine zg_callVv (st := []) (pc := 44) dX8_set_44 (As := [.int 0]) lk_X8_114 kC_18 (by decide) rfl (Nat.le_of_ble_eq_true rfl) (Nat.le_of_ble_eq_true rfl) (sd_X1_drop_18 (d + 1) H) (fun h7 H => ?_)
        refine zg_weak (L' := [some (.ref 0), some (.int l1), some (.int l2), none, some (.int r2)]) ⟨rfl, ⟨rfl, ⟨rfl, ⟨rfl, trivial⟩⟩⟩⟩ ?_
        exact sd_X8_set_j47  H
set_option maxRecDepth 100000 in
theorem sd_X8_byOfPlied (d : Nat) {l0 : Int32} {l1 : Int32} {h : zz_Hp} {Q : Int32 → zz_Hp → Prop} (H : w_X8_byOfPlied l0 l1 h Q) : zz_G zKC zNC (d + 1) mX8_byOfPlied (qI Q) 0 (zz_L0 2 [.int l0, .int l1]) [] h := by
  show zz_G zKC zNC (d + 1) mX8_byOfPlied (qI Q) 0 [some (.int l0), some (.int l1)] [] h
  unfold w_X8_byOfPlied at H
  refine zg_sipush (pc := 0) dX8_byOfPlied_0 (v := 1000) (by decide) ?_
  refine zg_iload_n (pc := 3) dX8_byOfPlied_3 rfl rfl ?_
  refine zg_mabs (pc := 4) dX8_byOfPlied_4 lk_X8_192 (Nat.le_of_ble_eq_true rfl) ?_
  refine zg_iload_n (pc := 7) dX8_byOfPlied_7 rfl rfl ?_
  refine zg_imul (pc := 8) dX8_byOfPlied_8 ?_
  refine zg_isub (pc := 9) dX8_byOfPlied_9 ?_
  exact zg_iret (pc := 10) dX8_byOfPlied_10 rfl ⟨_, rfl, H⟩
set_option maxRecDepth 100000 in
theorem sd_X7_by (d : Nat) {l1 : Int32} {h : zz_Hp} {Q : Int32 → zz_Hp → Prop} (H : w_X7_by l1 h Q) : zz_G zKC zNC (d + 2) mX7_by (qI Q) 0 (zz_L0 2 [.ref 2, .int l1]) [] h := by
  show zz_G zKC zNC (d + 2) mX7_by (qI Q) 0 [some (.ref 2), some (.int l1)] [] h
  unfold w_X7_by at H
  refine zg_aload_n (pc := 0) dX7_by_0 rfl rfl ?_
  refine zg_iload_n (pc := 1) dX7_by_1 rfl rfl ?_
  refine zg_iconst (pc := 2) dX7_by_2 (v := 0) (by decide) ?_
  refine zg_callVi (st := []) (pc := 3) dX7_by_3 (As := [.int l1, .int 0]) lk_X7_26 kC_2 (by decide) rfl (Nat.le_of_ble_eq_true rfl) (Nat.le_of_ble_eq_true rfl) (sd_X7_fact (d + 1) H) (fun r2 h1 H => ?_)
  refine zg_aload_n (pc := 6) dX7_by_6 rfl rfl ?_
  refine zg_iload_n (pc := 7) dX7_by_7 rfl rfl ?_
  refine zg_iconst (pc := 8) dX7_by_8 (v := 4) (by decide) ?_
  refine zg_callVi (st := [.int r2]) (pc := 9) dX7_by_9 (As := [.int l1, .int 4]) lk_X7_26 kC_2 (by decide) rfl (Nat.le_of_ble_eq_true rfl) (Nat.le_of_ble_eq_true rfl) (sd_X7_fact (d + 1) H) (fun r4 h3 H => ?_)
  refine zg_callNi (st := []) (pc := 12) dX7_by_12 (As := [.int r2, .int r4]) lk_X7_30 rfl (Nat.le_of_ble_eq_true rfl) (Nat.le_of_ble_eq_true rfl) (sd_X8_byOfPlied d H) (fun r6 h5 H => ?_)
  exact zg_iret (pc := 15) dX7_by_15 rfl ⟨_, rfl, H⟩
set_option maxRecDepth 100000 in
theorem sd_X8_of (d : Nat) {l1 : Int32} {l2 : Int32} {h : zz_Hp} {Q : Int32 → zz_Hp → Prop} (H : w_X8_of l1 l2 h Q) : zz_G zKC zNC (d + 3) mX8_of (qI Q) 0 (zz_L0 3 [.ref 0, .int l1, .int l2]) [] h := by
  show zz_G zKC zNC (d + 3) mX8_of (qI Q) 0 [some (.ref 0), some (.int l1), some (.int l2)] [] h
  unfold w_X8_of at H
  refine zg_aload_n (pc := 0) dX8_of_0 rfl rfl ?_
  refine zg_getR (pc := 1) dX8_of_1 lf_X8_12 kC_0 (by decide) rfl ?_
  refine zg_getR (pc := 4) dX8_of_4 lf_X8_75 kC_1 (by decide) rfl ?_
  refine zg_iload_n (pc := 7) dX8_of_7 rfl rfl ?_
  refine zg_callVi (st := []) (pc := 8) dX8_of_8 (As := [.int l1]) lk_X8_85 kC_2 (by decide) rfl (Nat.le_of_ble_eq_true rfl) (Nat.le_of_ble_eq_true rfl) (sd_X7_has (d + 2) H) (fun r2 h1 H => ?_)
  refine zg_if_eq (pc := 11) dX8_of_11 (tgt := 24) (by decide) (fun hc => ?_) (fun hc => ?_)
  · replace H := H.1 hc
    refine zg_ldc (pc := 24) dX8_of_24 lc_X8_125 ?_
    exact zg_iret (pc := 26) dX8_of_26 rfl ⟨_, rfl, H⟩
  · replace H := H.2 hc
    refine zg_iload_n (pc := 14) dX8_of_14 rfl rfl ?_
    refine zg_iconst (pc := 15) dX8_of_15 (v := 0) (by decide) ?_
    refine zg_bipush (pc := 16) dX8_of_16 (v := 7) (by decide) ?_
    refine zg_callSi (st := []) (pc := 18) dX8_of_18 (As := [.int l2, .int 0, .int 7]) lk_X8_121 rfl (Nat.le_of_ble_eq_true rfl) (Nat.le_of_ble_eq_true rfl) (sd_X8_inRange (d + 2) H) (fun r4 h3 H => ?_)
    refine zg_if_ne (pc := 21) dX8_of_21 (tgt := 27) (by decide) (fun hc => ?_) (fun hc => ?_)
    · replace H := H.1 hc
      refine zg_iload_n (pc := 27) dX8_of_27 rfl rfl ?_
      refine zg_bipush (pc := 28) dX8_of_28 (v := 7) (by decide) ?_
      refine zg_icmp_ne (pc := 30) dX8_of_30 (tgt := 47) (by decide) (fun hc => ?_) (fun hc => ?_)
      · replace H := H.1 hc
        refine zg_aload_n (pc := 47) dX8_of_47 rfl rfl ?_
        refine zg_getR (pc := 48) dX8_of_48 lf_X8_12 kC_0 (by decide) rfl ?_
        refine zg_getR (pc := 51) dX8_of_51 lf_X8_75 kC_1 (by decide) rfl ?_
        refine zg_iload_n (pc := 54) dX8_of_54 rfl rfl ?_
        refine zg_iload_n (pc := 55) dX8_of_55 rfl rfl ?_
        refine zg_callVi (st := []) (pc := 56) dX8_of_56 (As := [.int l1, .int l2]) lk_X8_130 kC_2 (by decide) rfl (Nat.le_of_ble_eq_true rfl) (Nat.le_of_ble_eq_true rfl) (sd_X7_fact (d + 2) H) (fun r6 h5 H => ?_)
        exact zg_iret (pc := 59) dX8_of_59 rfl ⟨_, rfl, H⟩
      · replace H := H.2 hc
        refine zg_aload_n (pc := 33) dX8_of_33 rfl rfl ?_
        refine zg_getR (pc := 34) dX8_of_34 lf_X8_12 kC_0 (by decide) rfl ?_
        refine zg_getR (pc := 37) dX8_of_37 lf_X8_75 kC_1 (by decide) rfl ?_
        refine zg_iload_n (pc := 40) dX8_of_40 rfl rfl ?_
        refine zg_callVi (st := []) (pc := 41) dX8_of_41 (As := [.int l1]) lk_X8_126 kC_2 (by decide) rfl (Nat.le_of_ble_eq_true rfl) (Nat.le_of_ble_eq_true rfl) (sd_X7_by d H) (fun r8 h7 H => ?_)
        refine zg_goto (pc := 44) dX8_of_44 (tgt := 59) (by decide) ?_
        exact zg_iret (pc := 59) dX8_of_59 rfl ⟨_, rfl, H⟩
    · replace H := H.2 hc
      refine zg_ldc (pc := 24) dX8_of_24 lc_X8_125 ?_
      exact zg_iret (pc := 26) dX8_of_26 rfl ⟨_, rfl, H⟩
set_option maxRecDepth 100000 in
theorem sd_X7_partAt (d : Nat) {l1 : Int32} {l2 : Int32} {h : zz_Hp} {Q : Int32 → zz_Hp → Prop} (H : w_X7_partAt l1 l2 h Q) : zz_G zKC zNC (d + 0) mX7_partAt (qI Q) 0 (zz_L0 3 [.ref 2, .int l1, .int l2]) [] h := by
  show zz_G zKC zNC (d + 0) mX7_partAt (qI Q) 0 [some (.ref 2), some (.int l1), some (.int l2)] [] h
  unfold w_X7_partAt at H
  refine zg_aload_n (pc := 0) dX7_partAt_0 rfl rfl ?_
  refine zg_getR (pc := 1) dX7_partAt_1 lf_X7_15 kC_2 (by decide) rfl ?_
  refine zg_iload_n (pc := 4) dX7_partAt_4 rfl rfl ?_
  refine zg_iconst (pc := 5) dX7_partAt_5 (v := 4) (by decide) ?_
  refine zg_imul (pc := 6) dX7_partAt_6 ?_
  refine zg_iload_n (pc := 7) dX7_partAt_7 rfl rfl ?_
  refine zg_iadd (pc := 8) dX7_partAt_8 ?_
  obtain ⟨hb, H⟩ := H
  refine zg_iald (pc := 9) dX7_partAt_9 kC_4 (by decide) hb ?_
  exact zg_iret (pc := 10) dX7_partAt_10 rfl ⟨_, rfl, H⟩
set_option maxRecDepth 100000 in
theorem sd_X8_partOf (d : Nat) {l1 : Int32} {l2 : Int32} {h : zz_Hp} {Q : Int32 → zz_Hp → Prop} (H : w_X8_partOf l1 l2 h Q) : zz_G zKC zNC (d + 1) mX8_partOf (qI Q) 0 (zz_L0 3 [.ref 0, .int l1, .int l2]) [] h := by
  show zz_G zKC zNC (d + 1) mX8_partOf (qI Q) 0 [some (.ref 0), some (.int l1), some (.int l2)] [] h
  unfold w_X8_partOf at H
  refine zg_aload_n (pc := 0) dX8_partOf_0 rfl rfl ?_
  refine zg_getR (pc := 1) dX8_partOf_1 lf_X8_12 kC_0 (by decide) rfl ?_
  refine zg_getR (pc := 4) dX8_partOf_4 lf_X8_75 kC_1 (by decide) rfl ?_
  refine zg_iload_n (pc := 7) dX8_partOf_7 rfl rfl ?_
  refine zg_callVi (st := []) (pc := 8) dX8_partOf_8 (As := [.int l1]) lk_X8_85 kC_2 (by decide) rfl (Nat.le_of_ble_eq_true rfl) (Nat.le_of_ble_eq_true rfl) (sd_X7_has d H) (fun r2 h1 H => ?_)
  refine zg_if_eq (pc := 11) dX8_partOf_11 (tgt := 18) (by decide) (fun hc => ?_) (fun hc => ?_)
  · replace H := H.1 hc
    refine zg_iconst (pc := 18) dX8_partOf_18 (v := (-1)) (by decide) ?_
    exact zg_iret (pc := 19) dX8_partOf_19 rfl ⟨_, rfl, H⟩
  · replace H := H.2 hc
    refine zg_iload_n (pc := 14) dX8_partOf_14 rfl rfl ?_
    refine zg_if_ge (pc := 15) dX8_partOf_15 (tgt := 20) (by decide) (fun hc => ?_) (fun hc => ?_)
    · replace H := H.1 hc
      refine zg_iload_n (pc := 20) dX8_partOf_20 rfl rfl ?_
      refine zg_aload_n (pc := 21) dX8_partOf_21 rfl rfl ?_
      refine zg_getR (pc := 22) dX8_partOf_22 lf_X8_12 kC_0 (by decide) rfl ?_
      refine zg_getR (pc := 25) dX8_partOf_25 lf_X8_75 kC_1 (by decide) rfl ?_
      refine zg_iload_n (pc := 28) dX8_partOf_28 rfl rfl ?_
      refine zg_iconst (pc := 29) dX8_partOf_29 (v := 4) (by decide) ?_
      refine zg_callVi (st := [.int l2]) (pc := 30) dX8_partOf_30 (As := [.int l1, .int 4]) lk_X8_130 kC_2 (by decide) rfl (Nat.le_of_ble_eq_true rfl) (Nat.le_of_ble_eq_true rfl) (sd_X7_fact d H) (fun r4 h3 H => ?_)
      refine zg_icmp_ge (pc := 33) dX8_partOf_33 (tgt := 51) (by decide) (fun hc => ?_) (fun hc => ?_)
      · replace H := H.1 hc
        refine zg_bipush (pc := 51) dX8_partOf_51 (v := (-2)) (by decide) ?_
        exact zg_iret (pc := 53) dX8_partOf_53 rfl ⟨_, rfl, H⟩
      · replace H := H.2 hc
        refine zg_aload_n (pc := 36) dX8_partOf_36 rfl rfl ?_
        refine zg_getR (pc := 37) dX8_partOf_37 lf_X8_12 kC_0 (by decide) rfl ?_
        refine zg_getR (pc := 40) dX8_partOf_40 lf_X8_75 kC_1 (by decide) rfl ?_
        refine zg_iload_n (pc := 43) dX8_partOf_43 rfl rfl ?_
        refine zg_iload_n (pc := 44) dX8_partOf_44 rfl rfl ?_
        refine zg_callVi (st := []) (pc := 45) dX8_partOf_45 (As := [.int l1, .int l2]) lk_X8_134 kC_2 (by decide) rfl (Nat.le_of_ble_eq_true rfl) (Nat.le_of_ble_eq_true rfl) (sd_X7_partAt d H) (fun r6 h5 H => ?_)
        refine zg_goto (pc := 48) dX8_partOf_48 (tgt := 53) (by decide) ?_
        exact zg_iret (pc := 53) dX8_partOf_53 rfl ⟨_, rfl, H⟩
    · replace H := H.2 hc
      refine zg_iconst (pc := 18) dX8_partOf_18 (v := (-1)) (by decide) ?_
      exact zg_iret (pc := 19) dX8_partOf_19 rfl ⟨_, rfl, H⟩
set_option maxRecDepth 100000 in
theorem sd_X2_lead_l99 {d : Nat} {ag38 : Int32 × zz_Hp → Prop} {Q : Int32 → zz_Hp → Prop} {l5 : Int32} {l4 : Int32} {l6 : Int32} {h : zz_Hp} (hag38 : ∀ (l4 : Int32) (h : zz_Hp), ag38 (l4, h) → zz_G zKC zNC (d + 2) mX2_lead (qI Q) 38 [some (.ref 35), some (.ref 2), none, none, some (.int l4), none, none] [] h) (H : lp (fun s ag => w_X2_lead_l99 ag38 ag Q l5 s.1 s.2.1 s.2.2) (l4, l6, h)) : zz_G zKC zNC (d + 2) mX2_lead (qI Q) 99 [some (.ref 35), some (.ref 2), none, none, some (.int l4), some (.int l5), some (.int l6)] [] h := by
  refine lp_sound (G := fun (s : Int32 × Int32 × zz_Hp) => zz_G zKC zNC (d + 2) mX2_lead (qI Q) 99 [some (.ref 35), some (.ref 2), none, none, some (.int s.1), some (.int l5), some (.int s.2.1)] [] s.2.2) ?_ H
  clear H
  intro s ag99 hag99 H
  obtain ⟨l4, l6, h⟩ := s
  replace hag99 : ∀ (l4 : Int32) (l6 : Int32) (h : zz_Hp), ag99 (l4, l6, h) → zz_G zKC zNC (d + 2) mX2_lead (qI Q) 99 [some (.ref 35), some (.ref 2), none, none, some (.int l4), some (.int l5), some (.int l6)] [] h := fun l4 l6 h H => hag99 (l4, l6, h) H
  replace H : w_X2_lead_l99 ag38 ag99 Q l5 l4 l6 h := H
  show zz_G zKC zNC (d + 2) mX2_lead (qI Q) 99 [some (.ref 35), some (.ref 2), none, none, some (.int l4), some (.int l5), some (.int l6)] [] h
  unfold w_X2_lead_l99 at H
  refine zg_iload (pc := 99) dX2_lead_99 rfl ?_
  refine zg_iconst (pc := 101) dX2_lead_101 (v := 1) (by decide) ?_
  refine zg_iadd (pc := 102) dX2_lead_102 ?_
  refine zg_aload_n (pc := 103) dX2_lead_103 rfl rfl ?_
  refine zg_iload (pc := 104) dX2_lead_104 rfl ?_
  refine zg_iconst (pc := 106) dX2_lead_106 (v := 4) (by decide) ?_
  refine zg_callVi (st := [.int (l6 + 1)]) (pc := 107) dX2_lead_107 (As := [.int l5, .int 4]) lk_X2_21 kC_2 (by decide) rfl (Nat.le_of_ble_eq_true rfl) (Nat.le_of_ble_eq_true rfl) (sd_X7_fact (d + 1) H) (fun r15 h14 H => ?_)
  refine zg_icmp_ge (pc := 110) dX2_lead_110 (tgt := 161) (by decide) (fun hc => ?_) (fun hc => ?_)
  · replace H := H.1 hc
    refine zg_goto (pc := 161) dX2_lead_161 (tgt := 38) (by decide) ?_
    refine zg_weak (L' := [some (.ref 35), some (.ref 2), none, none, some (.int l4), none, none]) ⟨rfl, ⟨rfl, ⟨rfl, trivial⟩⟩⟩ ?_
    exact hag38 l4 _ H
  · replace H := H.2 hc
    refine zg_iload (pc := 113) dX2_lead_113 rfl ?_
    refine zg_aload_n (pc := 115) dX2_lead_115 rfl rfl ?_
    refine zg_aload_n (pc := 116) dX2_lead_116 rfl rfl ?_
    refine zg_getI (pc := 117) dX2_lead_117 lf_X2_25 kC_35 (by decide) rfl ?_
    refine zg_bipush (pc := 120) dX2_lead_120 (v := 6) (by decide) ?_
    refine zg_callVi (st := [.int l4]) (pc := 122) dX2_lead_122 (As := [.int (h14.1 35 0), .int 6]) lk_X2_21 kC_2 (by decide) rfl (Nat.le_of_ble_eq_true rfl) (Nat.le_of_ble_eq_true rfl) (sd_X7_fact (d + 1) H) (fun r17 h16 H => ?_)
    refine zg_icmp_lt (pc := 125) dX2_lead_125 (tgt := 161) (by decide) (fun hc => ?_) (fun hc => ?_)
    · replace H := H.1 hc
      refine zg_goto (pc := 161) dX2_lead_161 (tgt := 38) (by decide) ?_
      refine zg_weak (L' := [some (.ref 35), some (.ref 2), none, none, some (.int l4), none, none]) ⟨rfl, ⟨rfl, ⟨rfl, trivial⟩⟩⟩ ?_
      exact hag38 l4 _ H
    · replace H := H.2 hc
      refine zg_iload (pc := 128) dX2_lead_128 rfl ?_
      refine zg_aload_n (pc := 130) dX2_lead_130 rfl rfl ?_
      refine zg_aload_n (pc := 131) dX2_lead_131 rfl rfl ?_
      refine zg_getI (pc := 132) dX2_lead_132 lf_X2_25 kC_35 (by decide) rfl ?_
      refine zg_bipush (pc := 135) dX2_lead_135 (v := 6) (by decide) ?_
      refine zg_callVi (st := [.int l4]) (pc := 137) dX2_lead_137 (As := [.int (h16.1 35 0), .int 6]) lk_X2_21 kC_2 (by decide) rfl (Nat.le_of_ble_eq_true rfl) (Nat.le_of_ble_eq_true rfl) (sd_X7_fact (d + 1) H) (fun r19 h18 H => ?_)
      refine zg_isub (pc := 140) dX2_lead_140 ?_
      refine zg_istore (pc := 141) dX2_lead_141 (by decide) (L' := [some (.ref 35), some (.ref 2), none, none, some (.int (l4 - r19)), some (.int l5), some (.int l6)]) rfl ?_
      refine zg_iinc (pc := 143) dX2_lead_143 rfl (v := l6 + 1) rfl (by decide) (L' := [some (.ref 35), some (.ref 2), none, none, some (.int (l4 - r19)), some (.int l5), some (.int (l6 + 1))]) rfl ?_
      refine zg_aload_n (pc := 146) dX2_lead_146 rfl rfl ?_
      refine zg_aload_n (pc := 147) dX2_lead_147 rfl rfl ?_
      refine zg_iload (pc := 148) dX2_lead_148 rfl ?_
      refine zg_iload (pc := 150) dX2_lead_150 rfl ?_
      refine zg_callVi (st := [.ref 35]) (pc := 152) dX2_lead_152 (As := [.int l5, .int (l6 + 1)]) lk_X2_35 kC_2 (by decide) rfl (Nat.le_of_ble_eq_true rfl) (Nat.le_of_ble_eq_true rfl) (sd_X7_partAt (d + 1) H) (fun r21 h20 H => ?_)
      refine zg_putI (pc := 155) dX2_lead_155 lp_X2_25 kC_35 (by decide) rfl ?_
      generalize eh22 : zz_uI h20 35 0 r21 = h22
      replace H := H h22 eh22.symm
      refine zg_goto (pc := 158) dX2_lead_158 (tgt := 99) (by decide) ?_
      exact hag99 (l4 - r19) (l6 + 1) _ H
set_option maxRecDepth 100000 in
theorem sd_X2_lead_l38 {d : Nat} {Q : Int32 → zz_Hp → Prop}  {l4 : Int32} {h : zz_Hp}  (H : lp (fun s ag => w_X2_lead_l38 ag Q  s.1 s.2) (l4, h)) : zz_G zKC zNC (d + 2) mX2_lead (qI Q) 38 [some (.ref 35), some (.ref 2), none, none, some (.int l4), none, none] [] h := by
  refine lp_sound (G := fun (s : Int32 × zz_Hp) => zz_G zKC zNC (d + 2) mX2_lead (qI Q) 38 [some (.ref 35), some (.ref 2), none, none, some (.int s.1), none, none] [] s.2) ?_ H
  clear H
  intro s ag38 hag38 H
  obtain ⟨l4, h⟩ := s
  replace hag38 : ∀ (l4 : Int32) (h : zz_Hp), ag38 (l4, h) → zz_G zKC zNC (d + 2) mX2_lead (qI Q) 38 [some (.ref 35), some (.ref 2), none, none, some (.int l4), none, none] [] h := fun l4 h H => hag38 (l4, h) H
  replace H : w_X2_lead_l38 ag38 Q  l4 h := H
  show zz_G zKC zNC (d + 2) mX2_lead (qI Q) 38 [some (.ref 35), some (.ref 2), none, none, some (.int l4), none, none] [] h
  unfold w_X2_lead_l38 at H
  refine zg_aload_n (pc := 38) dX2_lead_38 rfl rfl ?_
  refine zg_getI (pc := 39) dX2_lead_39 lf_X2_29 kC_35 (by decide) rfl ?_
  refine zg_iconst (pc := 42) dX2_lead_42 (v := 3) (by decide) ?_
  refine zg_icmp_ge (pc := 43) dX2_lead_43 (tgt := 164) (by decide) (fun hc => ?_) (fun hc => ?_)
  · replace H := H.1 hc
    refine zg_iconst (pc := 164) dX2_lead_164 (v := 1) (by decide) ?_
    exact zg_zret (pc := 165) dX2_lead_165 (Or.inr rfl) rfl ⟨_, rfl, H⟩
  · replace H := H.2 hc
    refine zg_aload_n (pc := 46) dX2_lead_46 rfl rfl ?_
    refine zg_aload_n (pc := 47) dX2_lead_47 rfl rfl ?_
    refine zg_getI (pc := 48) dX2_lead_48 lf_X2_25 kC_35 (by decide) rfl ?_
    refine zg_callVi (st := []) (pc := 51) dX2_lead_51 (As := [.int (h.1 35 0)]) lk_X2_32 kC_2 (by decide) rfl (Nat.le_of_ble_eq_true rfl) (Nat.le_of_ble_eq_true rfl) (sd_X7_isThread d H) (fun r8 h7 H => ?_)
    refine zg_if_ne (pc := 54) dX2_lead_54 (tgt := 164) (by decide) (fun hc => ?_) (fun hc => ?_)
    · replace H := H.1 hc
      refine zg_iconst (pc := 164) dX2_lead_164 (v := 1) (by decide) ?_
      exact zg_zret (pc := 165) dX2_lead_165 (Or.inr rfl) rfl ⟨_, rfl, H⟩
    · replace H := H.2 hc
      refine zg_aload_n (pc := 57) dX2_lead_57 rfl rfl ?_
      refine zg_getI (pc := 58) dX2_lead_58 lf_X2_25 kC_35 (by decide) rfl ?_
      refine zg_istore (pc := 61) dX2_lead_61 (by decide) (L' := [some (.ref 35), some (.ref 2), none, none, some (.int l4), some (.int (h7.1 35 0)), none]) rfl ?_
      refine zg_aload_n (pc := 63) dX2_lead_63 rfl rfl ?_
      refine zg_getR (pc := 64) dX2_lead_64 lf_X2_9 kC_35 (by decide) rfl ?_
      refine zg_aload_n (pc := 67) dX2_lead_67 rfl rfl ?_
      refine zg_getI (pc := 68) dX2_lead_68 lf_X2_29 kC_35 (by decide) rfl ?_
      refine zg_iload (pc := 71) dX2_lead_71 rfl ?_
      obtain ⟨hb, H⟩ := H
      refine zg_iast (pc := 73) dX2_lead_73 kC_36 (by decide) hb ?_
      generalize eh9 : zz_uI h7 36 (Int32.toNatClampNeg (h7.1 35 1)) (h7.1 35 0) = h9
      replace H := H h9 eh9.symm
      refine zg_aload_n (pc := 74) dX2_lead_74 rfl rfl ?_
      refine zg_dup (pc := 75) dX2_lead_75 rfl ?_
      refine zg_getI (pc := 76) dX2_lead_76 lf_X2_29 kC_35 (by decide) rfl ?_
      refine zg_iconst (pc := 79) dX2_lead_79 (v := 1) (by decide) ?_
      refine zg_iadd (pc := 80) dX2_lead_80 ?_
      refine zg_putI (pc := 81) dX2_lead_81 lp_X2_29 kC_35 (by decide) rfl ?_
      generalize eh10 : zz_uI h9 35 1 ((h9.1 35 1) + 1) = h10
      replace H := H h10 eh10.symm
      refine zg_iconst (pc := 84) dX2_lead_84 (v := 0) (by decide) ?_
      refine zg_istore (pc := 85) dX2_lead_85 (by decide) (L' := [some (.ref 35), some (.ref 2), none, none, some (.int l4), some (.int (h7.1 35 0)), some (.int 0)]) rfl ?_
      refine zg_aload_n (pc := 87) dX2_lead_87 rfl rfl ?_
      refine zg_aload_n (pc := 88) dX2_lead_88 rfl rfl ?_
      refine zg_iload (pc := 89) dX2_lead_89 rfl ?_
      refine zg_iload (pc := 91) dX2_lead_91 rfl ?_
      refine zg_callVi (st := [.ref 35]) (pc := 93) dX2_lead_93 (As := [.int (h7.1 35 0), .int 0]) lk_X2_35 kC_2 (by decide) rfl (Nat.le_of_ble_eq_true rfl) (Nat.le_of_ble_eq_true rfl) (sd_X7_partAt (d + 1) H) (fun r12 h11 H => ?_)
      refine zg_putI (pc := 96) dX2_lead_96 lp_X2_25 kC_35 (by decide) rfl ?_
      generalize eh13 : zz_uI h11 35 0 r12 = h13
      replace H := H h13 eh13.symm
      exact sd_X2_lead_l99 hag38 H
set_option maxRecDepth 100000 in
theorem sd_X2_lead (d : Nat) {l2 : Int32} {l3 : Int32} {h : zz_Hp} {Q : Int32 → zz_Hp → Prop} (H : w_X2_lead l2 l3 h Q) : zz_G zKC zNC (d + 2) mX2_lead (qI Q) 0 (zz_L0 7 [.ref 35, .ref 2, .int l2, .int l3]) [] h := by
  show zz_G zKC zNC (d + 2) mX2_lead (qI Q) 0 [some (.ref 35), some (.ref 2), some (.int l2), some (.int l3), none, none, none] [] h
  unfold w_X2_lead at H
  refine zg_aload_n (pc := 0) dX2_lead_0 rfl rfl ?_
  refine zg_iload_n (pc := 1) dX2_lead_1 rfl rfl ?_
  refine zg_callVi (st := []) (pc := 2) dX2_lead_2 (As := [.int l2]) lk_X2_15 kC_2 (by decide) rfl (Nat.le_of_ble_eq_true rfl) (Nat.le_of_ble_eq_true rfl) (sd_X7_has (d + 1) H) (fun r2 h1 H => ?_)
  refine zg_if_eq (pc := 5) dX2_lead_5 (tgt := 23) (by decide) (fun hc => ?_) (fun hc => ?_)
  · replace H := H.1 hc
    refine zg_iconst (pc := 23) dX2_lead_23 (v := 0) (by decide) ?_
    exact zg_zret (pc := 24) dX2_lead_24 (Or.inl rfl) rfl ⟨_, rfl, H⟩
  · replace H := H.2 hc
    refine zg_iload_n (pc := 8) dX2_lead_8 rfl rfl ?_
    refine zg_if_lt (pc := 9) dX2_lead_9 (tgt := 23) (by decide) (fun hc => ?_) (fun hc => ?_)
    · replace H := H.1 hc
      refine zg_iconst (pc := 23) dX2_lead_23 (v := 0) (by decide) ?_
      exact zg_zret (pc := 24) dX2_lead_24 (Or.inl rfl) rfl ⟨_, rfl, H⟩
    · replace H := H.2 hc
      refine zg_iload_n (pc := 12) dX2_lead_12 rfl rfl ?_
      refine zg_aload_n (pc := 13) dX2_lead_13 rfl rfl ?_
      refine zg_iload_n (pc := 14) dX2_lead_14 rfl rfl ?_
      refine zg_bipush (pc := 15) dX2_lead_15 (v := 6) (by decide) ?_
      refine zg_callVi (st := [.int l3]) (pc := 17) dX2_lead_17 (As := [.int l2, .int 6]) lk_X2_21 kC_2 (by decide) rfl (Nat.le_of_ble_eq_true rfl) (Nat.le_of_ble_eq_true rfl) (sd_X7_fact (d + 1) H) (fun r4 h3 H => ?_)
      refine zg_icmp_lt (pc := 20) dX2_lead_20 (tgt := 25) (by decide) (fun hc => ?_) (fun hc => ?_)
      · replace H := H.1 hc
        refine zg_aload_n (pc := 25) dX2_lead_25 rfl rfl ?_
        refine zg_iload_n (pc := 26) dX2_lead_26 rfl rfl ?_
        refine zg_putI (pc := 27) dX2_lead_27 lp_X2_25 kC_35 (by decide) rfl ?_
        generalize eh5 : zz_uI h3 35 0 l2 = h5
        replace H := H h5 eh5.symm
        refine zg_aload_n (pc := 30) dX2_lead_30 rfl rfl ?_
        refine zg_iconst (pc := 31) dX2_lead_31 (v := 0) (by decide) ?_
        refine zg_putI (pc := 32) dX2_lead_32 lp_X2_29 kC_35 (by decide) rfl ?_
        generalize eh6 : zz_uI h5 35 1 0 = h6
        replace H := H h6 eh6.symm
        refine zg_iload_n (pc := 35) dX2_lead_35 rfl rfl ?_
        refine zg_istore (pc := 36) dX2_lead_36 (by decide) (L' := [some (.ref 35), some (.ref 2), some (.int l2), some (.int l3), some (.int l3), none, none]) rfl ?_
        refine zg_weak (L' := [some (.ref 35), some (.ref 2), none, none, some (.int l3), none, none]) ⟨rfl, ⟨rfl, ⟨rfl, trivial⟩⟩⟩ ?_
        exact sd_X2_lead_l38  H
      · replace H := H.2 hc
        refine zg_iconst (pc := 23) dX2_lead_23 (v := 0) (by decide) ?_
        exact zg_zret (pc := 24) dX2_lead_24 (Or.inl rfl) rfl ⟨_, rfl, H⟩
set_option maxRecDepth 100000 in
theorem sd_X2_turnOf_l12 {d : Nat} {Q : Int32 → zz_Hp → Prop}  {l2 : Int32} {l3 : Int32} {h : zz_Hp}  (H : lp (fun s ag => w_X2_turnOf_l12 ag Q  s.1 s.2.1 s.2.2) (l2, l3, h)) : zz_G zKC zNC (d + 1) mX2_turnOf (qI Q) 12 [some (.ref 35), some (.ref 2), some (.int l2), some (.int l3)] [] h := by
  refine lp_sound (G := fun (s : Int32 × Int32 × zz_Hp) => zz_G zKC zNC (d + 1) mX2_turnOf (qI Q) 12 [some (.ref 35), some (.ref 2), some (.int s.1), some (.int s.2.1)] [] s.2.2) ?_ H
  clear H
  intro s ag12 hag12 H
  obtain ⟨l2, l3, h⟩ := s
  replace hag12 : ∀ (l2 : Int32) (l3 : Int32) (h : zz_Hp), ag12 (l2, l3, h) → zz_G zKC zNC (d + 1) mX2_turnOf (qI Q) 12 [some (.ref 35), some (.ref 2), some (.int l2), some (.int l3)] [] h := fun l2 l3 h H => hag12 (l2, l3, h) H
  replace H : w_X2_turnOf_l12 ag12 Q  l2 l3 h := H
  show zz_G zKC zNC (d + 1) mX2_turnOf (qI Q) 12 [some (.ref 35), some (.ref 2), some (.int l2), some (.int l3)] [] h
  unfold w_X2_turnOf_l12 at H
  refine zg_iload_n (pc := 12) dX2_turnOf_12 rfl rfl ?_
  refine zg_aload_n (pc := 13) dX2_turnOf_13 rfl rfl ?_
  refine zg_getI (pc := 14) dX2_turnOf_14 lf_X2_29 kC_35 (by decide) rfl ?_
  refine zg_icmp_ge (pc := 17) dX2_turnOf_17 (tgt := 40) (by decide) (fun hc => ?_) (fun hc => ?_)
  · replace H := H.1 hc
    refine zg_iload_n (pc := 40) dX2_turnOf_40 rfl rfl ?_
    exact zg_iret (pc := 41) dX2_turnOf_41 rfl ⟨_, rfl, H⟩
  · replace H := H.2 hc
    refine zg_iload_n (pc := 20) dX2_turnOf_20 rfl rfl ?_
    refine zg_aload_n (pc := 21) dX2_turnOf_21 rfl rfl ?_
    refine zg_aload_n (pc := 22) dX2_turnOf_22 rfl rfl ?_
    refine zg_getR (pc := 23) dX2_turnOf_23 lf_X2_9 kC_35 (by decide) rfl ?_
    refine zg_iload_n (pc := 26) dX2_turnOf_26 rfl rfl ?_
    obtain ⟨hb, H⟩ := H
    refine zg_iald (pc := 27) dX2_turnOf_27 kC_36 (by decide) hb ?_
    refine zg_iconst (pc := 28) dX2_turnOf_28 (v := 0) (by decide) ?_
    refine zg_callVi (st := [.int l2]) (pc := 29) dX2_turnOf_29 (As := [.int (h.1 36 (Int32.toNatClampNeg l3)), .int 0]) lk_X2_21 kC_2 (by decide) rfl (Nat.le_of_ble_eq_true rfl) (Nat.le_of_ble_eq_true rfl) (sd_X7_fact d H) (fun r4 h3 H => ?_)
    refine zg_iadd (pc := 32) dX2_turnOf_32 ?_
    refine zg_istore_n (pc := 33) dX2_turnOf_33 rfl (by decide) (L' := [some (.ref 35), some (.ref 2), some (.int (l2 + r4)), some (.int l3)]) rfl ?_
    refine zg_iinc (pc := 34) dX2_turnOf_34 rfl (v := l3 + 1) rfl (by decide) (L' := [some (.ref 35), some (.ref 2), some (.int (l2 + r4)), some (.int (l3 + 1))]) rfl ?_
    refine zg_goto (pc := 37) dX2_turnOf_37 (tgt := 12) (by decide) ?_
    exact hag12 (l2 + r4) (l3 + 1) _ H
set_option maxRecDepth 100000 in
theorem sd_X2_turnOf (d : Nat)  {h : zz_Hp} {Q : Int32 → zz_Hp → Prop} (H : w_X2_turnOf  h Q) : zz_G zKC zNC (d + 1) mX2_turnOf (qI Q) 0 (zz_L0 4 [.ref 35, .ref 2]) [] h := by
  show zz_G zKC zNC (d + 1) mX2_turnOf (qI Q) 0 [some (.ref 35), some (.ref 2), none, none] [] h
  unfold w_X2_turnOf at H
  refine zg_aload_n (pc := 0) dX2_turnOf_0 rfl rfl ?_
  refine zg_aload_n (pc := 1) dX2_turnOf_1 rfl rfl ?_
  refine zg_getI (pc := 2) dX2_turnOf_2 lf_X2_25 kC_35 (by decide) rfl ?_
  refine zg_iconst (pc := 5) dX2_turnOf_5 (v := 0) (by decide) ?_
  refine zg_callVi (st := []) (pc := 6) dX2_turnOf_6 (As := [.int (h.1 35 0), .int 0]) lk_X2_21 kC_2 (by decide) rfl (Nat.le_of_ble_eq_true rfl) (Nat.le_of_ble_eq_true rfl) (sd_X7_fact d H) (fun r2 h1 H => ?_)
  refine zg_istore_n (pc := 9) dX2_turnOf_9 rfl (by decide) (L' := [some (.ref 35), some (.ref 2), some (.int r2), none]) rfl ?_
  refine zg_iconst (pc := 10) dX2_turnOf_10 (v := 0) (by decide) ?_
  refine zg_istore_n (pc := 11) dX2_turnOf_11 rfl (by decide) (L' := [some (.ref 35), some (.ref 2), some (.int r2), some (.int 0)]) rfl ?_
  exact sd_X2_turnOf_l12  H
set_option maxRecDepth 100000 in
theorem sd_X8_leaf (d : Nat) {l1 : Int32} {l2 : Int32} {l3 : Int32} {h : zz_Hp} {Q : Int32 → zz_Hp → Prop} (H : w_X8_leaf l1 l2 l3 h Q) : zz_G zKC zNC (d + 3) mX8_leaf (qI Q) 0 (zz_L0 4 [.ref 0, .int l1, .int l2, .int l3]) [] h := by
  show zz_G zKC zNC (d + 3) mX8_leaf (qI Q) 0 [some (.ref 0), some (.int l1), some (.int l2), some (.int l3)] [] h
  unfold w_X8_leaf at H
  refine zg_iload_n (pc := 0) dX8_leaf_0 rfl rfl ?_
  refine zg_iconst (pc := 1) dX8_leaf_1 (v := 0) (by decide) ?_
  refine zg_iconst (pc := 2) dX8_leaf_2 (v := 1) (by decide) ?_
  refine zg_callSi (st := []) (pc := 3) dX8_leaf_3 (As := [.int l3, .int 0, .int 1]) lk_X8_121 rfl (Nat.le_of_ble_eq_true rfl) (Nat.le_of_ble_eq_true rfl) (sd_X8_inRange (d + 2) H) (fun r2 h1 H => ?_)
  refine zg_if_eq (pc := 6) dX8_leaf_6 (tgt := 28) (by decide) (fun hc => ?_) (fun hc => ?_)
  · replace H := H.1 hc
    refine zg_ldc (pc := 28) dX8_leaf_28 lc_X8_125 ?_
    exact zg_iret (pc := 30) dX8_leaf_30 rfl ⟨_, rfl, H⟩
  · replace H := H.2 hc
    refine zg_aload_n (pc := 9) dX8_leaf_9 rfl rfl ?_
    refine zg_getR (pc := 10) dX8_leaf_10 lf_X8_61 kC_0 (by decide) rfl ?_
    refine zg_aload_n (pc := 13) dX8_leaf_13 rfl rfl ?_
    refine zg_getR (pc := 14) dX8_leaf_14 lf_X8_12 kC_0 (by decide) rfl ?_
    refine zg_getR (pc := 17) dX8_leaf_17 lf_X8_75 kC_1 (by decide) rfl ?_
    refine zg_iload_n (pc := 20) dX8_leaf_20 rfl rfl ?_
    refine zg_iload_n (pc := 21) dX8_leaf_21 rfl rfl ?_
    refine zg_callVi (st := []) (pc := 22) dX8_leaf_22 (As := [.ref 2, .int l1, .int l2]) lk_X8_137 kC_35 (by decide) rfl (Nat.le_of_ble_eq_true rfl) (Nat.le_of_ble_eq_true rfl) (sd_X2_lead d H) (fun r4 h3 H => ?_)
    refine zg_if_ne (pc := 25) dX8_leaf_25 (tgt := 31) (by decide) (fun hc => ?_) (fun hc => ?_)
    · replace H := H.1 hc
      refine zg_iload_n (pc := 31) dX8_leaf_31 rfl rfl ?_
      refine zg_if_ne (pc := 32) dX8_leaf_32 (tgt := 45) (by decide) (fun hc => ?_) (fun hc => ?_)
      · replace H := H.1 hc
        refine zg_aload_n (pc := 45) dX8_leaf_45 rfl rfl ?_
        refine zg_getR (pc := 46) dX8_leaf_46 lf_X8_61 kC_0 (by decide) rfl ?_
        refine zg_aload_n (pc := 49) dX8_leaf_49 rfl rfl ?_
        refine zg_getR (pc := 50) dX8_leaf_50 lf_X8_12 kC_0 (by decide) rfl ?_
        refine zg_getR (pc := 53) dX8_leaf_53 lf_X8_75 kC_1 (by decide) rfl ?_
        refine zg_callVi (st := []) (pc := 56) dX8_leaf_56 (As := [.ref 2]) lk_X8_144 kC_35 (by decide) rfl (Nat.le_of_ble_eq_true rfl) (Nat.le_of_ble_eq_true rfl) (sd_X2_turnOf (d + 1) H) (fun r6 h5 H => ?_)
        exact zg_iret (pc := 59) dX8_leaf_59 rfl ⟨_, rfl, H⟩
      · replace H := H.2 hc
        refine zg_aload_n (pc := 35) dX8_leaf_35 rfl rfl ?_
        refine zg_getR (pc := 36) dX8_leaf_36 lf_X8_61 kC_0 (by decide) rfl ?_
        refine zg_getI (pc := 39) dX8_leaf_39 lf_X8_141 kC_35 (by decide) rfl ?_
        refine zg_goto (pc := 42) dX8_leaf_42 (tgt := 59) (by decide) ?_
        exact zg_iret (pc := 59) dX8_leaf_59 rfl ⟨_, rfl, H⟩
    · replace H := H.2 hc
      refine zg_ldc (pc := 28) dX8_leaf_28 lc_X8_125 ?_
      exact zg_iret (pc := 30) dX8_leaf_30 rfl ⟨_, rfl, H⟩
set_option maxRecDepth 100000 in
theorem sd_J7_fill_53178_20_l5 {d : Nat} {Q : zz_Hp → Prop} {l1 : Int32} {l3 : Int32} {l2 : Int32} {h : zz_Hp}  (H : lp (fun s ag => w_J7_fill_53178_20_l5 ag Q l1 l3 s.1 s.2) (l2, h)) : zz_G zKC zNC (d + 0) mJ7_fill_53178 (qV Q) 5 [some (.ref 20), some (.int l1), some (.int l2), some (.int l3)] [] h := by
  refine lp_sound (G := fun (s : Int32 × zz_Hp) => zz_G zKC zNC (d + 0) mJ7_fill_53178 (qV Q) 5 [some (.ref 20), some (.int l1), some (.int s.1), some (.int l3)] [] s.2) ?_ H
  clear H
  intro s ag5 hag5 H
  obtain ⟨l2, h⟩ := s
  replace hag5 : ∀ (l2 : Int32) (h : zz_Hp), ag5 (l2, h) → zz_G zKC zNC (d + 0) mJ7_fill_53178 (qV Q) 5 [some (.ref 20), some (.int l1), some (.int l2), some (.int l3)] [] h := fun l2 h H => hag5 (l2, h) H
  replace H : w_J7_fill_53178_20_l5 ag5 Q l1 l3 l2 h := H
  show zz_G zKC zNC (d + 0) mJ7_fill_53178 (qV Q) 5 [some (.ref 20), some (.int l1), some (.int l2), some (.int l3)] [] h
  unfold w_J7_fill_53178_20_l5 at H
  refine zg_iload_n (pc := 5) dJ7_fill_53178_5 rfl rfl ?_
  refine zg_iload_n (pc := 6) dJ7_fill_53178_6 rfl rfl ?_
  refine zg_icmp_ge (pc := 7) dJ7_fill_53178_7 (tgt := 20) (by decide) (fun hc => ?_) (fun hc => ?_)
  · replace H := H.1 hc
    exact zg_vret (pc := 20) dJ7_fill_53178_20 rfl ⟨rfl, H⟩
  · replace H := H.2 hc
    refine zg_aload_n (pc := 10) dJ7_fill_53178_10 rfl rfl ?_
    refine zg_iload_n (pc := 11) dJ7_fill_53178_11 rfl rfl ?_
    refine zg_iload_n (pc := 12) dJ7_fill_53178_12 rfl rfl ?_
    obtain ⟨hb, H⟩ := H
    refine zg_iast (pc := 13) dJ7_fill_53178_13 kC_20 (by decide) hb ?_
    generalize eh1 : zz_uI h 20 (Int32.toNatClampNeg l2) l1 = h1
    replace H := H h1 eh1.symm
    refine zg_iinc (pc := 14) dJ7_fill_53178_14 rfl (v := l2 + 1) rfl (by decide) (L' := [some (.ref 20), some (.int l1), some (.int (l2 + 1)), some (.int l3)]) rfl ?_
    refine zg_goto (pc := 17) dJ7_fill_53178_17 (tgt := 5) (by decide) ?_
    exact hag5 (l2 + 1) _ H
set_option maxRecDepth 100000 in
theorem sd_J7_fill_53178_20 (d : Nat) {l1 : Int32} {h : zz_Hp} {Q : zz_Hp → Prop} (H : w_J7_fill_53178_20 l1 h Q) : zz_G zKC zNC (d + 0) mJ7_fill_53178 (qV Q) 0 (zz_L0 4 [.ref 20, .int l1]) [] h := by
  show zz_G zKC zNC (d + 0) mJ7_fill_53178 (qV Q) 0 [some (.ref 20), some (.int l1), none, none] [] h
  unfold w_J7_fill_53178_20 at H
  refine zg_iconst (pc := 0) dJ7_fill_53178_0 (v := 0) (by decide) ?_
  refine zg_istore_n (pc := 1) dJ7_fill_53178_1 rfl (by decide) (L' := [some (.ref 20), some (.int l1), some (.int 0), none]) rfl ?_
  refine zg_aload_n (pc := 2) dJ7_fill_53178_2 rfl rfl ?_
  refine zg_alen (pc := 3) dJ7_fill_53178_3 (Or.inl rfl) (v := 4) (by decide) kC_20 (by decide) ?_
  refine zg_istore_n (pc := 4) dJ7_fill_53178_4 rfl (by decide) (L' := [some (.ref 20), some (.int l1), some (.int 0), some (.int 4)]) rfl ?_
  exact sd_J7_fill_53178_20_l5  H
set_option maxRecDepth 100000 in
theorem sd_X6_countFibres_l7 {d : Nat} {Q : zz_Hp → Prop}  {l3 : Int32} {h : zz_Hp}  (H : lp (fun s ag => w_X6_countFibres_l7 ag Q  s.1 s.2) (l3, h)) : zz_G zKC zNC (d + 1) mX6_countFibres (qV Q) 7 [some (.ref 27), some (.ref 2), some (.ref 20), some (.int l3), none] [] h := by
  refine lp_sound (G := fun (s : Int32 × zz_Hp) => zz_G zKC zNC (d + 1) mX6_countFibres (qV Q) 7 [some (.ref 27), some (.ref 2), some (.ref 20), some (.int s.1), none] [] s.2) ?_ H
  clear H
  intro s ag7 hag7 H
  obtain ⟨l3, h⟩ := s
  replace hag7 : ∀ (l3 : Int32) (h : zz_Hp), ag7 (l3, h) → zz_G zKC zNC (d + 1) mX6_countFibres (qV Q) 7 [some (.ref 27), some (.ref 2), some (.ref 20), some (.int l3), none] [] h := fun l3 h H => hag7 (l3, h) H
  replace H : w_X6_countFibres_l7 ag7 Q  l3 h := H
  show zz_G zKC zNC (d + 1) mX6_countFibres (qV Q) 7 [some (.ref 27), some (.ref 2), some (.ref 20), some (.int l3), none] [] h
  unfold w_X6_countFibres_l7 at H
  refine zg_iload_n (pc := 7) dX6_countFibres_7 rfl rfl ?_
  refine zg_aload_n (pc := 8) dX6_countFibres_8 rfl rfl ?_
  refine zg_getI (pc := 9) dX6_countFibres_9 lf_X6_34 kC_27 (by decide) rfl ?_
  refine zg_icmp_ge (pc := 12) dX6_countFibres_12 (tgt := 59) (by decide) (fun hc => ?_) (fun hc => ?_)
  · replace H := H.1 hc
    exact zg_vret (pc := 59) dX6_countFibres_59 rfl ⟨rfl, H⟩
  · replace H := H.2 hc
    refine zg_aload_n (pc := 15) dX6_countFibres_15 rfl rfl ?_
    refine zg_aload_n (pc := 16) dX6_countFibres_16 rfl rfl ?_
    refine zg_getR (pc := 17) dX6_countFibres_17 lf_X6_9 kC_27 (by decide) rfl ?_
    refine zg_iload_n (pc := 20) dX6_countFibres_20 rfl rfl ?_
    obtain ⟨hb, H⟩ := H
    refine zg_iald (pc := 21) dX6_countFibres_21 kC_28 (by decide) hb ?_
    refine zg_iconst (pc := 22) dX6_countFibres_22 (v := 2) (by decide) ?_
    refine zg_callVi (st := []) (pc := 23) dX6_countFibres_23 (As := [.int (h.1 28 (Int32.toNatClampNeg l3)), .int 2]) lk_X6_46 kC_2 (by decide) rfl (Nat.le_of_ble_eq_true rfl) (Nat.le_of_ble_eq_true rfl) (sd_X7_fact d H) (fun r4 h3 H => ?_)
    refine zg_istore (pc := 26) dX6_countFibres_26 (by decide) (L' := [some (.ref 27), some (.ref 2), some (.ref 20), some (.int l3), some (.int r4)]) rfl ?_
    refine zg_iload (pc := 28) dX6_countFibres_28 rfl ?_
    refine zg_if_lt (pc := 30) dX6_countFibres_30 (tgt := 53) (by decide) (fun hc => ?_) (fun hc => ?_)
    · replace H := H.1 hc
      refine zg_iinc (pc := 53) dX6_countFibres_53 rfl (v := l3 + 1) rfl (by decide) (L' := [some (.ref 27), some (.ref 2), some (.ref 20), some (.int (l3 + 1)), some (.int r4)]) rfl ?_
      refine zg_goto (pc := 56) dX6_countFibres_56 (tgt := 7) (by decide) ?_
      refine zg_weak (L' := [some (.ref 27), some (.ref 2), some (.ref 20), some (.int (l3 + 1)), none]) ⟨rfl, ⟨rfl, ⟨rfl, ⟨rfl, trivial⟩⟩⟩⟩ ?_
      exact hag7 (l3 + 1) _ H
    · replace H := H.2 hc
      refine zg_iload (pc := 33) dX6_countFibres_33 rfl ?_
      refine zg_aload_n (pc := 35) dX6_countFibres_35 rfl rfl ?_
      refine zg_alen (pc := 36) dX6_countFibres_36 (Or.inl rfl) (v := 4) (by decide) kC_20 (by decide) ?_
      refine zg_icmp_ge (pc := 37) dX6_countFibres_37 (tgt := 53) (by decide) (fun hc => ?_) (fun hc => ?_)
      · replace H := H.1 hc
        refine zg_iinc (pc := 53) dX6_countFibres_53 rfl (v := l3 + 1) rfl (by decide) (L' := [some (.ref 27), some (.ref 2), some (.ref 20), some (.int (l3 + 1)), some (.int r4)]) rfl ?_
        refine zg_goto (pc := 56) dX6_countFibres_56 (tgt := 7) (by decide) ?_
        refine zg_weak (L' := [some (.ref 27), some (.ref 2), some (.ref 20), some (.int (l3 + 1)), none]) ⟨rfl, ⟨rfl, ⟨rfl, ⟨rfl, trivial⟩⟩⟩⟩ ?_
        exact hag7 (l3 + 1) _ H
      · replace H := H.2 hc
        refine zg_aload_n (pc := 40) dX6_countFibres_40 rfl rfl ?_
        refine zg_iload (pc := 41) dX6_countFibres_41 rfl ?_
        refine zg_dup2 (pc := 43) dX6_countFibres_43 rfl rfl ?_
        obtain ⟨hb, H⟩ := H
        refine zg_iald (pc := 44) dX6_countFibres_44 kC_20 (by decide) hb ?_
        refine zg_aload_n (pc := 45) dX6_countFibres_45 rfl rfl ?_
        refine zg_getR (pc := 46) dX6_countFibres_46 lf_X6_18 kC_27 (by decide) rfl ?_
        refine zg_iload_n (pc := 49) dX6_countFibres_49 rfl rfl ?_
        obtain ⟨hb, H⟩ := H
        refine zg_iald (pc := 50) dX6_countFibres_50 kC_30 (by decide) hb ?_
        refine zg_iadd (pc := 51) dX6_countFibres_51 ?_
        obtain ⟨hb, H⟩ := H
        refine zg_iast (pc := 52) dX6_countFibres_52 kC_20 (by decide) hb ?_
        generalize eh5 : zz_uI h3 20 (Int32.toNatClampNeg r4) ((h3.1 20 (Int32.toNatClampNeg r4)) + (h3.1 30 (Int32.toNatClampNeg l3))) = h5
        replace H := H h5 eh5.symm
        refine zg_iinc (pc := 53) dX6_countFibres_53 rfl (v := l3 + 1) rfl (by decide) (L' := [some (.ref 27), some (.ref 2), some (.ref 20), some (.int (l3 + 1)), some (.int r4)]) rfl ?_
        refine zg_goto (pc := 56) dX6_countFibres_56 (tgt := 7) (by decide) ?_
        refine zg_weak (L' := [some (.ref 27), some (.ref 2), some (.ref 20), some (.int (l3 + 1)), none]) ⟨rfl, ⟨rfl, ⟨rfl, ⟨rfl, trivial⟩⟩⟩⟩ ?_
        exact hag7 (l3 + 1) _ H
set_option maxRecDepth 100000 in
theorem sd_X6_countFibres (d : Nat)  {h : zz_Hp} {Q : zz_Hp → Prop} (H : w_X6_countFibres  h Q) : zz_G zKC zNC (d + 1) mX6_countFibres (qV Q) 0 (zz_L0 5 [.ref 27, .ref 2, .ref 20]) [] h := by
  show zz_G zKC zNC (d + 1) mX6_countFibres (qV Q) 0 [some (.ref 27), some (.ref 2), some (.ref 20), none, none] [] h
  unfold w_X6_countFibres at H
  refine zg_aload_n (pc := 0) dX6_countFibres_0 rfl rfl ?_
  refine zg_iconst (pc := 1) dX6_countFibres_1 (v := 0) (by decide) ?_
  refine zg_callSv (st := []) (pc := 2) dX6_countFibres_2 (As := [.ref 20, .int 0]) lk_X6_66 rfl (Nat.le_of_ble_eq_true rfl) (Nat.le_of_ble_eq_true rfl) (sd_J7_fill_53178_20 d H) (fun h1 H => ?_)
  refine zg_iconst (pc := 5) dX6_countFibres_5 (v := 0) (by decide) ?_
  refine zg_istore_n (pc := 6) dX6_countFibres_6 rfl (by decide) (L' := [some (.ref 27), some (.ref 2), some (.ref 20), some (.int 0), none]) rfl ?_
  exact sd_X6_countFibres_l7  H
set_option maxRecDepth 100000 in
theorem sd_X6_turnBy (d : Nat) {l1 : Int32} {l2 : Int32} {h : zz_Hp} {Q : Int32 → zz_Hp → Prop} (H : w_X6_turnBy l1 l2 h Q) : zz_G zKC zNC (d + 0) mX6_turnBy (qI Q) 0 (zz_L0 3 [.ref 27, .int l1, .int l2]) [] h := by
  show zz_G zKC zNC (d + 0) mX6_turnBy (qI Q) 0 [some (.ref 27), some (.int l1), some (.int l2)] [] h
  unfold w_X6_turnBy at H
  refine zg_aload_n (pc := 0) dX6_turnBy_0 rfl rfl ?_
  refine zg_getR (pc := 1) dX6_turnBy_1 lf_X6_24 kC_27 (by decide) rfl ?_
  refine zg_iload_n (pc := 4) dX6_turnBy_4 rfl rfl ?_
  obtain ⟨hb, H⟩ := H
  refine zg_zald (pc := 5) dX6_turnBy_5 kC_32 (by decide) hb ?_
  refine zg_if_eq (pc := 6) dX6_turnBy_6 (tgt := 20) (by decide) (fun hc => ?_) (fun hc => ?_)
  · replace H := H.1 hc
    refine zg_aload_n (pc := 20) dX6_turnBy_20 rfl rfl ?_
    refine zg_getR (pc := 21) dX6_turnBy_21 lf_X6_15 kC_27 (by decide) rfl ?_
    refine zg_iload_n (pc := 24) dX6_turnBy_24 rfl rfl ?_
    obtain ⟨hb, H⟩ := H
    refine zg_iald (pc := 25) dX6_turnBy_25 kC_29 (by decide) hb ?_
    exact zg_iret (pc := 26) dX6_turnBy_26 rfl ⟨_, rfl, H⟩
  · replace H := H.2 hc
    refine zg_aload_n (pc := 9) dX6_turnBy_9 rfl rfl ?_
    refine zg_getR (pc := 10) dX6_turnBy_10 lf_X6_15 kC_27 (by decide) rfl ?_
    refine zg_iload_n (pc := 13) dX6_turnBy_13 rfl rfl ?_
    obtain ⟨hb, H⟩ := H
    refine zg_iald (pc := 14) dX6_turnBy_14 kC_29 (by decide) hb ?_
    refine zg_iload_n (pc := 15) dX6_turnBy_15 rfl rfl ?_
    refine zg_iadd (pc := 16) dX6_turnBy_16 ?_
    refine zg_goto (pc := 17) dX6_turnBy_17 (tgt := 26) (by decide) ?_
    exact zg_iret (pc := 26) dX6_turnBy_26 rfl ⟨_, rfl, H⟩
set_option maxRecDepth 100000 in
theorem sd_X8_beyondEase (d : Nat) {l0 : Int32} {h : zz_Hp} {Q : Int32 → zz_Hp → Prop} (H : w_X8_beyondEase l0 h Q) : zz_G zKC zNC (d + 0) mX8_beyondEase (qI Q) 0 (zz_L0 1 [.int l0]) [] h := by
  show zz_G zKC zNC (d + 0) mX8_beyondEase (qI Q) 0 [some (.int l0)] [] h
  unfold w_X8_beyondEase at H
  refine zg_iload_n (pc := 0) dX8_beyondEase_0 rfl rfl ?_
  refine zg_bipush (pc := 1) dX8_beyondEase_1 (v := 20) (by decide) ?_
  refine zg_icmp_le (pc := 3) dX8_beyondEase_3 (tgt := 11) (by decide) (fun hc => ?_) (fun hc => ?_)
  · replace H := H.1 hc
    refine zg_iload_n (pc := 11) dX8_beyondEase_11 rfl rfl ?_
    refine zg_bipush (pc := 12) dX8_beyondEase_12 (v := (-20)) (by decide) ?_
    refine zg_icmp_ge (pc := 14) dX8_beyondEase_14 (tgt := 24) (by decide) (fun hc => ?_) (fun hc => ?_)
    · replace H := H.1 hc
      refine zg_iconst (pc := 24) dX8_beyondEase_24 (v := 0) (by decide) ?_
      exact zg_iret (pc := 25) dX8_beyondEase_25 rfl ⟨_, rfl, H⟩
    · replace H := H.2 hc
      refine zg_iload_n (pc := 17) dX8_beyondEase_17 rfl rfl ?_
      refine zg_bipush (pc := 18) dX8_beyondEase_18 (v := 20) (by decide) ?_
      refine zg_iadd (pc := 20) dX8_beyondEase_20 ?_
      refine zg_goto (pc := 21) dX8_beyondEase_21 (tgt := 25) (by decide) ?_
      exact zg_iret (pc := 25) dX8_beyondEase_25 rfl ⟨_, rfl, H⟩
  · replace H := H.2 hc
    refine zg_iload_n (pc := 6) dX8_beyondEase_6 rfl rfl ?_
    refine zg_bipush (pc := 7) dX8_beyondEase_7 (v := 20) (by decide) ?_
    refine zg_isub (pc := 9) dX8_beyondEase_9 ?_
    exact zg_iret (pc := 10) dX8_beyondEase_10 rfl ⟨_, rfl, H⟩
set_option maxRecDepth 100000 in
theorem sd_X8_fibrePull (d : Nat) {l0 : Int32} {l1 : Int32} {l2 : Int32} {h : zz_Hp} {Q : Int32 → zz_Hp → Prop} (H : w_X8_fibrePull l0 l1 l2 h Q) : zz_G zKC zNC (d + 1) mX8_fibrePull (qI Q) 0 (zz_L0 3 [.int l0, .int l1, .int l2]) [] h := by
  show zz_G zKC zNC (d + 1) mX8_fibrePull (qI Q) 0 [some (.int l0), some (.int l1), some (.int l2)] [] h
  unfold w_X8_fibrePull at H
  refine zg_iload_n (pc := 0) dX8_fibrePull_0 rfl rfl ?_
  by_cases hc : (Int32.toInt l0) < 1 ∨ 3 < (Int32.toInt l0)
  · refine zg_tabOut (pc := 1) dX8_fibrePull_1 hc (tgt := 51) (by decide) ?_
    replace H := H.2.2.2 hc
    refine zg_iload_n (pc := 51) dX8_fibrePull_51 rfl rfl ?_
    refine zg_iload_n (pc := 52) dX8_fibrePull_52 rfl rfl ?_
    refine zg_imul (pc := 53) dX8_fibrePull_53 ?_
    exact zg_iret (pc := 54) dX8_fibrePull_54 rfl ⟨_, rfl, H⟩
  · have hx : (Int32.toInt l0) = 1 ∨ (Int32.toInt l0) = 2 ∨ (Int32.toInt l0) = 3 := by omega
    rcases hx with hx | hx | hx
    · refine zg_tabIn (pc := 1) dX8_fibrePull_1 (by omega) (by omega) (off := 27) (by rw [hx]; rfl) (tgt := 28) (by decide) ?_
      replace H := H.1 hx
      refine zg_iconst (pc := 28) dX8_fibrePull_28 (v := 2) (by decide) ?_
      refine zg_iload_n (pc := 29) dX8_fibrePull_29 rfl rfl ?_
      refine zg_imul (pc := 30) dX8_fibrePull_30 ?_
      refine zg_iload_n (pc := 31) dX8_fibrePull_31 rfl rfl ?_
      refine zg_imul (pc := 32) dX8_fibrePull_32 ?_
      exact zg_iret (pc := 33) dX8_fibrePull_33 rfl ⟨_, rfl, H⟩
    · refine zg_tabIn (pc := 1) dX8_fibrePull_1 (by omega) (by omega) (off := 33) (by rw [hx]; rfl) (tgt := 34) (by decide) ?_
      replace H := H.2.1 hx
      refine zg_iload_n (pc := 34) dX8_fibrePull_34 rfl rfl ?_
      refine zg_iload_n (pc := 35) dX8_fibrePull_35 rfl rfl ?_
      refine zg_imul (pc := 36) dX8_fibrePull_36 ?_
      refine zg_iconst (pc := 37) dX8_fibrePull_37 (v := 2) (by decide) ?_
      refine zg_idiv (pc := 38) dX8_fibrePull_38 (by decide) ?_
      exact zg_iret (pc := 39) dX8_fibrePull_39 rfl ⟨_, rfl, H⟩
    · refine zg_tabIn (pc := 1) dX8_fibrePull_1 (by omega) (by omega) (off := 39) (by rw [hx]; rfl) (tgt := 40) (by decide) ?_
      replace H := H.2.2.1 hx
      refine zg_iload_n (pc := 40) dX8_fibrePull_40 rfl rfl ?_
      refine zg_iload_n (pc := 41) dX8_fibrePull_41 rfl rfl ?_
      refine zg_imul (pc := 42) dX8_fibrePull_42 ?_
      refine zg_iload_n (pc := 43) dX8_fibrePull_43 rfl rfl ?_
      refine zg_iload_n (pc := 44) dX8_fibrePull_44 rfl rfl ?_
      refine zg_callSi (st := [.int l1, .int (l1 * l2)]) (pc := 45) dX8_fibrePull_45 (As := [.int l2]) lk_X8_358 rfl (Nat.le_of_ble_eq_true rfl) (Nat.le_of_ble_eq_true rfl) (sd_X8_beyondEase d H) (fun r2 h1 H => ?_)
      refine zg_imul (pc := 48) dX8_fibrePull_48 ?_
      refine zg_iadd (pc := 49) dX8_fibrePull_49 ?_
      exact zg_iret (pc := 50) dX8_fibrePull_50 rfl ⟨_, rfl, H⟩
set_option maxRecDepth 100000 in
theorem sd_X6_torqueWithout_j80 {d : Nat} {ag6 : Int32 × Int32 × zz_Hp → Prop} {Q : Int32 → zz_Hp → Prop} {l2 : Int32} {l3 : Int32} {l4 : Int32} {l5 : Int32} {s0 : Int32} {h : zz_Hp} (hag6 : ∀ (l4 : Int32) (l5 : Int32) (h : zz_Hp), ag6 (l4, l5, h) → zz_G zKC zNC (d + 2) mX6_torqueWithout (qI Q) 6 [some (.ref 27), some (.ref 2), some (.int l2), some (.int l3), some (.int l4), some (.int l5), none, none, none, none] [] h) (H : w_X6_torqueWithout_j80 ag6 Q l2 l3 l4 l5 s0 h) : zz_G zKC zNC (d + 2) mX6_torqueWithout (qI Q) 80 [some (.ref 27), some (.ref 2), some (.int l2), some (.int l3), some (.int l4), some (.int l5), none, none, none, none] [.int s0] h := by
  unfold w_X6_torqueWithout_j80 at H
  refine zg_istore (pc := 80) dX6_torqueWithout_80 (by decide) (L' := [some (.ref 27), some (.ref 2), some (.int l2), some (.int l3), some (.int l4), some (.int l5), none, none, none, some (.int s0)]) rfl ?_
  refine zg_iload (pc := 82) dX6_torqueWithout_82 rfl ?_
  refine zg_aload_n (pc := 84) dX6_torqueWithout_84 rfl rfl ?_
  refine zg_getR (pc := 85) dX6_torqueWithout_85 lf_X6_18 kC_27 (by decide) rfl ?_
  refine zg_iload (pc := 88) dX6_torqueWithout_88 rfl ?_
  obtain ⟨hb, H⟩ := H
  refine zg_iald (pc := 90) dX6_torqueWithout_90 kC_30 (by decide) hb ?_
  refine zg_iload (pc := 91) dX6_torqueWithout_91 rfl ?_
  refine zg_imul (pc := 93) dX6_torqueWithout_93 ?_
  refine zg_iadd (pc := 94) dX6_torqueWithout_94 ?_
  refine zg_istore (pc := 95) dX6_torqueWithout_95 (by decide) (L' := [some (.ref 27), some (.ref 2), some (.int l2), some (.int l3), some (.int (l4 + ((h.1 30 (Int32.toNatClampNeg l5)) * s0))), some (.int l5), none, none, none, some (.int s0)]) rfl ?_
  refine zg_iinc (pc := 97) dX6_torqueWithout_97 rfl (v := l5 + 1) rfl (by decide) (L' := [some (.ref 27), some (.ref 2), some (.int l2), some (.int l3), some (.int (l4 + ((h.1 30 (Int32.toNatClampNeg l5)) * s0))), some (.int (l5 + 1)), none, none, none, some (.int s0)]) rfl ?_
  refine zg_goto (pc := 100) dX6_torqueWithout_100 (tgt := 6) (by decide) ?_
  refine zg_weak (L' := [some (.ref 27), some (.ref 2), some (.int l2), some (.int l3), some (.int (l4 + ((h.1 30 (Int32.toNatClampNeg l5)) * s0))), some (.int (l5 + 1)), none, none, none, none]) ⟨rfl, ⟨rfl, ⟨rfl, ⟨rfl, ⟨rfl, ⟨rfl, trivial⟩⟩⟩⟩⟩⟩ ?_
  exact hag6 (l4 + ((h.1 30 (Int32.toNatClampNeg l5)) * s0)) (l5 + 1) _ H
set_option maxRecDepth 100000 in
theorem sd_X6_torqueWithout_l6 {d : Nat} {Q : Int32 → zz_Hp → Prop} {l2 : Int32} {l3 : Int32} {l4 : Int32} {l5 : Int32} {h : zz_Hp}  (H : lp (fun s ag => w_X6_torqueWithout_l6 ag Q l2 l3 s.1 s.2.1 s.2.2) (l4, l5, h)) : zz_G zKC zNC (d + 2) mX6_torqueWithout (qI Q) 6 [some (.ref 27), some (.ref 2), some (.int l2), some (.int l3), some (.int l4), some (.int l5), none, none, none, none] [] h := by
  refine lp_sound (G := fun (s : Int32 × Int32 × zz_Hp) => zz_G zKC zNC (d + 2) mX6_torqueWithout (qI Q) 6 [some (.ref 27), some (.ref 2), some (.int l2), some (.int l3), some (.int s.1), some (.int s.2.1), none, none, none, none] [] s.2.2) ?_ H
  clear H
  intro s ag6 hag6 H
  obtain ⟨l4, l5, h⟩ := s
  replace hag6 : ∀ (l4 : Int32) (l5 : Int32) (h : zz_Hp), ag6 (l4, l5, h) → zz_G zKC zNC (d + 2) mX6_torqueWithout (qI Q) 6 [some (.ref 27), some (.ref 2), some (.int l2), some (.int l3), some (.int l4), some (.int l5), none, none, none, none] [] h := fun l4 l5 h H => hag6 (l4, l5, h) H
  replace H : w_X6_torqueWithout_l6 ag6 Q l2 l3 l4 l5 h := H
  show zz_G zKC zNC (d + 2) mX6_torqueWithout (qI Q) 6 [some (.ref 27), some (.ref 2), some (.int l2), some (.int l3), some (.int l4), some (.int l5), none, none, none, none] [] h
  unfold w_X6_torqueWithout_l6 at H
  refine zg_iload (pc := 6) dX6_torqueWithout_6 rfl ?_
  refine zg_aload_n (pc := 8) dX6_torqueWithout_8 rfl rfl ?_
  refine zg_getI (pc := 9) dX6_torqueWithout_9 lf_X6_34 kC_27 (by decide) rfl ?_
  refine zg_icmp_ge (pc := 12) dX6_torqueWithout_12 (tgt := 103) (by decide) (fun hc => ?_) (fun hc => ?_)
  · replace H := H.1 hc
    refine zg_iload (pc := 103) dX6_torqueWithout_103 rfl ?_
    exact zg_iret (pc := 105) dX6_torqueWithout_105 rfl ⟨_, rfl, H⟩
  · replace H := H.2 hc
    refine zg_aload_n (pc := 15) dX6_torqueWithout_15 rfl rfl ?_
    refine zg_getR (pc := 16) dX6_torqueWithout_16 lf_X6_9 kC_27 (by decide) rfl ?_
    refine zg_iload (pc := 19) dX6_torqueWithout_19 rfl ?_
    obtain ⟨hb, H⟩ := H
    refine zg_iald (pc := 21) dX6_torqueWithout_21 kC_28 (by decide) hb ?_
    refine zg_istore (pc := 22) dX6_torqueWithout_22 (by decide) (L' := [some (.ref 27), some (.ref 2), some (.int l2), some (.int l3), some (.int l4), some (.int l5), some (.int (h.1 28 (Int32.toNatClampNeg l5))), none, none, none]) rfl ?_
    refine zg_iload (pc := 24) dX6_torqueWithout_24 rfl ?_
    refine zg_iload_n (pc := 26) dX6_torqueWithout_26 rfl rfl ?_
    refine zg_icmp_eq (pc := 27) dX6_torqueWithout_27 (tgt := 97) (by decide) (fun hc => ?_) (fun hc => ?_)
    · replace H := H.1 hc
      refine zg_iinc (pc := 97) dX6_torqueWithout_97 rfl (v := l5 + 1) rfl (by decide) (L' := [some (.ref 27), some (.ref 2), some (.int l2), some (.int l3), some (.int l4), some (.int (l5 + 1)), some (.int (h.1 28 (Int32.toNatClampNeg l5))), none, none, none]) rfl ?_
      refine zg_goto (pc := 100) dX6_torqueWithout_100 (tgt := 6) (by decide) ?_
      refine zg_weak (L' := [some (.ref 27), some (.ref 2), some (.int l2), some (.int l3), some (.int l4), some (.int (l5 + 1)), none, none, none, none]) ⟨rfl, ⟨rfl, ⟨rfl, ⟨rfl, ⟨rfl, ⟨rfl, trivial⟩⟩⟩⟩⟩⟩ ?_
      exact hag6 l4 (l5 + 1) _ H
    · replace H := H.2 hc
      refine zg_aload_n (pc := 30) dX6_torqueWithout_30 rfl rfl ?_
      refine zg_iload (pc := 31) dX6_torqueWithout_31 rfl ?_
      refine zg_iload_n (pc := 33) dX6_torqueWithout_33 rfl rfl ?_
      refine zg_callVi (st := []) (pc := 34) dX6_torqueWithout_34 (As := [.int l5, .int l3]) lk_X6_59 kC_27 (by decide) rfl (Nat.le_of_ble_eq_true rfl) (Nat.le_of_ble_eq_true rfl) (sd_X6_turnBy (d + 1) H) (fun r2 h1 H => ?_)
      refine zg_istore (pc := 37) dX6_torqueWithout_37 (by decide) (L' := [some (.ref 27), some (.ref 2), some (.int l2), some (.int l3), some (.int l4), some (.int l5), some (.int (h.1 28 (Int32.toNatClampNeg l5))), some (.int r2), none, none]) rfl ?_
      refine zg_aload_n (pc := 39) dX6_torqueWithout_39 rfl rfl ?_
      refine zg_iload (pc := 40) dX6_torqueWithout_40 rfl ?_
      refine zg_iconst (pc := 42) dX6_torqueWithout_42 (v := 4) (by decide) ?_
      refine zg_callVi (st := []) (pc := 43) dX6_torqueWithout_43 (As := [.int (h.1 28 (Int32.toNatClampNeg l5)), .int 4]) lk_X6_46 kC_2 (by decide) rfl (Nat.le_of_ble_eq_true rfl) (Nat.le_of_ble_eq_true rfl) (sd_X7_fact (d + 1) H) (fun r4 h3 H => ?_)
      refine zg_istore (pc := 46) dX6_torqueWithout_46 (by decide) (L' := [some (.ref 27), some (.ref 2), some (.int l2), some (.int l3), some (.int l4), some (.int l5), some (.int (h.1 28 (Int32.toNatClampNeg l5))), some (.int r2), some (.int r4), none]) rfl ?_
      refine zg_iload (pc := 48) dX6_torqueWithout_48 rfl ?_
      refine zg_if_le (pc := 50) dX6_torqueWithout_50 (tgt := 61) (by decide) (fun hc => ?_) (fun hc => ?_)
      · replace H := H.1 hc
        refine zg_aload_n (pc := 61) dX6_torqueWithout_61 rfl rfl ?_
        refine zg_iload (pc := 62) dX6_torqueWithout_62 rfl ?_
        refine zg_iconst (pc := 64) dX6_torqueWithout_64 (v := 2) (by decide) ?_
        refine zg_callVi (st := []) (pc := 65) dX6_torqueWithout_65 (As := [.int (h.1 28 (Int32.toNatClampNeg l5)), .int 2]) lk_X6_46 kC_2 (by decide) rfl (Nat.le_of_ble_eq_true rfl) (Nat.le_of_ble_eq_true rfl) (sd_X7_fact (d + 1) H) (fun r6 h5 H => ?_)
        refine zg_aload_n (pc := 68) dX6_torqueWithout_68 rfl rfl ?_
        refine zg_iload (pc := 69) dX6_torqueWithout_69 rfl ?_
        refine zg_iconst (pc := 71) dX6_torqueWithout_71 (v := 1) (by decide) ?_
        refine zg_callVi (st := [.int r6]) (pc := 72) dX6_torqueWithout_72 (As := [.int (h.1 28 (Int32.toNatClampNeg l5)), .int 1]) lk_X6_46 kC_2 (by decide) rfl (Nat.le_of_ble_eq_true rfl) (Nat.le_of_ble_eq_true rfl) (sd_X7_fact (d + 1) H) (fun r8 h7 H => ?_)
        refine zg_iload (pc := 75) dX6_torqueWithout_75 rfl ?_
        refine zg_callNi (st := []) (pc := 77) dX6_torqueWithout_77 (As := [.int r6, .int r8, .int r2]) lk_X6_62 rfl (Nat.le_of_ble_eq_true rfl) (Nat.le_of_ble_eq_true rfl) (sd_X8_fibrePull d H) (fun r10 h9 H => ?_)
        refine zg_weak (L' := [some (.ref 27), some (.ref 2), some (.int l2), some (.int l3), some (.int l4), some (.int l5), none, none, none, none]) ⟨rfl, ⟨rfl, ⟨rfl, ⟨rfl, ⟨rfl, ⟨rfl, trivial⟩⟩⟩⟩⟩⟩ ?_
        exact sd_X6_torqueWithout_j80 hag6 H
      · replace H := H.2 hc
        refine zg_iload (pc := 53) dX6_torqueWithout_53 rfl ?_
        refine zg_iload (pc := 55) dX6_torqueWithout_55 rfl ?_
        refine zg_imul (pc := 57) dX6_torqueWithout_57 ?_
        refine zg_goto (pc := 58) dX6_torqueWithout_58 (tgt := 80) (by decide) ?_
        refine zg_weak (L' := [some (.ref 27), some (.ref 2), some (.int l2), some (.int l3), some (.int l4), some (.int l5), none, none, none, none]) ⟨rfl, ⟨rfl, ⟨rfl, ⟨rfl, ⟨rfl, ⟨rfl, trivial⟩⟩⟩⟩⟩⟩ ?_
        exact sd_X6_torqueWithout_j80 hag6 H
set_option maxRecDepth 100000 in
theorem sd_X6_torqueWithout (d : Nat) {l2 : Int32} {l3 : Int32} {h : zz_Hp} {Q : Int32 → zz_Hp → Prop} (H : w_X6_torqueWithout l2 l3 h Q) : zz_G zKC zNC (d + 2) mX6_torqueWithout (qI Q) 0 (zz_L0 10 [.ref 27, .ref 2, .int l2, .int l3]) [] h := by
  show zz_G zKC zNC (d + 2) mX6_torqueWithout (qI Q) 0 [some (.ref 27), some (.ref 2), some (.int l2), some (.int l3), none, none, none, none, none, none] [] h
  unfold w_X6_torqueWithout at H
  refine zg_iconst (pc := 0) dX6_torqueWithout_0 (v := 0) (by decide) ?_
  refine zg_istore (pc := 1) dX6_torqueWithout_1 (by decide) (L' := [some (.ref 27), some (.ref 2), some (.int l2), some (.int l3), some (.int 0), none, none, none, none, none]) rfl ?_
  refine zg_iconst (pc := 3) dX6_torqueWithout_3 (v := 0) (by decide) ?_
  refine zg_istore (pc := 4) dX6_torqueWithout_4 (by decide) (L' := [some (.ref 27), some (.ref 2), some (.int l2), some (.int l3), some (.int 0), some (.int 0), none, none, none, none]) rfl ?_
  exact sd_X6_torqueWithout_l6  H
set_option maxRecDepth 100000 in
theorem sd_X6_torqueBy (d : Nat) {l2 : Int32} {h : zz_Hp} {Q : Int32 → zz_Hp → Prop} (H : w_X6_torqueBy l2 h Q) : zz_G zKC zNC (d + 3) mX6_torqueBy (qI Q) 0 (zz_L0 3 [.ref 27, .ref 2, .int l2]) [] h := by
  show zz_G zKC zNC (d + 3) mX6_torqueBy (qI Q) 0 [some (.ref 27), some (.ref 2), some (.int l2)] [] h
  unfold w_X6_torqueBy at H
  refine zg_aload_n (pc := 0) dX6_torqueBy_0 rfl rfl ?_
  refine zg_aload_n (pc := 1) dX6_torqueBy_1 rfl rfl ?_
  refine zg_iconst (pc := 2) dX6_torqueBy_2 (v := (-1)) (by decide) ?_
  refine zg_iload_n (pc := 3) dX6_torqueBy_3 rfl rfl ?_
  refine zg_callVi (st := []) (pc := 4) dX6_torqueBy_4 (As := [.ref 2, .int ((-1)), .int l2]) lk_X6_55 kC_27 (by decide) rfl (Nat.le_of_ble_eq_true rfl) (Nat.le_of_ble_eq_true rfl) (sd_X6_torqueWithout d H) (fun r2 h1 H => ?_)
  exact zg_iret (pc := 7) dX6_torqueBy_7 rfl ⟨_, rfl, H⟩
set_option maxRecDepth 100000 in
theorem sd_X6_addPlace_j135 {d : Nat} {Q : zz_Hp → Prop}   {h : zz_Hp}  (H : w_X6_addPlace_j135 Q  h) : zz_G zKC zNC (d + 1) mX6_addPlace (qV Q) 135 [some (.ref 27), none, none, none, none] [] h := by
  unfold w_X6_addPlace_j135 at H
  refine zg_aload_n (pc := 135) dX6_addPlace_135 rfl rfl ?_
  refine zg_dup (pc := 136) dX6_addPlace_136 rfl ?_
  refine zg_getI (pc := 137) dX6_addPlace_137 lf_X6_34 kC_27 (by decide) rfl ?_
  refine zg_iconst (pc := 140) dX6_addPlace_140 (v := 1) (by decide) ?_
  refine zg_iadd (pc := 141) dX6_addPlace_141 ?_
  refine zg_putI (pc := 142) dX6_addPlace_142 lp_X6_34 kC_27 (by decide) rfl ?_
  generalize eh8 : zz_uI h 27 0 ((h.1 27 0) + 1) = h8
  replace H := H h8 eh8.symm
  exact zg_vret (pc := 145) dX6_addPlace_145 rfl ⟨rfl, H⟩
set_option maxRecDepth 100000 in
theorem sd_X6_addPlace_j87 {d : Nat} {Q : zz_Hp → Prop} {l3 : Int32} {s0 : Int32} {s1 : Int32} {h : zz_Hp}  (H : w_X6_addPlace_j87 Q l3 s0 s1 h) : zz_G zKC zNC (d + 1) mX6_addPlace (qV Q) 87 [some (.ref 27), none, none, some (.int l3), none] [.int s0, .int s1, .ref 32] h := by
  unfold w_X6_addPlace_j87 at H
  obtain ⟨hb, H⟩ := H
  obtain ⟨hb2, H⟩ := H
  refine zg_zast (pc := 87) dX6_addPlace_87 hb2 kC_32 (by decide) hb ?_
  generalize eh6 : zz_uI h 32 (Int32.toNatClampNeg s1) s0 = h6
  replace H := H h6 eh6.symm
  refine zg_aload_n (pc := 88) dX6_addPlace_88 rfl rfl ?_
  refine zg_getR (pc := 89) dX6_addPlace_89 lf_X6_18 kC_27 (by decide) rfl ?_
  refine zg_aload_n (pc := 92) dX6_addPlace_92 rfl rfl ?_
  refine zg_getI (pc := 93) dX6_addPlace_93 lf_X6_34 kC_27 (by decide) rfl ?_
  refine zg_iconst (pc := 96) dX6_addPlace_96 (v := 1) (by decide) ?_
  obtain ⟨hb, H⟩ := H
  refine zg_iast (pc := 97) dX6_addPlace_97 kC_30 (by decide) hb ?_
  generalize eh7 : zz_uI h6 30 (Int32.toNatClampNeg (h6.1 27 0)) 1 = h7
  replace H := H h7 eh7.symm
  refine zg_iload_n (pc := 98) dX6_addPlace_98 rfl rfl ?_
  refine zg_if_lt (pc := 99) dX6_addPlace_99 (tgt := 135) (by decide) (fun hc => ?_) (fun hc => ?_)
  · replace H := H.1 hc
    refine zg_weak (L' := [some (.ref 27), none, none, none, none]) ⟨rfl, trivial⟩ ?_
    exact sd_X6_addPlace_j135  H
  · replace H := H.2 hc
    refine zg_aload_n (pc := 102) dX6_addPlace_102 rfl rfl ?_
    refine zg_getR (pc := 103) dX6_addPlace_103 lf_X6_15 kC_27 (by decide) rfl ?_
    refine zg_aload_n (pc := 106) dX6_addPlace_106 rfl rfl ?_
    refine zg_getI (pc := 107) dX6_addPlace_107 lf_X6_34 kC_27 (by decide) rfl ?_
    refine zg_dup2 (pc := 110) dX6_addPlace_110 rfl rfl ?_
    obtain ⟨hb, H⟩ := H
    refine zg_iald (pc := 111) dX6_addPlace_111 kC_29 (by decide) hb ?_
    refine zg_aload_n (pc := 112) dX6_addPlace_112 rfl rfl ?_
    refine zg_getR (pc := 113) dX6_addPlace_113 lf_X6_15 kC_27 (by decide) rfl ?_
    refine zg_iload_n (pc := 116) dX6_addPlace_116 rfl rfl ?_
    obtain ⟨hb, H⟩ := H
    refine zg_iald (pc := 117) dX6_addPlace_117 kC_29 (by decide) hb ?_
    refine zg_iadd (pc := 118) dX6_addPlace_118 ?_
    obtain ⟨hb, H⟩ := H
    refine zg_iast (pc := 119) dX6_addPlace_119 kC_29 (by decide) hb ?_
    generalize eh9 : zz_uI h7 29 (Int32.toNatClampNeg (h7.1 27 0)) ((h7.1 29 (Int32.toNatClampNeg (h7.1 27 0))) + (h7.1 29 (Int32.toNatClampNeg l3))) = h9
    replace H := H h9 eh9.symm
    refine zg_aload_n (pc := 120) dX6_addPlace_120 rfl rfl ?_
    refine zg_getR (pc := 121) dX6_addPlace_121 lf_X6_18 kC_27 (by decide) rfl ?_
    refine zg_aload_n (pc := 124) dX6_addPlace_124 rfl rfl ?_
    refine zg_getI (pc := 125) dX6_addPlace_125 lf_X6_34 kC_27 (by decide) rfl ?_
    refine zg_aload_n (pc := 128) dX6_addPlace_128 rfl rfl ?_
    refine zg_getR (pc := 129) dX6_addPlace_129 lf_X6_18 kC_27 (by decide) rfl ?_
    refine zg_iload_n (pc := 132) dX6_addPlace_132 rfl rfl ?_
    obtain ⟨hb, H⟩ := H
    refine zg_iald (pc := 133) dX6_addPlace_133 kC_30 (by decide) hb ?_
    obtain ⟨hb, H⟩ := H
    refine zg_iast (pc := 134) dX6_addPlace_134 kC_30 (by decide) hb ?_
    generalize eh10 : zz_uI h9 30 (Int32.toNatClampNeg (h9.1 27 0)) (h9.1 30 (Int32.toNatClampNeg l3)) = h10
    replace H := H h10 eh10.symm
    refine zg_weak (L' := [some (.ref 27), none, none, none, none]) ⟨rfl, trivial⟩ ?_
    exact sd_X6_addPlace_j135  H
set_option maxRecDepth 100000 in
theorem sd_X6_addPlace_j82 {d : Nat} {Q : zz_Hp → Prop} {l3 : Int32} {s0 : Int32} {h : zz_Hp}  (H : w_X6_addPlace_j82 Q l3 s0 h) : zz_G zKC zNC (d + 1) mX6_addPlace (qV Q) 82 [some (.ref 27), none, none, some (.int l3), none] [.int s0, .ref 32] h := by
  unfold w_X6_addPlace_j82 at H
  refine zg_iconst (pc := 82) dX6_addPlace_82 (v := 1) (by decide) ?_
  refine zg_goto (pc := 83) dX6_addPlace_83 (tgt := 87) (by decide) ?_
  exact sd_X6_addPlace_j87  H
set_option maxRecDepth 100000 in
theorem sd_X6_addPlace_j86 {d : Nat} {Q : zz_Hp → Prop} {l3 : Int32} {s0 : Int32} {h : zz_Hp}  (H : w_X6_addPlace_j86 Q l3 s0 h) : zz_G zKC zNC (d + 1) mX6_addPlace (qV Q) 86 [some (.ref 27), none, none, some (.int l3), none] [.int s0, .ref 32] h := by
  unfold w_X6_addPlace_j86 at H
  refine zg_iconst (pc := 86) dX6_addPlace_86 (v := 0) (by decide) ?_
  exact sd_X6_addPlace_j87  H
set_option maxRecDepth 100000 in
theorem sd_X6_addPlace_j54 {d : Nat} {Q : zz_Hp → Prop} {l2 : Int32} {l3 : Int32} {l4 : Int32} {s0 : Int32} {s1 : Int32} {h : zz_Hp}  (H : w_X6_addPlace_j54 Q l2 l3 l4 s0 s1 h) : zz_G zKC zNC (d + 1) mX6_addPlace (qV Q) 54 [some (.ref 27), none, some (.int l2), some (.int l3), some (.int l4)] [.int s0, .int s1, .ref 29] h := by
  unfold w_X6_addPlace_j54 at H
  obtain ⟨hb, H⟩ := H
  refine zg_iast (pc := 54) dX6_addPlace_54 kC_29 (by decide) hb ?_
  generalize eh5 : zz_uI h 29 (Int32.toNatClampNeg s1) s0 = h5
  replace H := H h5 eh5.symm
  refine zg_aload_n (pc := 55) dX6_addPlace_55 rfl rfl ?_
  refine zg_getR (pc := 56) dX6_addPlace_56 lf_X6_24 kC_27 (by decide) rfl ?_
  refine zg_aload_n (pc := 59) dX6_addPlace_59 rfl rfl ?_
  refine zg_getI (pc := 60) dX6_addPlace_60 lf_X6_34 kC_27 (by decide) rfl ?_
  refine zg_iload_n (pc := 63) dX6_addPlace_63 rfl rfl ?_
  refine zg_iload (pc := 64) dX6_addPlace_64 rfl ?_
  refine zg_icmp_eq (pc := 66) dX6_addPlace_66 (tgt := 82) (by decide) (fun hc => ?_) (fun hc => ?_)
  · replace H := H.1 hc
    refine zg_weak (L' := [some (.ref 27), none, none, some (.int l3), none]) ⟨rfl, ⟨rfl, trivial⟩⟩ ?_
    exact sd_X6_addPlace_j82  H
  · replace H := H.2 hc
    refine zg_iload_n (pc := 69) dX6_addPlace_69 rfl rfl ?_
    refine zg_if_lt (pc := 70) dX6_addPlace_70 (tgt := 86) (by decide) (fun hc => ?_) (fun hc => ?_)
    · replace H := H.1 hc
      refine zg_weak (L' := [some (.ref 27), none, none, some (.int l3), none]) ⟨rfl, ⟨rfl, trivial⟩⟩ ?_
      exact sd_X6_addPlace_j86  H
    · replace H := H.2 hc
      refine zg_aload_n (pc := 73) dX6_addPlace_73 rfl rfl ?_
      refine zg_getR (pc := 74) dX6_addPlace_74 lf_X6_24 kC_27 (by decide) rfl ?_
      refine zg_iload_n (pc := 77) dX6_addPlace_77 rfl rfl ?_
      obtain ⟨hb, H⟩ := H
      refine zg_zald (pc := 78) dX6_addPlace_78 kC_32 (by decide) hb ?_
      refine zg_if_eq (pc := 79) dX6_addPlace_79 (tgt := 86) (by decide) (fun hc => ?_) (fun hc => ?_)
      · replace H := H.1 hc
        refine zg_weak (L' := [some (.ref 27), none, none, some (.int l3), none]) ⟨rfl, ⟨rfl, trivial⟩⟩ ?_
        exact sd_X6_addPlace_j86  H
      · replace H := H.2 hc
        refine zg_weak (L' := [some (.ref 27), none, none, some (.int l3), none]) ⟨rfl, ⟨rfl, trivial⟩⟩ ?_
        exact sd_X6_addPlace_j82  H
set_option maxRecDepth 100000 in
theorem sd_X6_addPlace (d : Nat) {l2 : Int32} {l3 : Int32} {l4 : Int32} {h : zz_Hp} {Q : zz_Hp → Prop} (H : w_X6_addPlace l2 l3 l4 h Q) : zz_G zKC zNC (d + 1) mX6_addPlace (qV Q) 0 (zz_L0 5 [.ref 27, .ref 2, .int l2, .int l3, .int l4]) [] h := by
  show zz_G zKC zNC (d + 1) mX6_addPlace (qV Q) 0 [some (.ref 27), some (.ref 2), some (.int l2), some (.int l3), some (.int l4)] [] h
  unfold w_X6_addPlace at H
  refine zg_aload_n (pc := 0) dX6_addPlace_0 rfl rfl ?_
  refine zg_getI (pc := 1) dX6_addPlace_1 lf_X6_34 kC_27 (by decide) rfl ?_
  refine zg_bipush (pc := 4) dX6_addPlace_4 (v := 85) (by decide) ?_
  refine zg_icmp_lt (pc := 6) dX6_addPlace_6 (tgt := 10) (by decide) (fun hc => ?_) (fun hc => ?_)
  · replace H := H.1 hc
    refine zg_aload_n (pc := 10) dX6_addPlace_10 rfl rfl ?_
    refine zg_getR (pc := 11) dX6_addPlace_11 lf_X6_9 kC_27 (by decide) rfl ?_
    refine zg_aload_n (pc := 14) dX6_addPlace_14 rfl rfl ?_
    refine zg_getI (pc := 15) dX6_addPlace_15 lf_X6_34 kC_27 (by decide) rfl ?_
    refine zg_iload_n (pc := 18) dX6_addPlace_18 rfl rfl ?_
    obtain ⟨hb, H⟩ := H
    refine zg_iast (pc := 19) dX6_addPlace_19 kC_28 (by decide) hb ?_
    generalize eh1 : zz_uI h 28 (Int32.toNatClampNeg (h.1 27 0)) l2 = h1
    replace H := H h1 eh1.symm
    refine zg_aload_n (pc := 20) dX6_addPlace_20 rfl rfl ?_
    refine zg_getR (pc := 21) dX6_addPlace_21 lf_X6_21 kC_27 (by decide) rfl ?_
    refine zg_aload_n (pc := 24) dX6_addPlace_24 rfl rfl ?_
    refine zg_getI (pc := 25) dX6_addPlace_25 lf_X6_34 kC_27 (by decide) rfl ?_
    refine zg_iload_n (pc := 28) dX6_addPlace_28 rfl rfl ?_
    obtain ⟨hb, H⟩ := H
    refine zg_iast (pc := 29) dX6_addPlace_29 kC_31 (by decide) hb ?_
    generalize eh2 : zz_uI h1 31 (Int32.toNatClampNeg (h1.1 27 0)) l3 = h2
    replace H := H h2 eh2.symm
    refine zg_aload_n (pc := 30) dX6_addPlace_30 rfl rfl ?_
    refine zg_getR (pc := 31) dX6_addPlace_31 lf_X6_15 kC_27 (by decide) rfl ?_
    refine zg_aload_n (pc := 34) dX6_addPlace_34 rfl rfl ?_
    refine zg_getI (pc := 35) dX6_addPlace_35 lf_X6_34 kC_27 (by decide) rfl ?_
    refine zg_iload_n (pc := 38) dX6_addPlace_38 rfl rfl ?_
    refine zg_iload (pc := 39) dX6_addPlace_39 rfl ?_
    refine zg_icmp_ne (pc := 41) dX6_addPlace_41 (tgt := 48) (by decide) (fun hc => ?_) (fun hc => ?_)
    · replace H := H.1 hc
      refine zg_aload_n (pc := 48) dX6_addPlace_48 rfl rfl ?_
      refine zg_iload_n (pc := 49) dX6_addPlace_49 rfl rfl ?_
      refine zg_iconst (pc := 50) dX6_addPlace_50 (v := 0) (by decide) ?_
      refine zg_callVi (st := [.int (h2.1 27 0), .ref 29]) (pc := 51) dX6_addPlace_51 (As := [.int l2, .int 0]) lk_X6_46 kC_2 (by decide) rfl (Nat.le_of_ble_eq_true rfl) (Nat.le_of_ble_eq_true rfl) (sd_X7_fact d H) (fun r4 h3 H => ?_)
      refine zg_weak (L' := [some (.ref 27), none, some (.int l2), some (.int l3), some (.int l4)]) ⟨rfl, ⟨rfl, ⟨rfl, ⟨rfl, trivial⟩⟩⟩⟩ ?_
      exact sd_X6_addPlace_j54  H
    · replace H := H.2 hc
      refine zg_iconst (pc := 44) dX6_addPlace_44 (v := 0) (by decide) ?_
      refine zg_goto (pc := 45) dX6_addPlace_45 (tgt := 54) (by decide) ?_
      refine zg_weak (L' := [some (.ref 27), none, some (.int l2), some (.int l3), some (.int l4)]) ⟨rfl, ⟨rfl, ⟨rfl, ⟨rfl, trivial⟩⟩⟩⟩ ?_
      exact sd_X6_addPlace_j54  H
  · replace H := H.2 hc
    exact zg_vret (pc := 9) dX6_addPlace_9 rfl ⟨rfl, H⟩
set_option maxRecDepth 100000 in
theorem sd_X6_addParts_j74 {d : Nat} {ag22 : Int32 × zz_Hp → Prop} {Q : zz_Hp → Prop} {l2 : Int32} {l3 : Int32} {l4 : Int32} {l5 : Int32} {l6 : Int32} {l7 : Int32} {l8 : Int32}  {h : zz_Hp} (hag22 : ∀ (l6 : Int32) (h : zz_Hp), ag22 (l6, h) → zz_G zKC zNC (d + 2) mX6_addParts (qV Q) 22 [some (.ref 27), some (.ref 2), some (.int l2), some (.int l3), some (.int l4), some (.int l5), some (.int l6), none, none] [] h) (H : w_X6_addParts_j74 ag22 Q l2 l3 l4 l5 l6 l7 l8 h) : zz_G zKC zNC (d + 2) mX6_addParts (qV Q) 74 [some (.ref 27), some (.ref 2), some (.int l2), some (.int l3), some (.int l4), some (.int l5), some (.int l6), some (.int l7), some (.int l8)] [] h := by
  unfold w_X6_addParts_j74 at H
  refine zg_iload (pc := 74) dX6_addParts_74 rfl ?_
  refine zg_aload_n (pc := 76) dX6_addParts_76 rfl rfl ?_
  refine zg_getI (pc := 77) dX6_addParts_77 lf_X6_34 kC_27 (by decide) rfl ?_
  refine zg_icmp_ge (pc := 80) dX6_addParts_80 (tgt := 102) (by decide) (fun hc => ?_) (fun hc => ?_)
  · replace H := H.1 hc
    refine zg_aload_n (pc := 102) dX6_addParts_102 rfl rfl ?_
    refine zg_aload_n (pc := 103) dX6_addParts_103 rfl rfl ?_
    refine zg_iload (pc := 104) dX6_addParts_104 rfl ?_
    refine zg_iload_n (pc := 106) dX6_addParts_106 rfl rfl ?_
    refine zg_iload_n (pc := 107) dX6_addParts_107 rfl rfl ?_
    refine zg_callVv (st := []) (pc := 108) dX6_addParts_108 (As := [.ref 2, .int l7, .int l2, .int l3]) lk_X6_38 kC_27 (by decide) rfl (Nat.le_of_ble_eq_true rfl) (Nat.le_of_ble_eq_true rfl) (sd_X6_addPlace d H) (fun h5 H => ?_)
    refine zg_iinc (pc := 111) dX6_addParts_111 rfl (v := l6 + 1) rfl (by decide) (L' := [some (.ref 27), some (.ref 2), some (.int l2), some (.int l3), some (.int l4), some (.int l5), some (.int (l6 + 1)), some (.int l7), some (.int l8)]) rfl ?_
    refine zg_goto (pc := 114) dX6_addParts_114 (tgt := 22) (by decide) ?_
    refine zg_weak (L' := [some (.ref 27), some (.ref 2), some (.int l2), some (.int l3), some (.int l4), some (.int l5), some (.int (l6 + 1)), none, none]) ⟨rfl, ⟨rfl, ⟨rfl, ⟨rfl, ⟨rfl, ⟨rfl, ⟨rfl, trivial⟩⟩⟩⟩⟩⟩⟩ ?_
    exact hag22 (l6 + 1) _ H
  · replace H := H.2 hc
    refine zg_aload_n (pc := 83) dX6_addParts_83 rfl rfl ?_
    refine zg_getR (pc := 84) dX6_addParts_84 lf_X6_18 kC_27 (by decide) rfl ?_
    refine zg_iload (pc := 87) dX6_addParts_87 rfl ?_
    refine zg_dup2 (pc := 89) dX6_addParts_89 rfl rfl ?_
    obtain ⟨hb, H⟩ := H
    refine zg_iald (pc := 90) dX6_addParts_90 kC_30 (by decide) hb ?_
    refine zg_aload_n (pc := 91) dX6_addParts_91 rfl rfl ?_
    refine zg_getR (pc := 92) dX6_addParts_92 lf_X6_18 kC_27 (by decide) rfl ?_
    refine zg_iload_n (pc := 95) dX6_addParts_95 rfl rfl ?_
    obtain ⟨hb, H⟩ := H
    refine zg_iald (pc := 96) dX6_addParts_96 kC_30 (by decide) hb ?_
    refine zg_iadd (pc := 97) dX6_addParts_97 ?_
    obtain ⟨hb, H⟩ := H
    refine zg_iast (pc := 98) dX6_addParts_98 kC_30 (by decide) hb ?_
    generalize eh7 : zz_uI h 30 (Int32.toNatClampNeg l8) ((h.1 30 (Int32.toNatClampNeg l8)) + (h.1 30 (Int32.toNatClampNeg l2))) = h7
    replace H := H h7 eh7.symm
    refine zg_goto (pc := 99) dX6_addParts_99 (tgt := 111) (by decide) ?_
    refine zg_iinc (pc := 111) dX6_addParts_111 rfl (v := l6 + 1) rfl (by decide) (L' := [some (.ref 27), some (.ref 2), some (.int l2), some (.int l3), some (.int l4), some (.int l5), some (.int (l6 + 1)), some (.int l7), some (.int l8)]) rfl ?_
    refine zg_goto (pc := 114) dX6_addParts_114 (tgt := 22) (by decide) ?_
    refine zg_weak (L' := [some (.ref 27), some (.ref 2), some (.int l2), some (.int l3), some (.int l4), some (.int l5), some (.int (l6 + 1)), none, none]) ⟨rfl, ⟨rfl, ⟨rfl, ⟨rfl, ⟨rfl, ⟨rfl, ⟨rfl, trivial⟩⟩⟩⟩⟩⟩⟩ ?_
    exact hag22 (l6 + 1) _ H
set_option maxRecDepth 100000 in
theorem sd_X6_addParts_l47 {d : Nat} {ag22 : Int32 × zz_Hp → Prop} {Q : zz_Hp → Prop} {l2 : Int32} {l3 : Int32} {l4 : Int32} {l5 : Int32} {l6 : Int32} {l7 : Int32} {l8 : Int32} {h : zz_Hp} (hag22 : ∀ (l6 : Int32) (h : zz_Hp), ag22 (l6, h) → zz_G zKC zNC (d + 2) mX6_addParts (qV Q) 22 [some (.ref 27), some (.ref 2), some (.int l2), some (.int l3), some (.int l4), some (.int l5), some (.int l6), none, none] [] h) (H : lp (fun s ag => w_X6_addParts_l47 ag22 ag Q l2 l3 l4 l5 l6 l7 s.1 s.2) (l8, h)) : zz_G zKC zNC (d + 2) mX6_addParts (qV Q) 47 [some (.ref 27), some (.ref 2), some (.int l2), some (.int l3), some (.int l4), some (.int l5), some (.int l6), some (.int l7), some (.int l8)] [] h := by
  refine lp_sound (G := fun (s : Int32 × zz_Hp) => zz_G zKC zNC (d + 2) mX6_addParts (qV Q) 47 [some (.ref 27), some (.ref 2), some (.int l2), some (.int l3), some (.int l4), some (.int l5), some (.int l6), some (.int l7), some (.int s.1)] [] s.2) ?_ H
  clear H
  intro s ag47 hag47 H
  obtain ⟨l8, h⟩ := s
  replace hag47 : ∀ (l8 : Int32) (h : zz_Hp), ag47 (l8, h) → zz_G zKC zNC (d + 2) mX6_addParts (qV Q) 47 [some (.ref 27), some (.ref 2), some (.int l2), some (.int l3), some (.int l4), some (.int l5), some (.int l6), some (.int l7), some (.int l8)] [] h := fun l8 h H => hag47 (l8, h) H
  replace H : w_X6_addParts_l47 ag22 ag47 Q l2 l3 l4 l5 l6 l7 l8 h := H
  show zz_G zKC zNC (d + 2) mX6_addParts (qV Q) 47 [some (.ref 27), some (.ref 2), some (.int l2), some (.int l3), some (.int l4), some (.int l5), some (.int l6), some (.int l7), some (.int l8)] [] h
  unfold w_X6_addParts_l47 at H
  refine zg_iload (pc := 47) dX6_addParts_47 rfl ?_
  refine zg_aload_n (pc := 49) dX6_addParts_49 rfl rfl ?_
  refine zg_getI (pc := 50) dX6_addParts_50 lf_X6_34 kC_27 (by decide) rfl ?_
  refine zg_icmp_ge (pc := 53) dX6_addParts_53 (tgt := 74) (by decide) (fun hc => ?_) (fun hc => ?_)
  · replace H := H.1 hc
    exact sd_X6_addParts_j74 hag22 H
  · replace H := H.2 hc
    refine zg_aload_n (pc := 56) dX6_addParts_56 rfl rfl ?_
    refine zg_getR (pc := 57) dX6_addParts_57 lf_X6_9 kC_27 (by decide) rfl ?_
    refine zg_iload (pc := 60) dX6_addParts_60 rfl ?_
    obtain ⟨hb, H⟩ := H
    refine zg_iald (pc := 62) dX6_addParts_62 kC_28 (by decide) hb ?_
    refine zg_iload (pc := 63) dX6_addParts_63 rfl ?_
    refine zg_icmp_eq (pc := 65) dX6_addParts_65 (tgt := 74) (by decide) (fun hc => ?_) (fun hc => ?_)
    · replace H := H.1 hc
      exact sd_X6_addParts_j74 hag22 H
    · replace H := H.2 hc
      refine zg_iinc (pc := 68) dX6_addParts_68 rfl (v := l8 + 1) rfl (by decide) (L' := [some (.ref 27), some (.ref 2), some (.int l2), some (.int l3), some (.int l4), some (.int l5), some (.int l6), some (.int l7), some (.int (l8 + 1))]) rfl ?_
      refine zg_goto (pc := 71) dX6_addParts_71 (tgt := 47) (by decide) ?_
      exact hag47 (l8 + 1) _ H
set_option maxRecDepth 100000 in
theorem sd_X6_addParts_l22 {d : Nat} {Q : zz_Hp → Prop} {l2 : Int32} {l3 : Int32} {l4 : Int32} {l5 : Int32} {l6 : Int32} {h : zz_Hp}  (H : lp (fun s ag => w_X6_addParts_l22 ag Q l2 l3 l4 l5 s.1 s.2) (l6, h)) : zz_G zKC zNC (d + 2) mX6_addParts (qV Q) 22 [some (.ref 27), some (.ref 2), some (.int l2), some (.int l3), some (.int l4), some (.int l5), some (.int l6), none, none] [] h := by
  refine lp_sound (G := fun (s : Int32 × zz_Hp) => zz_G zKC zNC (d + 2) mX6_addParts (qV Q) 22 [some (.ref 27), some (.ref 2), some (.int l2), some (.int l3), some (.int l4), some (.int l5), some (.int s.1), none, none] [] s.2) ?_ H
  clear H
  intro s ag22 hag22 H
  obtain ⟨l6, h⟩ := s
  replace hag22 : ∀ (l6 : Int32) (h : zz_Hp), ag22 (l6, h) → zz_G zKC zNC (d + 2) mX6_addParts (qV Q) 22 [some (.ref 27), some (.ref 2), some (.int l2), some (.int l3), some (.int l4), some (.int l5), some (.int l6), none, none] [] h := fun l6 h H => hag22 (l6, h) H
  replace H : w_X6_addParts_l22 ag22 Q l2 l3 l4 l5 l6 h := H
  show zz_G zKC zNC (d + 2) mX6_addParts (qV Q) 22 [some (.ref 27), some (.ref 2), some (.int l2), some (.int l3), some (.int l4), some (.int l5), some (.int l6), none, none] [] h
  unfold w_X6_addParts_l22 at H
  refine zg_iload (pc := 22) dX6_addParts_22 rfl ?_
  refine zg_iload (pc := 24) dX6_addParts_24 rfl ?_
  refine zg_icmp_ge (pc := 26) dX6_addParts_26 (tgt := 117) (by decide) (fun hc => ?_) (fun hc => ?_)
  · replace H := H.1 hc
    exact zg_vret (pc := 117) dX6_addParts_117 rfl ⟨rfl, H⟩
  · replace H := H.2 hc
    refine zg_aload_n (pc := 29) dX6_addParts_29 rfl rfl ?_
    refine zg_aload_n (pc := 30) dX6_addParts_30 rfl rfl ?_
    refine zg_getR (pc := 31) dX6_addParts_31 lf_X6_9 kC_27 (by decide) rfl ?_
    refine zg_iload_n (pc := 34) dX6_addParts_34 rfl rfl ?_
    obtain ⟨hb, H⟩ := H
    refine zg_iald (pc := 35) dX6_addParts_35 kC_28 (by decide) hb ?_
    refine zg_iload (pc := 36) dX6_addParts_36 rfl ?_
    refine zg_callVi (st := []) (pc := 38) dX6_addParts_38 (As := [.int (h.1 28 (Int32.toNatClampNeg l2)), .int l6]) lk_X6_52 kC_2 (by decide) rfl (Nat.le_of_ble_eq_true rfl) (Nat.le_of_ble_eq_true rfl) (sd_X7_partAt (d + 1) H) (fun r4 h3 H => ?_)
    refine zg_istore (pc := 41) dX6_addParts_41 (by decide) (L' := [some (.ref 27), some (.ref 2), some (.int l2), some (.int l3), some (.int l4), some (.int l5), some (.int l6), some (.int r4), none]) rfl ?_
    refine zg_iload (pc := 43) dX6_addParts_43 rfl ?_
    refine zg_istore (pc := 45) dX6_addParts_45 (by decide) (L' := [some (.ref 27), some (.ref 2), some (.int l2), some (.int l3), some (.int l4), some (.int l5), some (.int l6), some (.int r4), some (.int l4)]) rfl ?_
    exact sd_X6_addParts_l47 hag22 H
set_option maxRecDepth 100000 in
theorem sd_X6_addParts (d : Nat) {l2 : Int32} {l3 : Int32} {h : zz_Hp} {Q : zz_Hp → Prop} (H : w_X6_addParts l2 l3 h Q) : zz_G zKC zNC (d + 2) mX6_addParts (qV Q) 0 (zz_L0 9 [.ref 27, .ref 2, .int l2, .int l3]) [] h := by
  show zz_G zKC zNC (d + 2) mX6_addParts (qV Q) 0 [some (.ref 27), some (.ref 2), some (.int l2), some (.int l3), none, none, none, none, none] [] h
  unfold w_X6_addParts at H
  refine zg_aload_n (pc := 0) dX6_addParts_0 rfl rfl ?_
  refine zg_getI (pc := 1) dX6_addParts_1 lf_X6_34 kC_27 (by decide) rfl ?_
  refine zg_istore (pc := 4) dX6_addParts_4 (by decide) (L' := [some (.ref 27), some (.ref 2), some (.int l2), some (.int l3), some (.int (h.1 27 0)), none, none, none, none]) rfl ?_
  refine zg_aload_n (pc := 6) dX6_addParts_6 rfl rfl ?_
  refine zg_aload_n (pc := 7) dX6_addParts_7 rfl rfl ?_
  refine zg_getR (pc := 8) dX6_addParts_8 lf_X6_9 kC_27 (by decide) rfl ?_
  refine zg_iload_n (pc := 11) dX6_addParts_11 rfl rfl ?_
  obtain ⟨hb, H⟩ := H
  refine zg_iald (pc := 12) dX6_addParts_12 kC_28 (by decide) hb ?_
  refine zg_iconst (pc := 13) dX6_addParts_13 (v := 4) (by decide) ?_
  refine zg_callVi (st := []) (pc := 14) dX6_addParts_14 (As := [.int (h.1 28 (Int32.toNatClampNeg l2)), .int 4]) lk_X6_46 kC_2 (by decide) rfl (Nat.le_of_ble_eq_true rfl) (Nat.le_of_ble_eq_true rfl) (sd_X7_fact (d + 1) H) (fun r2 h1 H => ?_)
  refine zg_istore (pc := 17) dX6_addParts_17 (by decide) (L' := [some (.ref 27), some (.ref 2), some (.int l2), some (.int l3), some (.int (h.1 27 0)), some (.int r2), none, none, none]) rfl ?_
  refine zg_iconst (pc := 19) dX6_addParts_19 (v := 0) (by decide) ?_
  refine zg_istore (pc := 20) dX6_addParts_20 (by decide) (L' := [some (.ref 27), some (.ref 2), some (.int l2), some (.int l3), some (.int (h.1 27 0)), some (.int r2), some (.int 0), none, none]) rfl ?_
  exact sd_X6_addParts_l22  H
set_option maxRecDepth 100000 in
theorem sd_X6_walk_l16 {d : Nat} {Q : zz_Hp → Prop} {l3 : Int32} {l4 : Int32} {h : zz_Hp}  (H : lp (fun s ag => w_X6_walk_l16 ag Q l3 s.1 s.2) (l4, h)) : zz_G zKC zNC (d + 3) mX6_walk (qV Q) 16 [some (.ref 27), some (.ref 2), none, some (.int l3), some (.int l4)] [] h := by
  refine lp_sound (G := fun (s : Int32 × zz_Hp) => zz_G zKC zNC (d + 3) mX6_walk (qV Q) 16 [some (.ref 27), some (.ref 2), none, some (.int l3), some (.int s.1)] [] s.2) ?_ H
  clear H
  intro s ag16 hag16 H
  obtain ⟨l4, h⟩ := s
  replace hag16 : ∀ (l4 : Int32) (h : zz_Hp), ag16 (l4, h) → zz_G zKC zNC (d + 3) mX6_walk (qV Q) 16 [some (.ref 27), some (.ref 2), none, some (.int l3), some (.int l4)] [] h := fun l4 h H => hag16 (l4, h) H
  replace H : w_X6_walk_l16 ag16 Q l3 l4 h := H
  show zz_G zKC zNC (d + 3) mX6_walk (qV Q) 16 [some (.ref 27), some (.ref 2), none, some (.int l3), some (.int l4)] [] h
  unfold w_X6_walk_l16 at H
  refine zg_iload (pc := 16) dX6_walk_16 rfl ?_
  refine zg_aload_n (pc := 18) dX6_walk_18 rfl rfl ?_
  refine zg_getI (pc := 19) dX6_walk_19 lf_X6_34 kC_27 (by decide) rfl ?_
  refine zg_icmp_ge (pc := 22) dX6_walk_22 (tgt := 46) (by decide) (fun hc => ?_) (fun hc => ?_)
  · replace H := H.1 hc
    exact zg_vret (pc := 46) dX6_walk_46 rfl ⟨rfl, H⟩
  · replace H := H.2 hc
    refine zg_iload (pc := 25) dX6_walk_25 rfl ?_
    refine zg_bipush (pc := 27) dX6_walk_27 (v := 85) (by decide) ?_
    refine zg_icmp_ge (pc := 29) dX6_walk_29 (tgt := 46) (by decide) (fun hc => ?_) (fun hc => ?_)
    · replace H := H.1 hc
      exact zg_vret (pc := 46) dX6_walk_46 rfl ⟨rfl, H⟩
    · replace H := H.2 hc
      refine zg_aload_n (pc := 32) dX6_walk_32 rfl rfl ?_
      refine zg_aload_n (pc := 33) dX6_walk_33 rfl rfl ?_
      refine zg_iload (pc := 34) dX6_walk_34 rfl ?_
      refine zg_iload_n (pc := 36) dX6_walk_36 rfl rfl ?_
      refine zg_callVv (st := []) (pc := 37) dX6_walk_37 (As := [.ref 2, .int l4, .int l3]) lk_X6_42 kC_27 (by decide) rfl (Nat.le_of_ble_eq_true rfl) (Nat.le_of_ble_eq_true rfl) (sd_X6_addParts d H) (fun h4 H => ?_)
      refine zg_iinc (pc := 40) dX6_walk_40 rfl (v := l4 + 1) rfl (by decide) (L' := [some (.ref 27), some (.ref 2), none, some (.int l3), some (.int (l4 + 1))]) rfl ?_
      refine zg_goto (pc := 43) dX6_walk_43 (tgt := 16) (by decide) ?_
      exact hag16 (l4 + 1) _ H
