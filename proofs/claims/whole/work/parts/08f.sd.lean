set_option maxRecDepth 100000 in
theorem sd_X9_do1 (d : Nat)  {h : zz_Hp} {Q : Int32 → zz_Hp → Prop} (H : w_X9_do1  h Q) : zz_G zKR zNR (d + 11) mX9_do1 (qI Q) 0 (zz_L0 2 [.ref 0]) [] h := by
  show zz_G zKR zNR (d + 11) mX9_do1 (qI Q) 0 [some (.ref 0), none] [] h
  unfold w_X9_do1 at H
  refine zg_aload_n (pc := 0) dX9_do1_0 rfl rfl ?_
  refine zg_getI (pc := 1) dX9_do1_1 lf_X9_203 kR_0 (by decide) rfl ?_
  refine zg_if_ne (pc := 4) dX9_do1_4 (tgt := 10) (by decide) (fun hc => ?_) (fun hc => ?_)
  · replace H := H.1 hc
    refine zg_aload_n (pc := 10) dX9_do1_10 rfl rfl ?_
    refine zg_aload_n (pc := 11) dX9_do1_11 rfl rfl ?_
    refine zg_getR (pc := 12) dX9_do1_12 lf_X9_42 kR_0 (by decide) rfl ?_
    refine zg_iconst (pc := 15) dX9_do1_15 (v := 0) (by decide) ?_
    obtain ⟨hb, H⟩ := H
    refine zg_iald (pc := 16) dX9_do1_16 kR_11 (by decide) hb ?_
    refine zg_aload_n (pc := 17) dX9_do1_17 rfl rfl ?_
    refine zg_getR (pc := 18) dX9_do1_18 lf_X9_45 kR_0 (by decide) rfl ?_
    refine zg_iconst (pc := 21) dX9_do1_21 (v := 0) (by decide) ?_
    obtain ⟨hb, H⟩ := H
    refine zg_iald (pc := 22) dX9_do1_22 kR_12 (by decide) hb ?_
    refine zg_callVi (st := []) (pc := 23) dX9_do1_23 (As := [.int (h.1 11 (Int32.toNatClampNeg 0)), .int (h.1 12 (Int32.toNatClampNeg 0))]) lk_X9_240 kR_0 (by decide) rfl (Nat.le_of_ble_eq_true rfl) (Nat.le_of_ble_eq_true rfl) (sd_X9_isMade d H) (fun r2 h1 H => ?_)
    refine zg_if_ne (pc := 26) dX9_do1_26 (tgt := 32) (by decide) (fun hc => ?_) (fun hc => ?_)
    · replace H := H.1 hc
      refine zg_aload_n (pc := 32) dX9_do1_32 rfl rfl ?_
      refine zg_iconst (pc := 33) dX9_do1_33 (v := 0) (by decide) ?_
      refine zg_putI (pc := 34) dX9_do1_34 lp_X9_206 kR_0 (by decide) rfl ?_
      generalize eh3 : zz_uI h1 0 16 0 = h3
      replace H := H h3 eh3.symm
      refine zg_aload_n (pc := 37) dX9_do1_37 rfl rfl ?_
      refine zg_dup (pc := 38) dX9_do1_38 rfl ?_
      refine zg_getI (pc := 39) dX9_do1_39 lf_X9_203 kR_0 (by decide) rfl ?_
      refine zg_iconst (pc := 42) dX9_do1_42 (v := 1) (by decide) ?_
      refine zg_isub (pc := 43) dX9_do1_43 ?_
      refine zg_putI (pc := 44) dX9_do1_44 lp_X9_203 kR_0 (by decide) rfl ?_
      generalize eh4 : zz_uI h3 0 13 ((h3.1 0 13) - 1) = h4
      replace H := H h4 eh4.symm
      refine zg_iconst (pc := 47) dX9_do1_47 (v := 0) (by decide) ?_
      refine zg_istore_n (pc := 48) dX9_do1_48 rfl (by decide) (L' := [some (.ref 0), some (.int 0)]) rfl ?_
      exact sd_X9_do1_l49  H
    · replace H := H.2 hc
      refine zg_bipush (pc := 29) dX9_do1_29 (v := (-5)) (by decide) ?_
      exact zg_iret (pc := 31) dX9_do1_31 rfl ⟨_, rfl, H⟩
  · replace H := H.2 hc
    refine zg_bipush (pc := 7) dX9_do1_7 (v := (-2)) (by decide) ?_
    exact zg_iret (pc := 9) dX9_do1_9 rfl ⟨_, rfl, H⟩
set_option maxRecDepth 100000 in
theorem sd_X9_strike_l14 {d : Nat} {Q : Int32 → zz_Hp → Prop} {l1 : Int32} {l2 : Int32} {l3 : Int32} {h : zz_Hp}  (H : lp (fun s ag => w_X9_strike_l14 ag Q l1 s.1 s.2.1 s.2.2) (l2, l3, h)) : zz_G zKR zNR (d + 2) mX9_strike (qI Q) 14 [some (.ref 0), some (.int l1), some (.int l2), some (.int l3)] [] h := by
  refine lp_sound (G := fun (s : Int32 × Int32 × zz_Hp) => zz_G zKR zNR (d + 2) mX9_strike (qI Q) 14 [some (.ref 0), some (.int l1), some (.int s.1), some (.int s.2.1)] [] s.2.2) ?_ H
  clear H
  intro s ag14 hag14 H
  obtain ⟨l2, l3, h⟩ := s
  replace hag14 : ∀ (l2 : Int32) (l3 : Int32) (h : zz_Hp), ag14 (l2, l3, h) → zz_G zKR zNR (d + 2) mX9_strike (qI Q) 14 [some (.ref 0), some (.int l1), some (.int l2), some (.int l3)] [] h := fun l2 l3 h H => hag14 (l2, l3, h) H
  replace H : w_X9_strike_l14 ag14 Q l1 l2 l3 h := H
  show zz_G zKR zNR (d + 2) mX9_strike (qI Q) 14 [some (.ref 0), some (.int l1), some (.int l2), some (.int l3)] [] h
  unfold w_X9_strike_l14 at H
  refine zg_iload_n (pc := 14) dX9_strike_14 rfl rfl ?_
  refine zg_aload_n (pc := 15) dX9_strike_15 rfl rfl ?_
  refine zg_getI (pc := 16) dX9_strike_16 lf_X9_203 kR_0 (by decide) rfl ?_
  refine zg_icmp_ge (pc := 19) dX9_strike_19 (tgt := 65) (by decide) (fun hc => ?_) (fun hc => ?_)
  · replace H := H.1 hc
    refine zg_aload_n (pc := 65) dX9_strike_65 rfl rfl ?_
    refine zg_getI (pc := 66) dX9_strike_66 lf_X9_203 kR_0 (by decide) rfl ?_
    refine zg_iload_n (pc := 69) dX9_strike_69 rfl rfl ?_
    refine zg_isub (pc := 70) dX9_strike_70 ?_
    refine zg_istore_n (pc := 71) dX9_strike_71 rfl (by decide) (L' := [some (.ref 0), some (.int l1), some (.int l2), some (.int ((h.1 0 13) - l2))]) rfl ?_
    refine zg_aload_n (pc := 72) dX9_strike_72 rfl rfl ?_
    refine zg_iload_n (pc := 73) dX9_strike_73 rfl rfl ?_
    refine zg_putI (pc := 74) dX9_strike_74 lp_X9_203 kR_0 (by decide) rfl ?_
    generalize eh3 : zz_uI h 0 13 l2 = h3
    replace H := H h3 eh3.symm
    refine zg_iload_n (pc := 77) dX9_strike_77 rfl rfl ?_
    exact zg_iret (pc := 78) dX9_strike_78 rfl ⟨_, rfl, H⟩
  · replace H := H.2 hc
    refine zg_aload_n (pc := 22) dX9_strike_22 rfl rfl ?_
    refine zg_getR (pc := 23) dX9_strike_23 lf_X9_42 kR_0 (by decide) rfl ?_
    refine zg_iload_n (pc := 26) dX9_strike_26 rfl rfl ?_
    obtain ⟨hb, H⟩ := H
    refine zg_iald (pc := 27) dX9_strike_27 kR_11 (by decide) hb ?_
    refine zg_iload_n (pc := 28) dX9_strike_28 rfl rfl ?_
    refine zg_icmp_eq (pc := 29) dX9_strike_29 (tgt := 59) (by decide) (fun hc => ?_) (fun hc => ?_)
    · replace H := H.1 hc
      refine zg_iinc (pc := 59) dX9_strike_59 rfl (v := l3 + 1) rfl (by decide) (L' := [some (.ref 0), some (.int l1), some (.int l2), some (.int (l3 + 1))]) rfl ?_
      refine zg_goto (pc := 62) dX9_strike_62 (tgt := 14) (by decide) ?_
      exact hag14 l2 (l3 + 1) _ H
    · replace H := H.2 hc
      refine zg_aload_n (pc := 32) dX9_strike_32 rfl rfl ?_
      refine zg_getR (pc := 33) dX9_strike_33 lf_X9_42 kR_0 (by decide) rfl ?_
      refine zg_iload_n (pc := 36) dX9_strike_36 rfl rfl ?_
      refine zg_aload_n (pc := 37) dX9_strike_37 rfl rfl ?_
      refine zg_getR (pc := 38) dX9_strike_38 lf_X9_42 kR_0 (by decide) rfl ?_
      refine zg_iload_n (pc := 41) dX9_strike_41 rfl rfl ?_
      obtain ⟨hb, H⟩ := H
      refine zg_iald (pc := 42) dX9_strike_42 kR_11 (by decide) hb ?_
      obtain ⟨hb, H⟩ := H
      refine zg_iast (pc := 43) dX9_strike_43 kR_11 (by decide) hb ?_
      generalize eh4 : zz_uI h 11 (Int32.toNatClampNeg l2) (h.1 11 (Int32.toNatClampNeg l3)) = h4
      replace H := H h4 eh4.symm
      refine zg_aload_n (pc := 44) dX9_strike_44 rfl rfl ?_
      refine zg_getR (pc := 45) dX9_strike_45 lf_X9_45 kR_0 (by decide) rfl ?_
      refine zg_iload_n (pc := 48) dX9_strike_48 rfl rfl ?_
      refine zg_aload_n (pc := 49) dX9_strike_49 rfl rfl ?_
      refine zg_getR (pc := 50) dX9_strike_50 lf_X9_45 kR_0 (by decide) rfl ?_
      refine zg_iload_n (pc := 53) dX9_strike_53 rfl rfl ?_
      obtain ⟨hb, H⟩ := H
      refine zg_iald (pc := 54) dX9_strike_54 kR_12 (by decide) hb ?_
      obtain ⟨hb, H⟩ := H
      refine zg_iast (pc := 55) dX9_strike_55 kR_12 (by decide) hb ?_
      generalize eh5 : zz_uI h4 12 (Int32.toNatClampNeg l2) (h4.1 12 (Int32.toNatClampNeg l3)) = h5
      replace H := H h5 eh5.symm
      refine zg_iinc (pc := 56) dX9_strike_56 rfl (v := l2 + 1) rfl (by decide) (L' := [some (.ref 0), some (.int l1), some (.int (l2 + 1)), some (.int l3)]) rfl ?_
      refine zg_iinc (pc := 59) dX9_strike_59 rfl (v := l3 + 1) rfl (by decide) (L' := [some (.ref 0), some (.int l1), some (.int (l2 + 1)), some (.int (l3 + 1))]) rfl ?_
      refine zg_goto (pc := 62) dX9_strike_62 (tgt := 14) (by decide) ?_
      exact hag14 (l2 + 1) (l3 + 1) _ H
set_option maxRecDepth 100000 in
theorem sd_X9_strike (d : Nat) {l1 : Int32} {h : zz_Hp} {Q : Int32 → zz_Hp → Prop} (H : w_X9_strike l1 h Q) : zz_G zKR zNR (d + 2) mX9_strike (qI Q) 0 (zz_L0 4 [.ref 0, .int l1]) [] h := by
  show zz_G zKR zNR (d + 2) mX9_strike (qI Q) 0 [some (.ref 0), some (.int l1), none, none] [] h
  unfold w_X9_strike at H
  refine zg_aload_n (pc := 0) dX9_strike_0 rfl rfl ?_
  refine zg_iload_n (pc := 1) dX9_strike_1 rfl rfl ?_
  refine zg_callVi (st := []) (pc := 2) dX9_strike_2 (As := [.int l1]) lk_X9_147 kR_0 (by decide) rfl (Nat.le_of_ble_eq_true rfl) (Nat.le_of_ble_eq_true rfl) (sd_X9_isYarn d H) (fun r2 h1 H => ?_)
  refine zg_if_ne (pc := 5) dX9_strike_5 (tgt := 10) (by decide) (fun hc => ?_) (fun hc => ?_)
  · replace H := H.1 hc
    refine zg_iconst (pc := 10) dX9_strike_10 (v := 0) (by decide) ?_
    refine zg_istore_n (pc := 11) dX9_strike_11 rfl (by decide) (L' := [some (.ref 0), some (.int l1), some (.int 0), none]) rfl ?_
    refine zg_iconst (pc := 12) dX9_strike_12 (v := 0) (by decide) ?_
    refine zg_istore_n (pc := 13) dX9_strike_13 rfl (by decide) (L' := [some (.ref 0), some (.int l1), some (.int 0), some (.int 0)]) rfl ?_
    exact sd_X9_strike_l14  H
  · replace H := H.2 hc
    refine zg_iconst (pc := 8) dX9_strike_8 (v := (-1)) (by decide) ?_
    exact zg_iret (pc := 9) dX9_strike_9 rfl ⟨_, rfl, H⟩
set_option maxRecDepth 100000 in
theorem sd_X9_about_l2 {d : Nat} {Q : Int32 → zz_Hp → Prop}  {l1 : Int32} {h : zz_Hp}  (H : lp (fun s ag => w_X9_about_l2 ag Q  s.1 s.2) (l1, h)) : zz_G zKR zNR (d + 0) mX9_about (qI Q) 2 [some (.ref 0), some (.int l1), none, none] [] h := by
  refine lp_sound (G := fun (s : Int32 × zz_Hp) => zz_G zKR zNR (d + 0) mX9_about (qI Q) 2 [some (.ref 0), some (.int s.1), none, none] [] s.2) ?_ H
  clear H
  intro s ag2 hag2 H
  obtain ⟨l1, h⟩ := s
  replace hag2 : ∀ (l1 : Int32) (h : zz_Hp), ag2 (l1, h) → zz_G zKR zNR (d + 0) mX9_about (qI Q) 2 [some (.ref 0), some (.int l1), none, none] [] h := fun l1 h H => hag2 (l1, h) H
  replace H : w_X9_about_l2 ag2 Q  l1 h := H
  show zz_G zKR zNR (d + 0) mX9_about (qI Q) 2 [some (.ref 0), some (.int l1), none, none] [] h
  unfold w_X9_about_l2 at H
  refine zg_iload_n (pc := 2) dX9_about_2 rfl rfl ?_
  refine zg_aload_n (pc := 3) dX9_about_3 rfl rfl ?_
  refine zg_getI (pc := 4) dX9_about_4 lf_X9_203 kR_0 (by decide) rfl ?_
  refine zg_iconst (pc := 7) dX9_about_7 (v := 2) (by decide) ?_
  refine zg_idiv (pc := 8) dX9_about_8 (by decide) ?_
  refine zg_icmp_ge (pc := 9) dX9_about_9 (tgt := 98) (by decide) (fun hc => ?_) (fun hc => ?_)
  · replace H := H.1 hc
    refine zg_aload_n (pc := 98) dX9_about_98 rfl rfl ?_
    refine zg_getI (pc := 99) dX9_about_99 lf_X9_203 kR_0 (by decide) rfl ?_
    exact zg_iret (pc := 102) dX9_about_102 rfl ⟨_, rfl, H⟩
  · replace H := H.2 hc
    refine zg_aload_n (pc := 12) dX9_about_12 rfl rfl ?_
    refine zg_getR (pc := 13) dX9_about_13 lf_X9_42 kR_0 (by decide) rfl ?_
    refine zg_iload_n (pc := 16) dX9_about_16 rfl rfl ?_
    obtain ⟨hb, H⟩ := H
    refine zg_iald (pc := 17) dX9_about_17 kR_11 (by decide) hb ?_
    refine zg_istore_n (pc := 18) dX9_about_18 rfl (by decide) (L' := [some (.ref 0), some (.int l1), some (.int (h.1 11 (Int32.toNatClampNeg l1))), none]) rfl ?_
    refine zg_aload_n (pc := 19) dX9_about_19 rfl rfl ?_
    refine zg_getR (pc := 20) dX9_about_20 lf_X9_45 kR_0 (by decide) rfl ?_
    refine zg_iload_n (pc := 23) dX9_about_23 rfl rfl ?_
    obtain ⟨hb, H⟩ := H
    refine zg_iald (pc := 24) dX9_about_24 kR_12 (by decide) hb ?_
    refine zg_istore_n (pc := 25) dX9_about_25 rfl (by decide) (L' := [some (.ref 0), some (.int l1), some (.int (h.1 11 (Int32.toNatClampNeg l1))), some (.int (h.1 12 (Int32.toNatClampNeg l1)))]) rfl ?_
    refine zg_aload_n (pc := 26) dX9_about_26 rfl rfl ?_
    refine zg_getR (pc := 27) dX9_about_27 lf_X9_42 kR_0 (by decide) rfl ?_
    refine zg_iload_n (pc := 30) dX9_about_30 rfl rfl ?_
    refine zg_aload_n (pc := 31) dX9_about_31 rfl rfl ?_
    refine zg_getR (pc := 32) dX9_about_32 lf_X9_42 kR_0 (by decide) rfl ?_
    refine zg_aload_n (pc := 35) dX9_about_35 rfl rfl ?_
    refine zg_getI (pc := 36) dX9_about_36 lf_X9_203 kR_0 (by decide) rfl ?_
    refine zg_iconst (pc := 39) dX9_about_39 (v := 1) (by decide) ?_
    refine zg_isub (pc := 40) dX9_about_40 ?_
    refine zg_iload_n (pc := 41) dX9_about_41 rfl rfl ?_
    refine zg_isub (pc := 42) dX9_about_42 ?_
    obtain ⟨hb, H⟩ := H
    refine zg_iald (pc := 43) dX9_about_43 kR_11 (by decide) hb ?_
    obtain ⟨hb, H⟩ := H
    refine zg_iast (pc := 44) dX9_about_44 kR_11 (by decide) hb ?_
    generalize eh1 : zz_uI h 11 (Int32.toNatClampNeg l1) (h.1 11 (Int32.toNatClampNeg (((h.1 0 13) - 1) - l1))) = h1
    replace H := H h1 eh1.symm
    refine zg_aload_n (pc := 45) dX9_about_45 rfl rfl ?_
    refine zg_getR (pc := 46) dX9_about_46 lf_X9_45 kR_0 (by decide) rfl ?_
    refine zg_iload_n (pc := 49) dX9_about_49 rfl rfl ?_
    refine zg_aload_n (pc := 50) dX9_about_50 rfl rfl ?_
    refine zg_getR (pc := 51) dX9_about_51 lf_X9_45 kR_0 (by decide) rfl ?_
    refine zg_aload_n (pc := 54) dX9_about_54 rfl rfl ?_
    refine zg_getI (pc := 55) dX9_about_55 lf_X9_203 kR_0 (by decide) rfl ?_
    refine zg_iconst (pc := 58) dX9_about_58 (v := 1) (by decide) ?_
    refine zg_isub (pc := 59) dX9_about_59 ?_
    refine zg_iload_n (pc := 60) dX9_about_60 rfl rfl ?_
    refine zg_isub (pc := 61) dX9_about_61 ?_
    obtain ⟨hb, H⟩ := H
    refine zg_iald (pc := 62) dX9_about_62 kR_12 (by decide) hb ?_
    obtain ⟨hb, H⟩ := H
    refine zg_iast (pc := 63) dX9_about_63 kR_12 (by decide) hb ?_
    generalize eh2 : zz_uI h1 12 (Int32.toNatClampNeg l1) (h1.1 12 (Int32.toNatClampNeg (((h1.1 0 13) - 1) - l1))) = h2
    replace H := H h2 eh2.symm
    refine zg_aload_n (pc := 64) dX9_about_64 rfl rfl ?_
    refine zg_getR (pc := 65) dX9_about_65 lf_X9_42 kR_0 (by decide) rfl ?_
    refine zg_aload_n (pc := 68) dX9_about_68 rfl rfl ?_
    refine zg_getI (pc := 69) dX9_about_69 lf_X9_203 kR_0 (by decide) rfl ?_
    refine zg_iconst (pc := 72) dX9_about_72 (v := 1) (by decide) ?_
    refine zg_isub (pc := 73) dX9_about_73 ?_
    refine zg_iload_n (pc := 74) dX9_about_74 rfl rfl ?_
    refine zg_isub (pc := 75) dX9_about_75 ?_
    refine zg_iload_n (pc := 76) dX9_about_76 rfl rfl ?_
    obtain ⟨hb, H⟩ := H
    refine zg_iast (pc := 77) dX9_about_77 kR_11 (by decide) hb ?_
    generalize eh3 : zz_uI h2 11 (Int32.toNatClampNeg (((h2.1 0 13) - 1) - l1)) (h.1 11 (Int32.toNatClampNeg l1)) = h3
    replace H := H h3 eh3.symm
    refine zg_aload_n (pc := 78) dX9_about_78 rfl rfl ?_
    refine zg_getR (pc := 79) dX9_about_79 lf_X9_45 kR_0 (by decide) rfl ?_
    refine zg_aload_n (pc := 82) dX9_about_82 rfl rfl ?_
    refine zg_getI (pc := 83) dX9_about_83 lf_X9_203 kR_0 (by decide) rfl ?_
    refine zg_iconst (pc := 86) dX9_about_86 (v := 1) (by decide) ?_
    refine zg_isub (pc := 87) dX9_about_87 ?_
    refine zg_iload_n (pc := 88) dX9_about_88 rfl rfl ?_
    refine zg_isub (pc := 89) dX9_about_89 ?_
    refine zg_iload_n (pc := 90) dX9_about_90 rfl rfl ?_
    obtain ⟨hb, H⟩ := H
    refine zg_iast (pc := 91) dX9_about_91 kR_12 (by decide) hb ?_
    generalize eh4 : zz_uI h3 12 (Int32.toNatClampNeg (((h3.1 0 13) - 1) - l1)) (h.1 12 (Int32.toNatClampNeg l1)) = h4
    replace H := H h4 eh4.symm
    refine zg_iinc (pc := 92) dX9_about_92 rfl (v := l1 + 1) rfl (by decide) (L' := [some (.ref 0), some (.int (l1 + 1)), some (.int (h.1 11 (Int32.toNatClampNeg l1))), some (.int (h.1 12 (Int32.toNatClampNeg l1)))]) rfl ?_
    refine zg_goto (pc := 95) dX9_about_95 (tgt := 2) (by decide) ?_
    refine zg_weak (L' := [some (.ref 0), some (.int (l1 + 1)), none, none]) ⟨rfl, ⟨rfl, trivial⟩⟩ ?_
    exact hag2 (l1 + 1) _ H
set_option maxRecDepth 100000 in
theorem sd_X9_about (d : Nat)  {h : zz_Hp} {Q : Int32 → zz_Hp → Prop} (H : w_X9_about  h Q) : zz_G zKR zNR (d + 0) mX9_about (qI Q) 0 (zz_L0 4 [.ref 0]) [] h := by
  show zz_G zKR zNR (d + 0) mX9_about (qI Q) 0 [some (.ref 0), none, none, none] [] h
  unfold w_X9_about at H
  refine zg_iconst (pc := 0) dX9_about_0 (v := 0) (by decide) ?_
  refine zg_istore_n (pc := 1) dX9_about_1 rfl (by decide) (L' := [some (.ref 0), some (.int 0), none, none]) rfl ?_
  exact sd_X9_about_l2  H
set_option maxRecDepth 100000 in
theorem sd_X9_jobOf (d : Nat) {l1 : Int32} {l2 : Int32} {h : zz_Hp} {Q : Int32 → zz_Hp → Prop} (H : w_X9_jobOf l1 l2 h Q) : zz_G zKR zNR (d + 1) mX9_jobOf (qI Q) 0 (zz_L0 3 [.ref 0, .int l1, .int l2]) [] h := by
  show zz_G zKR zNR (d + 1) mX9_jobOf (qI Q) 0 [some (.ref 0), some (.int l1), some (.int l2)] [] h
  unfold w_X9_jobOf at H
  refine zg_iload_n (pc := 0) dX9_jobOf_0 rfl rfl ?_
  refine zg_iconst (pc := 1) dX9_jobOf_1 (v := 0) (by decide) ?_
  refine zg_iconst (pc := 2) dX9_jobOf_2 (v := 1) (by decide) ?_
  refine zg_callSi (st := []) (pc := 3) dX9_jobOf_3 (As := [.int l2, .int 0, .int 1]) lk_X9_143 rfl (Nat.le_of_ble_eq_true rfl) (Nat.le_of_ble_eq_true rfl) (sd_X9_in d H) (fun r2 h1 H => ?_)
  refine zg_if_ne (pc := 6) dX9_jobOf_6 (tgt := 11) (by decide) (fun hc => ?_) (fun hc => ?_)
  · replace H := H.1 hc
    refine zg_iload_n (pc := 11) dX9_jobOf_11 rfl rfl ?_
    refine zg_iconst (pc := 12) dX9_jobOf_12 (v := 0) (by decide) ?_
    refine zg_aload_n (pc := 13) dX9_jobOf_13 rfl rfl ?_
    refine zg_getI (pc := 14) dX9_jobOf_14 lf_X9_203 kR_0 (by decide) rfl ?_
    refine zg_iconst (pc := 17) dX9_jobOf_17 (v := 1) (by decide) ?_
    refine zg_isub (pc := 18) dX9_jobOf_18 ?_
    refine zg_callSi (st := []) (pc := 19) dX9_jobOf_19 (As := [.int l1, .int 0, .int ((h1.1 0 13) - 1)]) lk_X9_143 rfl (Nat.le_of_ble_eq_true rfl) (Nat.le_of_ble_eq_true rfl) (sd_X9_in d H) (fun r4 h3 H => ?_)
    refine zg_if_ne (pc := 22) dX9_jobOf_22 (tgt := 30) (by decide) (fun hc => ?_) (fun hc => ?_)
    · replace H := H.1 hc
      refine zg_iload_n (pc := 30) dX9_jobOf_30 rfl rfl ?_
      refine zg_if_ne (pc := 31) dX9_jobOf_31 (tgt := 43) (by decide) (fun hc => ?_) (fun hc => ?_)
      · replace H := H.1 hc
        refine zg_aload_n (pc := 43) dX9_jobOf_43 rfl rfl ?_
        refine zg_getR (pc := 44) dX9_jobOf_44 lf_X9_45 kR_0 (by decide) rfl ?_
        refine zg_iload_n (pc := 47) dX9_jobOf_47 rfl rfl ?_
        obtain ⟨hb, H⟩ := H
        refine zg_iald (pc := 48) dX9_jobOf_48 kR_12 (by decide) hb ?_
        exact zg_iret (pc := 49) dX9_jobOf_49 rfl ⟨_, rfl, H⟩
      · replace H := H.2 hc
        refine zg_aload_n (pc := 34) dX9_jobOf_34 rfl rfl ?_
        refine zg_getR (pc := 35) dX9_jobOf_35 lf_X9_42 kR_0 (by decide) rfl ?_
        refine zg_iload_n (pc := 38) dX9_jobOf_38 rfl rfl ?_
        obtain ⟨hb, H⟩ := H
        refine zg_iald (pc := 39) dX9_jobOf_39 kR_11 (by decide) hb ?_
        refine zg_goto (pc := 40) dX9_jobOf_40 (tgt := 49) (by decide) ?_
        exact zg_iret (pc := 49) dX9_jobOf_49 rfl ⟨_, rfl, H⟩
    · replace H := H.2 hc
      refine zg_bipush (pc := 25) dX9_jobOf_25 (v := (-2)) (by decide) ?_
      refine zg_goto (pc := 27) dX9_jobOf_27 (tgt := 49) (by decide) ?_
      exact zg_iret (pc := 49) dX9_jobOf_49 rfl ⟨_, rfl, H⟩
  · replace H := H.2 hc
    refine zg_iconst (pc := 9) dX9_jobOf_9 (v := (-1)) (by decide) ?_
    exact zg_iret (pc := 10) dX9_jobOf_10 rfl ⟨_, rfl, H⟩
set_option maxRecDepth 100000 in
theorem sd_X9_back (d : Nat)  {h : zz_Hp} {Q : Int32 → zz_Hp → Prop} (H : w_X9_back  h Q) : zz_G zKR zNR (d + 1) mX9_back (qI Q) 0 (zz_L0 1 [.ref 0]) [] h := by
  show zz_G zKR zNR (d + 1) mX9_back (qI Q) 0 [some (.ref 0)] [] h
  unfold w_X9_back at H
  refine zg_aload_n (pc := 0) dX9_back_0 rfl rfl ?_
  refine zg_getI (pc := 1) dX9_back_1 lf_X9_206 kR_0 (by decide) rfl ?_
  refine zg_if_ne (pc := 4) dX9_back_4 (tgt := 10) (by decide) (fun hc => ?_) (fun hc => ?_)
  · replace H := H.1 hc
    refine zg_aload_n (pc := 10) dX9_back_10 rfl rfl ?_
    refine zg_dup (pc := 11) dX9_back_11 rfl ?_
    refine zg_getI (pc := 12) dX9_back_12 lf_X9_206 kR_0 (by decide) rfl ?_
    refine zg_iconst (pc := 15) dX9_back_15 (v := 1) (by decide) ?_
    refine zg_isub (pc := 16) dX9_back_16 ?_
    refine zg_putI (pc := 17) dX9_back_17 lp_X9_206 kR_0 (by decide) rfl ?_
    generalize eh1 : zz_uI h 0 16 ((h.1 0 16) - 1) = h1
    replace H := H h1 eh1.symm
    refine zg_aload_n (pc := 20) dX9_back_20 rfl rfl ?_
    refine zg_aload_n (pc := 21) dX9_back_21 rfl rfl ?_
    refine zg_getR (pc := 22) dX9_back_22 lf_X9_51 kR_0 (by decide) rfl ?_
    refine zg_aload_n (pc := 25) dX9_back_25 rfl rfl ?_
    refine zg_getI (pc := 26) dX9_back_26 lf_X9_206 kR_0 (by decide) rfl ?_
    obtain ⟨hb, H⟩ := H
    refine zg_iald (pc := 29) dX9_back_29 kR_14 (by decide) hb ?_
    refine zg_aload_n (pc := 30) dX9_back_30 rfl rfl ?_
    refine zg_getR (pc := 31) dX9_back_31 lf_X9_48 kR_0 (by decide) rfl ?_
    refine zg_aload_n (pc := 34) dX9_back_34 rfl rfl ?_
    refine zg_getI (pc := 35) dX9_back_35 lf_X9_206 kR_0 (by decide) rfl ?_
    obtain ⟨hb, H⟩ := H
    refine zg_iald (pc := 38) dX9_back_38 kR_13 (by decide) hb ?_
    refine zg_aload_n (pc := 39) dX9_back_39 rfl rfl ?_
    refine zg_getR (pc := 40) dX9_back_40 lf_X9_54 kR_0 (by decide) rfl ?_
    refine zg_aload_n (pc := 43) dX9_back_43 rfl rfl ?_
    refine zg_getI (pc := 44) dX9_back_44 lf_X9_206 kR_0 (by decide) rfl ?_
    obtain ⟨hb, H⟩ := H
    refine zg_iald (pc := 47) dX9_back_47 kR_15 (by decide) hb ?_
    refine zg_callVv (st := []) (pc := 48) dX9_back_48 (As := [.int (h1.1 14 (Int32.toNatClampNeg (h1.1 0 16))), .int (h1.1 13 (Int32.toNatClampNeg (h1.1 0 16))), .int (h1.1 15 (Int32.toNatClampNeg (h1.1 0 16)))]) lk_X9_213 kR_0 (by decide) rfl (Nat.le_of_ble_eq_true rfl) (Nat.le_of_ble_eq_true rfl) (sd_X9_become d H) (fun h2 H => ?_)
    refine zg_aload_n (pc := 51) dX9_back_51 rfl rfl ?_
    refine zg_getI (pc := 52) dX9_back_52 lf_X9_206 kR_0 (by decide) rfl ?_
    exact zg_iret (pc := 55) dX9_back_55 rfl ⟨_, rfl, H⟩
  · replace H := H.2 hc
    refine zg_bipush (pc := 7) dX9_back_7 (v := (-5)) (by decide) ?_
    exact zg_iret (pc := 9) dX9_back_9 rfl ⟨_, rfl, H⟩
set_option maxRecDepth 100000 in
theorem sd_X9_feed (d : Nat) {l1 : Int32} {h : zz_Hp} {Q : Int32 → zz_Hp → Prop} (H : w_X9_feed l1 h Q) : zz_G zKR zNR (d + 1) mX9_feed (qI Q) 0 (zz_L0 2 [.ref 0, .int l1]) [] h := by
  show zz_G zKR zNR (d + 1) mX9_feed (qI Q) 0 [some (.ref 0), some (.int l1)] [] h
  unfold w_X9_feed at H
  refine zg_iload_n (pc := 0) dX9_feed_0 rfl rfl ?_
  refine zg_bipush (pc := 1) dX9_feed_1 (v := 32) (by decide) ?_
  refine zg_bipush (pc := 3) dX9_feed_3 (v := 126) (by decide) ?_
  refine zg_callSi (st := []) (pc := 5) dX9_feed_5 (As := [.int l1, .int 32, .int 126]) lk_X9_143 rfl (Nat.le_of_ble_eq_true rfl) (Nat.le_of_ble_eq_true rfl) (sd_X9_in d H) (fun r2 h1 H => ?_)
  refine zg_if_ne (pc := 8) dX9_feed_8 (tgt := 13) (by decide) (fun hc => ?_) (fun hc => ?_)
  · replace H := H.1 hc
    refine zg_aload_n (pc := 13) dX9_feed_13 rfl rfl ?_
    refine zg_getI (pc := 14) dX9_feed_14 lf_X9_262 kR_0 (by decide) rfl ?_
    refine zg_bipush (pc := 17) dX9_feed_17 (v := 80) (by decide) ?_
    refine zg_icmp_ne (pc := 19) dX9_feed_19 (tgt := 25) (by decide) (fun hc => ?_) (fun hc => ?_)
    · replace H := H.1 hc
      refine zg_aload_n (pc := 25) dX9_feed_25 rfl rfl ?_
      refine zg_getR (pc := 26) dX9_feed_26 lf_X9_57 kR_0 (by decide) rfl ?_
      refine zg_aload_n (pc := 29) dX9_feed_29 rfl rfl ?_
      refine zg_getI (pc := 30) dX9_feed_30 lf_X9_262 kR_0 (by decide) rfl ?_
      refine zg_iload_n (pc := 33) dX9_feed_33 rfl rfl ?_
      obtain ⟨hb, H⟩ := H
      refine zg_iast (pc := 34) dX9_feed_34 kR_16 (by decide) hb ?_
      generalize eh3 : zz_uI h1 16 (Int32.toNatClampNeg (h1.1 0 20)) l1 = h3
      replace H := H h3 eh3.symm
      refine zg_aload_n (pc := 35) dX9_feed_35 rfl rfl ?_
      refine zg_dup (pc := 36) dX9_feed_36 rfl ?_
      refine zg_getI (pc := 37) dX9_feed_37 lf_X9_262 kR_0 (by decide) rfl ?_
      refine zg_iconst (pc := 40) dX9_feed_40 (v := 1) (by decide) ?_
      refine zg_iadd (pc := 41) dX9_feed_41 ?_
      refine zg_putI (pc := 42) dX9_feed_42 lp_X9_262 kR_0 (by decide) rfl ?_
      generalize eh4 : zz_uI h3 0 20 ((h3.1 0 20) + 1) = h4
      replace H := H h4 eh4.symm
      refine zg_aload_n (pc := 45) dX9_feed_45 rfl rfl ?_
      refine zg_getI (pc := 46) dX9_feed_46 lf_X9_262 kR_0 (by decide) rfl ?_
      exact zg_iret (pc := 49) dX9_feed_49 rfl ⟨_, rfl, H⟩
    · replace H := H.2 hc
      refine zg_bipush (pc := 22) dX9_feed_22 (v := (-3)) (by decide) ?_
      exact zg_iret (pc := 24) dX9_feed_24 rfl ⟨_, rfl, H⟩
  · replace H := H.2 hc
    refine zg_iconst (pc := 11) dX9_feed_11 (v := (-1)) (by decide) ?_
    exact zg_iret (pc := 12) dX9_feed_12 rfl ⟨_, rfl, H⟩
set_option maxRecDepth 100000 in
theorem sd_X9_wipe (d : Nat)  {h : zz_Hp} {Q : Int32 → zz_Hp → Prop} (H : w_X9_wipe  h Q) : zz_G zKR zNR (d + 0) mX9_wipe (qI Q) 0 (zz_L0 2 [.ref 0]) [] h := by
  show zz_G zKR zNR (d + 0) mX9_wipe (qI Q) 0 [some (.ref 0), none] [] h
  unfold w_X9_wipe at H
  refine zg_aload_n (pc := 0) dX9_wipe_0 rfl rfl ?_
  refine zg_getI (pc := 1) dX9_wipe_1 lf_X9_262 kR_0 (by decide) rfl ?_
  refine zg_istore_n (pc := 4) dX9_wipe_4 rfl (by decide) (L' := [some (.ref 0), some (.int (h.1 0 20))]) rfl ?_
  refine zg_aload_n (pc := 5) dX9_wipe_5 rfl rfl ?_
  refine zg_iconst (pc := 6) dX9_wipe_6 (v := 0) (by decide) ?_
  refine zg_putI (pc := 7) dX9_wipe_7 lp_X9_262 kR_0 (by decide) rfl ?_
  generalize eh1 : zz_uI h 0 20 0 = h1
  replace H := H h1 eh1.symm
  refine zg_iload_n (pc := 10) dX9_wipe_10 rfl rfl ?_
  exact zg_iret (pc := 11) dX9_wipe_11 rfl ⟨_, rfl, H⟩
set_option maxRecDepth 100000 in
theorem sd_X9_isDone_l272 {d : Nat} {Q : Int32 → zz_Hp → Prop} {l1 : Int32} {l2 : Int32} {l5 : Int32} {l6 : Int32} {h : zz_Hp}  (H : lp (fun s ag => w_X9_isDone_l272 ag Q l1 l2 l5 s.1 s.2) (l6, h)) : zz_G zKR zNR (d + 11) mX9_isDone (qI Q) 272 [some (.ref 0), some (.int l1), some (.int l2), none, none, some (.int l5), some (.int l6)] [] h := by
  refine lp_sound (G := fun (s : Int32 × zz_Hp) => zz_G zKR zNR (d + 11) mX9_isDone (qI Q) 272 [some (.ref 0), some (.int l1), some (.int l2), none, none, some (.int l5), some (.int s.1)] [] s.2) ?_ H
  clear H
  intro s ag272 hag272 H
  obtain ⟨l6, h⟩ := s
  replace hag272 : ∀ (l6 : Int32) (h : zz_Hp), ag272 (l6, h) → zz_G zKR zNR (d + 11) mX9_isDone (qI Q) 272 [some (.ref 0), some (.int l1), some (.int l2), none, none, some (.int l5), some (.int l6)] [] h := fun l6 h H => hag272 (l6, h) H
  replace H : w_X9_isDone_l272 ag272 Q l1 l2 l5 l6 h := H
  show zz_G zKR zNR (d + 11) mX9_isDone (qI Q) 272 [some (.ref 0), some (.int l1), some (.int l2), none, none, some (.int l5), some (.int l6)] [] h
  unfold w_X9_isDone_l272 at H
  refine zg_iload (pc := 272) dX9_isDone_272 rfl ?_
  refine zg_aload_n (pc := 274) dX9_isDone_274 rfl rfl ?_
  refine zg_getR (pc := 275) dX9_isDone_275 lf_X9_133 kR_0 (by decide) rfl ?_
  refine zg_iload_n (pc := 278) dX9_isDone_278 rfl rfl ?_
  obtain ⟨hb, H⟩ := H
  refine zg_iald (pc := 279) dX9_isDone_279 kR_41 (by decide) hb ?_
  refine zg_icmp_ge (pc := 280) dX9_isDone_280 (tgt := 312) (by decide) (fun hc => ?_) (fun hc => ?_)
  · replace H := H.1 hc
    refine zg_aload_n (pc := 312) dX9_isDone_312 rfl rfl ?_
    refine zg_aload_n (pc := 313) dX9_isDone_313 rfl rfl ?_
    refine zg_getR (pc := 314) dX9_isDone_314 lf_X9_133 kR_0 (by decide) rfl ?_
    refine zg_iload_n (pc := 317) dX9_isDone_317 rfl rfl ?_
    obtain ⟨hb, H⟩ := H
    refine zg_iald (pc := 318) dX9_isDone_318 kR_41 (by decide) hb ?_
    refine zg_aload_n (pc := 319) dX9_isDone_319 rfl rfl ?_
    refine zg_getR (pc := 320) dX9_isDone_320 lf_X9_136 kR_0 (by decide) rfl ?_
    refine zg_iload_n (pc := 323) dX9_isDone_323 rfl rfl ?_
    refine zg_iconst (pc := 324) dX9_isDone_324 (v := 4) (by decide) ?_
    refine zg_iadd (pc := 325) dX9_isDone_325 ?_
    obtain ⟨hb, H⟩ := H
    refine zg_iald (pc := 326) dX9_isDone_326 kR_42 (by decide) hb ?_
    refine zg_callVi (st := []) (pc := 327) dX9_isDone_327 (As := [.int (h.1 41 (Int32.toNatClampNeg l1)), .int (h.1 42 (Int32.toNatClampNeg (l2 + 4)))]) lk_X9_197 kR_0 (by decide) rfl (Nat.le_of_ble_eq_true rfl) (Nat.le_of_ble_eq_true rfl) (sd_X9_plied (d + 10) H) (fun r4 h3 H => ?_)
    refine zg_pop (pc := 330) dX9_isDone_330 rfl ?_
    refine zg_iload (pc := 331) dX9_isDone_331 rfl ?_
    exact zg_zret (pc := 333) dX9_isDone_333 H.1 rfl ⟨_, rfl, H.2⟩
  · replace H := H.2 hc
    refine zg_aload_n (pc := 283) dX9_isDone_283 rfl rfl ?_
    refine zg_getR (pc := 284) dX9_isDone_284 lf_X9_15 kR_0 (by decide) rfl ?_
    refine zg_iconst (pc := 287) dX9_isDone_287 (v := 4) (by decide) ?_
    refine zg_aload_n (pc := 288) dX9_isDone_288 rfl rfl ?_
    refine zg_getI (pc := 289) dX9_isDone_289 lf_X9_139 kR_0 (by decide) rfl ?_
    refine zg_imul (pc := 292) dX9_isDone_292 ?_
    refine zg_iload (pc := 293) dX9_isDone_293 rfl ?_
    refine zg_iadd (pc := 295) dX9_isDone_295 ?_
    refine zg_aload_n (pc := 296) dX9_isDone_296 rfl rfl ?_
    refine zg_getR (pc := 297) dX9_isDone_297 lf_X9_136 kR_0 (by decide) rfl ?_
    refine zg_iload_n (pc := 300) dX9_isDone_300 rfl rfl ?_
    refine zg_iload (pc := 301) dX9_isDone_301 rfl ?_
    refine zg_iadd (pc := 303) dX9_isDone_303 ?_
    obtain ⟨hb, H⟩ := H
    refine zg_iald (pc := 304) dX9_isDone_304 kR_42 (by decide) hb ?_
    obtain ⟨hb, H⟩ := H
    refine zg_iast (pc := 305) dX9_isDone_305 kR_2 (by decide) hb ?_
    generalize eh5 : zz_uI h 2 (Int32.toNatClampNeg ((4 * (h.1 0 0)) + l6)) (h.1 42 (Int32.toNatClampNeg (l2 + l6))) = h5
    replace H := H h5 eh5.symm
    refine zg_iinc (pc := 306) dX9_isDone_306 rfl (v := l6 + 1) rfl (by decide) (L' := [some (.ref 0), some (.int l1), some (.int l2), none, none, some (.int l5), some (.int (l6 + 1))]) rfl ?_
    refine zg_goto (pc := 309) dX9_isDone_309 (tgt := 272) (by decide) ?_
    exact hag272 (l6 + 1) _ H
set_option maxRecDepth 100000 in
theorem sd_X9_isDone_l202 {d : Nat} {Q : Int32 → zz_Hp → Prop} {l1 : Int32} {l2 : Int32} {l5 : Int32} {l6 : Int32} {h : zz_Hp}  (H : lp (fun s ag => w_X9_isDone_l202 ag Q l1 l2 s.1 s.2.1 s.2.2) (l5, l6, h)) : zz_G zKR zNR (d + 11) mX9_isDone (qI Q) 202 [some (.ref 0), some (.int l1), some (.int l2), none, none, some (.int l5), some (.int l6)] [] h := by
  refine lp_sound (G := fun (s : Int32 × Int32 × zz_Hp) => zz_G zKR zNR (d + 11) mX9_isDone (qI Q) 202 [some (.ref 0), some (.int l1), some (.int l2), none, none, some (.int s.1), some (.int s.2.1)] [] s.2.2) ?_ H
  clear H
  intro s ag202 hag202 H
  obtain ⟨l5, l6, h⟩ := s
  replace hag202 : ∀ (l5 : Int32) (l6 : Int32) (h : zz_Hp), ag202 (l5, l6, h) → zz_G zKR zNR (d + 11) mX9_isDone (qI Q) 202 [some (.ref 0), some (.int l1), some (.int l2), none, none, some (.int l5), some (.int l6)] [] h := fun l5 l6 h H => hag202 (l5, l6, h) H
  replace H : w_X9_isDone_l202 ag202 Q l1 l2 l5 l6 h := H
  show zz_G zKR zNR (d + 11) mX9_isDone (qI Q) 202 [some (.ref 0), some (.int l1), some (.int l2), none, none, some (.int l5), some (.int l6)] [] h
  unfold w_X9_isDone_l202 at H
  refine zg_iload (pc := 202) dX9_isDone_202 rfl ?_
  refine zg_aload_n (pc := 204) dX9_isDone_204 rfl rfl ?_
  refine zg_getR (pc := 205) dX9_isDone_205 lf_X9_133 kR_0 (by decide) rfl ?_
  refine zg_iload_n (pc := 208) dX9_isDone_208 rfl rfl ?_
  obtain ⟨hb, H⟩ := H
  refine zg_iald (pc := 209) dX9_isDone_209 kR_41 (by decide) hb ?_
  refine zg_icmp_ge (pc := 210) dX9_isDone_210 (tgt := 264) (by decide) (fun hc => ?_) (fun hc => ?_)
  · replace H := H.1 hc
    refine zg_iload (pc := 264) dX9_isDone_264 rfl ?_
    refine zg_if_eq (pc := 266) dX9_isDone_266 (tgt := 331) (by decide) (fun hc => ?_) (fun hc => ?_)
    · replace H := H.1 hc
      refine zg_iload (pc := 331) dX9_isDone_331 rfl ?_
      exact zg_zret (pc := 333) dX9_isDone_333 H.1 rfl ⟨_, rfl, H.2⟩
    · replace H := H.2 hc
      refine zg_iconst (pc := 269) dX9_isDone_269 (v := 0) (by decide) ?_
      refine zg_istore (pc := 270) dX9_isDone_270 (by decide) (L' := [some (.ref 0), some (.int l1), some (.int l2), none, none, some (.int l5), some (.int 0)]) rfl ?_
      exact sd_X9_isDone_l272  H
  · replace H := H.2 hc
    refine zg_iload (pc := 213) dX9_isDone_213 rfl ?_
    refine zg_if_eq (pc := 215) dX9_isDone_215 (tgt := 255) (by decide) (fun hc => ?_) (fun hc => ?_)
    · replace H := H.1 hc
      refine zg_iconst (pc := 255) dX9_isDone_255 (v := 0) (by decide) ?_
      refine zg_istore (pc := 256) dX9_isDone_256 (by decide) (L' := [some (.ref 0), some (.int l1), some (.int l2), none, none, some (.int 0), some (.int l6)]) rfl ?_
      refine zg_iinc (pc := 258) dX9_isDone_258 rfl (v := l6 + 1) rfl (by decide) (L' := [some (.ref 0), some (.int l1), some (.int l2), none, none, some (.int 0), some (.int (l6 + 1))]) rfl ?_
      refine zg_goto (pc := 261) dX9_isDone_261 (tgt := 202) (by decide) ?_
      exact hag202 0 (l6 + 1) _ H
    · replace H := H.2 hc
      refine zg_aload_n (pc := 218) dX9_isDone_218 rfl rfl ?_
      refine zg_aload_n (pc := 219) dX9_isDone_219 rfl rfl ?_
      refine zg_getR (pc := 220) dX9_isDone_220 lf_X9_136 kR_0 (by decide) rfl ?_
      refine zg_iload_n (pc := 223) dX9_isDone_223 rfl rfl ?_
      refine zg_iload (pc := 224) dX9_isDone_224 rfl ?_
      refine zg_iadd (pc := 226) dX9_isDone_226 ?_
      obtain ⟨hb, H⟩ := H
      refine zg_iald (pc := 227) dX9_isDone_227 kR_42 (by decide) hb ?_
      refine zg_callVi (st := []) (pc := 228) dX9_isDone_228 (As := [.int (h.1 42 (Int32.toNatClampNeg (l2 + l6)))]) lk_X9_147 kR_0 (by decide) rfl (Nat.le_of_ble_eq_true rfl) (Nat.le_of_ble_eq_true rfl) (sd_X9_isYarn (d + 9) H) (fun r7 h6 H => ?_)
      refine zg_if_eq (pc := 231) dX9_isDone_231 (tgt := 255) (by decide) (fun hc => ?_) (fun hc => ?_)
      · replace H := H.1 hc
        refine zg_iconst (pc := 255) dX9_isDone_255 (v := 0) (by decide) ?_
        refine zg_istore (pc := 256) dX9_isDone_256 (by decide) (L' := [some (.ref 0), some (.int l1), some (.int l2), none, none, some (.int 0), some (.int l6)]) rfl ?_
        refine zg_iinc (pc := 258) dX9_isDone_258 rfl (v := l6 + 1) rfl (by decide) (L' := [some (.ref 0), some (.int l1), some (.int l2), none, none, some (.int 0), some (.int (l6 + 1))]) rfl ?_
        refine zg_goto (pc := 261) dX9_isDone_261 (tgt := 202) (by decide) ?_
        exact hag202 0 (l6 + 1) _ H
      · replace H := H.2 hc
        refine zg_aload_n (pc := 234) dX9_isDone_234 rfl rfl ?_
        refine zg_aload_n (pc := 235) dX9_isDone_235 rfl rfl ?_
        refine zg_getR (pc := 236) dX9_isDone_236 lf_X9_136 kR_0 (by decide) rfl ?_
        refine zg_iload_n (pc := 239) dX9_isDone_239 rfl rfl ?_
        refine zg_iload (pc := 240) dX9_isDone_240 rfl ?_
        refine zg_iadd (pc := 242) dX9_isDone_242 ?_
        obtain ⟨hb, H⟩ := H
        refine zg_iald (pc := 243) dX9_isDone_243 kR_42 (by decide) hb ?_
        refine zg_callVi (st := []) (pc := 244) dX9_isDone_244 (As := [.int (h6.1 42 (Int32.toNatClampNeg (l2 + l6)))]) lk_X9_151 kR_0 (by decide) rfl (Nat.le_of_ble_eq_true rfl) (Nat.le_of_ble_eq_true rfl) (sd_X9_depthOf 5 (d + 5) H) (fun r9 h8 H => ?_)
        refine zg_iconst (pc := 247) dX9_isDone_247 (v := 3) (by decide) ?_
        refine zg_icmp_ge (pc := 248) dX9_isDone_248 (tgt := 255) (by decide) (fun hc => ?_) (fun hc => ?_)
        · replace H := H.1 hc
          refine zg_iconst (pc := 255) dX9_isDone_255 (v := 0) (by decide) ?_
          refine zg_istore (pc := 256) dX9_isDone_256 (by decide) (L' := [some (.ref 0), some (.int l1), some (.int l2), none, none, some (.int 0), some (.int l6)]) rfl ?_
          refine zg_iinc (pc := 258) dX9_isDone_258 rfl (v := l6 + 1) rfl (by decide) (L' := [some (.ref 0), some (.int l1), some (.int l2), none, none, some (.int 0), some (.int (l6 + 1))]) rfl ?_
          refine zg_goto (pc := 261) dX9_isDone_261 (tgt := 202) (by decide) ?_
          exact hag202 0 (l6 + 1) _ H
        · replace H := H.2 hc
          refine zg_iconst (pc := 251) dX9_isDone_251 (v := 1) (by decide) ?_
          refine zg_goto (pc := 252) dX9_isDone_252 (tgt := 256) (by decide) ?_
          refine zg_istore (pc := 256) dX9_isDone_256 (by decide) (L' := [some (.ref 0), some (.int l1), some (.int l2), none, none, some (.int 1), some (.int l6)]) rfl ?_
          refine zg_iinc (pc := 258) dX9_isDone_258 rfl (v := l6 + 1) rfl (by decide) (L' := [some (.ref 0), some (.int l1), some (.int l2), none, none, some (.int 1), some (.int (l6 + 1))]) rfl ?_
          refine zg_goto (pc := 261) dX9_isDone_261 (tgt := 202) (by decide) ?_
          exact hag202 1 (l6 + 1) _ H
set_option maxRecDepth 100000 in
theorem sd_X9_isDone_j91 {d : Nat} {Q : Int32 → zz_Hp → Prop} {l3 : Int32} {l4 : Int32} {s0 : Int32} {h : zz_Hp}  (H : w_X9_isDone_j91 Q l3 l4 s0 h) : zz_G zKR zNR (d + 11) mX9_isDone (qI Q) 91 [some (.ref 0), none, none, some (.int l3), some (.int l4), none, none] [.int s0] h := by
  unfold w_X9_isDone_j91 at H
  refine zg_istore (pc := 91) dX9_isDone_91 (by decide) (L' := [some (.ref 0), none, none, some (.int l3), some (.int l4), some (.int s0), none]) rfl ?_
  refine zg_iload (pc := 93) dX9_isDone_93 rfl ?_
  refine zg_if_eq (pc := 95) dX9_isDone_95 (tgt := 106) (by decide) (fun hc => ?_) (fun hc => ?_)
  · replace H := H.1 hc
    refine zg_iload (pc := 106) dX9_isDone_106 rfl ?_
    exact zg_zret (pc := 108) dX9_isDone_108 H.1 rfl ⟨_, rfl, H.2⟩
  · replace H := H.2 hc
    refine zg_aload_n (pc := 98) dX9_isDone_98 rfl rfl ?_
    refine zg_getR (pc := 99) dX9_isDone_99 lf_X9_27 kR_0 (by decide) rfl ?_
    refine zg_iload_n (pc := 102) dX9_isDone_102 rfl rfl ?_
    refine zg_iload (pc := 103) dX9_isDone_103 rfl ?_
    obtain ⟨hb, H⟩ := H
    refine zg_iast (pc := 105) dX9_isDone_105 kR_6 (by decide) hb ?_
    generalize eh18 : zz_uI h 6 (Int32.toNatClampNeg l3) l4 = h18
    replace H := H h18 eh18.symm
    refine zg_iload (pc := 106) dX9_isDone_106 rfl ?_
    exact zg_zret (pc := 108) dX9_isDone_108 H.1 rfl ⟨_, rfl, H.2⟩
set_option maxRecDepth 100000 in
theorem sd_X9_isDone_j90 {d : Nat} {Q : Int32 → zz_Hp → Prop} {l3 : Int32} {l4 : Int32}  {h : zz_Hp}  (H : w_X9_isDone_j90 Q l3 l4 h) : zz_G zKR zNR (d + 11) mX9_isDone (qI Q) 90 [some (.ref 0), none, none, some (.int l3), some (.int l4), none, none] [] h := by
  unfold w_X9_isDone_j90 at H
  refine zg_iconst (pc := 90) dX9_isDone_90 (v := 0) (by decide) ?_
  exact sd_X9_isDone_j91  H
set_option maxRecDepth 100000 in
theorem sd_X9_isDone (d : Nat) {l1 : Int32} {h : zz_Hp} {Q : Int32 → zz_Hp → Prop} (H : w_X9_isDone l1 h Q) : zz_G zKR zNR (d + 11) mX9_isDone (qI Q) 0 (zz_L0 7 [.ref 0, .int l1]) [] h := by
  show zz_G zKR zNR (d + 11) mX9_isDone (qI Q) 0 [some (.ref 0), some (.int l1), none, none, none, none, none] [] h
  unfold w_X9_isDone at H
  refine zg_iconst (pc := 0) dX9_isDone_0 (v := 5) (by decide) ?_
  refine zg_iload_n (pc := 1) dX9_isDone_1 rfl rfl ?_
  refine zg_imul (pc := 2) dX9_isDone_2 ?_
  refine zg_istore_n (pc := 3) dX9_isDone_3 rfl (by decide) (L' := [some (.ref 0), some (.int l1), some (.int (5 * l1)), none, none, none, none]) rfl ?_
  refine zg_aload_n (pc := 4) dX9_isDone_4 rfl rfl ?_
  refine zg_getR (pc := 5) dX9_isDone_5 lf_X9_136 kR_0 (by decide) rfl ?_
  refine zg_iload_n (pc := 8) dX9_isDone_8 rfl rfl ?_
  obtain ⟨hb, H⟩ := H
  refine zg_iald (pc := 9) dX9_isDone_9 kR_42 (by decide) hb ?_
  refine zg_istore_n (pc := 10) dX9_isDone_10 rfl (by decide) (L' := [some (.ref 0), some (.int l1), some (.int (5 * l1)), some (.int (h.1 42 (Int32.toNatClampNeg (5 * l1)))), none, none, none]) rfl ?_
  refine zg_aload_n (pc := 11) dX9_isDone_11 rfl rfl ?_
  refine zg_getR (pc := 12) dX9_isDone_12 lf_X9_136 kR_0 (by decide) rfl ?_
  refine zg_iload_n (pc := 15) dX9_isDone_15 rfl rfl ?_
  refine zg_iconst (pc := 16) dX9_isDone_16 (v := 1) (by decide) ?_
  refine zg_iadd (pc := 17) dX9_isDone_17 ?_
  obtain ⟨hb, H⟩ := H
  refine zg_iald (pc := 18) dX9_isDone_18 kR_42 (by decide) hb ?_
  refine zg_istore (pc := 19) dX9_isDone_19 (by decide) (L' := [some (.ref 0), some (.int l1), some (.int (5 * l1)), some (.int (h.1 42 (Int32.toNatClampNeg (5 * l1)))), some (.int (h.1 42 (Int32.toNatClampNeg ((5 * l1) + 1)))), none, none]) rfl ?_
  refine zg_aload_n (pc := 21) dX9_isDone_21 rfl rfl ?_
  refine zg_getR (pc := 22) dX9_isDone_22 lf_X9_130 kR_0 (by decide) rfl ?_
  refine zg_iload_n (pc := 25) dX9_isDone_25 rfl rfl ?_
  obtain ⟨hb, H⟩ := H
  refine zg_iald (pc := 26) dX9_isDone_26 kR_40 (by decide) hb ?_
  refine zg_bipush (pc := 27) dX9_isDone_27 (v := 116) (by decide) ?_
  refine zg_icmp_ne (pc := 29) dX9_isDone_29 (tgt := 56) (by decide) (fun hc => ?_) (fun hc => ?_)
  · replace H := H.1 hc
    refine zg_aload_n (pc := 56) dX9_isDone_56 rfl rfl ?_
    refine zg_getR (pc := 57) dX9_isDone_57 lf_X9_130 kR_0 (by decide) rfl ?_
    refine zg_iload_n (pc := 60) dX9_isDone_60 rfl rfl ?_
    obtain ⟨hb, H⟩ := H
    refine zg_iald (pc := 61) dX9_isDone_61 kR_40 (by decide) hb ?_
    refine zg_bipush (pc := 62) dX9_isDone_62 (v := 115) (by decide) ?_
    refine zg_icmp_ne (pc := 64) dX9_isDone_64 (tgt := 109) (by decide) (fun hc => ?_) (fun hc => ?_)
    · replace H := H.1 hc
      refine zg_aload_n (pc := 109) dX9_isDone_109 rfl rfl ?_
      refine zg_getR (pc := 110) dX9_isDone_110 lf_X9_130 kR_0 (by decide) rfl ?_
      refine zg_iload_n (pc := 113) dX9_isDone_113 rfl rfl ?_
      obtain ⟨hb, H⟩ := H
      refine zg_iald (pc := 114) dX9_isDone_114 kR_40 (by decide) hb ?_
      refine zg_bipush (pc := 115) dX9_isDone_115 (v := 109) (by decide) ?_
      refine zg_icmp_ne (pc := 117) dX9_isDone_117 (tgt := 165) (by decide) (fun hc => ?_) (fun hc => ?_)
      · replace H := H.1 hc
        refine zg_aload_n (pc := 165) dX9_isDone_165 rfl rfl ?_
        refine zg_getR (pc := 166) dX9_isDone_166 lf_X9_136 kR_0 (by decide) rfl ?_
        refine zg_iload_n (pc := 169) dX9_isDone_169 rfl rfl ?_
        refine zg_iconst (pc := 170) dX9_isDone_170 (v := 4) (by decide) ?_
        refine zg_iadd (pc := 171) dX9_isDone_171 ?_
        obtain ⟨hb, H⟩ := H
        refine zg_iald (pc := 172) dX9_isDone_172 kR_42 (by decide) hb ?_
        refine zg_bipush (pc := 173) dX9_isDone_173 (v := (-99)) (by decide) ?_
        refine zg_bipush (pc := 175) dX9_isDone_175 (v := 99) (by decide) ?_
        refine zg_callSi (st := []) (pc := 177) dX9_isDone_177 (As := [.int (h.1 42 (Int32.toNatClampNeg ((5 * l1) + 4))), .int ((-99)), .int 99]) lk_X9_143 rfl (Nat.le_of_ble_eq_true rfl) (Nat.le_of_ble_eq_true rfl) (sd_X9_in (d + 10) H) (fun r2 h1 H => ?_)
        refine zg_if_eq (pc := 180) dX9_isDone_180 (tgt := 196) (by decide) (fun hc => ?_) (fun hc => ?_)
        · replace H := H.1 hc
          refine zg_iconst (pc := 196) dX9_isDone_196 (v := 0) (by decide) ?_
          refine zg_istore (pc := 197) dX9_isDone_197 (by decide) (L' := [some (.ref 0), some (.int l1), some (.int (5 * l1)), some (.int (h.1 42 (Int32.toNatClampNeg (5 * l1)))), some (.int (h.1 42 (Int32.toNatClampNeg ((5 * l1) + 1)))), some (.int 0), none]) rfl ?_
          refine zg_iconst (pc := 199) dX9_isDone_199 (v := 0) (by decide) ?_
          refine zg_istore (pc := 200) dX9_isDone_200 (by decide) (L' := [some (.ref 0), some (.int l1), some (.int (5 * l1)), some (.int (h.1 42 (Int32.toNatClampNeg (5 * l1)))), some (.int (h.1 42 (Int32.toNatClampNeg ((5 * l1) + 1)))), some (.int 0), some (.int 0)]) rfl ?_
          refine zg_weak (L' := [some (.ref 0), some (.int l1), some (.int (5 * l1)), none, none, some (.int 0), some (.int 0)]) ⟨rfl, ⟨rfl, ⟨rfl, ⟨rfl, ⟨rfl, trivial⟩⟩⟩⟩⟩ ?_
          exact sd_X9_isDone_l202  H
        · replace H := H.2 hc
          refine zg_aload_n (pc := 183) dX9_isDone_183 rfl rfl ?_
          refine zg_getI (pc := 184) dX9_isDone_184 lf_X9_139 kR_0 (by decide) rfl ?_
          refine zg_bipush (pc := 187) dX9_isDone_187 (v := 16) (by decide) ?_
          refine zg_icmp_ge (pc := 189) dX9_isDone_189 (tgt := 196) (by decide) (fun hc => ?_) (fun hc => ?_)
          · replace H := H.1 hc
            refine zg_iconst (pc := 196) dX9_isDone_196 (v := 0) (by decide) ?_
            refine zg_istore (pc := 197) dX9_isDone_197 (by decide) (L' := [some (.ref 0), some (.int l1), some (.int (5 * l1)), some (.int (h.1 42 (Int32.toNatClampNeg (5 * l1)))), some (.int (h.1 42 (Int32.toNatClampNeg ((5 * l1) + 1)))), some (.int 0), none]) rfl ?_
            refine zg_iconst (pc := 199) dX9_isDone_199 (v := 0) (by decide) ?_
            refine zg_istore (pc := 200) dX9_isDone_200 (by decide) (L' := [some (.ref 0), some (.int l1), some (.int (5 * l1)), some (.int (h.1 42 (Int32.toNatClampNeg (5 * l1)))), some (.int (h.1 42 (Int32.toNatClampNeg ((5 * l1) + 1)))), some (.int 0), some (.int 0)]) rfl ?_
            refine zg_weak (L' := [some (.ref 0), some (.int l1), some (.int (5 * l1)), none, none, some (.int 0), some (.int 0)]) ⟨rfl, ⟨rfl, ⟨rfl, ⟨rfl, ⟨rfl, trivial⟩⟩⟩⟩⟩ ?_
            exact sd_X9_isDone_l202  H
          · replace H := H.2 hc
            refine zg_iconst (pc := 192) dX9_isDone_192 (v := 1) (by decide) ?_
            refine zg_goto (pc := 193) dX9_isDone_193 (tgt := 197) (by decide) ?_
            refine zg_istore (pc := 197) dX9_isDone_197 (by decide) (L' := [some (.ref 0), some (.int l1), some (.int (5 * l1)), some (.int (h.1 42 (Int32.toNatClampNeg (5 * l1)))), some (.int (h.1 42 (Int32.toNatClampNeg ((5 * l1) + 1)))), some (.int 1), none]) rfl ?_
            refine zg_iconst (pc := 199) dX9_isDone_199 (v := 0) (by decide) ?_
            refine zg_istore (pc := 200) dX9_isDone_200 (by decide) (L' := [some (.ref 0), some (.int l1), some (.int (5 * l1)), some (.int (h.1 42 (Int32.toNatClampNeg (5 * l1)))), some (.int (h.1 42 (Int32.toNatClampNeg ((5 * l1) + 1)))), some (.int 1), some (.int 0)]) rfl ?_
            refine zg_weak (L' := [some (.ref 0), some (.int l1), some (.int (5 * l1)), none, none, some (.int 1), some (.int 0)]) ⟨rfl, ⟨rfl, ⟨rfl, ⟨rfl, ⟨rfl, trivial⟩⟩⟩⟩⟩ ?_
            exact sd_X9_isDone_l202  H
      · replace H := H.2 hc
        refine zg_aload_n (pc := 120) dX9_isDone_120 rfl rfl ?_
        refine zg_iload_n (pc := 121) dX9_isDone_121 rfl rfl ?_
        refine zg_callVi (st := []) (pc := 122) dX9_isDone_122 (As := [.int (h.1 42 (Int32.toNatClampNeg (5 * l1)))]) lk_X9_147 kR_0 (by decide) rfl (Nat.le_of_ble_eq_true rfl) (Nat.le_of_ble_eq_true rfl) (sd_X9_isYarn (d + 9) H) (fun r11 h10 H => ?_)
        refine zg_if_eq (pc := 125) dX9_isDone_125 (tgt := 163) (by decide) (fun hc => ?_) (fun hc => ?_)
        · replace H := H.1 hc
          refine zg_iconst (pc := 163) dX9_isDone_163 (v := 0) (by decide) ?_
          exact zg_zret (pc := 164) dX9_isDone_164 (Or.inl rfl) rfl ⟨_, rfl, H⟩
        · replace H := H.2 hc
          refine zg_iload (pc := 128) dX9_isDone_128 rfl ?_
          refine zg_iconst (pc := 130) dX9_isDone_130 (v := 1) (by decide) ?_
          refine zg_sipush (pc := 131) dX9_isDone_131 (v := 9999) (by decide) ?_
          refine zg_callSi (st := []) (pc := 134) dX9_isDone_134 (As := [.int (h.1 42 (Int32.toNatClampNeg ((5 * l1) + 1))), .int 1, .int 9999]) lk_X9_143 rfl (Nat.le_of_ble_eq_true rfl) (Nat.le_of_ble_eq_true rfl) (sd_X9_in (d + 10) H) (fun r13 h12 H => ?_)
          refine zg_if_eq (pc := 137) dX9_isDone_137 (tgt := 163) (by decide) (fun hc => ?_) (fun hc => ?_)
          · replace H := H.1 hc
            refine zg_iconst (pc := 163) dX9_isDone_163 (v := 0) (by decide) ?_
            exact zg_zret (pc := 164) dX9_isDone_164 (Or.inl rfl) rfl ⟨_, rfl, H⟩
          · replace H := H.2 hc
            refine zg_aload_n (pc := 140) dX9_isDone_140 rfl rfl ?_
            refine zg_getR (pc := 141) dX9_isDone_141 lf_X9_9 kR_0 (by decide) rfl ?_
            refine zg_iload_n (pc := 144) dX9_isDone_144 rfl rfl ?_
            obtain ⟨hb, H⟩ := H
            refine zg_iald (pc := 145) dX9_isDone_145 kR_1 (by decide) hb ?_
            refine zg_if_le (pc := 146) dX9_isDone_146 (tgt := 163) (by decide) (fun hc => ?_) (fun hc => ?_)
            · replace H := H.1 hc
              refine zg_iconst (pc := 163) dX9_isDone_163 (v := 0) (by decide) ?_
              exact zg_zret (pc := 164) dX9_isDone_164 (Or.inl rfl) rfl ⟨_, rfl, H⟩
            · replace H := H.2 hc
              refine zg_aload_n (pc := 149) dX9_isDone_149 rfl rfl ?_
              refine zg_iload_n (pc := 150) dX9_isDone_150 rfl rfl ?_
              refine zg_iload (pc := 151) dX9_isDone_151 rfl ?_
              refine zg_callVi (st := []) (pc := 153) dX9_isDone_153 (As := [.int (h.1 42 (Int32.toNatClampNeg (5 * l1))), .int (h.1 42 (Int32.toNatClampNeg ((5 * l1) + 1)))]) lk_X9_240 kR_0 (by decide) rfl (Nat.le_of_ble_eq_true rfl) (Nat.le_of_ble_eq_true rfl) (sd_X9_isMade d H) (fun r15 h14 H => ?_)
              refine zg_if_eq (pc := 156) dX9_isDone_156 (tgt := 163) (by decide) (fun hc => ?_) (fun hc => ?_)
              · replace H := H.1 hc
                refine zg_iconst (pc := 163) dX9_isDone_163 (v := 0) (by decide) ?_
                exact zg_zret (pc := 164) dX9_isDone_164 (Or.inl rfl) rfl ⟨_, rfl, H⟩
              · replace H := H.2 hc
                refine zg_iconst (pc := 159) dX9_isDone_159 (v := 1) (by decide) ?_
                refine zg_goto (pc := 160) dX9_isDone_160 (tgt := 164) (by decide) ?_
                exact zg_zret (pc := 164) dX9_isDone_164 (Or.inr rfl) rfl ⟨_, rfl, H⟩
    · replace H := H.2 hc
      refine zg_aload_n (pc := 67) dX9_isDone_67 rfl rfl ?_
      refine zg_iload_n (pc := 68) dX9_isDone_68 rfl rfl ?_
      refine zg_callVi (st := []) (pc := 69) dX9_isDone_69 (As := [.int (h.1 42 (Int32.toNatClampNeg (5 * l1)))]) lk_X9_147 kR_0 (by decide) rfl (Nat.le_of_ble_eq_true rfl) (Nat.le_of_ble_eq_true rfl) (sd_X9_isYarn (d + 9) H) (fun r17 h16 H => ?_)
      refine zg_if_eq (pc := 72) dX9_isDone_72 (tgt := 90) (by decide) (fun hc => ?_) (fun hc => ?_)
      · replace H := H.1 hc
        refine zg_weak (L' := [some (.ref 0), none, none, some (.int (h.1 42 (Int32.toNatClampNeg (5 * l1)))), some (.int (h.1 42 (Int32.toNatClampNeg ((5 * l1) + 1)))), none, none]) ⟨rfl, ⟨rfl, ⟨rfl, trivial⟩⟩⟩ ?_
        exact sd_X9_isDone_j90  H
      · replace H := H.2 hc
        refine zg_iload (pc := 75) dX9_isDone_75 rfl ?_
        refine zg_iconst (pc := 77) dX9_isDone_77 (v := 0) (by decide) ?_
        refine zg_ldc (pc := 78) dX9_isDone_78 lc_X9_189 ?_
        refine zg_callSi (st := []) (pc := 80) dX9_isDone_80 (As := [.int (h.1 42 (Int32.toNatClampNeg ((5 * l1) + 1))), .int 0, .int 99999]) lk_X9_143 rfl (Nat.le_of_ble_eq_true rfl) (Nat.le_of_ble_eq_true rfl) (sd_X9_in (d + 10) H) (fun r20 h19 H => ?_)
        refine zg_if_eq (pc := 83) dX9_isDone_83 (tgt := 90) (by decide) (fun hc => ?_) (fun hc => ?_)
        · replace H := H.1 hc
          refine zg_weak (L' := [some (.ref 0), none, none, some (.int (h.1 42 (Int32.toNatClampNeg (5 * l1)))), some (.int (h.1 42 (Int32.toNatClampNeg ((5 * l1) + 1)))), none, none]) ⟨rfl, ⟨rfl, ⟨rfl, trivial⟩⟩⟩ ?_
          exact sd_X9_isDone_j90  H
        · replace H := H.2 hc
          refine zg_iconst (pc := 86) dX9_isDone_86 (v := 1) (by decide) ?_
          refine zg_goto (pc := 87) dX9_isDone_87 (tgt := 91) (by decide) ?_
          refine zg_weak (L' := [some (.ref 0), none, none, some (.int (h.1 42 (Int32.toNatClampNeg (5 * l1)))), some (.int (h.1 42 (Int32.toNatClampNeg ((5 * l1) + 1)))), none, none]) ⟨rfl, ⟨rfl, ⟨rfl, trivial⟩⟩⟩ ?_
          exact sd_X9_isDone_j91  H
  · replace H := H.2 hc
    refine zg_aload_n (pc := 32) dX9_isDone_32 rfl rfl ?_
    refine zg_iload_n (pc := 33) dX9_isDone_33 rfl rfl ?_
    refine zg_iload (pc := 34) dX9_isDone_34 rfl ?_
    refine zg_aload_n (pc := 36) dX9_isDone_36 rfl rfl ?_
    refine zg_getR (pc := 37) dX9_isDone_37 lf_X9_136 kR_0 (by decide) rfl ?_
    refine zg_iload_n (pc := 40) dX9_isDone_40 rfl rfl ?_
    refine zg_iconst (pc := 41) dX9_isDone_41 (v := 2) (by decide) ?_
    refine zg_iadd (pc := 42) dX9_isDone_42 ?_
    obtain ⟨hb, H⟩ := H
    refine zg_iald (pc := 43) dX9_isDone_43 kR_42 (by decide) hb ?_
    refine zg_callVi (st := []) (pc := 44) dX9_isDone_44 (As := [.int (h.1 42 (Int32.toNatClampNeg (5 * l1))), .int (h.1 42 (Int32.toNatClampNeg ((5 * l1) + 1))), .int (h.1 42 (Int32.toNatClampNeg ((5 * l1) + 2)))]) lk_X9_292 kR_0 (by decide) rfl (Nat.le_of_ble_eq_true rfl) (Nat.le_of_ble_eq_true rfl) (sd_X9_thread (d + 9) H) (fun r22 h21 H => ?_)
    refine zg_if_lt (pc := 47) dX9_isDone_47 (tgt := 54) (by decide) (fun hc => ?_) (fun hc => ?_)
    · replace H := H.1 hc
      refine zg_iconst (pc := 54) dX9_isDone_54 (v := 0) (by decide) ?_
      exact zg_zret (pc := 55) dX9_isDone_55 (Or.inl rfl) rfl ⟨_, rfl, H⟩
    · replace H := H.2 hc
      refine zg_iconst (pc := 50) dX9_isDone_50 (v := 1) (by decide) ?_
      refine zg_goto (pc := 51) dX9_isDone_51 (tgt := 55) (by decide) ?_
      exact zg_zret (pc := 55) dX9_isDone_55 (Or.inr rfl) rfl ⟨_, rfl, H⟩
set_option maxRecDepth 100000 in
theorem sd_X9_here (d : Nat)  {h : zz_Hp} {Q : Int32 → zz_Hp → Prop} (H : w_X9_here  h Q) : zz_G zKR zNR (d + 0) mX9_here (qI Q) 0 (zz_L0 1 [.ref 0]) [] h := by
  show zz_G zKR zNR (d + 0) mX9_here (qI Q) 0 [some (.ref 0)] [] h
  unfold w_X9_here at H
  refine zg_aload_n (pc := 0) dX9_here_0 rfl rfl ?_
  refine zg_getI (pc := 1) dX9_here_1 lf_X9_265 kR_0 (by decide) rfl ?_
  refine zg_aload_n (pc := 4) dX9_here_4 rfl rfl ?_
  refine zg_getI (pc := 5) dX9_here_5 lf_X9_268 kR_0 (by decide) rfl ?_
  refine zg_icmp_ge (pc := 8) dX9_here_8 (tgt := 23) (by decide) (fun hc => ?_) (fun hc => ?_)
  · replace H := H.1 hc
    refine zg_iconst (pc := 23) dX9_here_23 (v := (-1)) (by decide) ?_
    exact zg_iret (pc := 24) dX9_here_24 rfl ⟨_, rfl, H⟩
  · replace H := H.2 hc
    refine zg_aload_n (pc := 11) dX9_here_11 rfl rfl ?_
    refine zg_getR (pc := 12) dX9_here_12 lf_X9_57 kR_0 (by decide) rfl ?_
    refine zg_aload_n (pc := 15) dX9_here_15 rfl rfl ?_
    refine zg_getI (pc := 16) dX9_here_16 lf_X9_265 kR_0 (by decide) rfl ?_
    obtain ⟨hb, H⟩ := H
    refine zg_iald (pc := 19) dX9_here_19 kR_16 (by decide) hb ?_
    refine zg_goto (pc := 20) dX9_here_20 (tgt := 24) (by decide) ?_
    exact zg_iret (pc := 24) dX9_here_24 rfl ⟨_, rfl, H⟩
set_option maxRecDepth 100000 in
theorem sd_X9_isFigure (d : Nat)  {h : zz_Hp} {Q : Int32 → zz_Hp → Prop} (H : w_X9_isFigure  h Q) : zz_G zKR zNR (d + 1) mX9_isFigure (qI Q) 0 (zz_L0 1 [.ref 0]) [] h := by
  show zz_G zKR zNR (d + 1) mX9_isFigure (qI Q) 0 [some (.ref 0)] [] h
  unfold w_X9_isFigure at H
  refine zg_aload_n (pc := 0) dX9_isFigure_0 rfl rfl ?_
  refine zg_callVi (st := []) (pc := 1) dX9_isFigure_1 (As := []) lk_X9_271 kR_0 (by decide) rfl (Nat.le_of_ble_eq_true rfl) (Nat.le_of_ble_eq_true rfl) (sd_X9_here d H) (fun r2 h1 H => ?_)
  refine zg_bipush (pc := 4) dX9_isFigure_4 (v := 48) (by decide) ?_
  refine zg_icmp_lt (pc := 6) dX9_isFigure_6 (tgt := 22) (by decide) (fun hc => ?_) (fun hc => ?_)
  · replace H := H.1 hc
    refine zg_iconst (pc := 22) dX9_isFigure_22 (v := 0) (by decide) ?_
    exact zg_zret (pc := 23) dX9_isFigure_23 (Or.inl rfl) rfl ⟨_, rfl, H⟩
  · replace H := H.2 hc
    refine zg_aload_n (pc := 9) dX9_isFigure_9 rfl rfl ?_
    refine zg_callVi (st := []) (pc := 10) dX9_isFigure_10 (As := []) lk_X9_271 kR_0 (by decide) rfl (Nat.le_of_ble_eq_true rfl) (Nat.le_of_ble_eq_true rfl) (sd_X9_here d H) (fun r4 h3 H => ?_)
    refine zg_bipush (pc := 13) dX9_isFigure_13 (v := 57) (by decide) ?_
    refine zg_icmp_gt (pc := 15) dX9_isFigure_15 (tgt := 22) (by decide) (fun hc => ?_) (fun hc => ?_)
    · replace H := H.1 hc
      refine zg_iconst (pc := 22) dX9_isFigure_22 (v := 0) (by decide) ?_
      exact zg_zret (pc := 23) dX9_isFigure_23 (Or.inl rfl) rfl ⟨_, rfl, H⟩
    · replace H := H.2 hc
      refine zg_iconst (pc := 18) dX9_isFigure_18 (v := 1) (by decide) ?_
      refine zg_goto (pc := 19) dX9_isFigure_19 (tgt := 23) (by decide) ?_
      exact zg_zret (pc := 23) dX9_isFigure_23 (Or.inr rfl) rfl ⟨_, rfl, H⟩
set_option maxRecDepth 100000 in
theorem sd_X9_number_j104 {d : Nat} {Q : Int32 → zz_Hp → Prop} {l2 : Int32} {l3 : Int32} {s0 : Int32} {h : zz_Hp}  (H : w_X9_number_j104 Q l2 l3 s0 h) : zz_G zKR zNR (d + 2) mX9_number (qI Q) 104 [none, none, some (.int l2), some (.int l3), none] [.int s0, .ref 0] h := by
  unfold w_X9_number_j104 at H
  obtain ⟨hb, H⟩ := H
  refine zg_putZ (pc := 104) dX9_number_104 hb lp_X9_274 kR_0 (by decide) rfl ?_
  generalize eh2 : zz_uI h 0 53 s0 = h2
  replace H := H h2 eh2.symm
  refine zg_iload_n (pc := 107) dX9_number_107 rfl rfl ?_
  refine zg_if_eq (pc := 108) dX9_number_108 (tgt := 116) (by decide) (fun hc => ?_) (fun hc => ?_)
  · replace H := H.1 hc
    refine zg_iload_n (pc := 116) dX9_number_116 rfl rfl ?_
    exact zg_iret (pc := 117) dX9_number_117 rfl ⟨_, rfl, H⟩
  · replace H := H.2 hc
    refine zg_iload_n (pc := 111) dX9_number_111 rfl rfl ?_
    refine zg_ineg (pc := 112) dX9_number_112 ?_
    refine zg_goto (pc := 113) dX9_number_113 (tgt := 117) (by decide) ?_
    exact zg_iret (pc := 117) dX9_number_117 rfl ⟨_, rfl, H⟩
set_option maxRecDepth 100000 in
theorem sd_X9_number_j93 {d : Nat} {Q : Int32 → zz_Hp → Prop} {l2 : Int32} {l3 : Int32} {l4 : Int32}  {h : zz_Hp}  (H : w_X9_number_j93 Q l2 l3 l4 h) : zz_G zKR zNR (d + 2) mX9_number (qI Q) 93 [some (.ref 0), none, some (.int l2), some (.int l3), some (.int l4)] [] h := by
  unfold w_X9_number_j93 at H
  refine zg_aload_n (pc := 93) dX9_number_93 rfl rfl ?_
  refine zg_iload (pc := 94) dX9_number_94 rfl ?_
  refine zg_if_ne (pc := 96) dX9_number_96 (tgt := 103) (by decide) (fun hc => ?_) (fun hc => ?_)
  · replace H := H.1 hc
    refine zg_iconst (pc := 103) dX9_number_103 (v := 0) (by decide) ?_
    refine zg_weak (L' := [none, none, some (.int l2), some (.int l3), none]) ⟨rfl, ⟨rfl, trivial⟩⟩ ?_
    exact sd_X9_number_j104  H
  · replace H := H.2 hc
    refine zg_iconst (pc := 99) dX9_number_99 (v := 1) (by decide) ?_
    refine zg_goto (pc := 100) dX9_number_100 (tgt := 104) (by decide) ?_
    refine zg_weak (L' := [none, none, some (.int l2), some (.int l3), none]) ⟨rfl, ⟨rfl, trivial⟩⟩ ?_
    exact sd_X9_number_j104  H
set_option maxRecDepth 100000 in
theorem sd_X9_number_l51 {d : Nat} {Q : Int32 → zz_Hp → Prop} {l2 : Int32} {l3 : Int32} {l4 : Int32} {h : zz_Hp}  (H : lp (fun s ag => w_X9_number_l51 ag Q l2 s.1 s.2.1 s.2.2) (l3, l4, h)) : zz_G zKR zNR (d + 2) mX9_number (qI Q) 51 [some (.ref 0), none, some (.int l2), some (.int l3), some (.int l4)] [] h := by
  refine lp_sound (G := fun (s : Int32 × Int32 × zz_Hp) => zz_G zKR zNR (d + 2) mX9_number (qI Q) 51 [some (.ref 0), none, some (.int l2), some (.int s.1), some (.int s.2.1)] [] s.2.2) ?_ H
  clear H
  intro s ag51 hag51 H
  obtain ⟨l3, l4, h⟩ := s
  replace hag51 : ∀ (l3 : Int32) (l4 : Int32) (h : zz_Hp), ag51 (l3, l4, h) → zz_G zKR zNR (d + 2) mX9_number (qI Q) 51 [some (.ref 0), none, some (.int l2), some (.int l3), some (.int l4)] [] h := fun l3 l4 h H => hag51 (l3, l4, h) H
  replace H : w_X9_number_l51 ag51 Q l2 l3 l4 h := H
  show zz_G zKR zNR (d + 2) mX9_number (qI Q) 51 [some (.ref 0), none, some (.int l2), some (.int l3), some (.int l4)] [] h
  unfold w_X9_number_l51 at H
  refine zg_iload (pc := 51) dX9_number_51 rfl ?_
  refine zg_iconst (pc := 53) dX9_number_53 (v := 5) (by decide) ?_
  refine zg_icmp_ge (pc := 54) dX9_number_54 (tgt := 93) (by decide) (fun hc => ?_) (fun hc => ?_)
  · replace H := H.1 hc
    exact sd_X9_number_j93  H
  · replace H := H.2 hc
    refine zg_aload_n (pc := 57) dX9_number_57 rfl rfl ?_
    refine zg_callVi (st := []) (pc := 58) dX9_number_58 (As := []) lk_X9_278 kR_0 (by decide) rfl (Nat.le_of_ble_eq_true rfl) (Nat.le_of_ble_eq_true rfl) (sd_X9_isFigure d H) (fun r4 h3 H => ?_)
    refine zg_if_eq (pc := 61) dX9_number_61 (tgt := 93) (by decide) (fun hc => ?_) (fun hc => ?_)
    · replace H := H.1 hc
      exact sd_X9_number_j93  H
    · replace H := H.2 hc
      refine zg_bipush (pc := 64) dX9_number_64 (v := 10) (by decide) ?_
      refine zg_iload_n (pc := 66) dX9_number_66 rfl rfl ?_
      refine zg_imul (pc := 67) dX9_number_67 ?_
      refine zg_aload_n (pc := 68) dX9_number_68 rfl rfl ?_
      refine zg_callVi (st := [.int (10 * l3)]) (pc := 69) dX9_number_69 (As := []) lk_X9_271 kR_0 (by decide) rfl (Nat.le_of_ble_eq_true rfl) (Nat.le_of_ble_eq_true rfl) (sd_X9_here (d + 1) H) (fun r6 h5 H => ?_)
      refine zg_iadd (pc := 72) dX9_number_72 ?_
      refine zg_bipush (pc := 73) dX9_number_73 (v := 48) (by decide) ?_
      refine zg_isub (pc := 75) dX9_number_75 ?_
      refine zg_istore_n (pc := 76) dX9_number_76 rfl (by decide) (L' := [some (.ref 0), none, some (.int l2), some (.int (((10 * l3) + r6) - 48)), some (.int l4)]) rfl ?_
      refine zg_iinc (pc := 77) dX9_number_77 rfl (v := l4 + 1) rfl (by decide) (L' := [some (.ref 0), none, some (.int l2), some (.int (((10 * l3) + r6) - 48)), some (.int (l4 + 1))]) rfl ?_
      refine zg_aload_n (pc := 80) dX9_number_80 rfl rfl ?_
      refine zg_dup (pc := 81) dX9_number_81 rfl ?_
      refine zg_getI (pc := 82) dX9_number_82 lf_X9_265 kR_0 (by decide) rfl ?_
      refine zg_iconst (pc := 85) dX9_number_85 (v := 1) (by decide) ?_
      refine zg_iadd (pc := 86) dX9_number_86 ?_
      refine zg_putI (pc := 87) dX9_number_87 lp_X9_265 kR_0 (by decide) rfl ?_
      generalize eh7 : zz_uI h5 0 51 ((h5.1 0 51) + 1) = h7
      replace H := H h7 eh7.symm
      refine zg_goto (pc := 90) dX9_number_90 (tgt := 51) (by decide) ?_
      exact hag51 (((10 * l3) + r6) - 48) (l4 + 1) _ H
set_option maxRecDepth 100000 in
theorem sd_X9_number_j42 {d : Nat} {Q : Int32 → zz_Hp → Prop} {l2 : Int32} {s0 : Int32} {s1 : Int32} {h : zz_Hp}  (H : w_X9_number_j42 Q l2 s0 s1 h) : zz_G zKR zNR (d + 2) mX9_number (qI Q) 42 [some (.ref 0), none, some (.int l2), none, none] [.int s0, .int s1, .ref 0] h := by
  unfold w_X9_number_j42 at H
  refine zg_iadd (pc := 42) dX9_number_42 ?_
  refine zg_putI (pc := 43) dX9_number_43 lp_X9_265 kR_0 (by decide) rfl ?_
  generalize eh1 : zz_uI h 0 51 (s1 + s0) = h1
  replace H := H h1 eh1.symm
  refine zg_iconst (pc := 46) dX9_number_46 (v := 0) (by decide) ?_
  refine zg_istore_n (pc := 47) dX9_number_47 rfl (by decide) (L' := [some (.ref 0), none, some (.int l2), some (.int 0), none]) rfl ?_
  refine zg_iconst (pc := 48) dX9_number_48 (v := 0) (by decide) ?_
  refine zg_istore (pc := 49) dX9_number_49 (by decide) (L' := [some (.ref 0), none, some (.int l2), some (.int 0), some (.int 0)]) rfl ?_
  exact sd_X9_number_l51  H
set_option maxRecDepth 100000 in
theorem sd_X9_number_j27 {d : Nat} {Q : Int32 → zz_Hp → Prop}  {s0 : Int32} {h : zz_Hp}  (H : w_X9_number_j27 Q s0 h) : zz_G zKR zNR (d + 2) mX9_number (qI Q) 27 [some (.ref 0), none, none, none, none] [.int s0] h := by
  unfold w_X9_number_j27 at H
  refine zg_istore_n (pc := 27) dX9_number_27 rfl (by decide) (L' := [some (.ref 0), none, some (.int s0), none, none]) rfl ?_
  refine zg_aload_n (pc := 28) dX9_number_28 rfl rfl ?_
  refine zg_dup (pc := 29) dX9_number_29 rfl ?_
  refine zg_getI (pc := 30) dX9_number_30 lf_X9_265 kR_0 (by decide) rfl ?_
  refine zg_iload_n (pc := 33) dX9_number_33 rfl rfl ?_
  refine zg_if_eq (pc := 34) dX9_number_34 (tgt := 41) (by decide) (fun hc => ?_) (fun hc => ?_)
  · replace H := H.1 hc
    refine zg_iconst (pc := 41) dX9_number_41 (v := 0) (by decide) ?_
    exact sd_X9_number_j42  H
  · replace H := H.2 hc
    refine zg_iconst (pc := 37) dX9_number_37 (v := 1) (by decide) ?_
    refine zg_goto (pc := 38) dX9_number_38 (tgt := 42) (by decide) ?_
    exact sd_X9_number_j42  H
set_option maxRecDepth 100000 in
theorem sd_X9_number_j26 {d : Nat} {Q : Int32 → zz_Hp → Prop}   {h : zz_Hp}  (H : w_X9_number_j26 Q  h) : zz_G zKR zNR (d + 2) mX9_number (qI Q) 26 [some (.ref 0), none, none, none, none] [] h := by
  unfold w_X9_number_j26 at H
  refine zg_iconst (pc := 26) dX9_number_26 (v := 0) (by decide) ?_
  exact sd_X9_number_j27  H
set_option maxRecDepth 100000 in
theorem sd_X9_number (d : Nat) {l1 : Int32} {h : zz_Hp} {Q : Int32 → zz_Hp → Prop} (H : w_X9_number l1 h Q) : zz_G zKR zNR (d + 2) mX9_number (qI Q) 0 (zz_L0 5 [.ref 0, .int l1]) [] h := by
  show zz_G zKR zNR (d + 2) mX9_number (qI Q) 0 [some (.ref 0), some (.int l1), none, none, none] [] h
  unfold w_X9_number at H
  refine zg_aload_n (pc := 0) dX9_number_0 rfl rfl ?_
  refine zg_getI (pc := 1) dX9_number_1 lf_X9_274 kR_0 (by decide) rfl ?_
  refine zg_if_eq (pc := 4) dX9_number_4 (tgt := 9) (by decide) (fun hc => ?_) (fun hc => ?_)
  · replace H := H.1 hc
    refine zg_iload_n (pc := 9) dX9_number_9 rfl rfl ?_
    refine zg_if_eq (pc := 10) dX9_number_10 (tgt := 26) (by decide) (fun hc => ?_) (fun hc => ?_)
    · replace H := H.1 hc
      refine zg_weak (L' := [some (.ref 0), none, none, none, none]) ⟨rfl, trivial⟩ ?_
      exact sd_X9_number_j26  H
    · replace H := H.2 hc
      refine zg_aload_n (pc := 13) dX9_number_13 rfl rfl ?_
      refine zg_callVi (st := []) (pc := 14) dX9_number_14 (As := []) lk_X9_271 kR_0 (by decide) rfl (Nat.le_of_ble_eq_true rfl) (Nat.le_of_ble_eq_true rfl) (sd_X9_here (d + 1) H) (fun r9 h8 H => ?_)
      refine zg_bipush (pc := 17) dX9_number_17 (v := 45) (by decide) ?_
      refine zg_icmp_ne (pc := 19) dX9_number_19 (tgt := 26) (by decide) (fun hc => ?_) (fun hc => ?_)
      · replace H := H.1 hc
        refine zg_weak (L' := [some (.ref 0), none, none, none, none]) ⟨rfl, trivial⟩ ?_
        exact sd_X9_number_j26  H
      · replace H := H.2 hc
        refine zg_iconst (pc := 22) dX9_number_22 (v := 1) (by decide) ?_
        refine zg_goto (pc := 23) dX9_number_23 (tgt := 27) (by decide) ?_
        refine zg_weak (L' := [some (.ref 0), none, none, none, none]) ⟨rfl, trivial⟩ ?_
        exact sd_X9_number_j27  H
  · replace H := H.2 hc
    refine zg_iconst (pc := 7) dX9_number_7 (v := 0) (by decide) ?_
    exact zg_iret (pc := 8) dX9_number_8 rfl ⟨_, rfl, H⟩
set_option maxRecDepth 100000 in
theorem sd_X9_want_j21 {d : Nat} {Q : zz_Hp → Prop}  {s0 : Int32} {h : zz_Hp}  (H : w_X9_want_j21 Q s0 h) : zz_G zKR zNR (d + 1) mX9_want (qV Q) 21 [some (.ref 0), none] [.int s0, .ref 0] h := by
  unfold w_X9_want_j21 at H
  obtain ⟨hb, H⟩ := H
  refine zg_putZ (pc := 21) dX9_want_21 hb lp_X9_274 kR_0 (by decide) rfl ?_
  generalize eh3 : zz_uI h 0 53 s0 = h3
  replace H := H h3 eh3.symm
  refine zg_aload_n (pc := 24) dX9_want_24 rfl rfl ?_
  refine zg_dup (pc := 25) dX9_want_25 rfl ?_
  refine zg_getI (pc := 26) dX9_want_26 lf_X9_265 kR_0 (by decide) rfl ?_
  refine zg_aload_n (pc := 29) dX9_want_29 rfl rfl ?_
  refine zg_getI (pc := 30) dX9_want_30 lf_X9_274 kR_0 (by decide) rfl ?_
  refine zg_if_eq (pc := 33) dX9_want_33 (tgt := 40) (by decide) (fun hc => ?_) (fun hc => ?_)
  · replace H := H.1 hc
    refine zg_iconst (pc := 40) dX9_want_40 (v := 1) (by decide) ?_
    refine zg_iadd (pc := 41) dX9_want_41 ?_
    refine zg_putI (pc := 42) dX9_want_42 lp_X9_265 kR_0 (by decide) rfl ?_
    generalize eh4 : zz_uI h3 0 51 ((h3.1 0 51) + 1) = h4
    replace H := H h4 eh4.symm
    exact zg_vret (pc := 45) dX9_want_45 rfl ⟨rfl, H⟩
  · replace H := H.2 hc
    refine zg_iconst (pc := 36) dX9_want_36 (v := 0) (by decide) ?_
    refine zg_goto (pc := 37) dX9_want_37 (tgt := 41) (by decide) ?_
    refine zg_iadd (pc := 41) dX9_want_41 ?_
    refine zg_putI (pc := 42) dX9_want_42 lp_X9_265 kR_0 (by decide) rfl ?_
    generalize eh5 : zz_uI h3 0 51 ((h3.1 0 51) + 0) = h5
    replace H := H h5 eh5.symm
    exact zg_vret (pc := 45) dX9_want_45 rfl ⟨rfl, H⟩
set_option maxRecDepth 100000 in
theorem sd_X9_want (d : Nat) {l1 : Int32} {h : zz_Hp} {Q : zz_Hp → Prop} (H : w_X9_want l1 h Q) : zz_G zKR zNR (d + 1) mX9_want (qV Q) 0 (zz_L0 2 [.ref 0, .int l1]) [] h := by
  show zz_G zKR zNR (d + 1) mX9_want (qV Q) 0 [some (.ref 0), some (.int l1)] [] h
  unfold w_X9_want at H
  refine zg_aload_n (pc := 0) dX9_want_0 rfl rfl ?_
  refine zg_getI (pc := 1) dX9_want_1 lf_X9_274 kR_0 (by decide) rfl ?_
  refine zg_if_ne (pc := 4) dX9_want_4 (tgt := 45) (by decide) (fun hc => ?_) (fun hc => ?_)
  · replace H := H.1 hc
    exact zg_vret (pc := 45) dX9_want_45 rfl ⟨rfl, H⟩
  · replace H := H.2 hc
    refine zg_aload_n (pc := 7) dX9_want_7 rfl rfl ?_
    refine zg_aload_n (pc := 8) dX9_want_8 rfl rfl ?_
    refine zg_callVi (st := [.ref 0]) (pc := 9) dX9_want_9 (As := []) lk_X9_271 kR_0 (by decide) rfl (Nat.le_of_ble_eq_true rfl) (Nat.le_of_ble_eq_true rfl) (sd_X9_here d H) (fun r2 h1 H => ?_)
    refine zg_iload_n (pc := 12) dX9_want_12 rfl rfl ?_
    refine zg_icmp_eq (pc := 13) dX9_want_13 (tgt := 20) (by decide) (fun hc => ?_) (fun hc => ?_)
    · replace H := H.1 hc
      refine zg_iconst (pc := 20) dX9_want_20 (v := 0) (by decide) ?_
      refine zg_weak (L' := [some (.ref 0), none]) ⟨rfl, trivial⟩ ?_
      exact sd_X9_want_j21  H
    · replace H := H.2 hc
      refine zg_iconst (pc := 16) dX9_want_16 (v := 1) (by decide) ?_
      refine zg_goto (pc := 17) dX9_want_17 (tgt := 21) (by decide) ?_
      refine zg_weak (L' := [some (.ref 0), none]) ⟨rfl, trivial⟩ ?_
      exact sd_X9_want_j21  H
set_option maxRecDepth 100000 in
theorem sd_X9_readAct_j221 {d : Nat} {Q : zz_Hp → Prop} {l3 : Int32}  {h : zz_Hp}  (H : w_X9_readAct_j221 Q l3 h) : zz_G zKR zNR (d + 3) mX9_readAct (qV Q) 221 [some (.ref 0), none, none, some (.int l3)] [] h := by
  unfold w_X9_readAct_j221 at H
  refine zg_aload_n (pc := 221) dX9_readAct_221 rfl rfl ?_
  refine zg_getR (pc := 222) dX9_readAct_222 lf_X9_133 kR_0 (by decide) rfl ?_
  refine zg_aload_n (pc := 225) dX9_readAct_225 rfl rfl ?_
  refine zg_getI (pc := 226) dX9_readAct_226 lf_X9_282 kR_0 (by decide) rfl ?_
  refine zg_iload_n (pc := 229) dX9_readAct_229 rfl rfl ?_
  obtain ⟨hb, H⟩ := H
  refine zg_iast (pc := 230) dX9_readAct_230 kR_41 (by decide) hb ?_
  generalize eh13 : zz_uI h 41 (Int32.toNatClampNeg (h.1 0 54)) l3 = h13
  replace H := H h13 eh13.symm
  refine zg_aload_n (pc := 231) dX9_readAct_231 rfl rfl ?_
  refine zg_dup (pc := 232) dX9_readAct_232 rfl ?_
  refine zg_getI (pc := 233) dX9_readAct_233 lf_X9_282 kR_0 (by decide) rfl ?_
  refine zg_iconst (pc := 236) dX9_readAct_236 (v := 1) (by decide) ?_
  refine zg_iadd (pc := 237) dX9_readAct_237 ?_
  refine zg_putI (pc := 238) dX9_readAct_238 lp_X9_282 kR_0 (by decide) rfl ?_
  generalize eh14 : zz_uI h13 0 54 ((h13.1 0 54) + 1) = h14
  replace H := H h14 eh14.symm
  exact zg_vret (pc := 241) dX9_readAct_241 rfl ⟨rfl, H⟩
set_option maxRecDepth 100000 in
theorem sd_X9_readAct_j155 {d : Nat} {Q : zz_Hp → Prop} {l2 : Int32} {l3 : Int32}  {h : zz_Hp}  (H : w_X9_readAct_j155 Q l2 l3 h) : zz_G zKR zNR (d + 3) mX9_readAct (qV Q) 155 [some (.ref 0), none, some (.int l2), some (.int l3)] [] h := by
  unfold w_X9_readAct_j155 at H
  refine zg_aload_n (pc := 155) dX9_readAct_155 rfl rfl ?_
  refine zg_bipush (pc := 156) dX9_readAct_156 (v := 58) (by decide) ?_
  refine zg_callVv (st := []) (pc := 158) dX9_readAct_158 (As := [.int 58]) lk_X9_289 kR_0 (by decide) rfl (Nat.le_of_ble_eq_true rfl) (Nat.le_of_ble_eq_true rfl) (sd_X9_want (d + 1) H) (fun h25 H => ?_)
  refine zg_aload_n (pc := 161) dX9_readAct_161 rfl rfl ?_
  refine zg_getR (pc := 162) dX9_readAct_162 lf_X9_136 kR_0 (by decide) rfl ?_
  refine zg_iload_n (pc := 165) dX9_readAct_165 rfl rfl ?_
  refine zg_iconst (pc := 166) dX9_readAct_166 (v := 4) (by decide) ?_
  refine zg_iadd (pc := 167) dX9_readAct_167 ?_
  refine zg_aload_n (pc := 168) dX9_readAct_168 rfl rfl ?_
  refine zg_iconst (pc := 169) dX9_readAct_169 (v := 1) (by decide) ?_
  refine zg_callVi (st := [.int (l2 + 4), .ref 42]) (pc := 170) dX9_readAct_170 (As := [.int 1]) lk_X9_285 kR_0 (by decide) rfl (Nat.le_of_ble_eq_true rfl) (Nat.le_of_ble_eq_true rfl) (sd_X9_number d H) (fun r28 h27 H => ?_)
  obtain ⟨hb, H⟩ := H
  refine zg_iast (pc := 173) dX9_readAct_173 kR_42 (by decide) hb ?_
  generalize eh29 : zz_uI h27 42 (Int32.toNatClampNeg (l2 + 4)) r28 = h29
  replace H := H h29 eh29.symm
  refine zg_goto (pc := 174) dX9_readAct_174 (tgt := 221) (by decide) ?_
  refine zg_weak (L' := [some (.ref 0), none, none, some (.int l3)]) ⟨rfl, ⟨rfl, trivial⟩⟩ ?_
  exact sd_X9_readAct_j221  H
set_option maxRecDepth 100000 in
theorem sd_X9_readAct_l105 {d : Nat} {Q : zz_Hp → Prop} {l2 : Int32} {l3 : Int32} {h : zz_Hp}  (H : lp (fun s ag => w_X9_readAct_l105 ag Q l2 s.1 s.2) (l3, h)) : zz_G zKR zNR (d + 3) mX9_readAct (qV Q) 105 [some (.ref 0), none, some (.int l2), some (.int l3)] [] h := by
  refine lp_sound (G := fun (s : Int32 × zz_Hp) => zz_G zKR zNR (d + 3) mX9_readAct (qV Q) 105 [some (.ref 0), none, some (.int l2), some (.int s.1)] [] s.2) ?_ H
  clear H
  intro s ag105 hag105 H
  obtain ⟨l3, h⟩ := s
  replace hag105 : ∀ (l3 : Int32) (h : zz_Hp), ag105 (l3, h) → zz_G zKR zNR (d + 3) mX9_readAct (qV Q) 105 [some (.ref 0), none, some (.int l2), some (.int l3)] [] h := fun l3 h H => hag105 (l3, h) H
  replace H : w_X9_readAct_l105 ag105 Q l2 l3 h := H
  show zz_G zKR zNR (d + 3) mX9_readAct (qV Q) 105 [some (.ref 0), none, some (.int l2), some (.int l3)] [] h
  unfold w_X9_readAct_l105 at H
  refine zg_aload_n (pc := 105) dX9_readAct_105 rfl rfl ?_
  refine zg_getI (pc := 106) dX9_readAct_106 lf_X9_274 kR_0 (by decide) rfl ?_
  refine zg_if_ne (pc := 109) dX9_readAct_109 (tgt := 155) (by decide) (fun hc => ?_) (fun hc => ?_)
  · replace H := H.1 hc
    exact sd_X9_readAct_j155  H
  · replace H := H.2 hc
    refine zg_iload_n (pc := 112) dX9_readAct_112 rfl rfl ?_
    refine zg_iconst (pc := 113) dX9_readAct_113 (v := 4) (by decide) ?_
    refine zg_icmp_ge (pc := 114) dX9_readAct_114 (tgt := 155) (by decide) (fun hc => ?_) (fun hc => ?_)
    · replace H := H.1 hc
      exact sd_X9_readAct_j155  H
    · replace H := H.2 hc
      refine zg_aload_n (pc := 117) dX9_readAct_117 rfl rfl ?_
      refine zg_callVi (st := []) (pc := 118) dX9_readAct_118 (As := []) lk_X9_271 kR_0 (by decide) rfl (Nat.le_of_ble_eq_true rfl) (Nat.le_of_ble_eq_true rfl) (sd_X9_here (d + 2) H) (fun r31 h30 H => ?_)
      refine zg_bipush (pc := 121) dX9_readAct_121 (v := 44) (by decide) ?_
      refine zg_icmp_ne (pc := 123) dX9_readAct_123 (tgt := 155) (by decide) (fun hc => ?_) (fun hc => ?_)
      · replace H := H.1 hc
        exact sd_X9_readAct_j155  H
      · replace H := H.2 hc
        refine zg_aload_n (pc := 126) dX9_readAct_126 rfl rfl ?_
        refine zg_dup (pc := 127) dX9_readAct_127 rfl ?_
        refine zg_getI (pc := 128) dX9_readAct_128 lf_X9_265 kR_0 (by decide) rfl ?_
        refine zg_iconst (pc := 131) dX9_readAct_131 (v := 1) (by decide) ?_
        refine zg_iadd (pc := 132) dX9_readAct_132 ?_
        refine zg_putI (pc := 133) dX9_readAct_133 lp_X9_265 kR_0 (by decide) rfl ?_
        generalize eh32 : zz_uI h30 0 51 ((h30.1 0 51) + 1) = h32
        replace H := H h32 eh32.symm
        refine zg_aload_n (pc := 136) dX9_readAct_136 rfl rfl ?_
        refine zg_getR (pc := 137) dX9_readAct_137 lf_X9_136 kR_0 (by decide) rfl ?_
        refine zg_iload_n (pc := 140) dX9_readAct_140 rfl rfl ?_
        refine zg_iload_n (pc := 141) dX9_readAct_141 rfl rfl ?_
        refine zg_iadd (pc := 142) dX9_readAct_142 ?_
        refine zg_aload_n (pc := 143) dX9_readAct_143 rfl rfl ?_
        refine zg_iconst (pc := 144) dX9_readAct_144 (v := 0) (by decide) ?_
        refine zg_callVi (st := [.int (l2 + l3), .ref 42]) (pc := 145) dX9_readAct_145 (As := [.int 0]) lk_X9_285 kR_0 (by decide) rfl (Nat.le_of_ble_eq_true rfl) (Nat.le_of_ble_eq_true rfl) (sd_X9_number d H) (fun r34 h33 H => ?_)
        obtain ⟨hb, H⟩ := H
        refine zg_iast (pc := 148) dX9_readAct_148 kR_42 (by decide) hb ?_
        generalize eh35 : zz_uI h33 42 (Int32.toNatClampNeg (l2 + l3)) r34 = h35
        replace H := H h35 eh35.symm
        refine zg_iinc (pc := 149) dX9_readAct_149 rfl (v := l3 + 1) rfl (by decide) (L' := [some (.ref 0), none, some (.int l2), some (.int (l3 + 1))]) rfl ?_
        refine zg_goto (pc := 152) dX9_readAct_152 (tgt := 105) (by decide) ?_
        exact hag105 (l3 + 1) _ H
set_option maxRecDepth 100000 in
theorem sd_X9_readAct_j35 {d : Nat} {Q : zz_Hp → Prop} {l1 : Int32}  {h : zz_Hp}  (H : w_X9_readAct_j35 Q l1 h) : zz_G zKR zNR (d + 3) mX9_readAct (qV Q) 35 [some (.ref 0), some (.int l1), none, none] [] h := by
  unfold w_X9_readAct_j35 at H
  refine zg_aload_n (pc := 35) dX9_readAct_35 rfl rfl ?_
  refine zg_dup (pc := 36) dX9_readAct_36 rfl ?_
  refine zg_getI (pc := 37) dX9_readAct_37 lf_X9_265 kR_0 (by decide) rfl ?_
  refine zg_iconst (pc := 40) dX9_readAct_40 (v := 1) (by decide) ?_
  refine zg_iadd (pc := 41) dX9_readAct_41 ?_
  refine zg_putI (pc := 42) dX9_readAct_42 lp_X9_265 kR_0 (by decide) rfl ?_
  generalize eh3 : zz_uI h 0 51 ((h.1 0 51) + 1) = h3
  replace H := H h3 eh3.symm
  refine zg_iconst (pc := 45) dX9_readAct_45 (v := 5) (by decide) ?_
  refine zg_aload_n (pc := 46) dX9_readAct_46 rfl rfl ?_
  refine zg_getI (pc := 47) dX9_readAct_47 lf_X9_282 kR_0 (by decide) rfl ?_
  refine zg_imul (pc := 50) dX9_readAct_50 ?_
  refine zg_istore_n (pc := 51) dX9_readAct_51 rfl (by decide) (L' := [some (.ref 0), some (.int l1), some (.int (5 * (h3.1 0 54))), none]) rfl ?_
  refine zg_aload_n (pc := 52) dX9_readAct_52 rfl rfl ?_
  refine zg_getR (pc := 53) dX9_readAct_53 lf_X9_130 kR_0 (by decide) rfl ?_
  refine zg_aload_n (pc := 56) dX9_readAct_56 rfl rfl ?_
  refine zg_getI (pc := 57) dX9_readAct_57 lf_X9_282 kR_0 (by decide) rfl ?_
  refine zg_iload_n (pc := 60) dX9_readAct_60 rfl rfl ?_
  obtain ⟨hb, H⟩ := H
  refine zg_iast (pc := 61) dX9_readAct_61 kR_40 (by decide) hb ?_
  generalize eh4 : zz_uI h3 40 (Int32.toNatClampNeg (h3.1 0 54)) l1 = h4
  replace H := H h4 eh4.symm
  refine zg_iconst (pc := 62) dX9_readAct_62 (v := 0) (by decide) ?_
  refine zg_istore_n (pc := 63) dX9_readAct_63 rfl (by decide) (L' := [some (.ref 0), some (.int l1), some (.int (5 * (h3.1 0 54))), some (.int 0)]) rfl ?_
  refine zg_aload_n (pc := 64) dX9_readAct_64 rfl rfl ?_
  refine zg_getR (pc := 65) dX9_readAct_65 lf_X9_136 kR_0 (by decide) rfl ?_
  refine zg_iload_n (pc := 68) dX9_readAct_68 rfl rfl ?_
  refine zg_aload_n (pc := 69) dX9_readAct_69 rfl rfl ?_
  refine zg_iconst (pc := 70) dX9_readAct_70 (v := 0) (by decide) ?_
  refine zg_callVi (st := [.int (5 * (h3.1 0 54)), .ref 42]) (pc := 71) dX9_readAct_71 (As := [.int 0]) lk_X9_285 kR_0 (by decide) rfl (Nat.le_of_ble_eq_true rfl) (Nat.le_of_ble_eq_true rfl) (sd_X9_number d H) (fun r6 h5 H => ?_)
  obtain ⟨hb, H⟩ := H
  refine zg_iast (pc := 74) dX9_readAct_74 kR_42 (by decide) hb ?_
  generalize eh7 : zz_uI h5 42 (Int32.toNatClampNeg (5 * (h3.1 0 54))) r6 = h7
  replace H := H h7 eh7.symm
  refine zg_iinc (pc := 75) dX9_readAct_75 rfl (v := 0 + 1) rfl (by decide) (L' := [some (.ref 0), some (.int l1), some (.int (5 * (h3.1 0 54))), some (.int (0 + 1))]) rfl ?_
  refine zg_iload_n (pc := 78) dX9_readAct_78 rfl rfl ?_
  refine zg_bipush (pc := 79) dX9_readAct_79 (v := 112) (by decide) ?_
  refine zg_icmp_ne (pc := 81) dX9_readAct_81 (tgt := 177) (by decide) (fun hc => ?_) (fun hc => ?_)
  · replace H := H.1 hc
    refine zg_aload_n (pc := 177) dX9_readAct_177 rfl rfl ?_
    refine zg_bipush (pc := 178) dX9_readAct_178 (v := 44) (by decide) ?_
    refine zg_callVv (st := []) (pc := 180) dX9_readAct_180 (As := [.int 44]) lk_X9_289 kR_0 (by decide) rfl (Nat.le_of_ble_eq_true rfl) (Nat.le_of_ble_eq_true rfl) (sd_X9_want (d + 1) H) (fun h8 H => ?_)
    refine zg_aload_n (pc := 183) dX9_readAct_183 rfl rfl ?_
    refine zg_getR (pc := 184) dX9_readAct_184 lf_X9_136 kR_0 (by decide) rfl ?_
    refine zg_iload_n (pc := 187) dX9_readAct_187 rfl rfl ?_
    refine zg_iconst (pc := 188) dX9_readAct_188 (v := 1) (by decide) ?_
    refine zg_iadd (pc := 189) dX9_readAct_189 ?_
    refine zg_aload_n (pc := 190) dX9_readAct_190 rfl rfl ?_
    refine zg_iconst (pc := 191) dX9_readAct_191 (v := 0) (by decide) ?_
    refine zg_callVi (st := [.int ((5 * (h3.1 0 54)) + 1), .ref 42]) (pc := 192) dX9_readAct_192 (As := [.int 0]) lk_X9_285 kR_0 (by decide) rfl (Nat.le_of_ble_eq_true rfl) (Nat.le_of_ble_eq_true rfl) (sd_X9_number d H) (fun r11 h10 H => ?_)
    obtain ⟨hb, H⟩ := H
    refine zg_iast (pc := 195) dX9_readAct_195 kR_42 (by decide) hb ?_
    generalize eh12 : zz_uI h10 42 (Int32.toNatClampNeg ((5 * (h3.1 0 54)) + 1)) r11 = h12
    replace H := H h12 eh12.symm
    refine zg_iload_n (pc := 196) dX9_readAct_196 rfl rfl ?_
    refine zg_bipush (pc := 197) dX9_readAct_197 (v := 116) (by decide) ?_
    refine zg_icmp_ne (pc := 199) dX9_readAct_199 (tgt := 221) (by decide) (fun hc => ?_) (fun hc => ?_)
    · replace H := H.1 hc
      refine zg_weak (L' := [some (.ref 0), none, none, some (.int (0 + 1))]) ⟨rfl, ⟨rfl, trivial⟩⟩ ?_
      exact sd_X9_readAct_j221  H
    · replace H := H.2 hc
      refine zg_aload_n (pc := 202) dX9_readAct_202 rfl rfl ?_
      refine zg_bipush (pc := 203) dX9_readAct_203 (v := 44) (by decide) ?_
      refine zg_callVv (st := []) (pc := 205) dX9_readAct_205 (As := [.int 44]) lk_X9_289 kR_0 (by decide) rfl (Nat.le_of_ble_eq_true rfl) (Nat.le_of_ble_eq_true rfl) (sd_X9_want (d + 1) H) (fun h15 H => ?_)
      refine zg_aload_n (pc := 208) dX9_readAct_208 rfl rfl ?_
      refine zg_getR (pc := 209) dX9_readAct_209 lf_X9_136 kR_0 (by decide) rfl ?_
      refine zg_iload_n (pc := 212) dX9_readAct_212 rfl rfl ?_
      refine zg_iconst (pc := 213) dX9_readAct_213 (v := 2) (by decide) ?_
      refine zg_iadd (pc := 214) dX9_readAct_214 ?_
      refine zg_aload_n (pc := 215) dX9_readAct_215 rfl rfl ?_
      refine zg_iconst (pc := 216) dX9_readAct_216 (v := 1) (by decide) ?_
      refine zg_callVi (st := [.int ((5 * (h3.1 0 54)) + 2), .ref 42]) (pc := 217) dX9_readAct_217 (As := [.int 1]) lk_X9_285 kR_0 (by decide) rfl (Nat.le_of_ble_eq_true rfl) (Nat.le_of_ble_eq_true rfl) (sd_X9_number d H) (fun r18 h17 H => ?_)
      obtain ⟨hb, H⟩ := H
      refine zg_iast (pc := 220) dX9_readAct_220 kR_42 (by decide) hb ?_
      generalize eh19 : zz_uI h17 42 (Int32.toNatClampNeg ((5 * (h3.1 0 54)) + 2)) r18 = h19
      replace H := H h19 eh19.symm
      refine zg_weak (L' := [some (.ref 0), none, none, some (.int (0 + 1))]) ⟨rfl, ⟨rfl, trivial⟩⟩ ?_
      exact sd_X9_readAct_j221  H
  · replace H := H.2 hc
    refine zg_aload_n (pc := 84) dX9_readAct_84 rfl rfl ?_
    refine zg_bipush (pc := 85) dX9_readAct_85 (v := 44) (by decide) ?_
    refine zg_callVv (st := []) (pc := 87) dX9_readAct_87 (As := [.int 44]) lk_X9_289 kR_0 (by decide) rfl (Nat.le_of_ble_eq_true rfl) (Nat.le_of_ble_eq_true rfl) (sd_X9_want (d + 1) H) (fun h20 H => ?_)
    refine zg_aload_n (pc := 90) dX9_readAct_90 rfl rfl ?_
    refine zg_getR (pc := 91) dX9_readAct_91 lf_X9_136 kR_0 (by decide) rfl ?_
    refine zg_iload_n (pc := 94) dX9_readAct_94 rfl rfl ?_
    refine zg_iconst (pc := 95) dX9_readAct_95 (v := 1) (by decide) ?_
    refine zg_iadd (pc := 96) dX9_readAct_96 ?_
    refine zg_aload_n (pc := 97) dX9_readAct_97 rfl rfl ?_
    refine zg_iconst (pc := 98) dX9_readAct_98 (v := 0) (by decide) ?_
    refine zg_callVi (st := [.int ((5 * (h3.1 0 54)) + 1), .ref 42]) (pc := 99) dX9_readAct_99 (As := [.int 0]) lk_X9_285 kR_0 (by decide) rfl (Nat.le_of_ble_eq_true rfl) (Nat.le_of_ble_eq_true rfl) (sd_X9_number d H) (fun r23 h22 H => ?_)
    obtain ⟨hb, H⟩ := H
    refine zg_iast (pc := 102) dX9_readAct_102 kR_42 (by decide) hb ?_
    generalize eh24 : zz_uI h22 42 (Int32.toNatClampNeg ((5 * (h3.1 0 54)) + 1)) r23 = h24
    replace H := H h24 eh24.symm
    refine zg_iconst (pc := 103) dX9_readAct_103 (v := 2) (by decide) ?_
    refine zg_istore_n (pc := 104) dX9_readAct_104 rfl (by decide) (L' := [some (.ref 0), some (.int l1), some (.int (5 * (h3.1 0 54))), some (.int 2)]) rfl ?_
    refine zg_weak (L' := [some (.ref 0), none, some (.int (5 * (h3.1 0 54))), some (.int 2)]) ⟨rfl, ⟨rfl, ⟨rfl, trivial⟩⟩⟩ ?_
    exact sd_X9_readAct_l105  H
set_option maxRecDepth 100000 in
theorem sd_X9_readAct (d : Nat)  {h : zz_Hp} {Q : zz_Hp → Prop} (H : w_X9_readAct  h Q) : zz_G zKR zNR (d + 3) mX9_readAct (qV Q) 0 (zz_L0 4 [.ref 0]) [] h := by
  show zz_G zKR zNR (d + 3) mX9_readAct (qV Q) 0 [some (.ref 0), none, none, none] [] h
  unfold w_X9_readAct at H
  refine zg_aload_n (pc := 0) dX9_readAct_0 rfl rfl ?_
  refine zg_callVi (st := []) (pc := 1) dX9_readAct_1 (As := []) lk_X9_271 kR_0 (by decide) rfl (Nat.le_of_ble_eq_true rfl) (Nat.le_of_ble_eq_true rfl) (sd_X9_here (d + 2) H) (fun r2 h1 H => ?_)
  refine zg_istore_n (pc := 4) dX9_readAct_4 rfl (by decide) (L' := [some (.ref 0), some (.int r2), none, none]) rfl ?_
  refine zg_iload_n (pc := 5) dX9_readAct_5 rfl rfl ?_
  refine zg_bipush (pc := 6) dX9_readAct_6 (v := 116) (by decide) ?_
  refine zg_icmp_eq (pc := 8) dX9_readAct_8 (tgt := 35) (by decide) (fun hc => ?_) (fun hc => ?_)
  · replace H := H.1 hc
    exact sd_X9_readAct_j35  H
  · replace H := H.2 hc
    refine zg_iload_n (pc := 11) dX9_readAct_11 rfl rfl ?_
    refine zg_bipush (pc := 12) dX9_readAct_12 (v := 112) (by decide) ?_
    refine zg_icmp_eq (pc := 14) dX9_readAct_14 (tgt := 35) (by decide) (fun hc => ?_) (fun hc => ?_)
    · replace H := H.1 hc
      exact sd_X9_readAct_j35  H
    · replace H := H.2 hc
      refine zg_iload_n (pc := 17) dX9_readAct_17 rfl rfl ?_
      refine zg_bipush (pc := 18) dX9_readAct_18 (v := 115) (by decide) ?_
      refine zg_icmp_eq (pc := 20) dX9_readAct_20 (tgt := 35) (by decide) (fun hc => ?_) (fun hc => ?_)
      · replace H := H.1 hc
        exact sd_X9_readAct_j35  H
      · replace H := H.2 hc
        refine zg_iload_n (pc := 23) dX9_readAct_23 rfl rfl ?_
        refine zg_bipush (pc := 24) dX9_readAct_24 (v := 109) (by decide) ?_
        refine zg_icmp_eq (pc := 26) dX9_readAct_26 (tgt := 35) (by decide) (fun hc => ?_) (fun hc => ?_)
        · replace H := H.1 hc
          exact sd_X9_readAct_j35  H
        · replace H := H.2 hc
          refine zg_aload_n (pc := 29) dX9_readAct_29 rfl rfl ?_
          refine zg_iconst (pc := 30) dX9_readAct_30 (v := 1) (by decide) ?_
          refine zg_putZ (pc := 31) dX9_readAct_31 (Or.inr rfl) lp_X9_274 kR_0 (by decide) rfl ?_
          generalize eh36 : zz_uI h1 0 53 1 = h36
          replace H := H h36 eh36.symm
          exact zg_vret (pc := 34) dX9_readAct_34 rfl ⟨rfl, H⟩
set_option maxRecDepth 100000 in
theorem sd_X9_read_l87 {d : Nat} {Q : Int32 → zz_Hp → Prop}  {l1 : Int32} {h : zz_Hp}  (H : lp (fun s ag => w_X9_read_l87 ag Q  s.1 s.2) (l1, h)) : zz_G zKR zNR (d + 12) mX9_read (qI Q) 87 [some (.ref 0), some (.int l1)] [] h := by
  refine lp_sound (G := fun (s : Int32 × zz_Hp) => zz_G zKR zNR (d + 12) mX9_read (qI Q) 87 [some (.ref 0), some (.int s.1)] [] s.2) ?_ H
  clear H
  intro s ag87 hag87 H
  obtain ⟨l1, h⟩ := s
  replace hag87 : ∀ (l1 : Int32) (h : zz_Hp), ag87 (l1, h) → zz_G zKR zNR (d + 12) mX9_read (qI Q) 87 [some (.ref 0), some (.int l1)] [] h := fun l1 h H => hag87 (l1, h) H
  replace H : w_X9_read_l87 ag87 Q  l1 h := H
  show zz_G zKR zNR (d + 12) mX9_read (qI Q) 87 [some (.ref 0), some (.int l1)] [] h
  unfold w_X9_read_l87 at H
  refine zg_iload_n (pc := 87) dX9_read_87 rfl rfl ?_
  refine zg_aload_n (pc := 88) dX9_read_88 rfl rfl ?_
  refine zg_getI (pc := 89) dX9_read_89 lf_X9_282 kR_0 (by decide) rfl ?_
  refine zg_icmp_ge (pc := 92) dX9_read_92 (tgt := 120) (by decide) (fun hc => ?_) (fun hc => ?_)
  · replace H := H.1 hc
    refine zg_aload_n (pc := 120) dX9_read_120 rfl rfl ?_
    refine zg_getI (pc := 121) dX9_read_121 lf_X9_282 kR_0 (by decide) rfl ?_
    exact zg_iret (pc := 124) dX9_read_124 rfl ⟨_, rfl, H⟩
  · replace H := H.2 hc
    refine zg_aload_n (pc := 95) dX9_read_95 rfl rfl ?_
    refine zg_iload_n (pc := 96) dX9_read_96 rfl rfl ?_
    refine zg_callVi (st := []) (pc := 97) dX9_read_97 (As := [.int l1]) lk_X9_298 kR_0 (by decide) rfl (Nat.le_of_ble_eq_true rfl) (Nat.le_of_ble_eq_true rfl) (sd_X9_isDone d H) (fun r9 h8 H => ?_)
    refine zg_if_ne (pc := 100) dX9_read_100 (tgt := 109) (by decide) (fun hc => ?_) (fun hc => ?_)
    · replace H := H.1 hc
      refine zg_aload_n (pc := 109) dX9_read_109 rfl rfl ?_
      refine zg_iconst (pc := 110) dX9_read_110 (v := 0) (by decide) ?_
      refine zg_putI (pc := 111) dX9_read_111 lp_X9_206 kR_0 (by decide) rfl ?_
      generalize eh10 : zz_uI h8 0 16 0 = h10
      replace H := H h10 eh10.symm
      refine zg_iinc (pc := 114) dX9_read_114 rfl (v := l1 + 1) rfl (by decide) (L' := [some (.ref 0), some (.int (l1 + 1))]) rfl ?_
      refine zg_goto (pc := 117) dX9_read_117 (tgt := 87) (by decide) ?_
      exact hag87 (l1 + 1) _ H
    · replace H := H.2 hc
      refine zg_sipush (pc := 103) dX9_read_103 (v := (-200)) (by decide) ?_
      refine zg_iload_n (pc := 106) dX9_read_106 rfl rfl ?_
      refine zg_isub (pc := 107) dX9_read_107 ?_
      exact zg_iret (pc := 108) dX9_read_108 rfl ⟨_, rfl, H⟩
set_option maxRecDepth 100000 in
theorem sd_X9_read_j70 {d : Nat} {Q : Int32 → zz_Hp → Prop}   {h : zz_Hp}  (H : w_X9_read_j70 Q  h) : zz_G zKR zNR (d + 12) mX9_read (qI Q) 70 [some (.ref 0), none] [] h := by
  unfold w_X9_read_j70 at H
  refine zg_aload_n (pc := 70) dX9_read_70 rfl rfl ?_
  refine zg_getI (pc := 71) dX9_read_71 lf_X9_274 kR_0 (by decide) rfl ?_
  refine zg_if_eq (pc := 74) dX9_read_74 (tgt := 85) (by decide) (fun hc => ?_) (fun hc => ?_)
  · replace H := H.1 hc
    refine zg_iconst (pc := 85) dX9_read_85 (v := 0) (by decide) ?_
    refine zg_istore_n (pc := 86) dX9_read_86 rfl (by decide) (L' := [some (.ref 0), some (.int 0)]) rfl ?_
    exact sd_X9_read_l87  H
  · replace H := H.2 hc
    refine zg_bipush (pc := 77) dX9_read_77 (v := (-100)) (by decide) ?_
    refine zg_aload_n (pc := 79) dX9_read_79 rfl rfl ?_
    refine zg_getI (pc := 80) dX9_read_80 lf_X9_265 kR_0 (by decide) rfl ?_
    refine zg_isub (pc := 83) dX9_read_83 ?_
    exact zg_iret (pc := 84) dX9_read_84 rfl ⟨_, rfl, H⟩
set_option maxRecDepth 100000 in
theorem sd_X9_read_l32 {d : Nat} {Q : Int32 → zz_Hp → Prop}   {h : zz_Hp}  (H : lp (fun s ag => w_X9_read_l32 ag Q  s) (h)) : zz_G zKR zNR (d + 12) mX9_read (qI Q) 32 [some (.ref 0), none] [] h := by
  refine lp_sound (G := fun (s : zz_Hp) => zz_G zKR zNR (d + 12) mX9_read (qI Q) 32 [some (.ref 0), none] [] s) ?_ H
  clear H
  intro h ag32 hag32 H
  have _ := h
  replace hag32 : ∀  (h : zz_Hp), ag32 (h) → zz_G zKR zNR (d + 12) mX9_read (qI Q) 32 [some (.ref 0), none] [] h := fun  h H => hag32 (h) H
  replace H : w_X9_read_l32 ag32 Q   h := H
  show zz_G zKR zNR (d + 12) mX9_read (qI Q) 32 [some (.ref 0), none] [] h
  unfold w_X9_read_l32 at H
  refine zg_aload_n (pc := 32) dX9_read_32 rfl rfl ?_
  refine zg_getI (pc := 33) dX9_read_33 lf_X9_274 kR_0 (by decide) rfl ?_
  refine zg_if_ne (pc := 36) dX9_read_36 (tgt := 70) (by decide) (fun hc => ?_) (fun hc => ?_)
  · replace H := H.1 hc
    exact sd_X9_read_j70  H
  · replace H := H.2 hc
    refine zg_aload_n (pc := 39) dX9_read_39 rfl rfl ?_
    refine zg_getI (pc := 40) dX9_read_40 lf_X9_265 kR_0 (by decide) rfl ?_
    refine zg_aload_n (pc := 43) dX9_read_43 rfl rfl ?_
    refine zg_getI (pc := 44) dX9_read_44 lf_X9_268 kR_0 (by decide) rfl ?_
    refine zg_icmp_ge (pc := 47) dX9_read_47 (tgt := 70) (by decide) (fun hc => ?_) (fun hc => ?_)
    · replace H := H.1 hc
      exact sd_X9_read_j70  H
    · replace H := H.2 hc
      refine zg_aload_n (pc := 50) dX9_read_50 rfl rfl ?_
      refine zg_bipush (pc := 51) dX9_read_51 (v := 59) (by decide) ?_
      refine zg_callVv (st := []) (pc := 53) dX9_read_53 (As := [.int 59]) lk_X9_289 kR_0 (by decide) rfl (Nat.le_of_ble_eq_true rfl) (Nat.le_of_ble_eq_true rfl) (sd_X9_want (d + 10) H) (fun h11 H => ?_)
      refine zg_aload_n (pc := 56) dX9_read_56 rfl rfl ?_
      refine zg_getI (pc := 57) dX9_read_57 lf_X9_274 kR_0 (by decide) rfl ?_
      refine zg_if_ne (pc := 60) dX9_read_60 (tgt := 32) (by decide) (fun hc => ?_) (fun hc => ?_)
      · replace H := H.1 hc
        exact hag32  _ H
      · replace H := H.2 hc
        refine zg_aload_n (pc := 63) dX9_read_63 rfl rfl ?_
        refine zg_callVv (st := []) (pc := 64) dX9_read_64 (As := []) lk_X9_295 kR_0 (by decide) rfl (Nat.le_of_ble_eq_true rfl) (Nat.le_of_ble_eq_true rfl) (sd_X9_readAct (d + 8) H) (fun h13 H => ?_)
        refine zg_goto (pc := 67) dX9_read_67 (tgt := 32) (by decide) ?_
        exact hag32  _ H
set_option maxRecDepth 100000 in
theorem sd_X9_read (d : Nat)  {h : zz_Hp} {Q : Int32 → zz_Hp → Prop} (H : w_X9_read  h Q) : zz_G zKR zNR (d + 12) mX9_read (qI Q) 0 (zz_L0 2 [.ref 0]) [] h := by
  show zz_G zKR zNR (d + 12) mX9_read (qI Q) 0 [some (.ref 0), none] [] h
  unfold w_X9_read at H
  refine zg_aload_n (pc := 0) dX9_read_0 rfl rfl ?_
  refine zg_iconst (pc := 1) dX9_read_1 (v := 0) (by decide) ?_
  refine zg_putI (pc := 2) dX9_read_2 lp_X9_265 kR_0 (by decide) rfl ?_
  generalize eh1 : zz_uI h 0 51 0 = h1
  replace H := H h1 eh1.symm
  refine zg_aload_n (pc := 5) dX9_read_5 rfl rfl ?_
  refine zg_aload_n (pc := 6) dX9_read_6 rfl rfl ?_
  refine zg_getI (pc := 7) dX9_read_7 lf_X9_262 kR_0 (by decide) rfl ?_
  refine zg_putI (pc := 10) dX9_read_10 lp_X9_268 kR_0 (by decide) rfl ?_
  generalize eh2 : zz_uI h1 0 52 (h1.1 0 20) = h2
  replace H := H h2 eh2.symm
  refine zg_aload_n (pc := 13) dX9_read_13 rfl rfl ?_
  refine zg_iconst (pc := 14) dX9_read_14 (v := 0) (by decide) ?_
  refine zg_putI (pc := 15) dX9_read_15 lp_X9_262 kR_0 (by decide) rfl ?_
  generalize eh3 : zz_uI h2 0 20 0 = h3
  replace H := H h3 eh3.symm
  refine zg_aload_n (pc := 18) dX9_read_18 rfl rfl ?_
  refine zg_iconst (pc := 19) dX9_read_19 (v := 0) (by decide) ?_
  refine zg_putZ (pc := 20) dX9_read_20 (Or.inl rfl) lp_X9_274 kR_0 (by decide) rfl ?_
  generalize eh4 : zz_uI h3 0 53 0 = h4
  replace H := H h4 eh4.symm
  refine zg_aload_n (pc := 23) dX9_read_23 rfl rfl ?_
  refine zg_iconst (pc := 24) dX9_read_24 (v := 0) (by decide) ?_
  refine zg_putI (pc := 25) dX9_read_25 lp_X9_282 kR_0 (by decide) rfl ?_
  generalize eh5 : zz_uI h4 0 54 0 = h5
  replace H := H h5 eh5.symm
  refine zg_aload_n (pc := 28) dX9_read_28 rfl rfl ?_
  refine zg_callVv (st := []) (pc := 29) dX9_read_29 (As := []) lk_X9_295 kR_0 (by decide) rfl (Nat.le_of_ble_eq_true rfl) (Nat.le_of_ble_eq_true rfl) (sd_X9_readAct (d + 8) H) (fun h6 H => ?_)
  exact sd_X9_read_l32  H
set_option maxRecDepth 100000 in
theorem sd_X9_row_l34 {d : Nat} {Q : Int32 → zz_Hp → Prop} {l1 : Int32} {l2 : Int32} {l3 : Int32} {h : zz_Hp}  (H : lp (fun s ag => w_X9_row_l34 ag Q l1 l2 s.1 s.2) (l3, h)) : zz_G zKR zNR (d + 1) mX9_row (qI Q) 34 [some (.ref 0), some (.int l1), some (.int l2), some (.int l3)] [] h := by
  refine lp_sound (G := fun (s : Int32 × zz_Hp) => zz_G zKR zNR (d + 1) mX9_row (qI Q) 34 [some (.ref 0), some (.int l1), some (.int l2), some (.int s.1)] [] s.2) ?_ H
  clear H
  intro s ag34 hag34 H
  obtain ⟨l3, h⟩ := s
  replace hag34 : ∀ (l3 : Int32) (h : zz_Hp), ag34 (l3, h) → zz_G zKR zNR (d + 1) mX9_row (qI Q) 34 [some (.ref 0), some (.int l1), some (.int l2), some (.int l3)] [] h := fun l3 h H => hag34 (l3, h) H
  replace H : w_X9_row_l34 ag34 Q l1 l2 l3 h := H
  show zz_G zKR zNR (d + 1) mX9_row (qI Q) 34 [some (.ref 0), some (.int l1), some (.int l2), some (.int l3)] [] h
  unfold w_X9_row_l34 at H
  refine zg_iload_n (pc := 34) dX9_row_34 rfl rfl ?_
  refine zg_iload_n (pc := 35) dX9_row_35 rfl rfl ?_
  refine zg_icmp_ge (pc := 36) dX9_row_36 (tgt := 57) (by decide) (fun hc => ?_) (fun hc => ?_)
  · replace H := H.1 hc
    refine zg_iconst (pc := 57) dX9_row_57 (v := 1) (by decide) ?_
    exact zg_iret (pc := 58) dX9_row_58 rfl ⟨_, rfl, H⟩
  · replace H := H.2 hc
    refine zg_aload_n (pc := 39) dX9_row_39 rfl rfl ?_
    refine zg_getR (pc := 40) dX9_row_40 lf_X9_63 kR_0 (by decide) rfl ?_
    refine zg_bipush (pc := 43) dX9_row_43 (v := 40) (by decide) ?_
    refine zg_iload_n (pc := 45) dX9_row_45 rfl rfl ?_
    refine zg_imul (pc := 46) dX9_row_46 ?_
    refine zg_iload_n (pc := 47) dX9_row_47 rfl rfl ?_
    refine zg_iadd (pc := 48) dX9_row_48 ?_
    refine zg_iconst (pc := 49) dX9_row_49 (v := 0) (by decide) ?_
    obtain ⟨hb, H⟩ := H
    refine zg_iast (pc := 50) dX9_row_50 kR_18 (by decide) hb ?_
    generalize eh4 : zz_uI h 18 (Int32.toNatClampNeg ((40 * l1) + l3)) 0 = h4
    replace H := H h4 eh4.symm
    refine zg_iinc (pc := 51) dX9_row_51 rfl (v := l3 + 1) rfl (by decide) (L' := [some (.ref 0), some (.int l1), some (.int l2), some (.int (l3 + 1))]) rfl ?_
    refine zg_goto (pc := 54) dX9_row_54 (tgt := 34) (by decide) ?_
    exact hag34 (l3 + 1) _ H
set_option maxRecDepth 100000 in
theorem sd_X9_row (d : Nat) {l1 : Int32} {l2 : Int32} {h : zz_Hp} {Q : Int32 → zz_Hp → Prop} (H : w_X9_row l1 l2 h Q) : zz_G zKR zNR (d + 1) mX9_row (qI Q) 0 (zz_L0 4 [.ref 0, .int l1, .int l2]) [] h := by
  show zz_G zKR zNR (d + 1) mX9_row (qI Q) 0 [some (.ref 0), some (.int l1), some (.int l2), none] [] h
  unfold w_X9_row at H
  refine zg_iload_n (pc := 0) dX9_row_0 rfl rfl ?_
  refine zg_iconst (pc := 1) dX9_row_1 (v := 0) (by decide) ?_
  refine zg_iconst (pc := 2) dX9_row_2 (v := 2) (by decide) ?_
  refine zg_callSi (st := []) (pc := 3) dX9_row_3 (As := [.int l1, .int 0, .int 2]) lk_X9_143 rfl (Nat.le_of_ble_eq_true rfl) (Nat.le_of_ble_eq_true rfl) (sd_X9_in d H) (fun r2 h1 H => ?_)
  refine zg_if_eq (pc := 6) dX9_row_6 (tgt := 15) (by decide) (fun hc => ?_) (fun hc => ?_)
  · replace H := H.1 hc
    refine zg_iconst (pc := 15) dX9_row_15 (v := (-1)) (by decide) ?_
    exact zg_iret (pc := 16) dX9_row_16 rfl ⟨_, rfl, H⟩
  · replace H := H.2 hc
    refine zg_iload_n (pc := 9) dX9_row_9 rfl rfl ?_
    refine zg_bipush (pc := 10) dX9_row_10 (v := 40) (by decide) ?_
    refine zg_icmp_le (pc := 12) dX9_row_12 (tgt := 17) (by decide) (fun hc => ?_) (fun hc => ?_)
    · replace H := H.1 hc
      refine zg_iload_n (pc := 17) dX9_row_17 rfl rfl ?_
      refine zg_iconst (pc := 18) dX9_row_18 (v := (-1)) (by decide) ?_
      refine zg_icmp_ge (pc := 19) dX9_row_19 (tgt := 25) (by decide) (fun hc => ?_) (fun hc => ?_)
      · replace H := H.1 hc
        refine zg_aload_n (pc := 25) dX9_row_25 rfl rfl ?_
        refine zg_getR (pc := 26) dX9_row_26 lf_X9_60 kR_0 (by decide) rfl ?_
        refine zg_iload_n (pc := 29) dX9_row_29 rfl rfl ?_
        refine zg_iload_n (pc := 30) dX9_row_30 rfl rfl ?_
        obtain ⟨hb, H⟩ := H
        refine zg_iast (pc := 31) dX9_row_31 kR_17 (by decide) hb ?_
        generalize eh3 : zz_uI h1 17 (Int32.toNatClampNeg l1) l2 = h3
        replace H := H h3 eh3.symm
        refine zg_iconst (pc := 32) dX9_row_32 (v := 0) (by decide) ?_
        refine zg_istore_n (pc := 33) dX9_row_33 rfl (by decide) (L' := [some (.ref 0), some (.int l1), some (.int l2), some (.int 0)]) rfl ?_
        exact sd_X9_row_l34  H
      · replace H := H.2 hc
        refine zg_bipush (pc := 22) dX9_row_22 (v := (-14)) (by decide) ?_
        exact zg_iret (pc := 24) dX9_row_24 rfl ⟨_, rfl, H⟩
    · replace H := H.2 hc
      refine zg_iconst (pc := 15) dX9_row_15 (v := (-1)) (by decide) ?_
      exact zg_iret (pc := 16) dX9_row_16 rfl ⟨_, rfl, H⟩
set_option maxRecDepth 100000 in
theorem sd_X9_put (d : Nat) {l1 : Int32} {l2 : Int32} {l3 : Int32} {h : zz_Hp} {Q : Int32 → zz_Hp → Prop} (H : w_X9_put l1 l2 l3 h Q) : zz_G zKR zNR (d + 1) mX9_put (qI Q) 0 (zz_L0 4 [.ref 0, .int l1, .int l2, .int l3]) [] h := by
  show zz_G zKR zNR (d + 1) mX9_put (qI Q) 0 [some (.ref 0), some (.int l1), some (.int l2), some (.int l3)] [] h
  unfold w_X9_put at H
  refine zg_iload_n (pc := 0) dX9_put_0 rfl rfl ?_
  refine zg_iconst (pc := 1) dX9_put_1 (v := 0) (by decide) ?_
  refine zg_iconst (pc := 2) dX9_put_2 (v := 2) (by decide) ?_
  refine zg_callSi (st := []) (pc := 3) dX9_put_3 (As := [.int l1, .int 0, .int 2]) lk_X9_143 rfl (Nat.le_of_ble_eq_true rfl) (Nat.le_of_ble_eq_true rfl) (sd_X9_in d H) (fun r2 h1 H => ?_)
  refine zg_if_ne (pc := 6) dX9_put_6 (tgt := 11) (by decide) (fun hc => ?_) (fun hc => ?_)
  · replace H := H.1 hc
    refine zg_aload_n (pc := 11) dX9_put_11 rfl rfl ?_
    refine zg_getR (pc := 12) dX9_put_12 lf_X9_60 kR_0 (by decide) rfl ?_
    refine zg_iload_n (pc := 15) dX9_put_15 rfl rfl ?_
    obtain ⟨hb, H⟩ := H
    refine zg_iald (pc := 16) dX9_put_16 kR_17 (by decide) hb ?_
    refine zg_if_ge (pc := 17) dX9_put_17 (tgt := 23) (by decide) (fun hc => ?_) (fun hc => ?_)
    · replace H := H.1 hc
      refine zg_iload_n (pc := 23) dX9_put_23 rfl rfl ?_
      refine zg_iconst (pc := 24) dX9_put_24 (v := 0) (by decide) ?_
      refine zg_aload_n (pc := 25) dX9_put_25 rfl rfl ?_
      refine zg_getR (pc := 26) dX9_put_26 lf_X9_60 kR_0 (by decide) rfl ?_
      refine zg_iload_n (pc := 29) dX9_put_29 rfl rfl ?_
      obtain ⟨hb, H⟩ := H
      refine zg_iald (pc := 30) dX9_put_30 kR_17 (by decide) hb ?_
      refine zg_iconst (pc := 31) dX9_put_31 (v := 1) (by decide) ?_
      refine zg_isub (pc := 32) dX9_put_32 ?_
      refine zg_callSi (st := []) (pc := 33) dX9_put_33 (As := [.int l2, .int 0, .int ((h1.1 17 (Int32.toNatClampNeg l1)) - 1)]) lk_X9_143 rfl (Nat.le_of_ble_eq_true rfl) (Nat.le_of_ble_eq_true rfl) (sd_X9_in d H) (fun r4 h3 H => ?_)
      refine zg_if_ne (pc := 36) dX9_put_36 (tgt := 42) (by decide) (fun hc => ?_) (fun hc => ?_)
      · replace H := H.1 hc
        refine zg_aload_n (pc := 42) dX9_put_42 rfl rfl ?_
        refine zg_getR (pc := 43) dX9_put_43 lf_X9_63 kR_0 (by decide) rfl ?_
        refine zg_bipush (pc := 46) dX9_put_46 (v := 40) (by decide) ?_
        refine zg_iload_n (pc := 48) dX9_put_48 rfl rfl ?_
        refine zg_imul (pc := 49) dX9_put_49 ?_
        refine zg_iload_n (pc := 50) dX9_put_50 rfl rfl ?_
        refine zg_iadd (pc := 51) dX9_put_51 ?_
        refine zg_iload_n (pc := 52) dX9_put_52 rfl rfl ?_
        obtain ⟨hb, H⟩ := H
        refine zg_iast (pc := 53) dX9_put_53 kR_18 (by decide) hb ?_
        generalize eh5 : zz_uI h3 18 (Int32.toNatClampNeg ((40 * l1) + l2)) l3 = h5
        replace H := H h5 eh5.symm
        refine zg_iconst (pc := 54) dX9_put_54 (v := 1) (by decide) ?_
        exact zg_iret (pc := 55) dX9_put_55 rfl ⟨_, rfl, H⟩
      · replace H := H.2 hc
        refine zg_bipush (pc := 39) dX9_put_39 (v := (-13)) (by decide) ?_
        exact zg_iret (pc := 41) dX9_put_41 rfl ⟨_, rfl, H⟩
    · replace H := H.2 hc
      refine zg_bipush (pc := 20) dX9_put_20 (v := (-11)) (by decide) ?_
      exact zg_iret (pc := 22) dX9_put_22 rfl ⟨_, rfl, H⟩
  · replace H := H.2 hc
    refine zg_iconst (pc := 9) dX9_put_9 (v := (-1)) (by decide) ?_
    exact zg_iret (pc := 10) dX9_put_10 rfl ⟨_, rfl, H⟩
set_option maxRecDepth 100000 in
theorem sd_X9_get (d : Nat) {l1 : Int32} {l2 : Int32} {h : zz_Hp} {Q : Int32 → zz_Hp → Prop} (H : w_X9_get l1 l2 h Q) : zz_G zKR zNR (d + 1) mX9_get (qI Q) 0 (zz_L0 3 [.ref 0, .int l1, .int l2]) [] h := by
  show zz_G zKR zNR (d + 1) mX9_get (qI Q) 0 [some (.ref 0), some (.int l1), some (.int l2)] [] h
  unfold w_X9_get at H
  refine zg_iload_n (pc := 0) dX9_get_0 rfl rfl ?_
  refine zg_iconst (pc := 1) dX9_get_1 (v := 0) (by decide) ?_
  refine zg_iconst (pc := 2) dX9_get_2 (v := 2) (by decide) ?_
  refine zg_callSi (st := []) (pc := 3) dX9_get_3 (As := [.int l1, .int 0, .int 2]) lk_X9_143 rfl (Nat.le_of_ble_eq_true rfl) (Nat.le_of_ble_eq_true rfl) (sd_X9_in d H) (fun r2 h1 H => ?_)
  refine zg_if_eq (pc := 6) dX9_get_6 (tgt := 39) (by decide) (fun hc => ?_) (fun hc => ?_)
  · replace H := H.1 hc
    refine zg_ldc (pc := 39) dX9_get_39 lc_X9_209 ?_
    exact zg_iret (pc := 41) dX9_get_41 rfl ⟨_, rfl, H⟩
  · replace H := H.2 hc
    refine zg_iload_n (pc := 9) dX9_get_9 rfl rfl ?_
    refine zg_iconst (pc := 10) dX9_get_10 (v := 0) (by decide) ?_
    refine zg_aload_n (pc := 11) dX9_get_11 rfl rfl ?_
    refine zg_getR (pc := 12) dX9_get_12 lf_X9_60 kR_0 (by decide) rfl ?_
    refine zg_iload_n (pc := 15) dX9_get_15 rfl rfl ?_
    obtain ⟨hb, H⟩ := H
    refine zg_iald (pc := 16) dX9_get_16 kR_17 (by decide) hb ?_
    refine zg_iconst (pc := 17) dX9_get_17 (v := 1) (by decide) ?_
    refine zg_isub (pc := 18) dX9_get_18 ?_
    refine zg_callSi (st := []) (pc := 19) dX9_get_19 (As := [.int l2, .int 0, .int ((h1.1 17 (Int32.toNatClampNeg l1)) - 1)]) lk_X9_143 rfl (Nat.le_of_ble_eq_true rfl) (Nat.le_of_ble_eq_true rfl) (sd_X9_in d H) (fun r4 h3 H => ?_)
    refine zg_if_eq (pc := 22) dX9_get_22 (tgt := 39) (by decide) (fun hc => ?_) (fun hc => ?_)
    · replace H := H.1 hc
      refine zg_ldc (pc := 39) dX9_get_39 lc_X9_209 ?_
      exact zg_iret (pc := 41) dX9_get_41 rfl ⟨_, rfl, H⟩
    · replace H := H.2 hc
      refine zg_aload_n (pc := 25) dX9_get_25 rfl rfl ?_
      refine zg_getR (pc := 26) dX9_get_26 lf_X9_63 kR_0 (by decide) rfl ?_
      refine zg_bipush (pc := 29) dX9_get_29 (v := 40) (by decide) ?_
      refine zg_iload_n (pc := 31) dX9_get_31 rfl rfl ?_
      refine zg_imul (pc := 32) dX9_get_32 ?_
      refine zg_iload_n (pc := 33) dX9_get_33 rfl rfl ?_
      refine zg_iadd (pc := 34) dX9_get_34 ?_
      obtain ⟨hb, H⟩ := H
      refine zg_iald (pc := 35) dX9_get_35 kR_18 (by decide) hb ?_
      refine zg_goto (pc := 36) dX9_get_36 (tgt := 41) (by decide) ?_
      exact zg_iret (pc := 41) dX9_get_41 rfl ⟨_, rfl, H⟩
set_option maxRecDepth 100000 in
theorem sd_X9_film_l70 {d : Nat} {Q : Int32 → zz_Hp → Prop} {l1 : Int32} {l2 : Int32} {l3 : Int32} {l4 : Int32} {l5 : Int32} {l6 : Int32} {h : zz_Hp}  (H : lp (fun s ag => w_X9_film_l70 ag Q l1 l2 l3 l4 l5 s.1 s.2) (l6, h)) : zz_G zKR zNR (d + 8) mX9_film (qI Q) 70 [some (.ref 0), some (.int l1), some (.int l2), some (.int l3), some (.int l4), some (.int l5), some (.int l6)] [] h := by
  refine lp_sound (G := fun (s : Int32 × zz_Hp) => zz_G zKR zNR (d + 8) mX9_film (qI Q) 70 [some (.ref 0), some (.int l1), some (.int l2), some (.int l3), some (.int l4), some (.int l5), some (.int s.1)] [] s.2) ?_ H
  clear H
  intro s ag70 hag70 H
  obtain ⟨l6, h⟩ := s
  replace hag70 : ∀ (l6 : Int32) (h : zz_Hp), ag70 (l6, h) → zz_G zKR zNR (d + 8) mX9_film (qI Q) 70 [some (.ref 0), some (.int l1), some (.int l2), some (.int l3), some (.int l4), some (.int l5), some (.int l6)] [] h := fun l6 h H => hag70 (l6, h) H
  replace H : w_X9_film_l70 ag70 Q l1 l2 l3 l4 l5 l6 h := H
  show zz_G zKR zNR (d + 8) mX9_film (qI Q) 70 [some (.ref 0), some (.int l1), some (.int l2), some (.int l3), some (.int l4), some (.int l5), some (.int l6)] [] h
  unfold w_X9_film_l70 at H
  refine zg_iload (pc := 70) dX9_film_70 rfl ?_
  refine zg_iload_n (pc := 72) dX9_film_72 rfl rfl ?_
  refine zg_icmp_ge (pc := 73) dX9_film_73 (tgt := 108) (by decide) (fun hc => ?_) (fun hc => ?_)
  · replace H := H.1 hc
    refine zg_aload_n (pc := 108) dX9_film_108 rfl rfl ?_
    refine zg_getR (pc := 109) dX9_film_109 lf_X9_24 kR_0 (by decide) rfl ?_
    refine zg_iload (pc := 112) dX9_film_112 rfl ?_
    refine zg_iload (pc := 114) dX9_film_114 rfl ?_
    obtain ⟨hb, H⟩ := H
    refine zg_iast (pc := 116) dX9_film_116 kR_5 (by decide) hb ?_
    generalize eh12 : zz_uI h 5 (Int32.toNatClampNeg l4) l5 = h12
    replace H := H h12 eh12.symm
    refine zg_iload_n (pc := 117) dX9_film_117 rfl rfl ?_
    exact zg_iret (pc := 118) dX9_film_118 rfl ⟨_, rfl, H⟩
  · replace H := H.2 hc
    refine zg_aload_n (pc := 76) dX9_film_76 rfl rfl ?_
    refine zg_getR (pc := 77) dX9_film_77 lf_X9_24 kR_0 (by decide) rfl ?_
    refine zg_iload (pc := 80) dX9_film_80 rfl ?_
    refine zg_iload (pc := 82) dX9_film_82 rfl ?_
    obtain ⟨hb, H⟩ := H
    refine zg_iast (pc := 84) dX9_film_84 kR_5 (by decide) hb ?_
    generalize eh13 : zz_uI h 5 (Int32.toNatClampNeg l4) l6 = h13
    replace H := H h13 eh13.symm
    refine zg_aload_n (pc := 85) dX9_film_85 rfl rfl ?_
    refine zg_getR (pc := 86) dX9_film_86 lf_X9_63 kR_0 (by decide) rfl ?_
    refine zg_bipush (pc := 89) dX9_film_89 (v := 40) (by decide) ?_
    refine zg_iload_n (pc := 91) dX9_film_91 rfl rfl ?_
    refine zg_imul (pc := 92) dX9_film_92 ?_
    refine zg_iload (pc := 93) dX9_film_93 rfl ?_
    refine zg_iadd (pc := 95) dX9_film_95 ?_
    refine zg_aload_n (pc := 96) dX9_film_96 rfl rfl ?_
    refine zg_iload_n (pc := 97) dX9_film_97 rfl rfl ?_
    refine zg_callVi (st := [.int ((40 * l1) + l6), .ref 18]) (pc := 98) dX9_film_98 (As := [.int l3]) lk_X9_217 kR_0 (by decide) rfl (Nat.le_of_ble_eq_true rfl) (Nat.le_of_ble_eq_true rfl) (sd_X9_torqueOf d H) (fun r15 h14 H => ?_)
    obtain ⟨hb, H⟩ := H
    refine zg_iast (pc := 101) dX9_film_101 kR_18 (by decide) hb ?_
    generalize eh16 : zz_uI h14 18 (Int32.toNatClampNeg ((40 * l1) + l6)) r15 = h16
    replace H := H h16 eh16.symm
    refine zg_iinc (pc := 102) dX9_film_102 rfl (v := l6 + 1) rfl (by decide) (L' := [some (.ref 0), some (.int l1), some (.int l2), some (.int l3), some (.int l4), some (.int l5), some (.int (l6 + 1))]) rfl ?_
    refine zg_goto (pc := 105) dX9_film_105 (tgt := 70) (by decide) ?_
    exact hag70 (l6 + 1) _ H
set_option maxRecDepth 100000 in
theorem sd_X9_film (d : Nat) {l1 : Int32} {l2 : Int32} {l3 : Int32} {l4 : Int32} {h : zz_Hp} {Q : Int32 → zz_Hp → Prop} (H : w_X9_film l1 l2 l3 l4 h Q) : zz_G zKR zNR (d + 8) mX9_film (qI Q) 0 (zz_L0 7 [.ref 0, .int l1, .int l2, .int l3, .int l4]) [] h := by
  show zz_G zKR zNR (d + 8) mX9_film (qI Q) 0 [some (.ref 0), some (.int l1), some (.int l2), some (.int l3), some (.int l4), none, none] [] h
  unfold w_X9_film at H
  refine zg_iload_n (pc := 0) dX9_film_0 rfl rfl ?_
  refine zg_iconst (pc := 1) dX9_film_1 (v := 0) (by decide) ?_
  refine zg_iconst (pc := 2) dX9_film_2 (v := 2) (by decide) ?_
  refine zg_callSi (st := []) (pc := 3) dX9_film_3 (As := [.int l1, .int 0, .int 2]) lk_X9_143 rfl (Nat.le_of_ble_eq_true rfl) (Nat.le_of_ble_eq_true rfl) (sd_X9_in (d + 7) H) (fun r2 h1 H => ?_)
  refine zg_if_eq (pc := 6) dX9_film_6 (tgt := 36) (by decide) (fun hc => ?_) (fun hc => ?_)
  · replace H := H.1 hc
    refine zg_iconst (pc := 36) dX9_film_36 (v := (-1)) (by decide) ?_
    exact zg_iret (pc := 37) dX9_film_37 rfl ⟨_, rfl, H⟩
  · replace H := H.2 hc
    refine zg_iload_n (pc := 9) dX9_film_9 rfl rfl ?_
    refine zg_iconst (pc := 10) dX9_film_10 (v := 0) (by decide) ?_
    refine zg_bipush (pc := 11) dX9_film_11 (v := 40) (by decide) ?_
    refine zg_callSi (st := []) (pc := 13) dX9_film_13 (As := [.int l2, .int 0, .int 40]) lk_X9_143 rfl (Nat.le_of_ble_eq_true rfl) (Nat.le_of_ble_eq_true rfl) (sd_X9_in (d + 7) H) (fun r4 h3 H => ?_)
    refine zg_if_eq (pc := 16) dX9_film_16 (tgt := 36) (by decide) (fun hc => ?_) (fun hc => ?_)
    · replace H := H.1 hc
      refine zg_iconst (pc := 36) dX9_film_36 (v := (-1)) (by decide) ?_
      exact zg_iret (pc := 37) dX9_film_37 rfl ⟨_, rfl, H⟩
    · replace H := H.2 hc
      refine zg_aload_n (pc := 19) dX9_film_19 rfl rfl ?_
      refine zg_iload_n (pc := 20) dX9_film_20 rfl rfl ?_
      refine zg_callVi (st := []) (pc := 21) dX9_film_21 (As := [.int l3]) lk_X9_147 kR_0 (by decide) rfl (Nat.le_of_ble_eq_true rfl) (Nat.le_of_ble_eq_true rfl) (sd_X9_isYarn (d + 6) H) (fun r6 h5 H => ?_)
      refine zg_if_eq (pc := 24) dX9_film_24 (tgt := 36) (by decide) (fun hc => ?_) (fun hc => ?_)
      · replace H := H.1 hc
        refine zg_iconst (pc := 36) dX9_film_36 (v := (-1)) (by decide) ?_
        exact zg_iret (pc := 37) dX9_film_37 rfl ⟨_, rfl, H⟩
      · replace H := H.2 hc
        refine zg_aload_n (pc := 27) dX9_film_27 rfl rfl ?_
        refine zg_iload (pc := 28) dX9_film_28 rfl ?_
        refine zg_callVi (st := []) (pc := 30) dX9_film_30 (As := [.int l4]) lk_X9_147 kR_0 (by decide) rfl (Nat.le_of_ble_eq_true rfl) (Nat.le_of_ble_eq_true rfl) (sd_X9_isYarn (d + 6) H) (fun r8 h7 H => ?_)
        refine zg_if_ne (pc := 33) dX9_film_33 (tgt := 38) (by decide) (fun hc => ?_) (fun hc => ?_)
        · replace H := H.1 hc
          refine zg_aload_n (pc := 38) dX9_film_38 rfl rfl ?_
          refine zg_iload_n (pc := 39) dX9_film_39 rfl rfl ?_
          refine zg_iload (pc := 40) dX9_film_40 rfl ?_
          refine zg_callVi (st := []) (pc := 42) dX9_film_42 (As := [.int l3, .int l4]) lk_X9_229 kR_0 (by decide) rfl (Nat.le_of_ble_eq_true rfl) (Nat.le_of_ble_eq_true rfl) (sd_X9_isIn (d + 1) H) (fun r10 h9 H => ?_)
          refine zg_if_ne (pc := 45) dX9_film_45 (tgt := 51) (by decide) (fun hc => ?_) (fun hc => ?_)
          · replace H := H.1 hc
            refine zg_aload_n (pc := 51) dX9_film_51 rfl rfl ?_
            refine zg_getR (pc := 52) dX9_film_52 lf_X9_60 kR_0 (by decide) rfl ?_
            refine zg_iload_n (pc := 55) dX9_film_55 rfl rfl ?_
            refine zg_iload_n (pc := 56) dX9_film_56 rfl rfl ?_
            obtain ⟨hb, H⟩ := H
            refine zg_iast (pc := 57) dX9_film_57 kR_17 (by decide) hb ?_
            generalize eh11 : zz_uI h9 17 (Int32.toNatClampNeg l1) l2 = h11
            replace H := H h11 eh11.symm
            refine zg_aload_n (pc := 58) dX9_film_58 rfl rfl ?_
            refine zg_getR (pc := 59) dX9_film_59 lf_X9_24 kR_0 (by decide) rfl ?_
            refine zg_iload (pc := 62) dX9_film_62 rfl ?_
            obtain ⟨hb, H⟩ := H
            refine zg_iald (pc := 64) dX9_film_64 kR_5 (by decide) hb ?_
            refine zg_istore (pc := 65) dX9_film_65 (by decide) (L' := [some (.ref 0), some (.int l1), some (.int l2), some (.int l3), some (.int l4), some (.int (h11.1 5 (Int32.toNatClampNeg l4))), none]) rfl ?_
            refine zg_iconst (pc := 67) dX9_film_67 (v := 0) (by decide) ?_
            refine zg_istore (pc := 68) dX9_film_68 (by decide) (L' := [some (.ref 0), some (.int l1), some (.int l2), some (.int l3), some (.int l4), some (.int (h11.1 5 (Int32.toNatClampNeg l4))), some (.int 0)]) rfl ?_
            exact sd_X9_film_l70  H
          · replace H := H.2 hc
            refine zg_bipush (pc := 48) dX9_film_48 (v := (-5)) (by decide) ?_
            exact zg_iret (pc := 50) dX9_film_50 rfl ⟨_, rfl, H⟩
        · replace H := H.2 hc
          refine zg_iconst (pc := 36) dX9_film_36 (v := (-1)) (by decide) ?_
          exact zg_iret (pc := 37) dX9_film_37 rfl ⟨_, rfl, H⟩
set_option maxRecDepth 100000 in
theorem sd_X9_image_l140 {d : Nat} {Q : Int32 → zz_Hp → Prop}  {l1 : Int32} {h : zz_Hp}  (H : lp (fun s ag => w_X9_image_l140 ag Q  s.1 s.2) (l1, h)) : zz_G zKR zNR (d + 0) mX9_image (qI Q) 140 [some (.ref 0), some (.int l1), none] [] h := by
  refine lp_sound (G := fun (s : Int32 × zz_Hp) => zz_G zKR zNR (d + 0) mX9_image (qI Q) 140 [some (.ref 0), some (.int s.1), none] [] s.2) ?_ H
  clear H
  intro s ag140 hag140 H
  obtain ⟨l1, h⟩ := s
  replace hag140 : ∀ (l1 : Int32) (h : zz_Hp), ag140 (l1, h) → zz_G zKR zNR (d + 0) mX9_image (qI Q) 140 [some (.ref 0), some (.int l1), none] [] h := fun l1 h H => hag140 (l1, h) H
  replace H : w_X9_image_l140 ag140 Q  l1 h := H
  show zz_G zKR zNR (d + 0) mX9_image (qI Q) 140 [some (.ref 0), some (.int l1), none] [] h
  unfold w_X9_image_l140 at H
  refine zg_iload_n (pc := 140) dX9_image_140 rfl rfl ?_
  refine zg_bipush (pc := 141) dX9_image_141 (v := 8) (by decide) ?_
  refine zg_icmp_ge (pc := 143) dX9_image_143 (tgt := 212) (by decide) (fun hc => ?_) (fun hc => ?_)
  · replace H := H.1 hc
    refine zg_aload_n (pc := 212) dX9_image_212 rfl rfl ?_
    refine zg_getI (pc := 213) dX9_image_213 lf_X9_139 kR_0 (by decide) rfl ?_
    exact zg_iret (pc := 216) dX9_image_216 rfl ⟨_, rfl, H⟩
  · replace H := H.2 hc
    refine zg_aload_n (pc := 146) dX9_image_146 rfl rfl ?_
    refine zg_getR (pc := 147) dX9_image_147 lf_X9_87 kR_0 (by decide) rfl ?_
    refine zg_iload_n (pc := 150) dX9_image_150 rfl rfl ?_
    refine zg_aload_n (pc := 151) dX9_image_151 rfl rfl ?_
    refine zg_getR (pc := 152) dX9_image_152 lf_X9_33 kR_0 (by decide) rfl ?_
    refine zg_iload_n (pc := 155) dX9_image_155 rfl rfl ?_
    obtain ⟨hb, H⟩ := H
    refine zg_iald (pc := 156) dX9_image_156 kR_8 (by decide) hb ?_
    obtain ⟨hb, H⟩ := H
    refine zg_iast (pc := 157) dX9_image_157 kR_26 (by decide) hb ?_
    generalize eh5 : zz_uI h 26 (Int32.toNatClampNeg l1) (h.1 8 (Int32.toNatClampNeg l1)) = h5
    replace H := H h5 eh5.symm
    refine zg_aload_n (pc := 158) dX9_image_158 rfl rfl ?_
    refine zg_getR (pc := 159) dX9_image_159 lf_X9_90 kR_0 (by decide) rfl ?_
    refine zg_iload_n (pc := 162) dX9_image_162 rfl rfl ?_
    refine zg_aload_n (pc := 163) dX9_image_163 rfl rfl ?_
    refine zg_getR (pc := 164) dX9_image_164 lf_X9_36 kR_0 (by decide) rfl ?_
    refine zg_iload_n (pc := 167) dX9_image_167 rfl rfl ?_
    obtain ⟨hb, H⟩ := H
    refine zg_iald (pc := 168) dX9_image_168 kR_9 (by decide) hb ?_
    obtain ⟨hb, H⟩ := H
    refine zg_iast (pc := 169) dX9_image_169 kR_27 (by decide) hb ?_
    generalize eh6 : zz_uI h5 27 (Int32.toNatClampNeg l1) (h5.1 9 (Int32.toNatClampNeg l1)) = h6
    replace H := H h6 eh6.symm
    refine zg_aload_n (pc := 170) dX9_image_170 rfl rfl ?_
    refine zg_getR (pc := 171) dX9_image_171 lf_X9_93 kR_0 (by decide) rfl ?_
    refine zg_iload_n (pc := 174) dX9_image_174 rfl rfl ?_
    refine zg_aload_n (pc := 175) dX9_image_175 rfl rfl ?_
    refine zg_getR (pc := 176) dX9_image_176 lf_X9_39 kR_0 (by decide) rfl ?_
    refine zg_iload_n (pc := 179) dX9_image_179 rfl rfl ?_
    obtain ⟨hb, H⟩ := H
    refine zg_iald (pc := 180) dX9_image_180 kR_10 (by decide) hb ?_
    obtain ⟨hb, H⟩ := H
    refine zg_iast (pc := 181) dX9_image_181 kR_28 (by decide) hb ?_
    generalize eh7 : zz_uI h6 28 (Int32.toNatClampNeg l1) (h6.1 10 (Int32.toNatClampNeg l1)) = h7
    replace H := H h7 eh7.symm
    refine zg_aload_n (pc := 182) dX9_image_182 rfl rfl ?_
    refine zg_getR (pc := 183) dX9_image_183 lf_X9_96 kR_0 (by decide) rfl ?_
    refine zg_iload_n (pc := 186) dX9_image_186 rfl rfl ?_
    refine zg_aload_n (pc := 187) dX9_image_187 rfl rfl ?_
    refine zg_getR (pc := 188) dX9_image_188 lf_X9_42 kR_0 (by decide) rfl ?_
    refine zg_iload_n (pc := 191) dX9_image_191 rfl rfl ?_
    obtain ⟨hb, H⟩ := H
    refine zg_iald (pc := 192) dX9_image_192 kR_11 (by decide) hb ?_
    obtain ⟨hb, H⟩ := H
    refine zg_iast (pc := 193) dX9_image_193 kR_29 (by decide) hb ?_
    generalize eh8 : zz_uI h7 29 (Int32.toNatClampNeg l1) (h7.1 11 (Int32.toNatClampNeg l1)) = h8
    replace H := H h8 eh8.symm
    refine zg_aload_n (pc := 194) dX9_image_194 rfl rfl ?_
    refine zg_getR (pc := 195) dX9_image_195 lf_X9_99 kR_0 (by decide) rfl ?_
    refine zg_iload_n (pc := 198) dX9_image_198 rfl rfl ?_
    refine zg_aload_n (pc := 199) dX9_image_199 rfl rfl ?_
    refine zg_getR (pc := 200) dX9_image_200 lf_X9_45 kR_0 (by decide) rfl ?_
    refine zg_iload_n (pc := 203) dX9_image_203 rfl rfl ?_
    obtain ⟨hb, H⟩ := H
    refine zg_iald (pc := 204) dX9_image_204 kR_12 (by decide) hb ?_
    obtain ⟨hb, H⟩ := H
    refine zg_iast (pc := 205) dX9_image_205 kR_30 (by decide) hb ?_
    generalize eh9 : zz_uI h8 30 (Int32.toNatClampNeg l1) (h8.1 12 (Int32.toNatClampNeg l1)) = h9
    replace H := H h9 eh9.symm
    refine zg_iinc (pc := 206) dX9_image_206 rfl (v := l1 + 1) rfl (by decide) (L' := [some (.ref 0), some (.int (l1 + 1)), none]) rfl ?_
    refine zg_goto (pc := 209) dX9_image_209 (tgt := 140) (by decide) ?_
    exact hag140 (l1 + 1) _ H
set_option maxRecDepth 100000 in
theorem sd_X9_image_l85 {d : Nat} {ag15 : Int32 × zz_Hp → Prop} {Q : Int32 → zz_Hp → Prop} {l1 : Int32} {l2 : Int32} {h : zz_Hp} (hag15 : ∀ (l1 : Int32) (h : zz_Hp), ag15 (l1, h) → zz_G zKR zNR (d + 0) mX9_image (qI Q) 15 [some (.ref 0), some (.int l1), none] [] h) (H : lp (fun s ag => w_X9_image_l85 ag15 ag Q l1 s.1 s.2) (l2, h)) : zz_G zKR zNR (d + 0) mX9_image (qI Q) 85 [some (.ref 0), some (.int l1), some (.int l2)] [] h := by
  refine lp_sound (G := fun (s : Int32 × zz_Hp) => zz_G zKR zNR (d + 0) mX9_image (qI Q) 85 [some (.ref 0), some (.int l1), some (.int s.1)] [] s.2) ?_ H
  clear H
  intro s ag85 hag85 H
  obtain ⟨l2, h⟩ := s
  replace hag85 : ∀ (l2 : Int32) (h : zz_Hp), ag85 (l2, h) → zz_G zKR zNR (d + 0) mX9_image (qI Q) 85 [some (.ref 0), some (.int l1), some (.int l2)] [] h := fun l2 h H => hag85 (l2, h) H
  replace H : w_X9_image_l85 ag15 ag85 Q l1 l2 h := H
  show zz_G zKR zNR (d + 0) mX9_image (qI Q) 85 [some (.ref 0), some (.int l1), some (.int l2)] [] h
  unfold w_X9_image_l85 at H
  refine zg_iload_n (pc := 85) dX9_image_85 rfl rfl ?_
  refine zg_iconst (pc := 86) dX9_image_86 (v := 4) (by decide) ?_
  refine zg_icmp_ge (pc := 87) dX9_image_87 (tgt := 116) (by decide) (fun hc => ?_) (fun hc => ?_)
  · replace H := H.1 hc
    refine zg_iinc (pc := 116) dX9_image_116 rfl (v := l1 + 1) rfl (by decide) (L' := [some (.ref 0), some (.int (l1 + 1)), some (.int l2)]) rfl ?_
    refine zg_goto (pc := 119) dX9_image_119 (tgt := 15) (by decide) ?_
    refine zg_weak (L' := [some (.ref 0), some (.int (l1 + 1)), none]) ⟨rfl, ⟨rfl, trivial⟩⟩ ?_
    exact hag15 (l1 + 1) _ H
  · replace H := H.2 hc
    refine zg_aload_n (pc := 90) dX9_image_90 rfl rfl ?_
    refine zg_getR (pc := 91) dX9_image_91 lf_X9_72 kR_0 (by decide) rfl ?_
    refine zg_iconst (pc := 94) dX9_image_94 (v := 4) (by decide) ?_
    refine zg_iload_n (pc := 95) dX9_image_95 rfl rfl ?_
    refine zg_imul (pc := 96) dX9_image_96 ?_
    refine zg_iload_n (pc := 97) dX9_image_97 rfl rfl ?_
    refine zg_iadd (pc := 98) dX9_image_98 ?_
    refine zg_aload_n (pc := 99) dX9_image_99 rfl rfl ?_
    refine zg_getR (pc := 100) dX9_image_100 lf_X9_15 kR_0 (by decide) rfl ?_
    refine zg_iconst (pc := 103) dX9_image_103 (v := 4) (by decide) ?_
    refine zg_iload_n (pc := 104) dX9_image_104 rfl rfl ?_
    refine zg_imul (pc := 105) dX9_image_105 ?_
    refine zg_iload_n (pc := 106) dX9_image_106 rfl rfl ?_
    refine zg_iadd (pc := 107) dX9_image_107 ?_
    obtain ⟨hb, H⟩ := H
    refine zg_iald (pc := 108) dX9_image_108 kR_2 (by decide) hb ?_
    obtain ⟨hb, H⟩ := H
    refine zg_iast (pc := 109) dX9_image_109 kR_21 (by decide) hb ?_
    generalize eh15 : zz_uI h 21 (Int32.toNatClampNeg ((4 * l1) + l2)) (h.1 2 (Int32.toNatClampNeg ((4 * l1) + l2))) = h15
    replace H := H h15 eh15.symm
    refine zg_iinc (pc := 110) dX9_image_110 rfl (v := l2 + 1) rfl (by decide) (L' := [some (.ref 0), some (.int l1), some (.int (l2 + 1))]) rfl ?_
    refine zg_goto (pc := 113) dX9_image_113 (tgt := 85) (by decide) ?_
    exact hag85 (l2 + 1) _ H
set_option maxRecDepth 100000 in
theorem sd_X9_image_l15 {d : Nat} {Q : Int32 → zz_Hp → Prop}  {l1 : Int32} {h : zz_Hp}  (H : lp (fun s ag => w_X9_image_l15 ag Q  s.1 s.2) (l1, h)) : zz_G zKR zNR (d + 0) mX9_image (qI Q) 15 [some (.ref 0), some (.int l1), none] [] h := by
  refine lp_sound (G := fun (s : Int32 × zz_Hp) => zz_G zKR zNR (d + 0) mX9_image (qI Q) 15 [some (.ref 0), some (.int s.1), none] [] s.2) ?_ H
  clear H
  intro s ag15 hag15 H
  obtain ⟨l1, h⟩ := s
  replace hag15 : ∀ (l1 : Int32) (h : zz_Hp), ag15 (l1, h) → zz_G zKR zNR (d + 0) mX9_image (qI Q) 15 [some (.ref 0), some (.int l1), none] [] h := fun l1 h H => hag15 (l1, h) H
  replace H : w_X9_image_l15 ag15 Q  l1 h := H
  show zz_G zKR zNR (d + 0) mX9_image (qI Q) 15 [some (.ref 0), some (.int l1), none] [] h
  unfold w_X9_image_l15 at H
  refine zg_iload_n (pc := 15) dX9_image_15 rfl rfl ?_
  refine zg_aload_n (pc := 16) dX9_image_16 rfl rfl ?_
  refine zg_getI (pc := 17) dX9_image_17 lf_X9_139 kR_0 (by decide) rfl ?_
  refine zg_icmp_ge (pc := 20) dX9_image_20 (tgt := 122) (by decide) (fun hc => ?_) (fun hc => ?_)
  · replace H := H.1 hc
    refine zg_aload_n (pc := 122) dX9_image_122 rfl rfl ?_
    refine zg_aload_n (pc := 123) dX9_image_123 rfl rfl ?_
    refine zg_getI (pc := 124) dX9_image_124 lf_X9_200 kR_0 (by decide) rfl ?_
    refine zg_putI (pc := 127) dX9_image_127 lp_X9_307 kR_0 (by decide) rfl ?_
    generalize eh3 : zz_uI h 0 33 (h.1 0 9) = h3
    replace H := H h3 eh3.symm
    refine zg_aload_n (pc := 130) dX9_image_130 rfl rfl ?_
    refine zg_aload_n (pc := 131) dX9_image_131 rfl rfl ?_
    refine zg_getI (pc := 132) dX9_image_132 lf_X9_203 kR_0 (by decide) rfl ?_
    refine zg_putI (pc := 135) dX9_image_135 lp_X9_310 kR_0 (by decide) rfl ?_
    generalize eh4 : zz_uI h3 0 37 (h3.1 0 13) = h4
    replace H := H h4 eh4.symm
    refine zg_iconst (pc := 138) dX9_image_138 (v := 0) (by decide) ?_
    refine zg_istore_n (pc := 139) dX9_image_139 rfl (by decide) (L' := [some (.ref 0), some (.int 0), none]) rfl ?_
    exact sd_X9_image_l140  H
  · replace H := H.2 hc
    refine zg_aload_n (pc := 23) dX9_image_23 rfl rfl ?_
    refine zg_getR (pc := 24) dX9_image_24 lf_X9_69 kR_0 (by decide) rfl ?_
    refine zg_iload_n (pc := 27) dX9_image_27 rfl rfl ?_
    refine zg_aload_n (pc := 28) dX9_image_28 rfl rfl ?_
    refine zg_getR (pc := 29) dX9_image_29 lf_X9_9 kR_0 (by decide) rfl ?_
    refine zg_iload_n (pc := 32) dX9_image_32 rfl rfl ?_
    obtain ⟨hb, H⟩ := H
    refine zg_iald (pc := 33) dX9_image_33 kR_1 (by decide) hb ?_
    obtain ⟨hb, H⟩ := H
    refine zg_iast (pc := 34) dX9_image_34 kR_20 (by decide) hb ?_
    generalize eh10 : zz_uI h 20 (Int32.toNatClampNeg l1) (h.1 1 (Int32.toNatClampNeg l1)) = h10
    replace H := H h10 eh10.symm
    refine zg_aload_n (pc := 35) dX9_image_35 rfl rfl ?_
    refine zg_getR (pc := 36) dX9_image_36 lf_X9_75 kR_0 (by decide) rfl ?_
    refine zg_iload_n (pc := 39) dX9_image_39 rfl rfl ?_
    refine zg_aload_n (pc := 40) dX9_image_40 rfl rfl ?_
    refine zg_getR (pc := 41) dX9_image_41 lf_X9_18 kR_0 (by decide) rfl ?_
    refine zg_iload_n (pc := 44) dX9_image_44 rfl rfl ?_
    obtain ⟨hb, H⟩ := H
    refine zg_iald (pc := 45) dX9_image_45 kR_3 (by decide) hb ?_
    obtain ⟨hb, H⟩ := H
    refine zg_iast (pc := 46) dX9_image_46 kR_22 (by decide) hb ?_
    generalize eh11 : zz_uI h10 22 (Int32.toNatClampNeg l1) (h10.1 3 (Int32.toNatClampNeg l1)) = h11
    replace H := H h11 eh11.symm
    refine zg_aload_n (pc := 47) dX9_image_47 rfl rfl ?_
    refine zg_getR (pc := 48) dX9_image_48 lf_X9_78 kR_0 (by decide) rfl ?_
    refine zg_iload_n (pc := 51) dX9_image_51 rfl rfl ?_
    refine zg_aload_n (pc := 52) dX9_image_52 rfl rfl ?_
    refine zg_getR (pc := 53) dX9_image_53 lf_X9_21 kR_0 (by decide) rfl ?_
    refine zg_iload_n (pc := 56) dX9_image_56 rfl rfl ?_
    obtain ⟨hb, H⟩ := H
    refine zg_iald (pc := 57) dX9_image_57 kR_4 (by decide) hb ?_
    obtain ⟨hb, H⟩ := H
    refine zg_iast (pc := 58) dX9_image_58 kR_23 (by decide) hb ?_
    generalize eh12 : zz_uI h11 23 (Int32.toNatClampNeg l1) (h11.1 4 (Int32.toNatClampNeg l1)) = h12
    replace H := H h12 eh12.symm
    refine zg_aload_n (pc := 59) dX9_image_59 rfl rfl ?_
    refine zg_getR (pc := 60) dX9_image_60 lf_X9_81 kR_0 (by decide) rfl ?_
    refine zg_iload_n (pc := 63) dX9_image_63 rfl rfl ?_
    refine zg_aload_n (pc := 64) dX9_image_64 rfl rfl ?_
    refine zg_getR (pc := 65) dX9_image_65 lf_X9_24 kR_0 (by decide) rfl ?_
    refine zg_iload_n (pc := 68) dX9_image_68 rfl rfl ?_
    obtain ⟨hb, H⟩ := H
    refine zg_iald (pc := 69) dX9_image_69 kR_5 (by decide) hb ?_
    obtain ⟨hb, H⟩ := H
    refine zg_iast (pc := 70) dX9_image_70 kR_24 (by decide) hb ?_
    generalize eh13 : zz_uI h12 24 (Int32.toNatClampNeg l1) (h12.1 5 (Int32.toNatClampNeg l1)) = h13
    replace H := H h13 eh13.symm
    refine zg_aload_n (pc := 71) dX9_image_71 rfl rfl ?_
    refine zg_getR (pc := 72) dX9_image_72 lf_X9_84 kR_0 (by decide) rfl ?_
    refine zg_iload_n (pc := 75) dX9_image_75 rfl rfl ?_
    refine zg_aload_n (pc := 76) dX9_image_76 rfl rfl ?_
    refine zg_getR (pc := 77) dX9_image_77 lf_X9_27 kR_0 (by decide) rfl ?_
    refine zg_iload_n (pc := 80) dX9_image_80 rfl rfl ?_
    obtain ⟨hb, H⟩ := H
    refine zg_iald (pc := 81) dX9_image_81 kR_6 (by decide) hb ?_
    obtain ⟨hb, H⟩ := H
    refine zg_iast (pc := 82) dX9_image_82 kR_25 (by decide) hb ?_
    generalize eh14 : zz_uI h13 25 (Int32.toNatClampNeg l1) (h13.1 6 (Int32.toNatClampNeg l1)) = h14
    replace H := H h14 eh14.symm
    refine zg_iconst (pc := 83) dX9_image_83 (v := 0) (by decide) ?_
    refine zg_istore_n (pc := 84) dX9_image_84 rfl (by decide) (L' := [some (.ref 0), some (.int l1), some (.int 0)]) rfl ?_
    exact sd_X9_image_l85 hag15 H
set_option maxRecDepth 100000 in
theorem sd_X9_image (d : Nat)  {h : zz_Hp} {Q : Int32 → zz_Hp → Prop} (H : w_X9_image  h Q) : zz_G zKR zNR (d + 0) mX9_image (qI Q) 0 (zz_L0 3 [.ref 0]) [] h := by
  show zz_G zKR zNR (d + 0) mX9_image (qI Q) 0 [some (.ref 0), none, none] [] h
  unfold w_X9_image at H
  refine zg_aload_n (pc := 0) dX9_image_0 rfl rfl ?_
  refine zg_iconst (pc := 1) dX9_image_1 (v := 1) (by decide) ?_
  refine zg_putZ (pc := 2) dX9_image_2 (Or.inr rfl) lp_X9_301 kR_0 (by decide) rfl ?_
  generalize eh1 : zz_uI h 0 25 1 = h1
  replace H := H h1 eh1.symm
  refine zg_aload_n (pc := 5) dX9_image_5 rfl rfl ?_
  refine zg_aload_n (pc := 6) dX9_image_6 rfl rfl ?_
  refine zg_getI (pc := 7) dX9_image_7 lf_X9_139 kR_0 (by decide) rfl ?_
  refine zg_putI (pc := 10) dX9_image_10 lp_X9_304 kR_0 (by decide) rfl ?_
  generalize eh2 : zz_uI h1 0 26 (h1.1 0 0) = h2
  replace H := H h2 eh2.symm
  refine zg_iconst (pc := 13) dX9_image_13 (v := 0) (by decide) ?_
  refine zg_istore_n (pc := 14) dX9_image_14 rfl (by decide) (L' := [some (.ref 0), some (.int 0), none]) rfl ?_
  exact sd_X9_image_l15  H
set_option maxRecDepth 100000 in
theorem sd_X9_undo_l145 {d : Nat} {Q : Int32 → zz_Hp → Prop}  {l1 : Int32} {h : zz_Hp}  (H : lp (fun s ag => w_X9_undo_l145 ag Q  s.1 s.2) (l1, h)) : zz_G zKR zNR (d + 0) mX9_undo (qI Q) 145 [some (.ref 0), some (.int l1), none] [] h := by
  refine lp_sound (G := fun (s : Int32 × zz_Hp) => zz_G zKR zNR (d + 0) mX9_undo (qI Q) 145 [some (.ref 0), some (.int s.1), none] [] s.2) ?_ H
  clear H
  intro s ag145 hag145 H
  obtain ⟨l1, h⟩ := s
  replace hag145 : ∀ (l1 : Int32) (h : zz_Hp), ag145 (l1, h) → zz_G zKR zNR (d + 0) mX9_undo (qI Q) 145 [some (.ref 0), some (.int l1), none] [] h := fun l1 h H => hag145 (l1, h) H
  replace H : w_X9_undo_l145 ag145 Q  l1 h := H
  show zz_G zKR zNR (d + 0) mX9_undo (qI Q) 145 [some (.ref 0), some (.int l1), none] [] h
  unfold w_X9_undo_l145 at H
  refine zg_iload_n (pc := 145) dX9_undo_145 rfl rfl ?_
  refine zg_bipush (pc := 146) dX9_undo_146 (v := 8) (by decide) ?_
  refine zg_icmp_ge (pc := 148) dX9_undo_148 (tgt := 217) (by decide) (fun hc => ?_) (fun hc => ?_)
  · replace H := H.1 hc
    refine zg_aload_n (pc := 217) dX9_undo_217 rfl rfl ?_
    refine zg_iconst (pc := 218) dX9_undo_218 (v := 0) (by decide) ?_
    refine zg_putI (pc := 219) dX9_undo_219 lp_X9_194 kR_0 (by decide) rfl ?_
    generalize eh4 : zz_uI h 0 7 0 = h4
    replace H := H h4 eh4.symm
    refine zg_aload_n (pc := 222) dX9_undo_222 rfl rfl ?_
    refine zg_iconst (pc := 223) dX9_undo_223 (v := 0) (by decide) ?_
    refine zg_putI (pc := 224) dX9_undo_224 lp_X9_206 kR_0 (by decide) rfl ?_
    generalize eh5 : zz_uI h4 0 16 0 = h5
    replace H := H h5 eh5.symm
    refine zg_aload_n (pc := 227) dX9_undo_227 rfl rfl ?_
    refine zg_getI (pc := 228) dX9_undo_228 lf_X9_139 kR_0 (by decide) rfl ?_
    exact zg_iret (pc := 231) dX9_undo_231 rfl ⟨_, rfl, H⟩
  · replace H := H.2 hc
    refine zg_aload_n (pc := 151) dX9_undo_151 rfl rfl ?_
    refine zg_getR (pc := 152) dX9_undo_152 lf_X9_33 kR_0 (by decide) rfl ?_
    refine zg_iload_n (pc := 155) dX9_undo_155 rfl rfl ?_
    refine zg_aload_n (pc := 156) dX9_undo_156 rfl rfl ?_
    refine zg_getR (pc := 157) dX9_undo_157 lf_X9_87 kR_0 (by decide) rfl ?_
    refine zg_iload_n (pc := 160) dX9_undo_160 rfl rfl ?_
    obtain ⟨hb, H⟩ := H
    refine zg_iald (pc := 161) dX9_undo_161 kR_26 (by decide) hb ?_
    obtain ⟨hb, H⟩ := H
    refine zg_iast (pc := 162) dX9_undo_162 kR_8 (by decide) hb ?_
    generalize eh6 : zz_uI h 8 (Int32.toNatClampNeg l1) (h.1 26 (Int32.toNatClampNeg l1)) = h6
    replace H := H h6 eh6.symm
    refine zg_aload_n (pc := 163) dX9_undo_163 rfl rfl ?_
    refine zg_getR (pc := 164) dX9_undo_164 lf_X9_36 kR_0 (by decide) rfl ?_
    refine zg_iload_n (pc := 167) dX9_undo_167 rfl rfl ?_
    refine zg_aload_n (pc := 168) dX9_undo_168 rfl rfl ?_
    refine zg_getR (pc := 169) dX9_undo_169 lf_X9_90 kR_0 (by decide) rfl ?_
    refine zg_iload_n (pc := 172) dX9_undo_172 rfl rfl ?_
    obtain ⟨hb, H⟩ := H
    refine zg_iald (pc := 173) dX9_undo_173 kR_27 (by decide) hb ?_
    obtain ⟨hb, H⟩ := H
    refine zg_iast (pc := 174) dX9_undo_174 kR_9 (by decide) hb ?_
    generalize eh7 : zz_uI h6 9 (Int32.toNatClampNeg l1) (h6.1 27 (Int32.toNatClampNeg l1)) = h7
    replace H := H h7 eh7.symm
    refine zg_aload_n (pc := 175) dX9_undo_175 rfl rfl ?_
    refine zg_getR (pc := 176) dX9_undo_176 lf_X9_39 kR_0 (by decide) rfl ?_
    refine zg_iload_n (pc := 179) dX9_undo_179 rfl rfl ?_
    refine zg_aload_n (pc := 180) dX9_undo_180 rfl rfl ?_
    refine zg_getR (pc := 181) dX9_undo_181 lf_X9_93 kR_0 (by decide) rfl ?_
    refine zg_iload_n (pc := 184) dX9_undo_184 rfl rfl ?_
    obtain ⟨hb, H⟩ := H
    refine zg_iald (pc := 185) dX9_undo_185 kR_28 (by decide) hb ?_
    obtain ⟨hb, H⟩ := H
    refine zg_iast (pc := 186) dX9_undo_186 kR_10 (by decide) hb ?_
    generalize eh8 : zz_uI h7 10 (Int32.toNatClampNeg l1) (h7.1 28 (Int32.toNatClampNeg l1)) = h8
    replace H := H h8 eh8.symm
    refine zg_aload_n (pc := 187) dX9_undo_187 rfl rfl ?_
    refine zg_getR (pc := 188) dX9_undo_188 lf_X9_42 kR_0 (by decide) rfl ?_
    refine zg_iload_n (pc := 191) dX9_undo_191 rfl rfl ?_
    refine zg_aload_n (pc := 192) dX9_undo_192 rfl rfl ?_
    refine zg_getR (pc := 193) dX9_undo_193 lf_X9_96 kR_0 (by decide) rfl ?_
    refine zg_iload_n (pc := 196) dX9_undo_196 rfl rfl ?_
    obtain ⟨hb, H⟩ := H
    refine zg_iald (pc := 197) dX9_undo_197 kR_29 (by decide) hb ?_
    obtain ⟨hb, H⟩ := H
    refine zg_iast (pc := 198) dX9_undo_198 kR_11 (by decide) hb ?_
    generalize eh9 : zz_uI h8 11 (Int32.toNatClampNeg l1) (h8.1 29 (Int32.toNatClampNeg l1)) = h9
    replace H := H h9 eh9.symm
    refine zg_aload_n (pc := 199) dX9_undo_199 rfl rfl ?_
    refine zg_getR (pc := 200) dX9_undo_200 lf_X9_45 kR_0 (by decide) rfl ?_
    refine zg_iload_n (pc := 203) dX9_undo_203 rfl rfl ?_
    refine zg_aload_n (pc := 204) dX9_undo_204 rfl rfl ?_
    refine zg_getR (pc := 205) dX9_undo_205 lf_X9_99 kR_0 (by decide) rfl ?_
    refine zg_iload_n (pc := 208) dX9_undo_208 rfl rfl ?_
    obtain ⟨hb, H⟩ := H
    refine zg_iald (pc := 209) dX9_undo_209 kR_30 (by decide) hb ?_
    obtain ⟨hb, H⟩ := H
    refine zg_iast (pc := 210) dX9_undo_210 kR_12 (by decide) hb ?_
    generalize eh10 : zz_uI h9 12 (Int32.toNatClampNeg l1) (h9.1 30 (Int32.toNatClampNeg l1)) = h10
    replace H := H h10 eh10.symm
    refine zg_iinc (pc := 211) dX9_undo_211 rfl (v := l1 + 1) rfl (by decide) (L' := [some (.ref 0), some (.int (l1 + 1)), none]) rfl ?_
    refine zg_goto (pc := 214) dX9_undo_214 (tgt := 145) (by decide) ?_
    exact hag145 (l1 + 1) _ H
set_option maxRecDepth 100000 in
theorem sd_X9_undo_l90 {d : Nat} {ag20 : Int32 × zz_Hp → Prop} {Q : Int32 → zz_Hp → Prop} {l1 : Int32} {l2 : Int32} {h : zz_Hp} (hag20 : ∀ (l1 : Int32) (h : zz_Hp), ag20 (l1, h) → zz_G zKR zNR (d + 0) mX9_undo (qI Q) 20 [some (.ref 0), some (.int l1), none] [] h) (H : lp (fun s ag => w_X9_undo_l90 ag20 ag Q l1 s.1 s.2) (l2, h)) : zz_G zKR zNR (d + 0) mX9_undo (qI Q) 90 [some (.ref 0), some (.int l1), some (.int l2)] [] h := by
  refine lp_sound (G := fun (s : Int32 × zz_Hp) => zz_G zKR zNR (d + 0) mX9_undo (qI Q) 90 [some (.ref 0), some (.int l1), some (.int s.1)] [] s.2) ?_ H
  clear H
  intro s ag90 hag90 H
  obtain ⟨l2, h⟩ := s
  replace hag90 : ∀ (l2 : Int32) (h : zz_Hp), ag90 (l2, h) → zz_G zKR zNR (d + 0) mX9_undo (qI Q) 90 [some (.ref 0), some (.int l1), some (.int l2)] [] h := fun l2 h H => hag90 (l2, h) H
  replace H : w_X9_undo_l90 ag20 ag90 Q l1 l2 h := H
  show zz_G zKR zNR (d + 0) mX9_undo (qI Q) 90 [some (.ref 0), some (.int l1), some (.int l2)] [] h
  unfold w_X9_undo_l90 at H
  refine zg_iload_n (pc := 90) dX9_undo_90 rfl rfl ?_
  refine zg_iconst (pc := 91) dX9_undo_91 (v := 4) (by decide) ?_
  refine zg_icmp_ge (pc := 92) dX9_undo_92 (tgt := 121) (by decide) (fun hc => ?_) (fun hc => ?_)
  · replace H := H.1 hc
    refine zg_iinc (pc := 121) dX9_undo_121 rfl (v := l1 + 1) rfl (by decide) (L' := [some (.ref 0), some (.int (l1 + 1)), some (.int l2)]) rfl ?_
    refine zg_goto (pc := 124) dX9_undo_124 (tgt := 20) (by decide) ?_
    refine zg_weak (L' := [some (.ref 0), some (.int (l1 + 1)), none]) ⟨rfl, ⟨rfl, trivial⟩⟩ ?_
    exact hag20 (l1 + 1) _ H
  · replace H := H.2 hc
    refine zg_aload_n (pc := 95) dX9_undo_95 rfl rfl ?_
    refine zg_getR (pc := 96) dX9_undo_96 lf_X9_15 kR_0 (by decide) rfl ?_
    refine zg_iconst (pc := 99) dX9_undo_99 (v := 4) (by decide) ?_
    refine zg_iload_n (pc := 100) dX9_undo_100 rfl rfl ?_
    refine zg_imul (pc := 101) dX9_undo_101 ?_
    refine zg_iload_n (pc := 102) dX9_undo_102 rfl rfl ?_
    refine zg_iadd (pc := 103) dX9_undo_103 ?_
    refine zg_aload_n (pc := 104) dX9_undo_104 rfl rfl ?_
    refine zg_getR (pc := 105) dX9_undo_105 lf_X9_72 kR_0 (by decide) rfl ?_
    refine zg_iconst (pc := 108) dX9_undo_108 (v := 4) (by decide) ?_
    refine zg_iload_n (pc := 109) dX9_undo_109 rfl rfl ?_
    refine zg_imul (pc := 110) dX9_undo_110 ?_
    refine zg_iload_n (pc := 111) dX9_undo_111 rfl rfl ?_
    refine zg_iadd (pc := 112) dX9_undo_112 ?_
    obtain ⟨hb, H⟩ := H
    refine zg_iald (pc := 113) dX9_undo_113 kR_21 (by decide) hb ?_
    obtain ⟨hb, H⟩ := H
    refine zg_iast (pc := 114) dX9_undo_114 kR_2 (by decide) hb ?_
    generalize eh16 : zz_uI h 2 (Int32.toNatClampNeg ((4 * l1) + l2)) (h.1 21 (Int32.toNatClampNeg ((4 * l1) + l2))) = h16
    replace H := H h16 eh16.symm
    refine zg_iinc (pc := 115) dX9_undo_115 rfl (v := l2 + 1) rfl (by decide) (L' := [some (.ref 0), some (.int l1), some (.int (l2 + 1))]) rfl ?_
    refine zg_goto (pc := 118) dX9_undo_118 (tgt := 90) (by decide) ?_
    exact hag90 (l2 + 1) _ H
set_option maxRecDepth 100000 in
theorem sd_X9_undo_l20 {d : Nat} {Q : Int32 → zz_Hp → Prop}  {l1 : Int32} {h : zz_Hp}  (H : lp (fun s ag => w_X9_undo_l20 ag Q  s.1 s.2) (l1, h)) : zz_G zKR zNR (d + 0) mX9_undo (qI Q) 20 [some (.ref 0), some (.int l1), none] [] h := by
  refine lp_sound (G := fun (s : Int32 × zz_Hp) => zz_G zKR zNR (d + 0) mX9_undo (qI Q) 20 [some (.ref 0), some (.int s.1), none] [] s.2) ?_ H
  clear H
  intro s ag20 hag20 H
  obtain ⟨l1, h⟩ := s
  replace hag20 : ∀ (l1 : Int32) (h : zz_Hp), ag20 (l1, h) → zz_G zKR zNR (d + 0) mX9_undo (qI Q) 20 [some (.ref 0), some (.int l1), none] [] h := fun l1 h H => hag20 (l1, h) H
  replace H : w_X9_undo_l20 ag20 Q  l1 h := H
  show zz_G zKR zNR (d + 0) mX9_undo (qI Q) 20 [some (.ref 0), some (.int l1), none] [] h
  unfold w_X9_undo_l20 at H
  refine zg_iload_n (pc := 20) dX9_undo_20 rfl rfl ?_
  refine zg_aload_n (pc := 21) dX9_undo_21 rfl rfl ?_
  refine zg_getI (pc := 22) dX9_undo_22 lf_X9_139 kR_0 (by decide) rfl ?_
  refine zg_icmp_ge (pc := 25) dX9_undo_25 (tgt := 127) (by decide) (fun hc => ?_) (fun hc => ?_)
  · replace H := H.1 hc
    refine zg_aload_n (pc := 127) dX9_undo_127 rfl rfl ?_
    refine zg_aload_n (pc := 128) dX9_undo_128 rfl rfl ?_
    refine zg_getI (pc := 129) dX9_undo_129 lf_X9_307 kR_0 (by decide) rfl ?_
    refine zg_putI (pc := 132) dX9_undo_132 lp_X9_200 kR_0 (by decide) rfl ?_
    generalize eh2 : zz_uI h 0 9 (h.1 0 33) = h2
    replace H := H h2 eh2.symm
    refine zg_aload_n (pc := 135) dX9_undo_135 rfl rfl ?_
    refine zg_aload_n (pc := 136) dX9_undo_136 rfl rfl ?_
    refine zg_getI (pc := 137) dX9_undo_137 lf_X9_310 kR_0 (by decide) rfl ?_
    refine zg_putI (pc := 140) dX9_undo_140 lp_X9_203 kR_0 (by decide) rfl ?_
    generalize eh3 : zz_uI h2 0 13 (h2.1 0 37) = h3
    replace H := H h3 eh3.symm
    refine zg_iconst (pc := 143) dX9_undo_143 (v := 0) (by decide) ?_
    refine zg_istore_n (pc := 144) dX9_undo_144 rfl (by decide) (L' := [some (.ref 0), some (.int 0), none]) rfl ?_
    exact sd_X9_undo_l145  H
  · replace H := H.2 hc
    refine zg_aload_n (pc := 28) dX9_undo_28 rfl rfl ?_
    refine zg_getR (pc := 29) dX9_undo_29 lf_X9_9 kR_0 (by decide) rfl ?_
    refine zg_iload_n (pc := 32) dX9_undo_32 rfl rfl ?_
    refine zg_aload_n (pc := 33) dX9_undo_33 rfl rfl ?_
    refine zg_getR (pc := 34) dX9_undo_34 lf_X9_69 kR_0 (by decide) rfl ?_
    refine zg_iload_n (pc := 37) dX9_undo_37 rfl rfl ?_
    obtain ⟨hb, H⟩ := H
    refine zg_iald (pc := 38) dX9_undo_38 kR_20 (by decide) hb ?_
    obtain ⟨hb, H⟩ := H
    refine zg_iast (pc := 39) dX9_undo_39 kR_1 (by decide) hb ?_
    generalize eh11 : zz_uI h 1 (Int32.toNatClampNeg l1) (h.1 20 (Int32.toNatClampNeg l1)) = h11
    replace H := H h11 eh11.symm
    refine zg_aload_n (pc := 40) dX9_undo_40 rfl rfl ?_
    refine zg_getR (pc := 41) dX9_undo_41 lf_X9_18 kR_0 (by decide) rfl ?_
    refine zg_iload_n (pc := 44) dX9_undo_44 rfl rfl ?_
    refine zg_aload_n (pc := 45) dX9_undo_45 rfl rfl ?_
    refine zg_getR (pc := 46) dX9_undo_46 lf_X9_75 kR_0 (by decide) rfl ?_
    refine zg_iload_n (pc := 49) dX9_undo_49 rfl rfl ?_
    obtain ⟨hb, H⟩ := H
    refine zg_iald (pc := 50) dX9_undo_50 kR_22 (by decide) hb ?_
    obtain ⟨hb, H⟩ := H
    refine zg_iast (pc := 51) dX9_undo_51 kR_3 (by decide) hb ?_
    generalize eh12 : zz_uI h11 3 (Int32.toNatClampNeg l1) (h11.1 22 (Int32.toNatClampNeg l1)) = h12
    replace H := H h12 eh12.symm
    refine zg_aload_n (pc := 52) dX9_undo_52 rfl rfl ?_
    refine zg_getR (pc := 53) dX9_undo_53 lf_X9_21 kR_0 (by decide) rfl ?_
    refine zg_iload_n (pc := 56) dX9_undo_56 rfl rfl ?_
    refine zg_aload_n (pc := 57) dX9_undo_57 rfl rfl ?_
    refine zg_getR (pc := 58) dX9_undo_58 lf_X9_78 kR_0 (by decide) rfl ?_
    refine zg_iload_n (pc := 61) dX9_undo_61 rfl rfl ?_
    obtain ⟨hb, H⟩ := H
    refine zg_iald (pc := 62) dX9_undo_62 kR_23 (by decide) hb ?_
    obtain ⟨hb, H⟩ := H
    refine zg_iast (pc := 63) dX9_undo_63 kR_4 (by decide) hb ?_
    generalize eh13 : zz_uI h12 4 (Int32.toNatClampNeg l1) (h12.1 23 (Int32.toNatClampNeg l1)) = h13
    replace H := H h13 eh13.symm
    refine zg_aload_n (pc := 64) dX9_undo_64 rfl rfl ?_
    refine zg_getR (pc := 65) dX9_undo_65 lf_X9_24 kR_0 (by decide) rfl ?_
    refine zg_iload_n (pc := 68) dX9_undo_68 rfl rfl ?_
    refine zg_aload_n (pc := 69) dX9_undo_69 rfl rfl ?_
    refine zg_getR (pc := 70) dX9_undo_70 lf_X9_81 kR_0 (by decide) rfl ?_
    refine zg_iload_n (pc := 73) dX9_undo_73 rfl rfl ?_
    obtain ⟨hb, H⟩ := H
    refine zg_iald (pc := 74) dX9_undo_74 kR_24 (by decide) hb ?_
    obtain ⟨hb, H⟩ := H
    refine zg_iast (pc := 75) dX9_undo_75 kR_5 (by decide) hb ?_
    generalize eh14 : zz_uI h13 5 (Int32.toNatClampNeg l1) (h13.1 24 (Int32.toNatClampNeg l1)) = h14
    replace H := H h14 eh14.symm
    refine zg_aload_n (pc := 76) dX9_undo_76 rfl rfl ?_
    refine zg_getR (pc := 77) dX9_undo_77 lf_X9_27 kR_0 (by decide) rfl ?_
    refine zg_iload_n (pc := 80) dX9_undo_80 rfl rfl ?_
    refine zg_aload_n (pc := 81) dX9_undo_81 rfl rfl ?_
    refine zg_getR (pc := 82) dX9_undo_82 lf_X9_84 kR_0 (by decide) rfl ?_
    refine zg_iload_n (pc := 85) dX9_undo_85 rfl rfl ?_
    obtain ⟨hb, H⟩ := H
    refine zg_iald (pc := 86) dX9_undo_86 kR_25 (by decide) hb ?_
    obtain ⟨hb, H⟩ := H
    refine zg_iast (pc := 87) dX9_undo_87 kR_6 (by decide) hb ?_
    generalize eh15 : zz_uI h14 6 (Int32.toNatClampNeg l1) (h14.1 25 (Int32.toNatClampNeg l1)) = h15
    replace H := H h15 eh15.symm
    refine zg_iconst (pc := 88) dX9_undo_88 (v := 0) (by decide) ?_
    refine zg_istore_n (pc := 89) dX9_undo_89 rfl (by decide) (L' := [some (.ref 0), some (.int l1), some (.int 0)]) rfl ?_
    exact sd_X9_undo_l90 hag20 H
set_option maxRecDepth 100000 in
theorem sd_X9_undo (d : Nat)  {h : zz_Hp} {Q : Int32 → zz_Hp → Prop} (H : w_X9_undo  h Q) : zz_G zKR zNR (d + 0) mX9_undo (qI Q) 0 (zz_L0 3 [.ref 0]) [] h := by
  show zz_G zKR zNR (d + 0) mX9_undo (qI Q) 0 [some (.ref 0), none, none] [] h
  unfold w_X9_undo at H
  refine zg_aload_n (pc := 0) dX9_undo_0 rfl rfl ?_
  refine zg_getI (pc := 1) dX9_undo_1 lf_X9_301 kR_0 (by decide) rfl ?_
  refine zg_if_ne (pc := 4) dX9_undo_4 (tgt := 10) (by decide) (fun hc => ?_) (fun hc => ?_)
  · replace H := H.1 hc
    refine zg_aload_n (pc := 10) dX9_undo_10 rfl rfl ?_
    refine zg_aload_n (pc := 11) dX9_undo_11 rfl rfl ?_
    refine zg_getI (pc := 12) dX9_undo_12 lf_X9_304 kR_0 (by decide) rfl ?_
    refine zg_putI (pc := 15) dX9_undo_15 lp_X9_139 kR_0 (by decide) rfl ?_
    generalize eh1 : zz_uI h 0 0 (h.1 0 26) = h1
    replace H := H h1 eh1.symm
    refine zg_iconst (pc := 18) dX9_undo_18 (v := 0) (by decide) ?_
    refine zg_istore_n (pc := 19) dX9_undo_19 rfl (by decide) (L' := [some (.ref 0), some (.int 0), none]) rfl ?_
    exact sd_X9_undo_l20  H
  · replace H := H.2 hc
    refine zg_bipush (pc := 7) dX9_undo_7 (v := (-5)) (by decide) ?_
    exact zg_iret (pc := 9) dX9_undo_9 rfl ⟨_, rfl, H⟩
set_option maxRecDepth 100000 in
theorem sd_X9_count_l78 {d : Nat} {Q : Int32 → zz_Hp → Prop}  {l2 : Int32} {l3 : Int32} {h : zz_Hp}  (H : lp (fun s ag => w_X9_count_l78 ag Q  s.1 s.2.1 s.2.2) (l2, l3, h)) : zz_G zKR zNR (d + 8) mX9_count (qI Q) 78 [some (.ref 0), none, some (.int l2), some (.int l3)] [] h := by
  refine lp_sound (G := fun (s : Int32 × Int32 × zz_Hp) => zz_G zKR zNR (d + 8) mX9_count (qI Q) 78 [some (.ref 0), none, some (.int s.1), some (.int s.2.1)] [] s.2.2) ?_ H
  clear H
  intro s ag78 hag78 H
  obtain ⟨l2, l3, h⟩ := s
  replace hag78 : ∀ (l2 : Int32) (l3 : Int32) (h : zz_Hp), ag78 (l2, l3, h) → zz_G zKR zNR (d + 8) mX9_count (qI Q) 78 [some (.ref 0), none, some (.int l2), some (.int l3)] [] h := fun l2 l3 h H => hag78 (l2, l3, h) H
  replace H : w_X9_count_l78 ag78 Q  l2 l3 h := H
  show zz_G zKR zNR (d + 8) mX9_count (qI Q) 78 [some (.ref 0), none, some (.int l2), some (.int l3)] [] h
  unfold w_X9_count_l78 at H
  refine zg_iload_n (pc := 78) dX9_count_78 rfl rfl ?_
  refine zg_aload_n (pc := 79) dX9_count_79 rfl rfl ?_
  refine zg_getI (pc := 80) dX9_count_80 lf_X9_139 kR_0 (by decide) rfl ?_
  refine zg_icmp_ge (pc := 83) dX9_count_83 (tgt := 108) (by decide) (fun hc => ?_) (fun hc => ?_)
  · replace H := H.1 hc
    refine zg_iload_n (pc := 108) dX9_count_108 rfl rfl ?_
    exact zg_iret (pc := 109) dX9_count_109 rfl ⟨_, rfl, H⟩
  · replace H := H.2 hc
    refine zg_iload_n (pc := 86) dX9_count_86 rfl rfl ?_
    refine zg_aload_n (pc := 87) dX9_count_87 rfl rfl ?_
    refine zg_iload_n (pc := 88) dX9_count_88 rfl rfl ?_
    refine zg_callVi (st := [.int l2]) (pc := 89) dX9_count_89 (As := [.int l3]) lk_X9_217 kR_0 (by decide) rfl (Nat.le_of_ble_eq_true rfl) (Nat.le_of_ble_eq_true rfl) (sd_X9_torqueOf d H) (fun r2 h1 H => ?_)
    refine zg_if_ne (pc := 92) dX9_count_92 (tgt := 99) (by decide) (fun hc => ?_) (fun hc => ?_)
    · replace H := H.1 hc
      refine zg_iconst (pc := 99) dX9_count_99 (v := 0) (by decide) ?_
      refine zg_iadd (pc := 100) dX9_count_100 ?_
      refine zg_istore_n (pc := 101) dX9_count_101 rfl (by decide) (L' := [some (.ref 0), none, some (.int (l2 + 0)), some (.int l3)]) rfl ?_
      refine zg_iinc (pc := 102) dX9_count_102 rfl (v := l3 + 1) rfl (by decide) (L' := [some (.ref 0), none, some (.int (l2 + 0)), some (.int (l3 + 1))]) rfl ?_
      refine zg_goto (pc := 105) dX9_count_105 (tgt := 78) (by decide) ?_
      exact hag78 (l2 + 0) (l3 + 1) _ H
    · replace H := H.2 hc
      refine zg_iconst (pc := 95) dX9_count_95 (v := 1) (by decide) ?_
      refine zg_goto (pc := 96) dX9_count_96 (tgt := 100) (by decide) ?_
      refine zg_iadd (pc := 100) dX9_count_100 ?_
      refine zg_istore_n (pc := 101) dX9_count_101 rfl (by decide) (L' := [some (.ref 0), none, some (.int (l2 + 1)), some (.int l3)]) rfl ?_
      refine zg_iinc (pc := 102) dX9_count_102 rfl (v := l3 + 1) rfl (by decide) (L' := [some (.ref 0), none, some (.int (l2 + 1)), some (.int (l3 + 1))]) rfl ?_
      refine zg_goto (pc := 105) dX9_count_105 (tgt := 78) (by decide) ?_
      exact hag78 (l2 + 1) (l3 + 1) _ H
set_option maxRecDepth 100000 in
theorem sd_X9_count (d : Nat) {l1 : Int32} {h : zz_Hp} {Q : Int32 → zz_Hp → Prop} (H : w_X9_count l1 h Q) : zz_G zKR zNR (d + 8) mX9_count (qI Q) 0 (zz_L0 4 [.ref 0, .int l1]) [] h := by
  show zz_G zKR zNR (d + 8) mX9_count (qI Q) 0 [some (.ref 0), some (.int l1), none, none] [] h
  unfold w_X9_count at H
  refine zg_iload_n (pc := 0) dX9_count_0 rfl rfl ?_
  by_cases hc : (Int32.toInt l1) < 0 ∨ 6 < (Int32.toInt l1)
  · refine zg_tabOut (pc := 1) dX9_count_1 hc (tgt := 110) (by decide) ?_
    replace H := H.2.2.2.2.2.2.2 hc
    refine zg_iconst (pc := 110) dX9_count_110 (v := (-1)) (by decide) ?_
    exact zg_iret (pc := 111) dX9_count_111 rfl ⟨_, rfl, H⟩
  · have hx : (Int32.toInt l1) = 0 ∨ (Int32.toInt l1) = 1 ∨ (Int32.toInt l1) = 2 ∨ (Int32.toInt l1) = 3 ∨ (Int32.toInt l1) = 4 ∨ (Int32.toInt l1) = 5 ∨ (Int32.toInt l1) = 6 := by omega
    rcases hx with hx | hx | hx | hx | hx | hx | hx
    · refine zg_tabIn (pc := 1) dX9_count_1 (by omega) (by omega) (off := 43) (by rw [hx]; rfl) (tgt := 44) (by decide) ?_
      replace H := H.1 hx
      refine zg_aload_n (pc := 44) dX9_count_44 rfl rfl ?_
      refine zg_getI (pc := 45) dX9_count_45 lf_X9_139 kR_0 (by decide) rfl ?_
      exact zg_iret (pc := 48) dX9_count_48 rfl ⟨_, rfl, H⟩
    · refine zg_tabIn (pc := 1) dX9_count_1 (by omega) (by omega) (off := 48) (by rw [hx]; rfl) (tgt := 49) (by decide) ?_
      replace H := H.2.1 hx
      refine zg_aload_n (pc := 49) dX9_count_49 rfl rfl ?_
      refine zg_getI (pc := 50) dX9_count_50 lf_X9_194 kR_0 (by decide) rfl ?_
      exact zg_iret (pc := 53) dX9_count_53 rfl ⟨_, rfl, H⟩
    · refine zg_tabIn (pc := 1) dX9_count_1 (by omega) (by omega) (off := 53) (by rw [hx]; rfl) (tgt := 54) (by decide) ?_
      replace H := H.2.2.1 hx
      refine zg_aload_n (pc := 54) dX9_count_54 rfl rfl ?_
      refine zg_getI (pc := 55) dX9_count_55 lf_X9_200 kR_0 (by decide) rfl ?_
      exact zg_iret (pc := 58) dX9_count_58 rfl ⟨_, rfl, H⟩
    · refine zg_tabIn (pc := 1) dX9_count_1 (by omega) (by omega) (off := 58) (by rw [hx]; rfl) (tgt := 59) (by decide) ?_
      replace H := H.2.2.2.1 hx
      refine zg_aload_n (pc := 59) dX9_count_59 rfl rfl ?_
      refine zg_getI (pc := 60) dX9_count_60 lf_X9_203 kR_0 (by decide) rfl ?_
      exact zg_iret (pc := 63) dX9_count_63 rfl ⟨_, rfl, H⟩
    · refine zg_tabIn (pc := 1) dX9_count_1 (by omega) (by omega) (off := 63) (by rw [hx]; rfl) (tgt := 64) (by decide) ?_
      replace H := H.2.2.2.2.1 hx
      refine zg_aload_n (pc := 64) dX9_count_64 rfl rfl ?_
      refine zg_getI (pc := 65) dX9_count_65 lf_X9_206 kR_0 (by decide) rfl ?_
      exact zg_iret (pc := 68) dX9_count_68 rfl ⟨_, rfl, H⟩
    · refine zg_tabIn (pc := 1) dX9_count_1 (by omega) (by omega) (off := 68) (by rw [hx]; rfl) (tgt := 69) (by decide) ?_
      replace H := H.2.2.2.2.2.1 hx
      refine zg_aload_n (pc := 69) dX9_count_69 rfl rfl ?_
      refine zg_getI (pc := 70) dX9_count_70 lf_X9_262 kR_0 (by decide) rfl ?_
      exact zg_iret (pc := 73) dX9_count_73 rfl ⟨_, rfl, H⟩
    · refine zg_tabIn (pc := 1) dX9_count_1 (by omega) (by omega) (off := 73) (by rw [hx]; rfl) (tgt := 74) (by decide) ?_
      replace H := H.2.2.2.2.2.2.1 hx
      refine zg_iconst (pc := 74) dX9_count_74 (v := 0) (by decide) ?_
      refine zg_istore_n (pc := 75) dX9_count_75 rfl (by decide) (L' := [some (.ref 0), some (.int l1), some (.int 0), none]) rfl ?_
      refine zg_iconst (pc := 76) dX9_count_76 (v := 0) (by decide) ?_
      refine zg_istore_n (pc := 77) dX9_count_77 rfl (by decide) (L' := [some (.ref 0), some (.int l1), some (.int 0), some (.int 0)]) rfl ?_
      refine zg_weak (L' := [some (.ref 0), none, some (.int 0), some (.int 0)]) ⟨rfl, ⟨rfl, ⟨rfl, trivial⟩⟩⟩ ?_
      exact sd_X9_count_l78  H
