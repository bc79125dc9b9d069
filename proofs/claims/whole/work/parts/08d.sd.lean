set_option maxRecDepth 100000 in
theorem sd_X8_read_j85 {d : Nat} {Q : Int32 → zz_Hp → Prop} {l2 : Int32} {l3 : Int32}  {h : zz_Hp}  (H : w_X8_read_j85 Q l2 l3 h) : zz_G zKC zNC (d + 6) mX8_read (qI Q) 85 [some (.ref 0), none, some (.int l2), some (.int l3)] [] h := by
  unfold w_X8_read_j85 at H
  refine zg_aload_n (pc := 85) dX8_read_85 rfl rfl ?_
  refine zg_getR (pc := 86) dX8_read_86 lf_X8_47 kC_0 (by decide) rfl ?_
  refine zg_iconst (pc := 89) dX8_read_89 (v := 0) (by decide) ?_
  refine zg_putI (pc := 90) dX8_read_90 lp_X8_278 kC_24 (by decide) rfl ?_
  generalize eh5 : zz_uI h 24 0 0 = h5
  replace H := H h5 eh5.symm
  refine zg_iload_n (pc := 93) dX8_read_93 rfl rfl ?_
  refine zg_if_le (pc := 94) dX8_read_94 (tgt := 104) (by decide) (fun hc => ?_) (fun hc => ?_)
  · replace H := H.1 hc
    refine zg_weak (L' := [none, none, some (.int l2), some (.int l3)]) ⟨rfl, ⟨rfl, trivial⟩⟩ ?_
    exact sd_X8_read_j104  H
  · replace H := H.2 hc
    refine zg_aload_n (pc := 97) dX8_read_97 rfl rfl ?_
    refine zg_getR (pc := 98) dX8_read_98 lf_X8_30 kC_0 (by decide) rfl ?_
    refine zg_callVv (st := []) (pc := 101) dX8_read_101 (As := []) lk_X8_106 kC_18 (by decide) rfl (Nat.le_of_ble_eq_true rfl) (Nat.le_of_ble_eq_true rfl) (sd_X1_empty_18 (d + 5) H) (fun h6 H => ?_)
    refine zg_weak (L' := [none, none, some (.int l2), some (.int l3)]) ⟨rfl, ⟨rfl, trivial⟩⟩ ?_
    exact sd_X8_read_j104  H
set_option maxRecDepth 100000 in
theorem sd_X8_read_l37 {d : Nat} {Q : Int32 → zz_Hp → Prop}  {l2 : Int32} {l3 : Int32} {h : zz_Hp}  (H : lp (fun s ag => w_X8_read_l37 ag Q  s.1 s.2.1 s.2.2) (l2, l3, h)) : zz_G zKC zNC (d + 6) mX8_read (qI Q) 37 [some (.ref 0), none, some (.int l2), some (.int l3)] [] h := by
  refine lp_sound (G := fun (s : Int32 × Int32 × zz_Hp) => zz_G zKC zNC (d + 6) mX8_read (qI Q) 37 [some (.ref 0), none, some (.int s.1), some (.int s.2.1)] [] s.2.2) ?_ H
  clear H
  intro s ag37 hag37 H
  obtain ⟨l2, l3, h⟩ := s
  replace hag37 : ∀ (l2 : Int32) (l3 : Int32) (h : zz_Hp), ag37 (l2, l3, h) → zz_G zKC zNC (d + 6) mX8_read (qI Q) 37 [some (.ref 0), none, some (.int l2), some (.int l3)] [] h := fun l2 l3 h H => hag37 (l2, l3, h) H
  replace H : w_X8_read_l37 ag37 Q  l2 l3 h := H
  show zz_G zKC zNC (d + 6) mX8_read (qI Q) 37 [some (.ref 0), none, some (.int l2), some (.int l3)] [] h
  unfold w_X8_read_l37 at H
  refine zg_iload_n (pc := 37) dX8_read_37 rfl rfl ?_
  refine zg_bipush (pc := 38) dX8_read_38 (v := 80) (by decide) ?_
  refine zg_icmp_ge (pc := 40) dX8_read_40 (tgt := 85) (by decide) (fun hc => ?_) (fun hc => ?_)
  · replace H := H.1 hc
    exact sd_X8_read_j85  H
  · replace H := H.2 hc
    refine zg_iload_n (pc := 43) dX8_read_43 rfl rfl ?_
    refine zg_if_ne (pc := 44) dX8_read_44 (tgt := 85) (by decide) (fun hc => ?_) (fun hc => ?_)
    · replace H := H.1 hc
      exact sd_X8_read_j85  H
    · replace H := H.2 hc
      refine zg_aload_n (pc := 47) dX8_read_47 rfl rfl ?_
      refine zg_getR (pc := 48) dX8_read_48 lf_X8_47 kC_0 (by decide) rfl ?_
      refine zg_callVi (st := []) (pc := 51) dX8_read_51 (As := []) lk_X8_285 kC_24 (by decide) rfl (Nat.le_of_ble_eq_true rfl) (Nat.le_of_ble_eq_true rfl) (sd_X5_takeAct (d + 3) H) (fun r9 h8 H => ?_)
      refine zg_if_eq (pc := 54) dX8_read_54 (tgt := 85) (by decide) (fun hc => ?_) (fun hc => ?_)
      · replace H := H.1 hc
        exact sd_X8_read_j85  H
      · replace H := H.2 hc
        refine zg_aload_n (pc := 57) dX8_read_57 rfl rfl ?_
        refine zg_callVi (st := []) (pc := 58) dX8_read_58 (As := []) lk_X8_288 kC_0 (by decide) rfl (Nat.le_of_ble_eq_true rfl) (Nat.le_of_ble_eq_true rfl) (sd_X8_doAct d H) (fun r11 h10 H => ?_)
        refine zg_if_eq (pc := 61) dX8_read_61 (tgt := 80) (by decide) (fun hc => ?_) (fun hc => ?_)
        · replace H := H.1 hc
          refine zg_iconst (pc := 80) dX8_read_80 (v := 1) (by decide) ?_
          refine zg_istore_n (pc := 81) dX8_read_81 rfl (by decide) (L' := [some (.ref 0), none, some (.int l2), some (.int 1)]) rfl ?_
          refine zg_goto (pc := 82) dX8_read_82 (tgt := 37) (by decide) ?_
          exact hag37 l2 1 _ H
        · replace H := H.2 hc
          refine zg_iinc (pc := 64) dX8_read_64 rfl (v := l2 + 1) rfl (by decide) (L' := [some (.ref 0), none, some (.int (l2 + 1)), some (.int l3)]) rfl ?_
          refine zg_aload_n (pc := 67) dX8_read_67 rfl rfl ?_
          refine zg_getR (pc := 68) dX8_read_68 lf_X8_47 kC_0 (by decide) rfl ?_
          refine zg_bipush (pc := 71) dX8_read_71 (v := 59) (by decide) ?_
          refine zg_callVi (st := []) (pc := 73) dX8_read_73 (As := [.int 59]) lk_X8_291 kC_24 (by decide) rfl (Nat.le_of_ble_eq_true rfl) (Nat.le_of_ble_eq_true rfl) (sd_X5_takeSign (d + 5) H) (fun r13 h12 H => ?_)
          refine zg_pop (pc := 76) dX8_read_76 rfl ?_
          refine zg_goto (pc := 77) dX8_read_77 (tgt := 37) (by decide) ?_
          exact hag37 (l2 + 1) l3 _ H
set_option maxRecDepth 100000 in
theorem sd_X8_read (d : Nat)  {h : zz_Hp} {Q : Int32 → zz_Hp → Prop} (H : w_X8_read  h Q) : zz_G zKC zNC (d + 6) mX8_read (qI Q) 0 (zz_L0 4 [.ref 0]) [] h := by
  show zz_G zKC zNC (d + 6) mX8_read (qI Q) 0 [some (.ref 0), none, none, none] [] h
  unfold w_X8_read at H
  refine zg_aload_n (pc := 0) dX8_read_0 rfl rfl ?_
  refine zg_getR (pc := 1) dX8_read_1 lf_X8_47 kC_0 (by decide) rfl ?_
  refine zg_callVi (st := []) (pc := 4) dX8_read_4 (As := []) lk_X8_279 kC_24 (by decide) rfl (Nat.le_of_ble_eq_true rfl) (Nat.le_of_ble_eq_true rfl) (sd_X5_firstFault (d + 2) H) (fun r2 h1 H => ?_)
  refine zg_istore_n (pc := 7) dX8_read_7 rfl (by decide) (L' := [some (.ref 0), some (.int r2), none, none]) rfl ?_
  refine zg_iload_n (pc := 8) dX8_read_8 rfl rfl ?_
  refine zg_iconst (pc := 9) dX8_read_9 (v := (-1)) (by decide) ?_
  refine zg_icmp_eq (pc := 10) dX8_read_10 (tgt := 26) (by decide) (fun hc => ?_) (fun hc => ?_)
  · replace H := H.1 hc
    refine zg_iconst (pc := 26) dX8_read_26 (v := 0) (by decide) ?_
    refine zg_istore_n (pc := 27) dX8_read_27 rfl (by decide) (L' := [some (.ref 0), some (.int r2), some (.int 0), none]) rfl ?_
    refine zg_iconst (pc := 28) dX8_read_28 (v := 0) (by decide) ?_
    refine zg_istore_n (pc := 29) dX8_read_29 rfl (by decide) (L' := [some (.ref 0), some (.int r2), some (.int 0), some (.int 0)]) rfl ?_
    refine zg_aload_n (pc := 30) dX8_read_30 rfl rfl ?_
    refine zg_getR (pc := 31) dX8_read_31 lf_X8_47 kC_0 (by decide) rfl ?_
    refine zg_callVv (st := []) (pc := 34) dX8_read_34 (As := []) lk_X8_282 kC_24 (by decide) rfl (Nat.le_of_ble_eq_true rfl) (Nat.le_of_ble_eq_true rfl) (sd_X5_rewind (d + 5) H) (fun h3 H => ?_)
    refine zg_weak (L' := [some (.ref 0), none, some (.int 0), some (.int 0)]) ⟨rfl, ⟨rfl, ⟨rfl, trivial⟩⟩⟩ ?_
    exact sd_X8_read_l37  H
  · replace H := H.2 hc
    refine zg_aload_n (pc := 13) dX8_read_13 rfl rfl ?_
    refine zg_getR (pc := 14) dX8_read_14 lf_X8_47 kC_0 (by decide) rfl ?_
    refine zg_iconst (pc := 17) dX8_read_17 (v := 0) (by decide) ?_
    refine zg_putI (pc := 18) dX8_read_18 lp_X8_278 kC_24 (by decide) rfl ?_
    generalize eh14 : zz_uI h1 24 0 0 = h14
    replace H := H h14 eh14.symm
    refine zg_bipush (pc := 21) dX8_read_21 (v := (-100)) (by decide) ?_
    refine zg_iload_n (pc := 23) dX8_read_23 rfl rfl ?_
    refine zg_isub (pc := 24) dX8_read_24 ?_
    exact zg_iret (pc := 25) dX8_read_25 rfl ⟨_, rfl, H⟩
set_option maxRecDepth 100000 in
theorem sd_X3_write (d : Nat) {l1 : Int32} {l2 : Int32} {l3 : Int32} {h : zz_Hp} {Q : zz_Hp → Prop} (H : w_X3_write l1 l2 l3 h Q) : zz_G zKC zNC (d + 0) mX3_write (qV Q) 0 (zz_L0 4 [.ref 21, .int l1, .int l2, .int l3]) [] h := by
  show zz_G zKC zNC (d + 0) mX3_write (qV Q) 0 [some (.ref 21), some (.int l1), some (.int l2), some (.int l3)] [] h
  unfold w_X3_write at H
  refine zg_aload_n (pc := 0) dX3_write_0 rfl rfl ?_
  refine zg_getR (pc := 1) dX3_write_1 lf_X3_15 kC_21 (by decide) rfl ?_
  refine zg_iload_n (pc := 4) dX3_write_4 rfl rfl ?_
  refine zg_bipush (pc := 5) dX3_write_5 (v := 40) (by decide) ?_
  refine zg_imul (pc := 7) dX3_write_7 ?_
  refine zg_iload_n (pc := 8) dX3_write_8 rfl rfl ?_
  refine zg_iadd (pc := 9) dX3_write_9 ?_
  refine zg_iload_n (pc := 10) dX3_write_10 rfl rfl ?_
  obtain ⟨hb, H⟩ := H
  refine zg_iast (pc := 11) dX3_write_11 kC_23 (by decide) hb ?_
  generalize eh1 : zz_uI h 23 (Int32.toNatClampNeg ((l1 * 40) + l2)) l3 = h1
  replace H := H h1 eh1.symm
  exact zg_vret (pc := 12) dX3_write_12 rfl ⟨rfl, H⟩
set_option maxRecDepth 100000 in
theorem sd_X3_renew_l9 {d : Nat} {Q : zz_Hp → Prop} {l1 : Int32} {l2 : Int32} {l3 : Int32} {h : zz_Hp}  (H : lp (fun s ag => w_X3_renew_l9 ag Q l1 l2 s.1 s.2) (l3, h)) : zz_G zKC zNC (d + 1) mX3_renew (qV Q) 9 [some (.ref 21), some (.int l1), some (.int l2), some (.int l3)] [] h := by
  refine lp_sound (G := fun (s : Int32 × zz_Hp) => zz_G zKC zNC (d + 1) mX3_renew (qV Q) 9 [some (.ref 21), some (.int l1), some (.int l2), some (.int s.1)] [] s.2) ?_ H
  clear H
  intro s ag9 hag9 H
  obtain ⟨l3, h⟩ := s
  replace hag9 : ∀ (l3 : Int32) (h : zz_Hp), ag9 (l3, h) → zz_G zKC zNC (d + 1) mX3_renew (qV Q) 9 [some (.ref 21), some (.int l1), some (.int l2), some (.int l3)] [] h := fun l3 h H => hag9 (l3, h) H
  replace H : w_X3_renew_l9 ag9 Q l1 l2 l3 h := H
  show zz_G zKC zNC (d + 1) mX3_renew (qV Q) 9 [some (.ref 21), some (.int l1), some (.int l2), some (.int l3)] [] h
  unfold w_X3_renew_l9 at H
  refine zg_iload_n (pc := 9) dX3_renew_9 rfl rfl ?_
  refine zg_iload_n (pc := 10) dX3_renew_10 rfl rfl ?_
  refine zg_icmp_ge (pc := 11) dX3_renew_11 (tgt := 27) (by decide) (fun hc => ?_) (fun hc => ?_)
  · replace H := H.1 hc
    exact zg_vret (pc := 27) dX3_renew_27 rfl ⟨rfl, H⟩
  · replace H := H.2 hc
    refine zg_aload_n (pc := 14) dX3_renew_14 rfl rfl ?_
    refine zg_iload_n (pc := 15) dX3_renew_15 rfl rfl ?_
    refine zg_iload_n (pc := 16) dX3_renew_16 rfl rfl ?_
    refine zg_iconst (pc := 17) dX3_renew_17 (v := 0) (by decide) ?_
    refine zg_callVv (st := []) (pc := 18) dX3_renew_18 (As := [.int l1, .int l3, .int 0]) lk_X3_18 kC_21 (by decide) rfl (Nat.le_of_ble_eq_true rfl) (Nat.le_of_ble_eq_true rfl) (sd_X3_write d H) (fun h2 H => ?_)
    refine zg_iinc (pc := 21) dX3_renew_21 rfl (v := l3 + 1) rfl (by decide) (L' := [some (.ref 21), some (.int l1), some (.int l2), some (.int (l3 + 1))]) rfl ?_
    refine zg_goto (pc := 24) dX3_renew_24 (tgt := 9) (by decide) ?_
    exact hag9 (l3 + 1) _ H
set_option maxRecDepth 100000 in
theorem sd_X3_renew (d : Nat) {l1 : Int32} {l2 : Int32} {h : zz_Hp} {Q : zz_Hp → Prop} (H : w_X3_renew l1 l2 h Q) : zz_G zKC zNC (d + 1) mX3_renew (qV Q) 0 (zz_L0 4 [.ref 21, .int l1, .int l2]) [] h := by
  show zz_G zKC zNC (d + 1) mX3_renew (qV Q) 0 [some (.ref 21), some (.int l1), some (.int l2), none] [] h
  unfold w_X3_renew at H
  refine zg_aload_n (pc := 0) dX3_renew_0 rfl rfl ?_
  refine zg_getR (pc := 1) dX3_renew_1 lf_X3_9 kC_21 (by decide) rfl ?_
  refine zg_iload_n (pc := 4) dX3_renew_4 rfl rfl ?_
  refine zg_iload_n (pc := 5) dX3_renew_5 rfl rfl ?_
  obtain ⟨hb, H⟩ := H
  refine zg_iast (pc := 6) dX3_renew_6 kC_22 (by decide) hb ?_
  generalize eh1 : zz_uI h 22 (Int32.toNatClampNeg l1) l2 = h1
  replace H := H h1 eh1.symm
  refine zg_iconst (pc := 7) dX3_renew_7 (v := 0) (by decide) ?_
  refine zg_istore_n (pc := 8) dX3_renew_8 rfl (by decide) (L' := [some (.ref 21), some (.int l1), some (.int l2), some (.int 0)]) rfl ?_
  exact sd_X3_renew_l9  H
set_option maxRecDepth 100000 in
theorem sd_X8_row (d : Nat) {l1 : Int32} {l2 : Int32} {h : zz_Hp} {Q : Int32 → zz_Hp → Prop} (H : w_X8_row l1 l2 h Q) : zz_G zKC zNC (d + 2) mX8_row (qI Q) 0 (zz_L0 3 [.ref 0, .int l1, .int l2]) [] h := by
  show zz_G zKC zNC (d + 2) mX8_row (qI Q) 0 [some (.ref 0), some (.int l1), some (.int l2)] [] h
  unfold w_X8_row at H
  refine zg_aload_n (pc := 0) dX8_row_0 rfl rfl ?_
  refine zg_getR (pc := 1) dX8_row_1 lf_X8_40 kC_0 (by decide) rfl ?_
  refine zg_iload_n (pc := 4) dX8_row_4 rfl rfl ?_
  refine zg_callVi (st := []) (pc := 5) dX8_row_5 (As := [.int l1]) lk_X8_247 kC_21 (by decide) rfl (Nat.le_of_ble_eq_true rfl) (Nat.le_of_ble_eq_true rfl) (sd_X3_has (d + 1) H) (fun r2 h1 H => ?_)
  refine zg_if_eq (pc := 8) dX8_row_8 (tgt := 17) (by decide) (fun hc => ?_) (fun hc => ?_)
  · replace H := H.1 hc
    refine zg_iconst (pc := 17) dX8_row_17 (v := (-1)) (by decide) ?_
    exact zg_iret (pc := 18) dX8_row_18 rfl ⟨_, rfl, H⟩
  · replace H := H.2 hc
    refine zg_iload_n (pc := 11) dX8_row_11 rfl rfl ?_
    refine zg_bipush (pc := 12) dX8_row_12 (v := 40) (by decide) ?_
    refine zg_icmp_le (pc := 14) dX8_row_14 (tgt := 19) (by decide) (fun hc => ?_) (fun hc => ?_)
    · replace H := H.1 hc
      refine zg_iload_n (pc := 19) dX8_row_19 rfl rfl ?_
      refine zg_iconst (pc := 20) dX8_row_20 (v := (-1)) (by decide) ?_
      refine zg_icmp_ge (pc := 21) dX8_row_21 (tgt := 27) (by decide) (fun hc => ?_) (fun hc => ?_)
      · replace H := H.1 hc
        refine zg_aload_n (pc := 27) dX8_row_27 rfl rfl ?_
        refine zg_getR (pc := 28) dX8_row_28 lf_X8_40 kC_0 (by decide) rfl ?_
        refine zg_iload_n (pc := 31) dX8_row_31 rfl rfl ?_
        refine zg_iload_n (pc := 32) dX8_row_32 rfl rfl ?_
        refine zg_callVv (st := []) (pc := 33) dX8_row_33 (As := [.int l1, .int l2]) lk_X8_295 kC_21 (by decide) rfl (Nat.le_of_ble_eq_true rfl) (Nat.le_of_ble_eq_true rfl) (sd_X3_renew d H) (fun h3 H => ?_)
        refine zg_iconst (pc := 36) dX8_row_36 (v := 1) (by decide) ?_
        exact zg_iret (pc := 37) dX8_row_37 rfl ⟨_, rfl, H⟩
      · replace H := H.2 hc
        refine zg_bipush (pc := 24) dX8_row_24 (v := (-14)) (by decide) ?_
        exact zg_iret (pc := 26) dX8_row_26 rfl ⟨_, rfl, H⟩
    · replace H := H.2 hc
      refine zg_iconst (pc := 17) dX8_row_17 (v := (-1)) (by decide) ?_
      exact zg_iret (pc := 18) dX8_row_18 rfl ⟨_, rfl, H⟩
set_option maxRecDepth 100000 in
theorem sd_X3_hasPlace (d : Nat) {l1 : Int32} {l2 : Int32} {h : zz_Hp} {Q : Int32 → zz_Hp → Prop} (H : w_X3_hasPlace l1 l2 h Q) : zz_G zKC zNC (d + 0) mX3_hasPlace (qI Q) 0 (zz_L0 3 [.ref 21, .int l1, .int l2]) [] h := by
  show zz_G zKC zNC (d + 0) mX3_hasPlace (qI Q) 0 [some (.ref 21), some (.int l1), some (.int l2)] [] h
  unfold w_X3_hasPlace at H
  refine zg_iload_n (pc := 0) dX3_hasPlace_0 rfl rfl ?_
  refine zg_if_lt (pc := 1) dX3_hasPlace_1 (tgt := 18) (by decide) (fun hc => ?_) (fun hc => ?_)
  · replace H := H.1 hc
    refine zg_iconst (pc := 18) dX3_hasPlace_18 (v := 0) (by decide) ?_
    exact zg_zret (pc := 19) dX3_hasPlace_19 (Or.inl rfl) rfl ⟨_, rfl, H⟩
  · replace H := H.2 hc
    refine zg_iload_n (pc := 4) dX3_hasPlace_4 rfl rfl ?_
    refine zg_aload_n (pc := 5) dX3_hasPlace_5 rfl rfl ?_
    refine zg_getR (pc := 6) dX3_hasPlace_6 lf_X3_9 kC_21 (by decide) rfl ?_
    refine zg_iload_n (pc := 9) dX3_hasPlace_9 rfl rfl ?_
    obtain ⟨hb, H⟩ := H
    refine zg_iald (pc := 10) dX3_hasPlace_10 kC_22 (by decide) hb ?_
    refine zg_icmp_ge (pc := 11) dX3_hasPlace_11 (tgt := 18) (by decide) (fun hc => ?_) (fun hc => ?_)
    · replace H := H.1 hc
      refine zg_iconst (pc := 18) dX3_hasPlace_18 (v := 0) (by decide) ?_
      exact zg_zret (pc := 19) dX3_hasPlace_19 (Or.inl rfl) rfl ⟨_, rfl, H⟩
    · replace H := H.2 hc
      refine zg_iconst (pc := 14) dX3_hasPlace_14 (v := 1) (by decide) ?_
      refine zg_goto (pc := 15) dX3_hasPlace_15 (tgt := 19) (by decide) ?_
      exact zg_zret (pc := 19) dX3_hasPlace_19 (Or.inr rfl) rfl ⟨_, rfl, H⟩
set_option maxRecDepth 100000 in
theorem sd_X8_put (d : Nat) {l1 : Int32} {l2 : Int32} {l3 : Int32} {h : zz_Hp} {Q : Int32 → zz_Hp → Prop} (H : w_X8_put l1 l2 l3 h Q) : zz_G zKC zNC (d + 1) mX8_put (qI Q) 0 (zz_L0 4 [.ref 0, .int l1, .int l2, .int l3]) [] h := by
  show zz_G zKC zNC (d + 1) mX8_put (qI Q) 0 [some (.ref 0), some (.int l1), some (.int l2), some (.int l3)] [] h
  unfold w_X8_put at H
  refine zg_aload_n (pc := 0) dX8_put_0 rfl rfl ?_
  refine zg_getR (pc := 1) dX8_put_1 lf_X8_40 kC_0 (by decide) rfl ?_
  refine zg_iload_n (pc := 4) dX8_put_4 rfl rfl ?_
  refine zg_callVi (st := []) (pc := 5) dX8_put_5 (As := [.int l1]) lk_X8_247 kC_21 (by decide) rfl (Nat.le_of_ble_eq_true rfl) (Nat.le_of_ble_eq_true rfl) (sd_X3_has d H) (fun r2 h1 H => ?_)
  refine zg_if_ne (pc := 8) dX8_put_8 (tgt := 13) (by decide) (fun hc => ?_) (fun hc => ?_)
  · replace H := H.1 hc
    refine zg_aload_n (pc := 13) dX8_put_13 rfl rfl ?_
    refine zg_getR (pc := 14) dX8_put_14 lf_X8_40 kC_0 (by decide) rfl ?_
    refine zg_iload_n (pc := 17) dX8_put_17 rfl rfl ?_
    refine zg_callVi (st := []) (pc := 18) dX8_put_18 (As := [.int l1]) lk_X8_248 kC_21 (by decide) rfl (Nat.le_of_ble_eq_true rfl) (Nat.le_of_ble_eq_true rfl) (sd_X3_isMissing d H) (fun r4 h3 H => ?_)
    refine zg_if_eq (pc := 21) dX8_put_21 (tgt := 27) (by decide) (fun hc => ?_) (fun hc => ?_)
    · replace H := H.1 hc
      refine zg_aload_n (pc := 27) dX8_put_27 rfl rfl ?_
      refine zg_getR (pc := 28) dX8_put_28 lf_X8_40 kC_0 (by decide) rfl ?_
      refine zg_iload_n (pc := 31) dX8_put_31 rfl rfl ?_
      refine zg_iload_n (pc := 32) dX8_put_32 rfl rfl ?_
      refine zg_callVi (st := []) (pc := 33) dX8_put_33 (As := [.int l1, .int l2]) lk_X8_299 kC_21 (by decide) rfl (Nat.le_of_ble_eq_true rfl) (Nat.le_of_ble_eq_true rfl) (sd_X3_hasPlace d H) (fun r6 h5 H => ?_)
      refine zg_if_ne (pc := 36) dX8_put_36 (tgt := 42) (by decide) (fun hc => ?_) (fun hc => ?_)
      · replace H := H.1 hc
        refine zg_aload_n (pc := 42) dX8_put_42 rfl rfl ?_
        refine zg_getR (pc := 43) dX8_put_43 lf_X8_40 kC_0 (by decide) rfl ?_
        refine zg_iload_n (pc := 46) dX8_put_46 rfl rfl ?_
        refine zg_iload_n (pc := 47) dX8_put_47 rfl rfl ?_
        refine zg_iload_n (pc := 48) dX8_put_48 rfl rfl ?_
        refine zg_callVv (st := []) (pc := 49) dX8_put_49 (As := [.int l1, .int l2, .int l3]) lk_X8_302 kC_21 (by decide) rfl (Nat.le_of_ble_eq_true rfl) (Nat.le_of_ble_eq_true rfl) (sd_X3_write d H) (fun h7 H => ?_)
        refine zg_iconst (pc := 52) dX8_put_52 (v := 1) (by decide) ?_
        exact zg_iret (pc := 53) dX8_put_53 rfl ⟨_, rfl, H⟩
      · replace H := H.2 hc
        refine zg_bipush (pc := 39) dX8_put_39 (v := (-13)) (by decide) ?_
        exact zg_iret (pc := 41) dX8_put_41 rfl ⟨_, rfl, H⟩
    · replace H := H.2 hc
      refine zg_bipush (pc := 24) dX8_put_24 (v := (-11)) (by decide) ?_
      exact zg_iret (pc := 26) dX8_put_26 rfl ⟨_, rfl, H⟩
  · replace H := H.2 hc
    refine zg_iconst (pc := 11) dX8_put_11 (v := (-1)) (by decide) ?_
    exact zg_iret (pc := 12) dX8_put_12 rfl ⟨_, rfl, H⟩
set_option maxRecDepth 100000 in
theorem sd_X8_get (d : Nat) {l1 : Int32} {l2 : Int32} {h : zz_Hp} {Q : Int32 → zz_Hp → Prop} (H : w_X8_get l1 l2 h Q) : zz_G zKC zNC (d + 1) mX8_get (qI Q) 0 (zz_L0 3 [.ref 0, .int l1, .int l2]) [] h := by
  show zz_G zKC zNC (d + 1) mX8_get (qI Q) 0 [some (.ref 0), some (.int l1), some (.int l2)] [] h
  unfold w_X8_get at H
  refine zg_aload_n (pc := 0) dX8_get_0 rfl rfl ?_
  refine zg_getR (pc := 1) dX8_get_1 lf_X8_40 kC_0 (by decide) rfl ?_
  refine zg_iload_n (pc := 4) dX8_get_4 rfl rfl ?_
  refine zg_callVi (st := []) (pc := 5) dX8_get_5 (As := [.int l1]) lk_X8_247 kC_21 (by decide) rfl (Nat.le_of_ble_eq_true rfl) (Nat.le_of_ble_eq_true rfl) (sd_X3_has d H) (fun r2 h1 H => ?_)
  refine zg_if_eq (pc := 8) dX8_get_8 (tgt := 35) (by decide) (fun hc => ?_) (fun hc => ?_)
  · replace H := H.1 hc
    refine zg_ldc (pc := 35) dX8_get_35 lc_X8_125 ?_
    exact zg_iret (pc := 37) dX8_get_37 rfl ⟨_, rfl, H⟩
  · replace H := H.2 hc
    refine zg_aload_n (pc := 11) dX8_get_11 rfl rfl ?_
    refine zg_getR (pc := 12) dX8_get_12 lf_X8_40 kC_0 (by decide) rfl ?_
    refine zg_iload_n (pc := 15) dX8_get_15 rfl rfl ?_
    refine zg_iload_n (pc := 16) dX8_get_16 rfl rfl ?_
    refine zg_callVi (st := []) (pc := 17) dX8_get_17 (As := [.int l1, .int l2]) lk_X8_299 kC_21 (by decide) rfl (Nat.le_of_ble_eq_true rfl) (Nat.le_of_ble_eq_true rfl) (sd_X3_hasPlace d H) (fun r4 h3 H => ?_)
    refine zg_if_eq (pc := 20) dX8_get_20 (tgt := 35) (by decide) (fun hc => ?_) (fun hc => ?_)
    · replace H := H.1 hc
      refine zg_ldc (pc := 35) dX8_get_35 lc_X8_125 ?_
      exact zg_iret (pc := 37) dX8_get_37 rfl ⟨_, rfl, H⟩
    · replace H := H.2 hc
      refine zg_aload_n (pc := 23) dX8_get_23 rfl rfl ?_
      refine zg_getR (pc := 24) dX8_get_24 lf_X8_40 kC_0 (by decide) rfl ?_
      refine zg_iload_n (pc := 27) dX8_get_27 rfl rfl ?_
      refine zg_iload_n (pc := 28) dX8_get_28 rfl rfl ?_
      refine zg_callVi (st := []) (pc := 29) dX8_get_29 (As := [.int l1, .int l2]) lk_X8_254 kC_21 (by decide) rfl (Nat.le_of_ble_eq_true rfl) (Nat.le_of_ble_eq_true rfl) (sd_X3_placeAt d H) (fun r6 h5 H => ?_)
      refine zg_goto (pc := 32) dX8_get_32 (tgt := 37) (by decide) ?_
      exact zg_iret (pc := 37) dX8_get_37 rfl ⟨_, rfl, H⟩
set_option maxRecDepth 100000 in
theorem sd_X8_film_l100 {d : Nat} {Q : Int32 → zz_Hp → Prop} {l1 : Int32} {l2 : Int32} {l5 : Int32} {h : zz_Hp}  (H : lp (fun s ag => w_X8_film_l100 ag Q l1 l2 s.1 s.2) (l5, h)) : zz_G zKC zNC (d + 4) mX8_film (qI Q) 100 [some (.ref 0), some (.int l1), some (.int l2), none, none, some (.int l5)] [] h := by
  refine lp_sound (G := fun (s : Int32 × zz_Hp) => zz_G zKC zNC (d + 4) mX8_film (qI Q) 100 [some (.ref 0), some (.int l1), some (.int l2), none, none, some (.int s.1)] [] s.2) ?_ H
  clear H
  intro s ag100 hag100 H
  obtain ⟨l5, h⟩ := s
  replace hag100 : ∀ (l5 : Int32) (h : zz_Hp), ag100 (l5, h) → zz_G zKC zNC (d + 4) mX8_film (qI Q) 100 [some (.ref 0), some (.int l1), some (.int l2), none, none, some (.int l5)] [] h := fun l5 h H => hag100 (l5, h) H
  replace H : w_X8_film_l100 ag100 Q l1 l2 l5 h := H
  show zz_G zKC zNC (d + 4) mX8_film (qI Q) 100 [some (.ref 0), some (.int l1), some (.int l2), none, none, some (.int l5)] [] h
  unfold w_X8_film_l100 at H
  refine zg_iload (pc := 100) dX8_film_100 rfl ?_
  refine zg_iload_n (pc := 102) dX8_film_102 rfl rfl ?_
  refine zg_icmp_ge (pc := 103) dX8_film_103 (tgt := 138) (by decide) (fun hc => ?_) (fun hc => ?_)
  · replace H := H.1 hc
    refine zg_iload_n (pc := 138) dX8_film_138 rfl rfl ?_
    exact zg_iret (pc := 139) dX8_film_139 rfl ⟨_, rfl, H⟩
  · replace H := H.2 hc
    refine zg_aload_n (pc := 106) dX8_film_106 rfl rfl ?_
    refine zg_getR (pc := 107) dX8_film_107 lf_X8_40 kC_0 (by decide) rfl ?_
    refine zg_iload_n (pc := 110) dX8_film_110 rfl rfl ?_
    refine zg_iload (pc := 111) dX8_film_111 rfl ?_
    refine zg_aload_n (pc := 113) dX8_film_113 rfl rfl ?_
    refine zg_getR (pc := 114) dX8_film_114 lf_X8_54 kC_0 (by decide) rfl ?_
    refine zg_aload_n (pc := 117) dX8_film_117 rfl rfl ?_
    refine zg_getR (pc := 118) dX8_film_118 lf_X8_12 kC_0 (by decide) rfl ?_
    refine zg_getR (pc := 121) dX8_film_121 lf_X8_75 kC_1 (by decide) rfl ?_
    refine zg_iload (pc := 124) dX8_film_124 rfl ?_
    refine zg_callVi (st := [.int l5, .int l1, .ref 21]) (pc := 126) dX8_film_126 (As := [.ref 2, .int l5]) lk_X8_189 kC_27 (by decide) rfl (Nat.le_of_ble_eq_true rfl) (Nat.le_of_ble_eq_true rfl) (sd_X6_torqueBy d H) (fun r16 h15 H => ?_)
    refine zg_callVv (st := []) (pc := 129) dX8_film_129 (As := [.int l1, .int l5, .int r16]) lk_X8_302 kC_21 (by decide) rfl (Nat.le_of_ble_eq_true rfl) (Nat.le_of_ble_eq_true rfl) (sd_X3_write (d + 3) H) (fun h17 H => ?_)
    refine zg_iinc (pc := 132) dX8_film_132 rfl (v := l5 + 1) rfl (by decide) (L' := [some (.ref 0), some (.int l1), some (.int l2), none, none, some (.int (l5 + 1))]) rfl ?_
    refine zg_goto (pc := 135) dX8_film_135 (tgt := 100) (by decide) ?_
    exact hag100 (l5 + 1) _ H
set_option maxRecDepth 100000 in
theorem sd_X8_film (d : Nat) {l1 : Int32} {l2 : Int32} {l3 : Int32} {l4 : Int32} {h : zz_Hp} {Q : Int32 → zz_Hp → Prop} (H : w_X8_film l1 l2 l3 l4 h Q) : zz_G zKC zNC (d + 4) mX8_film (qI Q) 0 (zz_L0 6 [.ref 0, .int l1, .int l2, .int l3, .int l4]) [] h := by
  show zz_G zKC zNC (d + 4) mX8_film (qI Q) 0 [some (.ref 0), some (.int l1), some (.int l2), some (.int l3), some (.int l4), none] [] h
  unfold w_X8_film at H
  refine zg_aload_n (pc := 0) dX8_film_0 rfl rfl ?_
  refine zg_getR (pc := 1) dX8_film_1 lf_X8_40 kC_0 (by decide) rfl ?_
  refine zg_iload_n (pc := 4) dX8_film_4 rfl rfl ?_
  refine zg_callVi (st := []) (pc := 5) dX8_film_5 (As := [.int l1]) lk_X8_247 kC_21 (by decide) rfl (Nat.le_of_ble_eq_true rfl) (Nat.le_of_ble_eq_true rfl) (sd_X3_has (d + 3) H) (fun r2 h1 H => ?_)
  refine zg_if_eq (pc := 8) dX8_film_8 (tgt := 50) (by decide) (fun hc => ?_) (fun hc => ?_)
  · replace H := H.1 hc
    refine zg_iconst (pc := 50) dX8_film_50 (v := (-1)) (by decide) ?_
    exact zg_iret (pc := 51) dX8_film_51 rfl ⟨_, rfl, H⟩
  · replace H := H.2 hc
    refine zg_iload_n (pc := 11) dX8_film_11 rfl rfl ?_
    refine zg_iconst (pc := 12) dX8_film_12 (v := 0) (by decide) ?_
    refine zg_bipush (pc := 13) dX8_film_13 (v := 40) (by decide) ?_
    refine zg_callSi (st := []) (pc := 15) dX8_film_15 (As := [.int l2, .int 0, .int 40]) lk_X8_121 rfl (Nat.le_of_ble_eq_true rfl) (Nat.le_of_ble_eq_true rfl) (sd_X8_inRange (d + 3) H) (fun r4 h3 H => ?_)
    refine zg_if_eq (pc := 18) dX8_film_18 (tgt := 50) (by decide) (fun hc => ?_) (fun hc => ?_)
    · replace H := H.1 hc
      refine zg_iconst (pc := 50) dX8_film_50 (v := (-1)) (by decide) ?_
      exact zg_iret (pc := 51) dX8_film_51 rfl ⟨_, rfl, H⟩
    · replace H := H.2 hc
      refine zg_aload_n (pc := 21) dX8_film_21 rfl rfl ?_
      refine zg_getR (pc := 22) dX8_film_22 lf_X8_12 kC_0 (by decide) rfl ?_
      refine zg_getR (pc := 25) dX8_film_25 lf_X8_75 kC_1 (by decide) rfl ?_
      refine zg_iload_n (pc := 28) dX8_film_28 rfl rfl ?_
      refine zg_callVi (st := []) (pc := 29) dX8_film_29 (As := [.int l3]) lk_X8_85 kC_2 (by decide) rfl (Nat.le_of_ble_eq_true rfl) (Nat.le_of_ble_eq_true rfl) (sd_X7_has (d + 3) H) (fun r6 h5 H => ?_)
      refine zg_if_eq (pc := 32) dX8_film_32 (tgt := 50) (by decide) (fun hc => ?_) (fun hc => ?_)
      · replace H := H.1 hc
        refine zg_iconst (pc := 50) dX8_film_50 (v := (-1)) (by decide) ?_
        exact zg_iret (pc := 51) dX8_film_51 rfl ⟨_, rfl, H⟩
      · replace H := H.2 hc
        refine zg_aload_n (pc := 35) dX8_film_35 rfl rfl ?_
        refine zg_getR (pc := 36) dX8_film_36 lf_X8_12 kC_0 (by decide) rfl ?_
        refine zg_getR (pc := 39) dX8_film_39 lf_X8_75 kC_1 (by decide) rfl ?_
        refine zg_iload (pc := 42) dX8_film_42 rfl ?_
        refine zg_callVi (st := []) (pc := 44) dX8_film_44 (As := [.int l4]) lk_X8_85 kC_2 (by decide) rfl (Nat.le_of_ble_eq_true rfl) (Nat.le_of_ble_eq_true rfl) (sd_X7_has (d + 3) H) (fun r8 h7 H => ?_)
        refine zg_if_ne (pc := 47) dX8_film_47 (tgt := 52) (by decide) (fun hc => ?_) (fun hc => ?_)
        · replace H := H.1 hc
          refine zg_aload_n (pc := 52) dX8_film_52 rfl rfl ?_
          refine zg_getR (pc := 53) dX8_film_53 lf_X8_12 kC_0 (by decide) rfl ?_
          refine zg_getR (pc := 56) dX8_film_56 lf_X8_75 kC_1 (by decide) rfl ?_
          refine zg_iload (pc := 59) dX8_film_59 rfl ?_
          refine zg_iload_n (pc := 61) dX8_film_61 rfl rfl ?_
          refine zg_callVi (st := []) (pc := 62) dX8_film_62 (As := [.int l4, .int l3]) lk_X8_184 kC_2 (by decide) rfl (Nat.le_of_ble_eq_true rfl) (Nat.le_of_ble_eq_true rfl) (sd_X7_isInside (d + 2) H) (fun r10 h9 H => ?_)
          refine zg_if_ne (pc := 65) dX8_film_65 (tgt := 71) (by decide) (fun hc => ?_) (fun hc => ?_)
          · replace H := H.1 hc
            refine zg_aload_n (pc := 71) dX8_film_71 rfl rfl ?_
            refine zg_getR (pc := 72) dX8_film_72 lf_X8_54 kC_0 (by decide) rfl ?_
            refine zg_aload_n (pc := 75) dX8_film_75 rfl rfl ?_
            refine zg_getR (pc := 76) dX8_film_76 lf_X8_12 kC_0 (by decide) rfl ?_
            refine zg_getR (pc := 79) dX8_film_79 lf_X8_75 kC_1 (by decide) rfl ?_
            refine zg_iload_n (pc := 82) dX8_film_82 rfl rfl ?_
            refine zg_iload (pc := 83) dX8_film_83 rfl ?_
            refine zg_callVv (st := []) (pc := 85) dX8_film_85 (As := [.ref 2, .int l3, .int l4]) lk_X8_173 kC_27 (by decide) rfl (Nat.le_of_ble_eq_true rfl) (Nat.le_of_ble_eq_true rfl) (sd_X6_walk d H) (fun h11 H => ?_)
            refine zg_aload_n (pc := 88) dX8_film_88 rfl rfl ?_
            refine zg_getR (pc := 89) dX8_film_89 lf_X8_40 kC_0 (by decide) rfl ?_
            refine zg_iload_n (pc := 92) dX8_film_92 rfl rfl ?_
            refine zg_iload_n (pc := 93) dX8_film_93 rfl rfl ?_
            refine zg_callVv (st := []) (pc := 94) dX8_film_94 (As := [.int l1, .int l2]) lk_X8_295 kC_21 (by decide) rfl (Nat.le_of_ble_eq_true rfl) (Nat.le_of_ble_eq_true rfl) (sd_X3_renew (d + 2) H) (fun h13 H => ?_)
            refine zg_iconst (pc := 97) dX8_film_97 (v := 0) (by decide) ?_
            refine zg_istore (pc := 98) dX8_film_98 (by decide) (L' := [some (.ref 0), some (.int l1), some (.int l2), some (.int l3), some (.int l4), some (.int 0)]) rfl ?_
            refine zg_weak (L' := [some (.ref 0), some (.int l1), some (.int l2), none, none, some (.int 0)]) ⟨rfl, ⟨rfl, ⟨rfl, ⟨rfl, trivial⟩⟩⟩⟩ ?_
            exact sd_X8_film_l100  H
          · replace H := H.2 hc
            refine zg_bipush (pc := 68) dX8_film_68 (v := (-5)) (by decide) ?_
            exact zg_iret (pc := 70) dX8_film_70 rfl ⟨_, rfl, H⟩
        · replace H := H.2 hc
          refine zg_iconst (pc := 50) dX8_film_50 (v := (-1)) (by decide) ?_
          exact zg_iret (pc := 51) dX8_film_51 rfl ⟨_, rfl, H⟩
set_option maxRecDepth 100000 in
theorem sd_X1_copy_13_5 (d : Nat)  {h : zz_Hp} {Q : zz_Hp → Prop} (H : w_X1_copy_13_5  h Q) : zz_G zKC zNC (d + 1) mX1_copy (qV Q) 0 (zz_L0 2 [.ref 13, .ref 5]) [] h := by
  show zz_G zKC zNC (d + 1) mX1_copy (qV Q) 0 [some (.ref 13), some (.ref 5)] [] h
  unfold w_X1_copy_13_5 at H
  refine zg_aload_n (pc := 0) dX1_copy_0 rfl rfl ?_
  refine zg_aload_n (pc := 1) dX1_copy_1 rfl rfl ?_
  refine zg_getI (pc := 2) dX1_copy_2 lf_X1_13 kC_5 (by decide) rfl ?_
  refine zg_putI (pc := 5) dX1_copy_5 lp_X1_13 kC_13 (by decide) rfl ?_
  generalize eh1 : zz_uI h 13 0 (h.1 5 0) = h1
  replace H := H h1 eh1.symm
  refine zg_aload_n (pc := 8) dX1_copy_8 rfl rfl ?_
  refine zg_getR (pc := 9) dX1_copy_9 lf_X1_9 kC_5 (by decide) rfl ?_
  refine zg_iconst (pc := 12) dX1_copy_12 (v := 0) (by decide) ?_
  refine zg_aload_n (pc := 13) dX1_copy_13 rfl rfl ?_
  refine zg_getR (pc := 14) dX1_copy_14 lf_X1_9 kC_13 (by decide) rfl ?_
  refine zg_iconst (pc := 17) dX1_copy_17 (v := 0) (by decide) ?_
  refine zg_aload_n (pc := 18) dX1_copy_18 rfl rfl ?_
  refine zg_getR (pc := 19) dX1_copy_19 lf_X1_9 kC_5 (by decide) rfl ?_
  refine zg_alen (pc := 22) dX1_copy_22 (Or.inl rfl) (v := 24) (by decide) kC_6 (by decide) ?_
  refine zg_aload_n (pc := 23) dX1_copy_23 rfl rfl ?_
  refine zg_getR (pc := 24) dX1_copy_24 lf_X1_9 kC_13 (by decide) rfl ?_
  refine zg_alen (pc := 27) dX1_copy_27 (Or.inl rfl) (v := 24) (by decide) kC_14 (by decide) ?_
  refine zg_mmin (pc := 28) dX1_copy_28 lk_X1_27 (Nat.le_of_ble_eq_true rfl) ?_
  obtain ⟨hb1, hb2, hb3, hb4, hb5, H⟩ := H
  refine zg_copy (pc := 31) dX1_copy_31 lk_X1_21 kC_6 kC_14 (by decide) (by decide) hb1 hb2 hb3 hb4 hb5 (Nat.le_of_ble_eq_true rfl) ?_
  generalize eh2 : zz_uC h1 6 14 (Int32.toNatClampNeg 0) (Int32.toNatClampNeg 0) (Int32.toNatClampNeg (if 24 < (24 : Int32) then 24 else (24 : Int32))) = h2
  replace H := H h2 eh2.symm
  exact zg_vret (pc := 34) dX1_copy_34 rfl ⟨rfl, H⟩
set_option maxRecDepth 100000 in
theorem sd_X1_copy_15_7 (d : Nat)  {h : zz_Hp} {Q : zz_Hp → Prop} (H : w_X1_copy_15_7  h Q) : zz_G zKC zNC (d + 1) mX1_copy (qV Q) 0 (zz_L0 2 [.ref 15, .ref 7]) [] h := by
  show zz_G zKC zNC (d + 1) mX1_copy (qV Q) 0 [some (.ref 15), some (.ref 7)] [] h
  unfold w_X1_copy_15_7 at H
  refine zg_aload_n (pc := 0) dX1_copy_0 rfl rfl ?_
  refine zg_aload_n (pc := 1) dX1_copy_1 rfl rfl ?_
  refine zg_getI (pc := 2) dX1_copy_2 lf_X1_13 kC_7 (by decide) rfl ?_
  refine zg_putI (pc := 5) dX1_copy_5 lp_X1_13 kC_15 (by decide) rfl ?_
  generalize eh1 : zz_uI h 15 0 (h.1 7 0) = h1
  replace H := H h1 eh1.symm
  refine zg_aload_n (pc := 8) dX1_copy_8 rfl rfl ?_
  refine zg_getR (pc := 9) dX1_copy_9 lf_X1_9 kC_7 (by decide) rfl ?_
  refine zg_iconst (pc := 12) dX1_copy_12 (v := 0) (by decide) ?_
  refine zg_aload_n (pc := 13) dX1_copy_13 rfl rfl ?_
  refine zg_getR (pc := 14) dX1_copy_14 lf_X1_9 kC_15 (by decide) rfl ?_
  refine zg_iconst (pc := 17) dX1_copy_17 (v := 0) (by decide) ?_
  refine zg_aload_n (pc := 18) dX1_copy_18 rfl rfl ?_
  refine zg_getR (pc := 19) dX1_copy_19 lf_X1_9 kC_7 (by decide) rfl ?_
  refine zg_alen (pc := 22) dX1_copy_22 (Or.inl rfl) (v := 24) (by decide) kC_8 (by decide) ?_
  refine zg_aload_n (pc := 23) dX1_copy_23 rfl rfl ?_
  refine zg_getR (pc := 24) dX1_copy_24 lf_X1_9 kC_15 (by decide) rfl ?_
  refine zg_alen (pc := 27) dX1_copy_27 (Or.inl rfl) (v := 24) (by decide) kC_16 (by decide) ?_
  refine zg_mmin (pc := 28) dX1_copy_28 lk_X1_27 (Nat.le_of_ble_eq_true rfl) ?_
  obtain ⟨hb1, hb2, hb3, hb4, hb5, H⟩ := H
  refine zg_copy (pc := 31) dX1_copy_31 lk_X1_21 kC_8 kC_16 (by decide) (by decide) hb1 hb2 hb3 hb4 hb5 (Nat.le_of_ble_eq_true rfl) ?_
  generalize eh2 : zz_uC h1 8 16 (Int32.toNatClampNeg 0) (Int32.toNatClampNeg 0) (Int32.toNatClampNeg (if 24 < (24 : Int32) then 24 else (24 : Int32))) = h2
  replace H := H h2 eh2.symm
  exact zg_vret (pc := 34) dX1_copy_34 rfl ⟨rfl, H⟩
set_option maxRecDepth 100000 in
theorem sd_X7_copy_10_2 (d : Nat)  {h : zz_Hp} {Q : zz_Hp → Prop} (H : w_X7_copy_10_2  h Q) : zz_G zKC zNC (d + 1) mX7_copy (qV Q) 0 (zz_L0 2 [.ref 10, .ref 2]) [] h := by
  show zz_G zKC zNC (d + 1) mX7_copy (qV Q) 0 [some (.ref 10), some (.ref 2)] [] h
  unfold w_X7_copy_10_2 at H
  refine zg_aload_n (pc := 0) dX7_copy_0 rfl rfl ?_
  refine zg_aload_n (pc := 1) dX7_copy_1 rfl rfl ?_
  refine zg_getI (pc := 2) dX7_copy_2 lf_X7_18 kC_2 (by decide) rfl ?_
  refine zg_putI (pc := 5) dX7_copy_5 lp_X7_18 kC_10 (by decide) rfl ?_
  generalize eh1 : zz_uI h 10 0 (h.1 2 0) = h1
  replace H := H h1 eh1.symm
  refine zg_aload_n (pc := 8) dX7_copy_8 rfl rfl ?_
  refine zg_getR (pc := 9) dX7_copy_9 lf_X7_9 kC_2 (by decide) rfl ?_
  refine zg_iconst (pc := 12) dX7_copy_12 (v := 0) (by decide) ?_
  refine zg_aload_n (pc := 13) dX7_copy_13 rfl rfl ?_
  refine zg_getR (pc := 14) dX7_copy_14 lf_X7_9 kC_10 (by decide) rfl ?_
  refine zg_iconst (pc := 17) dX7_copy_17 (v := 0) (by decide) ?_
  refine zg_aload_n (pc := 18) dX7_copy_18 rfl rfl ?_
  refine zg_getR (pc := 19) dX7_copy_19 lf_X7_9 kC_10 (by decide) rfl ?_
  refine zg_alen (pc := 22) dX7_copy_22 (Or.inl rfl) (v := 128) (by decide) kC_11 (by decide) ?_
  obtain ⟨hb1, hb2, hb3, hb4, hb5, H⟩ := H
  refine zg_copy (pc := 23) dX7_copy_23 lk_X7_61 kC_3 kC_11 (by decide) (by decide) hb1 hb2 hb3 hb4 hb5 (Nat.le_of_ble_eq_true rfl) ?_
  generalize eh2 : zz_uC h1 3 11 (Int32.toNatClampNeg 0) (Int32.toNatClampNeg 0) (Int32.toNatClampNeg 128) = h2
  replace H := H h2 eh2.symm
  refine zg_aload_n (pc := 26) dX7_copy_26 rfl rfl ?_
  refine zg_getR (pc := 27) dX7_copy_27 lf_X7_15 kC_2 (by decide) rfl ?_
  refine zg_iconst (pc := 30) dX7_copy_30 (v := 0) (by decide) ?_
  refine zg_aload_n (pc := 31) dX7_copy_31 rfl rfl ?_
  refine zg_getR (pc := 32) dX7_copy_32 lf_X7_15 kC_10 (by decide) rfl ?_
  refine zg_iconst (pc := 35) dX7_copy_35 (v := 0) (by decide) ?_
  refine zg_aload_n (pc := 36) dX7_copy_36 rfl rfl ?_
  refine zg_getR (pc := 37) dX7_copy_37 lf_X7_15 kC_10 (by decide) rfl ?_
  refine zg_alen (pc := 40) dX7_copy_40 (Or.inl rfl) (v := 64) (by decide) kC_12 (by decide) ?_
  obtain ⟨hb1, hb2, hb3, hb4, hb5, H⟩ := H
  refine zg_copy (pc := 41) dX7_copy_41 lk_X7_61 kC_4 kC_12 (by decide) (by decide) hb1 hb2 hb3 hb4 hb5 (Nat.le_of_ble_eq_true rfl) ?_
  generalize eh3 : zz_uC h2 4 12 (Int32.toNatClampNeg 0) (Int32.toNatClampNeg 0) (Int32.toNatClampNeg 64) = h3
  replace H := H h3 eh3.symm
  exact zg_vret (pc := 44) dX7_copy_44 rfl ⟨rfl, H⟩
set_option maxRecDepth 100000 in
theorem sd_X0_copy_9_1 (d : Nat)  {h : zz_Hp} {Q : zz_Hp → Prop} (H : w_X0_copy_9_1  h Q) : zz_G zKC zNC (d + 2) mX0_copy (qV Q) 0 (zz_L0 2 [.ref 9, .ref 1]) [] h := by
  show zz_G zKC zNC (d + 2) mX0_copy (qV Q) 0 [some (.ref 9), some (.ref 1)] [] h
  unfold w_X0_copy_9_1 at H
  refine zg_aload_n (pc := 0) dX0_copy_0 rfl rfl ?_
  refine zg_getR (pc := 1) dX0_copy_1 lf_X0_12 kC_9 (by decide) rfl ?_
  refine zg_aload_n (pc := 4) dX0_copy_4 rfl rfl ?_
  refine zg_getR (pc := 5) dX0_copy_5 lf_X0_12 kC_1 (by decide) rfl ?_
  refine zg_callVv (st := []) (pc := 8) dX0_copy_8 (As := [.ref 2]) lk_X0_37 kC_10 (by decide) rfl (Nat.le_of_ble_eq_true rfl) (Nat.le_of_ble_eq_true rfl) (sd_X7_copy_10_2 d H) (fun h1 H => ?_)
  refine zg_aload_n (pc := 11) dX0_copy_11 rfl rfl ?_
  refine zg_getR (pc := 12) dX0_copy_12 lf_X0_23 kC_9 (by decide) rfl ?_
  refine zg_aload_n (pc := 15) dX0_copy_15 rfl rfl ?_
  refine zg_getR (pc := 16) dX0_copy_16 lf_X0_23 kC_1 (by decide) rfl ?_
  refine zg_callVv (st := []) (pc := 19) dX0_copy_19 (As := [.ref 5]) lk_X0_41 kC_13 (by decide) rfl (Nat.le_of_ble_eq_true rfl) (Nat.le_of_ble_eq_true rfl) (sd_X1_copy_13_5 d H) (fun h3 H => ?_)
  refine zg_aload_n (pc := 22) dX0_copy_22 rfl rfl ?_
  refine zg_getR (pc := 23) dX0_copy_23 lf_X0_27 kC_9 (by decide) rfl ?_
  refine zg_aload_n (pc := 26) dX0_copy_26 rfl rfl ?_
  refine zg_getR (pc := 27) dX0_copy_27 lf_X0_27 kC_1 (by decide) rfl ?_
  refine zg_callVv (st := []) (pc := 30) dX0_copy_30 (As := [.ref 7]) lk_X0_41 kC_15 (by decide) rfl (Nat.le_of_ble_eq_true rfl) (Nat.le_of_ble_eq_true rfl) (sd_X1_copy_15_7 d H) (fun h5 H => ?_)
  exact zg_vret (pc := 33) dX0_copy_33 rfl ⟨rfl, H⟩
set_option maxRecDepth 100000 in
theorem sd_X8_image (d : Nat)  {h : zz_Hp} {Q : Int32 → zz_Hp → Prop} (H : w_X8_image  h Q) : zz_G zKC zNC (d + 3) mX8_image (qI Q) 0 (zz_L0 1 [.ref 0]) [] h := by
  show zz_G zKC zNC (d + 3) mX8_image (qI Q) 0 [some (.ref 0)] [] h
  unfold w_X8_image at H
  refine zg_aload_n (pc := 0) dX8_image_0 rfl rfl ?_
  refine zg_getR (pc := 1) dX8_image_1 lf_X8_18 kC_0 (by decide) rfl ?_
  refine zg_aload_n (pc := 4) dX8_image_4 rfl rfl ?_
  refine zg_getR (pc := 5) dX8_image_5 lf_X8_12 kC_0 (by decide) rfl ?_
  refine zg_callVv (st := []) (pc := 8) dX8_image_8 (As := [.ref 1]) lk_X8_305 kC_9 (by decide) rfl (Nat.le_of_ble_eq_true rfl) (Nat.le_of_ble_eq_true rfl) (sd_X0_copy_9_1 d H) (fun h1 H => ?_)
  refine zg_aload_n (pc := 11) dX8_image_11 rfl rfl ?_
  refine zg_iconst (pc := 12) dX8_image_12 (v := 1) (by decide) ?_
  refine zg_putZ (pc := 13) dX8_image_13 (Or.inr rfl) lp_X8_309 kC_0 (by decide) rfl ?_
  generalize eh3 : zz_uI h1 0 2 1 = h3
  replace H := H h3 eh3.symm
  refine zg_aload_n (pc := 16) dX8_image_16 rfl rfl ?_
  refine zg_getR (pc := 17) dX8_image_17 lf_X8_12 kC_0 (by decide) rfl ?_
  refine zg_getR (pc := 20) dX8_image_20 lf_X8_75 kC_1 (by decide) rfl ?_
  refine zg_getI (pc := 23) dX8_image_23 lf_X8_100 kC_2 (by decide) rfl ?_
  exact zg_iret (pc := 26) dX8_image_26 rfl ⟨_, rfl, H⟩
set_option maxRecDepth 100000 in
theorem sd_X1_copy_5_13 (d : Nat)  {h : zz_Hp} {Q : zz_Hp → Prop} (H : w_X1_copy_5_13  h Q) : zz_G zKC zNC (d + 1) mX1_copy (qV Q) 0 (zz_L0 2 [.ref 5, .ref 13]) [] h := by
  show zz_G zKC zNC (d + 1) mX1_copy (qV Q) 0 [some (.ref 5), some (.ref 13)] [] h
  unfold w_X1_copy_5_13 at H
  refine zg_aload_n (pc := 0) dX1_copy_0 rfl rfl ?_
  refine zg_aload_n (pc := 1) dX1_copy_1 rfl rfl ?_
  refine zg_getI (pc := 2) dX1_copy_2 lf_X1_13 kC_13 (by decide) rfl ?_
  refine zg_putI (pc := 5) dX1_copy_5 lp_X1_13 kC_5 (by decide) rfl ?_
  generalize eh1 : zz_uI h 5 0 (h.1 13 0) = h1
  replace H := H h1 eh1.symm
  refine zg_aload_n (pc := 8) dX1_copy_8 rfl rfl ?_
  refine zg_getR (pc := 9) dX1_copy_9 lf_X1_9 kC_13 (by decide) rfl ?_
  refine zg_iconst (pc := 12) dX1_copy_12 (v := 0) (by decide) ?_
  refine zg_aload_n (pc := 13) dX1_copy_13 rfl rfl ?_
  refine zg_getR (pc := 14) dX1_copy_14 lf_X1_9 kC_5 (by decide) rfl ?_
  refine zg_iconst (pc := 17) dX1_copy_17 (v := 0) (by decide) ?_
  refine zg_aload_n (pc := 18) dX1_copy_18 rfl rfl ?_
  refine zg_getR (pc := 19) dX1_copy_19 lf_X1_9 kC_13 (by decide) rfl ?_
  refine zg_alen (pc := 22) dX1_copy_22 (Or.inl rfl) (v := 24) (by decide) kC_14 (by decide) ?_
  refine zg_aload_n (pc := 23) dX1_copy_23 rfl rfl ?_
  refine zg_getR (pc := 24) dX1_copy_24 lf_X1_9 kC_5 (by decide) rfl ?_
  refine zg_alen (pc := 27) dX1_copy_27 (Or.inl rfl) (v := 24) (by decide) kC_6 (by decide) ?_
  refine zg_mmin (pc := 28) dX1_copy_28 lk_X1_27 (Nat.le_of_ble_eq_true rfl) ?_
  obtain ⟨hb1, hb2, hb3, hb4, hb5, H⟩ := H
  refine zg_copy (pc := 31) dX1_copy_31 lk_X1_21 kC_14 kC_6 (by decide) (by decide) hb1 hb2 hb3 hb4 hb5 (Nat.le_of_ble_eq_true rfl) ?_
  generalize eh2 : zz_uC h1 14 6 (Int32.toNatClampNeg 0) (Int32.toNatClampNeg 0) (Int32.toNatClampNeg (if 24 < (24 : Int32) then 24 else (24 : Int32))) = h2
  replace H := H h2 eh2.symm
  exact zg_vret (pc := 34) dX1_copy_34 rfl ⟨rfl, H⟩
set_option maxRecDepth 100000 in
theorem sd_X1_copy_7_15 (d : Nat)  {h : zz_Hp} {Q : zz_Hp → Prop} (H : w_X1_copy_7_15  h Q) : zz_G zKC zNC (d + 1) mX1_copy (qV Q) 0 (zz_L0 2 [.ref 7, .ref 15]) [] h := by
  show zz_G zKC zNC (d + 1) mX1_copy (qV Q) 0 [some (.ref 7), some (.ref 15)] [] h
  unfold w_X1_copy_7_15 at H
  refine zg_aload_n (pc := 0) dX1_copy_0 rfl rfl ?_
  refine zg_aload_n (pc := 1) dX1_copy_1 rfl rfl ?_
  refine zg_getI (pc := 2) dX1_copy_2 lf_X1_13 kC_15 (by decide) rfl ?_
  refine zg_putI (pc := 5) dX1_copy_5 lp_X1_13 kC_7 (by decide) rfl ?_
  generalize eh1 : zz_uI h 7 0 (h.1 15 0) = h1
  replace H := H h1 eh1.symm
  refine zg_aload_n (pc := 8) dX1_copy_8 rfl rfl ?_
  refine zg_getR (pc := 9) dX1_copy_9 lf_X1_9 kC_15 (by decide) rfl ?_
  refine zg_iconst (pc := 12) dX1_copy_12 (v := 0) (by decide) ?_
  refine zg_aload_n (pc := 13) dX1_copy_13 rfl rfl ?_
  refine zg_getR (pc := 14) dX1_copy_14 lf_X1_9 kC_7 (by decide) rfl ?_
  refine zg_iconst (pc := 17) dX1_copy_17 (v := 0) (by decide) ?_
  refine zg_aload_n (pc := 18) dX1_copy_18 rfl rfl ?_
  refine zg_getR (pc := 19) dX1_copy_19 lf_X1_9 kC_15 (by decide) rfl ?_
  refine zg_alen (pc := 22) dX1_copy_22 (Or.inl rfl) (v := 24) (by decide) kC_16 (by decide) ?_
  refine zg_aload_n (pc := 23) dX1_copy_23 rfl rfl ?_
  refine zg_getR (pc := 24) dX1_copy_24 lf_X1_9 kC_7 (by decide) rfl ?_
  refine zg_alen (pc := 27) dX1_copy_27 (Or.inl rfl) (v := 24) (by decide) kC_8 (by decide) ?_
  refine zg_mmin (pc := 28) dX1_copy_28 lk_X1_27 (Nat.le_of_ble_eq_true rfl) ?_
  obtain ⟨hb1, hb2, hb3, hb4, hb5, H⟩ := H
  refine zg_copy (pc := 31) dX1_copy_31 lk_X1_21 kC_16 kC_8 (by decide) (by decide) hb1 hb2 hb3 hb4 hb5 (Nat.le_of_ble_eq_true rfl) ?_
  generalize eh2 : zz_uC h1 16 8 (Int32.toNatClampNeg 0) (Int32.toNatClampNeg 0) (Int32.toNatClampNeg (if 24 < (24 : Int32) then 24 else (24 : Int32))) = h2
  replace H := H h2 eh2.symm
  exact zg_vret (pc := 34) dX1_copy_34 rfl ⟨rfl, H⟩
set_option maxRecDepth 100000 in
theorem sd_X7_copy_2_10 (d : Nat)  {h : zz_Hp} {Q : zz_Hp → Prop} (H : w_X7_copy_2_10  h Q) : zz_G zKC zNC (d + 1) mX7_copy (qV Q) 0 (zz_L0 2 [.ref 2, .ref 10]) [] h := by
  show zz_G zKC zNC (d + 1) mX7_copy (qV Q) 0 [some (.ref 2), some (.ref 10)] [] h
  unfold w_X7_copy_2_10 at H
  refine zg_aload_n (pc := 0) dX7_copy_0 rfl rfl ?_
  refine zg_aload_n (pc := 1) dX7_copy_1 rfl rfl ?_
  refine zg_getI (pc := 2) dX7_copy_2 lf_X7_18 kC_10 (by decide) rfl ?_
  refine zg_putI (pc := 5) dX7_copy_5 lp_X7_18 kC_2 (by decide) rfl ?_
  generalize eh1 : zz_uI h 2 0 (h.1 10 0) = h1
  replace H := H h1 eh1.symm
  refine zg_aload_n (pc := 8) dX7_copy_8 rfl rfl ?_
  refine zg_getR (pc := 9) dX7_copy_9 lf_X7_9 kC_10 (by decide) rfl ?_
  refine zg_iconst (pc := 12) dX7_copy_12 (v := 0) (by decide) ?_
  refine zg_aload_n (pc := 13) dX7_copy_13 rfl rfl ?_
  refine zg_getR (pc := 14) dX7_copy_14 lf_X7_9 kC_2 (by decide) rfl ?_
  refine zg_iconst (pc := 17) dX7_copy_17 (v := 0) (by decide) ?_
  refine zg_aload_n (pc := 18) dX7_copy_18 rfl rfl ?_
  refine zg_getR (pc := 19) dX7_copy_19 lf_X7_9 kC_2 (by decide) rfl ?_
  refine zg_alen (pc := 22) dX7_copy_22 (Or.inl rfl) (v := 128) (by decide) kC_3 (by decide) ?_
  obtain ⟨hb1, hb2, hb3, hb4, hb5, H⟩ := H
  refine zg_copy (pc := 23) dX7_copy_23 lk_X7_61 kC_11 kC_3 (by decide) (by decide) hb1 hb2 hb3 hb4 hb5 (Nat.le_of_ble_eq_true rfl) ?_
  generalize eh2 : zz_uC h1 11 3 (Int32.toNatClampNeg 0) (Int32.toNatClampNeg 0) (Int32.toNatClampNeg 128) = h2
  replace H := H h2 eh2.symm
  refine zg_aload_n (pc := 26) dX7_copy_26 rfl rfl ?_
  refine zg_getR (pc := 27) dX7_copy_27 lf_X7_15 kC_10 (by decide) rfl ?_
  refine zg_iconst (pc := 30) dX7_copy_30 (v := 0) (by decide) ?_
  refine zg_aload_n (pc := 31) dX7_copy_31 rfl rfl ?_
  refine zg_getR (pc := 32) dX7_copy_32 lf_X7_15 kC_2 (by decide) rfl ?_
  refine zg_iconst (pc := 35) dX7_copy_35 (v := 0) (by decide) ?_
  refine zg_aload_n (pc := 36) dX7_copy_36 rfl rfl ?_
  refine zg_getR (pc := 37) dX7_copy_37 lf_X7_15 kC_2 (by decide) rfl ?_
  refine zg_alen (pc := 40) dX7_copy_40 (Or.inl rfl) (v := 64) (by decide) kC_4 (by decide) ?_
  obtain ⟨hb1, hb2, hb3, hb4, hb5, H⟩ := H
  refine zg_copy (pc := 41) dX7_copy_41 lk_X7_61 kC_12 kC_4 (by decide) (by decide) hb1 hb2 hb3 hb4 hb5 (Nat.le_of_ble_eq_true rfl) ?_
  generalize eh3 : zz_uC h2 12 4 (Int32.toNatClampNeg 0) (Int32.toNatClampNeg 0) (Int32.toNatClampNeg 64) = h3
  replace H := H h3 eh3.symm
  exact zg_vret (pc := 44) dX7_copy_44 rfl ⟨rfl, H⟩
set_option maxRecDepth 100000 in
theorem sd_X0_copy_1_9 (d : Nat)  {h : zz_Hp} {Q : zz_Hp → Prop} (H : w_X0_copy_1_9  h Q) : zz_G zKC zNC (d + 2) mX0_copy (qV Q) 0 (zz_L0 2 [.ref 1, .ref 9]) [] h := by
  show zz_G zKC zNC (d + 2) mX0_copy (qV Q) 0 [some (.ref 1), some (.ref 9)] [] h
  unfold w_X0_copy_1_9 at H
  refine zg_aload_n (pc := 0) dX0_copy_0 rfl rfl ?_
  refine zg_getR (pc := 1) dX0_copy_1 lf_X0_12 kC_1 (by decide) rfl ?_
  refine zg_aload_n (pc := 4) dX0_copy_4 rfl rfl ?_
  refine zg_getR (pc := 5) dX0_copy_5 lf_X0_12 kC_9 (by decide) rfl ?_
  refine zg_callVv (st := []) (pc := 8) dX0_copy_8 (As := [.ref 10]) lk_X0_37 kC_2 (by decide) rfl (Nat.le_of_ble_eq_true rfl) (Nat.le_of_ble_eq_true rfl) (sd_X7_copy_2_10 d H) (fun h1 H => ?_)
  refine zg_aload_n (pc := 11) dX0_copy_11 rfl rfl ?_
  refine zg_getR (pc := 12) dX0_copy_12 lf_X0_23 kC_1 (by decide) rfl ?_
  refine zg_aload_n (pc := 15) dX0_copy_15 rfl rfl ?_
  refine zg_getR (pc := 16) dX0_copy_16 lf_X0_23 kC_9 (by decide) rfl ?_
  refine zg_callVv (st := []) (pc := 19) dX0_copy_19 (As := [.ref 13]) lk_X0_41 kC_5 (by decide) rfl (Nat.le_of_ble_eq_true rfl) (Nat.le_of_ble_eq_true rfl) (sd_X1_copy_5_13 d H) (fun h3 H => ?_)
  refine zg_aload_n (pc := 22) dX0_copy_22 rfl rfl ?_
  refine zg_getR (pc := 23) dX0_copy_23 lf_X0_27 kC_1 (by decide) rfl ?_
  refine zg_aload_n (pc := 26) dX0_copy_26 rfl rfl ?_
  refine zg_getR (pc := 27) dX0_copy_27 lf_X0_27 kC_9 (by decide) rfl ?_
  refine zg_callVv (st := []) (pc := 30) dX0_copy_30 (As := [.ref 15]) lk_X0_41 kC_7 (by decide) rfl (Nat.le_of_ble_eq_true rfl) (Nat.le_of_ble_eq_true rfl) (sd_X1_copy_7_15 d H) (fun h5 H => ?_)
  exact zg_vret (pc := 33) dX0_copy_33 rfl ⟨rfl, H⟩
set_option maxRecDepth 100000 in
theorem sd_X8_undo (d : Nat)  {h : zz_Hp} {Q : Int32 → zz_Hp → Prop} (H : w_X8_undo  h Q) : zz_G zKC zNC (d + 3) mX8_undo (qI Q) 0 (zz_L0 1 [.ref 0]) [] h := by
  show zz_G zKC zNC (d + 3) mX8_undo (qI Q) 0 [some (.ref 0)] [] h
  unfold w_X8_undo at H
  refine zg_aload_n (pc := 0) dX8_undo_0 rfl rfl ?_
  refine zg_getI (pc := 1) dX8_undo_1 lf_X8_309 kC_0 (by decide) rfl ?_
  refine zg_if_ne (pc := 4) dX8_undo_4 (tgt := 10) (by decide) (fun hc => ?_) (fun hc => ?_)
  · replace H := H.1 hc
    refine zg_aload_n (pc := 10) dX8_undo_10 rfl rfl ?_
    refine zg_getR (pc := 11) dX8_undo_11 lf_X8_12 kC_0 (by decide) rfl ?_
    refine zg_aload_n (pc := 14) dX8_undo_14 rfl rfl ?_
    refine zg_getR (pc := 15) dX8_undo_15 lf_X8_18 kC_0 (by decide) rfl ?_
    refine zg_callVv (st := []) (pc := 18) dX8_undo_18 (As := [.ref 9]) lk_X8_305 kC_1 (by decide) rfl (Nat.le_of_ble_eq_true rfl) (Nat.le_of_ble_eq_true rfl) (sd_X0_copy_1_9 d H) (fun h1 H => ?_)
    refine zg_aload_n (pc := 21) dX8_undo_21 rfl rfl ?_
    refine zg_iconst (pc := 22) dX8_undo_22 (v := 0) (by decide) ?_
    refine zg_putI (pc := 23) dX8_undo_23 lp_X8_89 kC_0 (by decide) rfl ?_
    generalize eh3 : zz_uI h1 0 4 0 = h3
    replace H := H h3 eh3.symm
    refine zg_aload_n (pc := 26) dX8_undo_26 rfl rfl ?_
    refine zg_getR (pc := 27) dX8_undo_27 lf_X8_30 kC_0 (by decide) rfl ?_
    refine zg_callVv (st := []) (pc := 30) dX8_undo_30 (As := []) lk_X8_106 kC_18 (by decide) rfl (Nat.le_of_ble_eq_true rfl) (Nat.le_of_ble_eq_true rfl) (sd_X1_empty_18 (d + 2) H) (fun h4 H => ?_)
    refine zg_aload_n (pc := 33) dX8_undo_33 rfl rfl ?_
    refine zg_getR (pc := 34) dX8_undo_34 lf_X8_12 kC_0 (by decide) rfl ?_
    refine zg_getR (pc := 37) dX8_undo_37 lf_X8_75 kC_1 (by decide) rfl ?_
    refine zg_getI (pc := 40) dX8_undo_40 lf_X8_100 kC_2 (by decide) rfl ?_
    exact zg_iret (pc := 43) dX8_undo_43 rfl ⟨_, rfl, H⟩
  · replace H := H.2 hc
    refine zg_bipush (pc := 7) dX8_undo_7 (v := (-5)) (by decide) ?_
    exact zg_iret (pc := 9) dX8_undo_9 rfl ⟨_, rfl, H⟩
set_option maxRecDepth 100000 in
theorem sd_X8_countBalanced_l4 {d : Nat} {Q : Int32 → zz_Hp → Prop}  {l1 : Int32} {l2 : Int32} {h : zz_Hp}  (H : lp (fun s ag => w_X8_countBalanced_l4 ag Q  s.1 s.2.1 s.2.2) (l1, l2, h)) : zz_G zKC zNC (d + 5) mX8_countBalanced (qI Q) 4 [some (.ref 0), some (.int l1), some (.int l2)] [] h := by
  refine lp_sound (G := fun (s : Int32 × Int32 × zz_Hp) => zz_G zKC zNC (d + 5) mX8_countBalanced (qI Q) 4 [some (.ref 0), some (.int s.1), some (.int s.2.1)] [] s.2.2) ?_ H
  clear H
  intro s ag4 hag4 H
  obtain ⟨l1, l2, h⟩ := s
  replace hag4 : ∀ (l1 : Int32) (l2 : Int32) (h : zz_Hp), ag4 (l1, l2, h) → zz_G zKC zNC (d + 5) mX8_countBalanced (qI Q) 4 [some (.ref 0), some (.int l1), some (.int l2)] [] h := fun l1 l2 h H => hag4 (l1, l2, h) H
  replace H : w_X8_countBalanced_l4 ag4 Q  l1 l2 h := H
  show zz_G zKC zNC (d + 5) mX8_countBalanced (qI Q) 4 [some (.ref 0), some (.int l1), some (.int l2)] [] h
  unfold w_X8_countBalanced_l4 at H
  refine zg_iload_n (pc := 4) dX8_countBalanced_4 rfl rfl ?_
  refine zg_aload_n (pc := 5) dX8_countBalanced_5 rfl rfl ?_
  refine zg_getR (pc := 6) dX8_countBalanced_6 lf_X8_12 kC_0 (by decide) rfl ?_
  refine zg_getR (pc := 9) dX8_countBalanced_9 lf_X8_75 kC_1 (by decide) rfl ?_
  refine zg_getI (pc := 12) dX8_countBalanced_12 lf_X8_100 kC_2 (by decide) rfl ?_
  refine zg_icmp_ge (pc := 15) dX8_countBalanced_15 (tgt := 35) (by decide) (fun hc => ?_) (fun hc => ?_)
  · replace H := H.1 hc
    refine zg_iload_n (pc := 35) dX8_countBalanced_35 rfl rfl ?_
    exact zg_iret (pc := 36) dX8_countBalanced_36 rfl ⟨_, rfl, H⟩
  · replace H := H.2 hc
    refine zg_aload_n (pc := 18) dX8_countBalanced_18 rfl rfl ?_
    refine zg_iload_n (pc := 19) dX8_countBalanced_19 rfl rfl ?_
    refine zg_callVi (st := []) (pc := 20) dX8_countBalanced_20 (As := [.int l2]) lk_X8_148 kC_0 (by decide) rfl (Nat.le_of_ble_eq_true rfl) (Nat.le_of_ble_eq_true rfl) (sd_X8_torqueOf d H) (fun r2 h1 H => ?_)
    refine zg_if_ne (pc := 23) dX8_countBalanced_23 (tgt := 29) (by decide) (fun hc => ?_) (fun hc => ?_)
    · replace H := H.1 hc
      refine zg_iinc (pc := 29) dX8_countBalanced_29 rfl (v := l2 + 1) rfl (by decide) (L' := [some (.ref 0), some (.int l1), some (.int (l2 + 1))]) rfl ?_
      refine zg_goto (pc := 32) dX8_countBalanced_32 (tgt := 4) (by decide) ?_
      exact hag4 l1 (l2 + 1) _ H
    · replace H := H.2 hc
      refine zg_iinc (pc := 26) dX8_countBalanced_26 rfl (v := l1 + 1) rfl (by decide) (L' := [some (.ref 0), some (.int (l1 + 1)), some (.int l2)]) rfl ?_
      refine zg_iinc (pc := 29) dX8_countBalanced_29 rfl (v := l2 + 1) rfl (by decide) (L' := [some (.ref 0), some (.int (l1 + 1)), some (.int (l2 + 1))]) rfl ?_
      refine zg_goto (pc := 32) dX8_countBalanced_32 (tgt := 4) (by decide) ?_
      exact hag4 (l1 + 1) (l2 + 1) _ H
set_option maxRecDepth 100000 in
theorem sd_X8_countBalanced (d : Nat)  {h : zz_Hp} {Q : Int32 → zz_Hp → Prop} (H : w_X8_countBalanced  h Q) : zz_G zKC zNC (d + 5) mX8_countBalanced (qI Q) 0 (zz_L0 3 [.ref 0]) [] h := by
  show zz_G zKC zNC (d + 5) mX8_countBalanced (qI Q) 0 [some (.ref 0), none, none] [] h
  unfold w_X8_countBalanced at H
  refine zg_iconst (pc := 0) dX8_countBalanced_0 (v := 0) (by decide) ?_
  refine zg_istore_n (pc := 1) dX8_countBalanced_1 rfl (by decide) (L' := [some (.ref 0), some (.int 0), none]) rfl ?_
  refine zg_iconst (pc := 2) dX8_countBalanced_2 (v := 0) (by decide) ?_
  refine zg_istore_n (pc := 3) dX8_countBalanced_3 rfl (by decide) (L' := [some (.ref 0), some (.int 0), some (.int 0)]) rfl ?_
  exact sd_X8_countBalanced_l4  H
set_option maxRecDepth 100000 in
theorem sd_X8_count (d : Nat) {l1 : Int32} {h : zz_Hp} {Q : Int32 → zz_Hp → Prop} (H : w_X8_count l1 h Q) : zz_G zKC zNC (d + 6) mX8_count (qI Q) 0 (zz_L0 2 [.ref 0, .int l1]) [] h := by
  show zz_G zKC zNC (d + 6) mX8_count (qI Q) 0 [some (.ref 0), some (.int l1)] [] h
  unfold w_X8_count at H
  refine zg_iload_n (pc := 0) dX8_count_0 rfl rfl ?_
  by_cases hc : (Int32.toInt l1) < 0 ∨ 6 < (Int32.toInt l1)
  · refine zg_tabOut (pc := 1) dX8_count_1 hc (tgt := 103) (by decide) ?_
    replace H := H.2.2.2.2.2.2.2 hc
    refine zg_iconst (pc := 103) dX8_count_103 (v := (-1)) (by decide) ?_
    exact zg_iret (pc := 104) dX8_count_104 rfl ⟨_, rfl, H⟩
  · have hx : (Int32.toInt l1) = 0 ∨ (Int32.toInt l1) = 1 ∨ (Int32.toInt l1) = 2 ∨ (Int32.toInt l1) = 3 ∨ (Int32.toInt l1) = 4 ∨ (Int32.toInt l1) = 5 ∨ (Int32.toInt l1) = 6 := by omega
    rcases hx with hx | hx | hx | hx | hx | hx | hx
    · refine zg_tabIn (pc := 1) dX8_count_1 (by omega) (by omega) (off := 43) (by rw [hx]; rfl) (tgt := 44) (by decide) ?_
      replace H := H.1 hx
      refine zg_aload_n (pc := 44) dX8_count_44 rfl rfl ?_
      refine zg_getR (pc := 45) dX8_count_45 lf_X8_12 kC_0 (by decide) rfl ?_
      refine zg_getR (pc := 48) dX8_count_48 lf_X8_75 kC_1 (by decide) rfl ?_
      refine zg_getI (pc := 51) dX8_count_51 lf_X8_100 kC_2 (by decide) rfl ?_
      exact zg_iret (pc := 54) dX8_count_54 rfl ⟨_, rfl, H⟩
    · refine zg_tabIn (pc := 1) dX8_count_1 (by omega) (by omega) (off := 54) (by rw [hx]; rfl) (tgt := 55) (by decide) ?_
      replace H := H.2.1 hx
      refine zg_aload_n (pc := 55) dX8_count_55 rfl rfl ?_
      refine zg_getI (pc := 56) dX8_count_56 lf_X8_89 kC_0 (by decide) rfl ?_
      exact zg_iret (pc := 59) dX8_count_59 rfl ⟨_, rfl, H⟩
    · refine zg_tabIn (pc := 1) dX8_count_1 (by omega) (by omega) (off := 59) (by rw [hx]; rfl) (tgt := 60) (by decide) ?_
      replace H := H.2.2.1 hx
      refine zg_aload_n (pc := 60) dX8_count_60 rfl rfl ?_
      refine zg_getR (pc := 61) dX8_count_61 lf_X8_12 kC_0 (by decide) rfl ?_
      refine zg_getR (pc := 64) dX8_count_64 lf_X8_221 kC_1 (by decide) rfl ?_
      refine zg_getI (pc := 67) dX8_count_67 lf_X8_224 kC_5 (by decide) rfl ?_
      exact zg_iret (pc := 70) dX8_count_70 rfl ⟨_, rfl, H⟩
    · refine zg_tabIn (pc := 1) dX8_count_1 (by omega) (by omega) (off := 70) (by rw [hx]; rfl) (tgt := 71) (by decide) ?_
      replace H := H.2.2.2.1 hx
      refine zg_aload_n (pc := 71) dX8_count_71 rfl rfl ?_
      refine zg_getR (pc := 72) dX8_count_72 lf_X8_12 kC_0 (by decide) rfl ?_
      refine zg_getR (pc := 75) dX8_count_75 lf_X8_267 kC_1 (by decide) rfl ?_
      refine zg_getI (pc := 78) dX8_count_78 lf_X8_224 kC_7 (by decide) rfl ?_
      exact zg_iret (pc := 81) dX8_count_81 rfl ⟨_, rfl, H⟩
    · refine zg_tabIn (pc := 1) dX8_count_1 (by omega) (by omega) (off := 81) (by rw [hx]; rfl) (tgt := 82) (by decide) ?_
      replace H := H.2.2.2.2.1 hx
      refine zg_aload_n (pc := 82) dX8_count_82 rfl rfl ?_
      refine zg_getR (pc := 83) dX8_count_83 lf_X8_30 kC_0 (by decide) rfl ?_
      refine zg_getI (pc := 86) dX8_count_86 lf_X8_224 kC_18 (by decide) rfl ?_
      exact zg_iret (pc := 89) dX8_count_89 rfl ⟨_, rfl, H⟩
    · refine zg_tabIn (pc := 1) dX8_count_1 (by omega) (by omega) (off := 89) (by rw [hx]; rfl) (tgt := 90) (by decide) ?_
      replace H := H.2.2.2.2.2.1 hx
      refine zg_aload_n (pc := 90) dX8_count_90 rfl rfl ?_
      refine zg_getR (pc := 91) dX8_count_91 lf_X8_47 kC_0 (by decide) rfl ?_
      refine zg_getI (pc := 94) dX8_count_94 lf_X8_278 kC_24 (by decide) rfl ?_
      exact zg_iret (pc := 97) dX8_count_97 rfl ⟨_, rfl, H⟩
    · refine zg_tabIn (pc := 1) dX8_count_1 (by omega) (by omega) (off := 97) (by rw [hx]; rfl) (tgt := 98) (by decide) ?_
      replace H := H.2.2.2.2.2.2.1 hx
      refine zg_aload_n (pc := 98) dX8_count_98 rfl rfl ?_
      refine zg_callVi (st := []) (pc := 99) dX8_count_99 (As := []) lk_X8_313 kC_0 (by decide) rfl (Nat.le_of_ble_eq_true rfl) (Nat.le_of_ble_eq_true rfl) (sd_X8_countBalanced d H) (fun r2 h1 H => ?_)
      exact zg_iret (pc := 102) dX8_count_102 rfl ⟨_, rfl, H⟩
set_option maxRecDepth 100000 in
theorem sd_X9_in (d : Nat) {l0 : Int32} {l1 : Int32} {l2 : Int32} {h : zz_Hp} {Q : Int32 → zz_Hp → Prop} (H : w_X9_in l0 l1 l2 h Q) : zz_G zKR zNR (d + 0) mX9_in (qI Q) 0 (zz_L0 3 [.int l0, .int l1, .int l2]) [] h := by
  show zz_G zKR zNR (d + 0) mX9_in (qI Q) 0 [some (.int l0), some (.int l1), some (.int l2)] [] h
  unfold w_X9_in at H
  refine zg_iload_n (pc := 0) dX9_in_0 rfl rfl ?_
  refine zg_iload_n (pc := 1) dX9_in_1 rfl rfl ?_
  refine zg_icmp_lt (pc := 2) dX9_in_2 (tgt := 14) (by decide) (fun hc => ?_) (fun hc => ?_)
  · replace H := H.1 hc
    refine zg_iconst (pc := 14) dX9_in_14 (v := 0) (by decide) ?_
    exact zg_zret (pc := 15) dX9_in_15 (Or.inl rfl) rfl ⟨_, rfl, H⟩
  · replace H := H.2 hc
    refine zg_iload_n (pc := 5) dX9_in_5 rfl rfl ?_
    refine zg_iload_n (pc := 6) dX9_in_6 rfl rfl ?_
    refine zg_icmp_gt (pc := 7) dX9_in_7 (tgt := 14) (by decide) (fun hc => ?_) (fun hc => ?_)
    · replace H := H.1 hc
      refine zg_iconst (pc := 14) dX9_in_14 (v := 0) (by decide) ?_
      exact zg_zret (pc := 15) dX9_in_15 (Or.inl rfl) rfl ⟨_, rfl, H⟩
    · replace H := H.2 hc
      refine zg_iconst (pc := 10) dX9_in_10 (v := 1) (by decide) ?_
      refine zg_goto (pc := 11) dX9_in_11 (tgt := 15) (by decide) ?_
      exact zg_zret (pc := 15) dX9_in_15 (Or.inr rfl) rfl ⟨_, rfl, H⟩
set_option maxRecDepth 100000 in
theorem sd_X9_thread (d : Nat) {l1 : Int32} {l2 : Int32} {l3 : Int32} {h : zz_Hp} {Q : Int32 → zz_Hp → Prop} (H : w_X9_thread l1 l2 l3 h Q) : zz_G zKR zNR (d + 1) mX9_thread (qI Q) 0 (zz_L0 4 [.ref 0, .int l1, .int l2, .int l3]) [] h := by
  show zz_G zKR zNR (d + 1) mX9_thread (qI Q) 0 [some (.ref 0), some (.int l1), some (.int l2), some (.int l3)] [] h
  unfold w_X9_thread at H
  refine zg_iload_n (pc := 0) dX9_thread_0 rfl rfl ?_
  refine zg_iconst (pc := 1) dX9_thread_1 (v := 0) (by decide) ?_
  refine zg_iconst (pc := 2) dX9_thread_2 (v := 3) (by decide) ?_
  refine zg_callSi (st := []) (pc := 3) dX9_thread_3 (As := [.int l1, .int 0, .int 3]) lk_X9_143 rfl (Nat.le_of_ble_eq_true rfl) (Nat.le_of_ble_eq_true rfl) (sd_X9_in d H) (fun r2 h1 H => ?_)
  refine zg_if_eq (pc := 6) dX9_thread_6 (tgt := 30) (by decide) (fun hc => ?_) (fun hc => ?_)
  · replace H := H.1 hc
    refine zg_iconst (pc := 30) dX9_thread_30 (v := (-1)) (by decide) ?_
    exact zg_iret (pc := 31) dX9_thread_31 rfl ⟨_, rfl, H⟩
  · replace H := H.2 hc
    refine zg_iload_n (pc := 9) dX9_thread_9 rfl rfl ?_
    refine zg_iconst (pc := 10) dX9_thread_10 (v := 1) (by decide) ?_
    refine zg_bipush (pc := 11) dX9_thread_11 (v := 99) (by decide) ?_
    refine zg_callSi (st := []) (pc := 13) dX9_thread_13 (As := [.int l2, .int 1, .int 99]) lk_X9_143 rfl (Nat.le_of_ble_eq_true rfl) (Nat.le_of_ble_eq_true rfl) (sd_X9_in d H) (fun r4 h3 H => ?_)
    refine zg_if_eq (pc := 16) dX9_thread_16 (tgt := 30) (by decide) (fun hc => ?_) (fun hc => ?_)
    · replace H := H.1 hc
      refine zg_iconst (pc := 30) dX9_thread_30 (v := (-1)) (by decide) ?_
      exact zg_iret (pc := 31) dX9_thread_31 rfl ⟨_, rfl, H⟩
    · replace H := H.2 hc
      refine zg_iload_n (pc := 19) dX9_thread_19 rfl rfl ?_
      refine zg_bipush (pc := 20) dX9_thread_20 (v := (-99)) (by decide) ?_
      refine zg_bipush (pc := 22) dX9_thread_22 (v := 99) (by decide) ?_
      refine zg_callSi (st := []) (pc := 24) dX9_thread_24 (As := [.int l3, .int ((-99)), .int 99]) lk_X9_143 rfl (Nat.le_of_ble_eq_true rfl) (Nat.le_of_ble_eq_true rfl) (sd_X9_in d H) (fun r6 h5 H => ?_)
      refine zg_if_ne (pc := 27) dX9_thread_27 (tgt := 32) (by decide) (fun hc => ?_) (fun hc => ?_)
      · replace H := H.1 hc
        refine zg_aload_n (pc := 32) dX9_thread_32 rfl rfl ?_
        refine zg_getI (pc := 33) dX9_thread_33 lf_X9_139 kR_0 (by decide) rfl ?_
        refine zg_bipush (pc := 36) dX9_thread_36 (v := 16) (by decide) ?_
        refine zg_icmp_ne (pc := 38) dX9_thread_38 (tgt := 44) (by decide) (fun hc => ?_) (fun hc => ?_)
        · replace H := H.1 hc
          refine zg_aload_n (pc := 44) dX9_thread_44 rfl rfl ?_
          refine zg_getR (pc := 45) dX9_thread_45 lf_X9_9 kR_0 (by decide) rfl ?_
          refine zg_aload_n (pc := 48) dX9_thread_48 rfl rfl ?_
          refine zg_getI (pc := 49) dX9_thread_49 lf_X9_139 kR_0 (by decide) rfl ?_
          refine zg_iconst (pc := 52) dX9_thread_52 (v := 0) (by decide) ?_
          obtain ⟨hb, H⟩ := H
          refine zg_iast (pc := 53) dX9_thread_53 kR_1 (by decide) hb ?_
          generalize eh7 : zz_uI h5 1 (Int32.toNatClampNeg (h5.1 0 0)) 0 = h7
          replace H := H h7 eh7.symm
          refine zg_aload_n (pc := 54) dX9_thread_54 rfl rfl ?_
          refine zg_getR (pc := 55) dX9_thread_55 lf_X9_18 kR_0 (by decide) rfl ?_
          refine zg_aload_n (pc := 58) dX9_thread_58 rfl rfl ?_
          refine zg_getI (pc := 59) dX9_thread_59 lf_X9_139 kR_0 (by decide) rfl ?_
          refine zg_iload_n (pc := 62) dX9_thread_62 rfl rfl ?_
          obtain ⟨hb, H⟩ := H
          refine zg_iast (pc := 63) dX9_thread_63 kR_3 (by decide) hb ?_
          generalize eh8 : zz_uI h7 3 (Int32.toNatClampNeg (h7.1 0 0)) l1 = h8
          replace H := H h8 eh8.symm
          refine zg_aload_n (pc := 64) dX9_thread_64 rfl rfl ?_
          refine zg_getR (pc := 65) dX9_thread_65 lf_X9_21 kR_0 (by decide) rfl ?_
          refine zg_aload_n (pc := 68) dX9_thread_68 rfl rfl ?_
          refine zg_getI (pc := 69) dX9_thread_69 lf_X9_139 kR_0 (by decide) rfl ?_
          refine zg_iload_n (pc := 72) dX9_thread_72 rfl rfl ?_
          obtain ⟨hb, H⟩ := H
          refine zg_iast (pc := 73) dX9_thread_73 kR_4 (by decide) hb ?_
          generalize eh9 : zz_uI h8 4 (Int32.toNatClampNeg (h8.1 0 0)) l2 = h9
          replace H := H h9 eh9.symm
          refine zg_aload_n (pc := 74) dX9_thread_74 rfl rfl ?_
          refine zg_getR (pc := 75) dX9_thread_75 lf_X9_24 kR_0 (by decide) rfl ?_
          refine zg_aload_n (pc := 78) dX9_thread_78 rfl rfl ?_
          refine zg_getI (pc := 79) dX9_thread_79 lf_X9_139 kR_0 (by decide) rfl ?_
          refine zg_iload_n (pc := 82) dX9_thread_82 rfl rfl ?_
          obtain ⟨hb, H⟩ := H
          refine zg_iast (pc := 83) dX9_thread_83 kR_5 (by decide) hb ?_
          generalize eh10 : zz_uI h9 5 (Int32.toNatClampNeg (h9.1 0 0)) l3 = h10
          replace H := H h10 eh10.symm
          refine zg_aload_n (pc := 84) dX9_thread_84 rfl rfl ?_
          refine zg_getR (pc := 85) dX9_thread_85 lf_X9_27 kR_0 (by decide) rfl ?_
          refine zg_aload_n (pc := 88) dX9_thread_88 rfl rfl ?_
          refine zg_getI (pc := 89) dX9_thread_89 lf_X9_139 kR_0 (by decide) rfl ?_
          refine zg_iconst (pc := 92) dX9_thread_92 (v := 0) (by decide) ?_
          obtain ⟨hb, H⟩ := H
          refine zg_iast (pc := 93) dX9_thread_93 kR_6 (by decide) hb ?_
          generalize eh11 : zz_uI h10 6 (Int32.toNatClampNeg (h10.1 0 0)) 0 = h11
          replace H := H h11 eh11.symm
          refine zg_aload_n (pc := 94) dX9_thread_94 rfl rfl ?_
          refine zg_dup (pc := 95) dX9_thread_95 rfl ?_
          refine zg_getI (pc := 96) dX9_thread_96 lf_X9_139 kR_0 (by decide) rfl ?_
          refine zg_iconst (pc := 99) dX9_thread_99 (v := 1) (by decide) ?_
          refine zg_iadd (pc := 100) dX9_thread_100 ?_
          refine zg_putI (pc := 101) dX9_thread_101 lp_X9_139 kR_0 (by decide) rfl ?_
          generalize eh12 : zz_uI h11 0 0 ((h11.1 0 0) + 1) = h12
          replace H := H h12 eh12.symm
          refine zg_aload_n (pc := 104) dX9_thread_104 rfl rfl ?_
          refine zg_getI (pc := 105) dX9_thread_105 lf_X9_139 kR_0 (by decide) rfl ?_
          refine zg_iconst (pc := 108) dX9_thread_108 (v := 1) (by decide) ?_
          refine zg_isub (pc := 109) dX9_thread_109 ?_
          exact zg_iret (pc := 110) dX9_thread_110 rfl ⟨_, rfl, H⟩
        · replace H := H.2 hc
          refine zg_bipush (pc := 41) dX9_thread_41 (v := (-3)) (by decide) ?_
          exact zg_iret (pc := 43) dX9_thread_43 rfl ⟨_, rfl, H⟩
      · replace H := H.2 hc
        refine zg_iconst (pc := 30) dX9_thread_30 (v := (-1)) (by decide) ?_
        exact zg_iret (pc := 31) dX9_thread_31 rfl ⟨_, rfl, H⟩
set_option maxRecDepth 100000 in
theorem sd_X9_depthOf_l4 {n d : Nat} {rc : Int32 → zz_Hp → (Int32 → zz_Hp → Prop) → Prop} {Q : Int32 → zz_Hp → Prop} {l1 : Int32} {l2 : Int32} {l3 : Int32} {h : zz_Hp} (hrc : ∀ l1 (h : zz_Hp) (Q : Int32 → zz_Hp → Prop), rc l1 h Q → zz_G zKR zNR (d + n + 0) mX9_depthOf (qI Q) 0 (zz_L0 5 [.ref 0, .int l1]) [] h) (H : lp (fun s ag => w_X9_depthOf_l4 rc ag Q l1 s.1 s.2.1 s.2.2) (l2, l3, h)) : zz_G zKR zNR (d + (n + 1) + 0) mX9_depthOf (qI Q) 4 [some (.ref 0), some (.int l1), some (.int l2), some (.int l3), none] [] h := by
  refine lp_sound (G := fun (s : Int32 × Int32 × zz_Hp) => zz_G zKR zNR (d + (n + 1) + 0) mX9_depthOf (qI Q) 4 [some (.ref 0), some (.int l1), some (.int s.1), some (.int s.2.1), none] [] s.2.2) ?_ H
  clear H
  intro s ag4 hag4 H
  obtain ⟨l2, l3, h⟩ := s
  replace hag4 : ∀ (l2 : Int32) (l3 : Int32) (h : zz_Hp), ag4 (l2, l3, h) → zz_G zKR zNR (d + (n + 1) + 0) mX9_depthOf (qI Q) 4 [some (.ref 0), some (.int l1), some (.int l2), some (.int l3), none] [] h := fun l2 l3 h H => hag4 (l2, l3, h) H
  replace H : w_X9_depthOf_l4 rc ag4 Q l1 l2 l3 h := H
  show zz_G zKR zNR (d + (n + 1) + 0) mX9_depthOf (qI Q) 4 [some (.ref 0), some (.int l1), some (.int l2), some (.int l3), none] [] h
  unfold w_X9_depthOf_l4 at H
  refine zg_iload_n (pc := 4) dX9_depthOf_4 rfl rfl ?_
  refine zg_aload_n (pc := 5) dX9_depthOf_5 rfl rfl ?_
  refine zg_getR (pc := 6) dX9_depthOf_6 lf_X9_9 kR_0 (by decide) rfl ?_
  refine zg_iload_n (pc := 9) dX9_depthOf_9 rfl rfl ?_
  obtain ⟨hb, H⟩ := H
  refine zg_iald (pc := 10) dX9_depthOf_10 kR_1 (by decide) hb ?_
  refine zg_icmp_ge (pc := 11) dX9_depthOf_11 (tgt := 51) (by decide) (fun hc => ?_) (fun hc => ?_)
  · replace H := H.1 hc
    refine zg_iload_n (pc := 51) dX9_depthOf_51 rfl rfl ?_
    exact zg_iret (pc := 52) dX9_depthOf_52 rfl ⟨_, rfl, H⟩
  · replace H := H.2 hc
    refine zg_iconst (pc := 14) dX9_depthOf_14 (v := 1) (by decide) ?_
    refine zg_aload_n (pc := 15) dX9_depthOf_15 rfl rfl ?_
    refine zg_aload_n (pc := 16) dX9_depthOf_16 rfl rfl ?_
    refine zg_getR (pc := 17) dX9_depthOf_17 lf_X9_15 kR_0 (by decide) rfl ?_
    refine zg_iconst (pc := 20) dX9_depthOf_20 (v := 4) (by decide) ?_
    refine zg_iload_n (pc := 21) dX9_depthOf_21 rfl rfl ?_
    refine zg_imul (pc := 22) dX9_depthOf_22 ?_
    refine zg_iload_n (pc := 23) dX9_depthOf_23 rfl rfl ?_
    refine zg_iadd (pc := 24) dX9_depthOf_24 ?_
    obtain ⟨hb, H⟩ := H
    refine zg_iald (pc := 25) dX9_depthOf_25 kR_2 (by decide) hb ?_
    refine zg_callVi (st := [.int 1]) (pc := 26) dX9_depthOf_26 (As := [.int (h.1 2 (Int32.toNatClampNeg ((4 * l1) + l3)))]) lk_X9_151 kR_0 (by decide) rfl (Nat.le_of_ble_eq_true rfl) (Nat.le_of_ble_eq_true rfl) (hrc (h.1 2 (Int32.toNatClampNeg ((4 * l1) + l3))) _ _ H) (fun r2 h1 H => ?_)
    refine zg_iadd (pc := 29) dX9_depthOf_29 ?_
    refine zg_istore (pc := 30) dX9_depthOf_30 (by decide) (L' := [some (.ref 0), some (.int l1), some (.int l2), some (.int l3), some (.int (1 + r2))]) rfl ?_
    refine zg_iload (pc := 32) dX9_depthOf_32 rfl ?_
    refine zg_iload_n (pc := 34) dX9_depthOf_34 rfl rfl ?_
    refine zg_icmp_le (pc := 35) dX9_depthOf_35 (tgt := 43) (by decide) (fun hc => ?_) (fun hc => ?_)
    · replace H := H.1 hc
      refine zg_iload_n (pc := 43) dX9_depthOf_43 rfl rfl ?_
      refine zg_istore_n (pc := 44) dX9_depthOf_44 rfl (by decide) (L' := [some (.ref 0), some (.int l1), some (.int l2), some (.int l3), some (.int (1 + r2))]) rfl ?_
      refine zg_iinc (pc := 45) dX9_depthOf_45 rfl (v := l3 + 1) rfl (by decide) (L' := [some (.ref 0), some (.int l1), some (.int l2), some (.int (l3 + 1)), some (.int (1 + r2))]) rfl ?_
      refine zg_goto (pc := 48) dX9_depthOf_48 (tgt := 4) (by decide) ?_
      refine zg_weak (L' := [some (.ref 0), some (.int l1), some (.int l2), some (.int (l3 + 1)), none]) ⟨rfl, ⟨rfl, ⟨rfl, ⟨rfl, trivial⟩⟩⟩⟩ ?_
      exact hag4 l2 (l3 + 1) _ H
    · replace H := H.2 hc
      refine zg_iload (pc := 38) dX9_depthOf_38 rfl ?_
      refine zg_goto (pc := 40) dX9_depthOf_40 (tgt := 44) (by decide) ?_
      refine zg_istore_n (pc := 44) dX9_depthOf_44 rfl (by decide) (L' := [some (.ref 0), some (.int l1), some (.int (1 + r2)), some (.int l3), some (.int (1 + r2))]) rfl ?_
      refine zg_iinc (pc := 45) dX9_depthOf_45 rfl (v := l3 + 1) rfl (by decide) (L' := [some (.ref 0), some (.int l1), some (.int (1 + r2)), some (.int (l3 + 1)), some (.int (1 + r2))]) rfl ?_
      refine zg_goto (pc := 48) dX9_depthOf_48 (tgt := 4) (by decide) ?_
      refine zg_weak (L' := [some (.ref 0), some (.int l1), some (.int (1 + r2)), some (.int (l3 + 1)), none]) ⟨rfl, ⟨rfl, ⟨rfl, ⟨rfl, trivial⟩⟩⟩⟩ ?_
      exact hag4 (1 + r2) (l3 + 1) _ H
set_option maxRecDepth 100000 in
theorem sd_X9_depthOf_b {n d : Nat} {rc : Int32 → zz_Hp → (Int32 → zz_Hp → Prop) → Prop} {l1 : Int32} {h : zz_Hp} {Q : Int32 → zz_Hp → Prop} (hrc : ∀ l1 (h : zz_Hp) (Q : Int32 → zz_Hp → Prop), rc l1 h Q → zz_G zKR zNR (d + n + 0) mX9_depthOf (qI Q) 0 (zz_L0 5 [.ref 0, .int l1]) [] h) (H : w_X9_depthOf_b rc l1 h Q) : zz_G zKR zNR (d + (n + 1) + 0) mX9_depthOf (qI Q) 0 [some (.ref 0), some (.int l1), none, none, none] [] h := by
  unfold w_X9_depthOf_b at H
  refine zg_iconst (pc := 0) dX9_depthOf_0 (v := 0) (by decide) ?_
  refine zg_istore_n (pc := 1) dX9_depthOf_1 rfl (by decide) (L' := [some (.ref 0), some (.int l1), some (.int 0), none, none]) rfl ?_
  refine zg_iconst (pc := 2) dX9_depthOf_2 (v := 0) (by decide) ?_
  refine zg_istore_n (pc := 3) dX9_depthOf_3 rfl (by decide) (L' := [some (.ref 0), some (.int l1), some (.int 0), some (.int 0), none]) rfl ?_
  exact sd_X9_depthOf_l4 hrc H
theorem sd_X9_depthOf : ∀ (n d : Nat) {l1 : Int32} {h : zz_Hp} {Q : Int32 → zz_Hp → Prop} (_ : w_X9_depthOf n l1 h Q), zz_G zKR zNR (d + n + 0) mX9_depthOf (qI Q) 0 (zz_L0 5 [.ref 0, .int l1]) [] h := by
  intro n
  induction n with
  | zero => intro d l1 h Q H; exact H.elim
  | succ n ih => intro d l1 h Q H; exact sd_X9_depthOf_b (fun l1 h Q H => ih d H) H
set_option maxRecDepth 100000 in
theorem sd_X9_isYarn (d : Nat) {l1 : Int32} {h : zz_Hp} {Q : Int32 → zz_Hp → Prop} (H : w_X9_isYarn l1 h Q) : zz_G zKR zNR (d + 1) mX9_isYarn (qI Q) 0 (zz_L0 2 [.ref 0, .int l1]) [] h := by
  show zz_G zKR zNR (d + 1) mX9_isYarn (qI Q) 0 [some (.ref 0), some (.int l1)] [] h
  unfold w_X9_isYarn at H
  refine zg_iload_n (pc := 0) dX9_isYarn_0 rfl rfl ?_
  refine zg_iconst (pc := 1) dX9_isYarn_1 (v := 0) (by decide) ?_
  refine zg_aload_n (pc := 2) dX9_isYarn_2 rfl rfl ?_
  refine zg_getI (pc := 3) dX9_isYarn_3 lf_X9_139 kR_0 (by decide) rfl ?_
  refine zg_iconst (pc := 6) dX9_isYarn_6 (v := 1) (by decide) ?_
  refine zg_isub (pc := 7) dX9_isYarn_7 ?_
  refine zg_callSi (st := []) (pc := 8) dX9_isYarn_8 (As := [.int l1, .int 0, .int ((h.1 0 0) - 1)]) lk_X9_143 rfl (Nat.le_of_ble_eq_true rfl) (Nat.le_of_ble_eq_true rfl) (sd_X9_in d H) (fun r2 h1 H => ?_)
  exact zg_zret (pc := 11) dX9_isYarn_11 H.1 rfl ⟨_, rfl, H.2⟩
set_option maxRecDepth 100000 in
theorem sd_X9_part (d : Nat) {l1 : Int32} {h : zz_Hp} {Q : Int32 → zz_Hp → Prop} (H : w_X9_part l1 h Q) : zz_G zKR zNR (d + 6) mX9_part (qI Q) 0 (zz_L0 2 [.ref 0, .int l1]) [] h := by
  show zz_G zKR zNR (d + 6) mX9_part (qI Q) 0 [some (.ref 0), some (.int l1)] [] h
  unfold w_X9_part at H
  refine zg_aload_n (pc := 0) dX9_part_0 rfl rfl ?_
  refine zg_iload_n (pc := 1) dX9_part_1 rfl rfl ?_
  refine zg_callVi (st := []) (pc := 2) dX9_part_2 (As := [.int l1]) lk_X9_147 kR_0 (by decide) rfl (Nat.le_of_ble_eq_true rfl) (Nat.le_of_ble_eq_true rfl) (sd_X9_isYarn (d + 4) H) (fun r2 h1 H => ?_)
  refine zg_if_ne (pc := 5) dX9_part_5 (tgt := 10) (by decide) (fun hc => ?_) (fun hc => ?_)
  · replace H := H.1 hc
    refine zg_aload_n (pc := 10) dX9_part_10 rfl rfl ?_
    refine zg_getI (pc := 11) dX9_part_11 lf_X9_194 kR_0 (by decide) rfl ?_
    refine zg_iconst (pc := 14) dX9_part_14 (v := 4) (by decide) ?_
    refine zg_icmp_ne (pc := 15) dX9_part_15 (tgt := 21) (by decide) (fun hc => ?_) (fun hc => ?_)
    · replace H := H.1 hc
      refine zg_aload_n (pc := 21) dX9_part_21 rfl rfl ?_
      refine zg_iload_n (pc := 22) dX9_part_22 rfl rfl ?_
      refine zg_callVi (st := []) (pc := 23) dX9_part_23 (As := [.int l1]) lk_X9_151 kR_0 (by decide) rfl (Nat.le_of_ble_eq_true rfl) (Nat.le_of_ble_eq_true rfl) (sd_X9_depthOf 5 d H) (fun r4 h3 H => ?_)
      refine zg_iconst (pc := 26) dX9_part_26 (v := 3) (by decide) ?_
      refine zg_icmp_ne (pc := 27) dX9_part_27 (tgt := 33) (by decide) (fun hc => ?_) (fun hc => ?_)
      · replace H := H.1 hc
        refine zg_aload_n (pc := 33) dX9_part_33 rfl rfl ?_
        refine zg_getR (pc := 34) dX9_part_34 lf_X9_30 kR_0 (by decide) rfl ?_
        refine zg_aload_n (pc := 37) dX9_part_37 rfl rfl ?_
        refine zg_getI (pc := 38) dX9_part_38 lf_X9_194 kR_0 (by decide) rfl ?_
        refine zg_iload_n (pc := 41) dX9_part_41 rfl rfl ?_
        obtain ⟨hb, H⟩ := H
        refine zg_iast (pc := 42) dX9_part_42 kR_7 (by decide) hb ?_
        generalize eh5 : zz_uI h3 7 (Int32.toNatClampNeg (h3.1 0 7)) l1 = h5
        replace H := H h5 eh5.symm
        refine zg_aload_n (pc := 43) dX9_part_43 rfl rfl ?_
        refine zg_dup (pc := 44) dX9_part_44 rfl ?_
        refine zg_getI (pc := 45) dX9_part_45 lf_X9_194 kR_0 (by decide) rfl ?_
        refine zg_iconst (pc := 48) dX9_part_48 (v := 1) (by decide) ?_
        refine zg_iadd (pc := 49) dX9_part_49 ?_
        refine zg_putI (pc := 50) dX9_part_50 lp_X9_194 kR_0 (by decide) rfl ?_
        generalize eh6 : zz_uI h5 0 7 ((h5.1 0 7) + 1) = h6
        replace H := H h6 eh6.symm
        refine zg_aload_n (pc := 53) dX9_part_53 rfl rfl ?_
        refine zg_getI (pc := 54) dX9_part_54 lf_X9_194 kR_0 (by decide) rfl ?_
        exact zg_iret (pc := 57) dX9_part_57 rfl ⟨_, rfl, H⟩
      · replace H := H.2 hc
        refine zg_bipush (pc := 30) dX9_part_30 (v := (-5)) (by decide) ?_
        exact zg_iret (pc := 32) dX9_part_32 rfl ⟨_, rfl, H⟩
    · replace H := H.2 hc
      refine zg_bipush (pc := 18) dX9_part_18 (v := (-3)) (by decide) ?_
      exact zg_iret (pc := 20) dX9_part_20 rfl ⟨_, rfl, H⟩
  · replace H := H.2 hc
    refine zg_iconst (pc := 8) dX9_part_8 (v := (-1)) (by decide) ?_
    exact zg_iret (pc := 9) dX9_part_9 rfl ⟨_, rfl, H⟩
set_option maxRecDepth 100000 in
theorem sd_X9_plied (d : Nat) {l1 : Int32} {l2 : Int32} {h : zz_Hp} {Q : Int32 → zz_Hp → Prop} (H : w_X9_plied l1 l2 h Q) : zz_G zKR zNR (d + 0) mX9_plied (qI Q) 0 (zz_L0 3 [.ref 0, .int l1, .int l2]) [] h := by
  show zz_G zKR zNR (d + 0) mX9_plied (qI Q) 0 [some (.ref 0), some (.int l1), some (.int l2)] [] h
  unfold w_X9_plied at H
  refine zg_aload_n (pc := 0) dX9_plied_0 rfl rfl ?_
  refine zg_getR (pc := 1) dX9_plied_1 lf_X9_9 kR_0 (by decide) rfl ?_
  refine zg_aload_n (pc := 4) dX9_plied_4 rfl rfl ?_
  refine zg_getI (pc := 5) dX9_plied_5 lf_X9_139 kR_0 (by decide) rfl ?_
  refine zg_iload_n (pc := 8) dX9_plied_8 rfl rfl ?_
  obtain ⟨hb, H⟩ := H
  refine zg_iast (pc := 9) dX9_plied_9 kR_1 (by decide) hb ?_
  generalize eh1 : zz_uI h 1 (Int32.toNatClampNeg (h.1 0 0)) l1 = h1
  replace H := H h1 eh1.symm
  refine zg_aload_n (pc := 10) dX9_plied_10 rfl rfl ?_
  refine zg_getR (pc := 11) dX9_plied_11 lf_X9_18 kR_0 (by decide) rfl ?_
  refine zg_aload_n (pc := 14) dX9_plied_14 rfl rfl ?_
  refine zg_getI (pc := 15) dX9_plied_15 lf_X9_139 kR_0 (by decide) rfl ?_
  refine zg_iconst (pc := 18) dX9_plied_18 (v := (-1)) (by decide) ?_
  obtain ⟨hb, H⟩ := H
  refine zg_iast (pc := 19) dX9_plied_19 kR_3 (by decide) hb ?_
  generalize eh2 : zz_uI h1 3 (Int32.toNatClampNeg (h1.1 0 0)) ((-1)) = h2
  replace H := H h2 eh2.symm
  refine zg_aload_n (pc := 20) dX9_plied_20 rfl rfl ?_
  refine zg_getR (pc := 21) dX9_plied_21 lf_X9_21 kR_0 (by decide) rfl ?_
  refine zg_aload_n (pc := 24) dX9_plied_24 rfl rfl ?_
  refine zg_getI (pc := 25) dX9_plied_25 lf_X9_139 kR_0 (by decide) rfl ?_
  refine zg_iconst (pc := 28) dX9_plied_28 (v := (-1)) (by decide) ?_
  obtain ⟨hb, H⟩ := H
  refine zg_iast (pc := 29) dX9_plied_29 kR_4 (by decide) hb ?_
  generalize eh3 : zz_uI h2 4 (Int32.toNatClampNeg (h2.1 0 0)) ((-1)) = h3
  replace H := H h3 eh3.symm
  refine zg_aload_n (pc := 30) dX9_plied_30 rfl rfl ?_
  refine zg_getR (pc := 31) dX9_plied_31 lf_X9_24 kR_0 (by decide) rfl ?_
  refine zg_aload_n (pc := 34) dX9_plied_34 rfl rfl ?_
  refine zg_getI (pc := 35) dX9_plied_35 lf_X9_139 kR_0 (by decide) rfl ?_
  refine zg_iload_n (pc := 38) dX9_plied_38 rfl rfl ?_
  obtain ⟨hb, H⟩ := H
  refine zg_iast (pc := 39) dX9_plied_39 kR_5 (by decide) hb ?_
  generalize eh4 : zz_uI h3 5 (Int32.toNatClampNeg (h3.1 0 0)) l2 = h4
  replace H := H h4 eh4.symm
  refine zg_aload_n (pc := 40) dX9_plied_40 rfl rfl ?_
  refine zg_getR (pc := 41) dX9_plied_41 lf_X9_27 kR_0 (by decide) rfl ?_
  refine zg_aload_n (pc := 44) dX9_plied_44 rfl rfl ?_
  refine zg_getI (pc := 45) dX9_plied_45 lf_X9_139 kR_0 (by decide) rfl ?_
  refine zg_iconst (pc := 48) dX9_plied_48 (v := 0) (by decide) ?_
  obtain ⟨hb, H⟩ := H
  refine zg_iast (pc := 49) dX9_plied_49 kR_6 (by decide) hb ?_
  generalize eh5 : zz_uI h4 6 (Int32.toNatClampNeg (h4.1 0 0)) 0 = h5
  replace H := H h5 eh5.symm
  refine zg_aload_n (pc := 50) dX9_plied_50 rfl rfl ?_
  refine zg_dup (pc := 51) dX9_plied_51 rfl ?_
  refine zg_getI (pc := 52) dX9_plied_52 lf_X9_139 kR_0 (by decide) rfl ?_
  refine zg_iconst (pc := 55) dX9_plied_55 (v := 1) (by decide) ?_
  refine zg_iadd (pc := 56) dX9_plied_56 ?_
  refine zg_putI (pc := 57) dX9_plied_57 lp_X9_139 kR_0 (by decide) rfl ?_
  generalize eh6 : zz_uI h5 0 0 ((h5.1 0 0) + 1) = h6
  replace H := H h6 eh6.symm
  refine zg_aload_n (pc := 60) dX9_plied_60 rfl rfl ?_
  refine zg_getI (pc := 61) dX9_plied_61 lf_X9_139 kR_0 (by decide) rfl ?_
  refine zg_iconst (pc := 64) dX9_plied_64 (v := 1) (by decide) ?_
  refine zg_isub (pc := 65) dX9_plied_65 ?_
  exact zg_iret (pc := 66) dX9_plied_66 rfl ⟨_, rfl, H⟩
set_option maxRecDepth 100000 in
theorem sd_X9_ply_l38 {d : Nat} {Q : Int32 → zz_Hp → Prop} {l1 : Int32} {l2 : Int32} {h : zz_Hp}  (H : lp (fun s ag => w_X9_ply_l38 ag Q l1 s.1 s.2) (l2, h)) : zz_G zKR zNR (d + 1) mX9_ply (qI Q) 38 [some (.ref 0), some (.int l1), some (.int l2)] [] h := by
  refine lp_sound (G := fun (s : Int32 × zz_Hp) => zz_G zKR zNR (d + 1) mX9_ply (qI Q) 38 [some (.ref 0), some (.int l1), some (.int s.1)] [] s.2) ?_ H
  clear H
  intro s ag38 hag38 H
  obtain ⟨l2, h⟩ := s
  replace hag38 : ∀ (l2 : Int32) (h : zz_Hp), ag38 (l2, h) → zz_G zKR zNR (d + 1) mX9_ply (qI Q) 38 [some (.ref 0), some (.int l1), some (.int l2)] [] h := fun l2 h H => hag38 (l2, h) H
  replace H : w_X9_ply_l38 ag38 Q l1 l2 h := H
  show zz_G zKR zNR (d + 1) mX9_ply (qI Q) 38 [some (.ref 0), some (.int l1), some (.int l2)] [] h
  unfold w_X9_ply_l38 at H
  refine zg_iload_n (pc := 38) dX9_ply_38 rfl rfl ?_
  refine zg_aload_n (pc := 39) dX9_ply_39 rfl rfl ?_
  refine zg_getI (pc := 40) dX9_ply_40 lf_X9_194 kR_0 (by decide) rfl ?_
  refine zg_icmp_ge (pc := 43) dX9_ply_43 (tgt := 71) (by decide) (fun hc => ?_) (fun hc => ?_)
  · replace H := H.1 hc
    refine zg_aload_n (pc := 71) dX9_ply_71 rfl rfl ?_
    refine zg_aload_n (pc := 72) dX9_ply_72 rfl rfl ?_
    refine zg_getI (pc := 73) dX9_ply_73 lf_X9_194 kR_0 (by decide) rfl ?_
    refine zg_iload_n (pc := 76) dX9_ply_76 rfl rfl ?_
    refine zg_callVi (st := []) (pc := 77) dX9_ply_77 (As := [.int (h.1 0 7), .int l1]) lk_X9_197 kR_0 (by decide) rfl (Nat.le_of_ble_eq_true rfl) (Nat.le_of_ble_eq_true rfl) (sd_X9_plied d H) (fun r4 h3 H => ?_)
    refine zg_istore_n (pc := 80) dX9_ply_80 rfl (by decide) (L' := [some (.ref 0), some (.int l1), some (.int r4)]) rfl ?_
    refine zg_aload_n (pc := 81) dX9_ply_81 rfl rfl ?_
    refine zg_iconst (pc := 82) dX9_ply_82 (v := 0) (by decide) ?_
    refine zg_putI (pc := 83) dX9_ply_83 lp_X9_194 kR_0 (by decide) rfl ?_
    generalize eh5 : zz_uI h3 0 7 0 = h5
    replace H := H h5 eh5.symm
    refine zg_iload_n (pc := 86) dX9_ply_86 rfl rfl ?_
    exact zg_iret (pc := 87) dX9_ply_87 rfl ⟨_, rfl, H⟩
  · replace H := H.2 hc
    refine zg_aload_n (pc := 46) dX9_ply_46 rfl rfl ?_
    refine zg_getR (pc := 47) dX9_ply_47 lf_X9_15 kR_0 (by decide) rfl ?_
    refine zg_iconst (pc := 50) dX9_ply_50 (v := 4) (by decide) ?_
    refine zg_aload_n (pc := 51) dX9_ply_51 rfl rfl ?_
    refine zg_getI (pc := 52) dX9_ply_52 lf_X9_139 kR_0 (by decide) rfl ?_
    refine zg_imul (pc := 55) dX9_ply_55 ?_
    refine zg_iload_n (pc := 56) dX9_ply_56 rfl rfl ?_
    refine zg_iadd (pc := 57) dX9_ply_57 ?_
    refine zg_aload_n (pc := 58) dX9_ply_58 rfl rfl ?_
    refine zg_getR (pc := 59) dX9_ply_59 lf_X9_30 kR_0 (by decide) rfl ?_
    refine zg_iload_n (pc := 62) dX9_ply_62 rfl rfl ?_
    obtain ⟨hb, H⟩ := H
    refine zg_iald (pc := 63) dX9_ply_63 kR_7 (by decide) hb ?_
    obtain ⟨hb, H⟩ := H
    refine zg_iast (pc := 64) dX9_ply_64 kR_2 (by decide) hb ?_
    generalize eh6 : zz_uI h 2 (Int32.toNatClampNeg ((4 * (h.1 0 0)) + l2)) (h.1 7 (Int32.toNatClampNeg l2)) = h6
    replace H := H h6 eh6.symm
    refine zg_iinc (pc := 65) dX9_ply_65 rfl (v := l2 + 1) rfl (by decide) (L' := [some (.ref 0), some (.int l1), some (.int (l2 + 1))]) rfl ?_
    refine zg_goto (pc := 68) dX9_ply_68 (tgt := 38) (by decide) ?_
    exact hag38 (l2 + 1) _ H
set_option maxRecDepth 100000 in
theorem sd_X9_ply (d : Nat) {l1 : Int32} {h : zz_Hp} {Q : Int32 → zz_Hp → Prop} (H : w_X9_ply l1 h Q) : zz_G zKR zNR (d + 1) mX9_ply (qI Q) 0 (zz_L0 3 [.ref 0, .int l1]) [] h := by
  show zz_G zKR zNR (d + 1) mX9_ply (qI Q) 0 [some (.ref 0), some (.int l1), none] [] h
  unfold w_X9_ply at H
  refine zg_iload_n (pc := 0) dX9_ply_0 rfl rfl ?_
  refine zg_bipush (pc := 1) dX9_ply_1 (v := (-99)) (by decide) ?_
  refine zg_bipush (pc := 3) dX9_ply_3 (v := 99) (by decide) ?_
  refine zg_callSi (st := []) (pc := 5) dX9_ply_5 (As := [.int l1, .int ((-99)), .int 99]) lk_X9_143 rfl (Nat.le_of_ble_eq_true rfl) (Nat.le_of_ble_eq_true rfl) (sd_X9_in d H) (fun r2 h1 H => ?_)
  refine zg_if_ne (pc := 8) dX9_ply_8 (tgt := 13) (by decide) (fun hc => ?_) (fun hc => ?_)
  · replace H := H.1 hc
    refine zg_aload_n (pc := 13) dX9_ply_13 rfl rfl ?_
    refine zg_getI (pc := 14) dX9_ply_14 lf_X9_194 kR_0 (by decide) rfl ?_
    refine zg_iconst (pc := 17) dX9_ply_17 (v := 2) (by decide) ?_
    refine zg_icmp_ge (pc := 18) dX9_ply_18 (tgt := 24) (by decide) (fun hc => ?_) (fun hc => ?_)
    · replace H := H.1 hc
      refine zg_aload_n (pc := 24) dX9_ply_24 rfl rfl ?_
      refine zg_getI (pc := 25) dX9_ply_25 lf_X9_139 kR_0 (by decide) rfl ?_
      refine zg_bipush (pc := 28) dX9_ply_28 (v := 16) (by decide) ?_
      refine zg_icmp_ne (pc := 30) dX9_ply_30 (tgt := 36) (by decide) (fun hc => ?_) (fun hc => ?_)
      · replace H := H.1 hc
        refine zg_iconst (pc := 36) dX9_ply_36 (v := 0) (by decide) ?_
        refine zg_istore_n (pc := 37) dX9_ply_37 rfl (by decide) (L' := [some (.ref 0), some (.int l1), some (.int 0)]) rfl ?_
        exact sd_X9_ply_l38  H
      · replace H := H.2 hc
        refine zg_bipush (pc := 33) dX9_ply_33 (v := (-3)) (by decide) ?_
        exact zg_iret (pc := 35) dX9_ply_35 rfl ⟨_, rfl, H⟩
    · replace H := H.2 hc
      refine zg_bipush (pc := 21) dX9_ply_21 (v := (-5)) (by decide) ?_
      exact zg_iret (pc := 23) dX9_ply_23 rfl ⟨_, rfl, H⟩
  · replace H := H.2 hc
    refine zg_iconst (pc := 11) dX9_ply_11 (v := (-1)) (by decide) ?_
    exact zg_iret (pc := 12) dX9_ply_12 rfl ⟨_, rfl, H⟩
set_option maxRecDepth 100000 in
theorem sd_X9_clear (d : Nat)  {h : zz_Hp} {Q : Int32 → zz_Hp → Prop} (H : w_X9_clear  h Q) : zz_G zKR zNR (d + 0) mX9_clear (qI Q) 0 (zz_L0 2 [.ref 0]) [] h := by
  show zz_G zKR zNR (d + 0) mX9_clear (qI Q) 0 [some (.ref 0), none] [] h
  unfold w_X9_clear at H
  refine zg_aload_n (pc := 0) dX9_clear_0 rfl rfl ?_
  refine zg_getI (pc := 1) dX9_clear_1 lf_X9_139 kR_0 (by decide) rfl ?_
  refine zg_istore_n (pc := 4) dX9_clear_4 rfl (by decide) (L' := [some (.ref 0), some (.int (h.1 0 0))]) rfl ?_
  refine zg_aload_n (pc := 5) dX9_clear_5 rfl rfl ?_
  refine zg_iconst (pc := 6) dX9_clear_6 (v := 0) (by decide) ?_
  refine zg_putI (pc := 7) dX9_clear_7 lp_X9_139 kR_0 (by decide) rfl ?_
  generalize eh1 : zz_uI h 0 0 0 = h1
  replace H := H h1 eh1.symm
  refine zg_aload_n (pc := 10) dX9_clear_10 rfl rfl ?_
  refine zg_iconst (pc := 11) dX9_clear_11 (v := 0) (by decide) ?_
  refine zg_putI (pc := 12) dX9_clear_12 lp_X9_194 kR_0 (by decide) rfl ?_
  generalize eh2 : zz_uI h1 0 7 0 = h2
  replace H := H h2 eh2.symm
  refine zg_aload_n (pc := 15) dX9_clear_15 rfl rfl ?_
  refine zg_iconst (pc := 16) dX9_clear_16 (v := 0) (by decide) ?_
  refine zg_putI (pc := 17) dX9_clear_17 lp_X9_200 kR_0 (by decide) rfl ?_
  generalize eh3 : zz_uI h2 0 9 0 = h3
  replace H := H h3 eh3.symm
  refine zg_aload_n (pc := 20) dX9_clear_20 rfl rfl ?_
  refine zg_iconst (pc := 21) dX9_clear_21 (v := 0) (by decide) ?_
  refine zg_putI (pc := 22) dX9_clear_22 lp_X9_203 kR_0 (by decide) rfl ?_
  generalize eh4 : zz_uI h3 0 13 0 = h4
  replace H := H h4 eh4.symm
  refine zg_aload_n (pc := 25) dX9_clear_25 rfl rfl ?_
  refine zg_iconst (pc := 26) dX9_clear_26 (v := 0) (by decide) ?_
  refine zg_putI (pc := 27) dX9_clear_27 lp_X9_206 kR_0 (by decide) rfl ?_
  generalize eh5 : zz_uI h4 0 16 0 = h5
  replace H := H h5 eh5.symm
  refine zg_iload_n (pc := 30) dX9_clear_30 rfl rfl ?_
  exact zg_iret (pc := 31) dX9_clear_31 rfl ⟨_, rfl, H⟩
set_option maxRecDepth 100000 in
theorem sd_X9_become (d : Nat) {l1 : Int32} {l2 : Int32} {l3 : Int32} {h : zz_Hp} {Q : zz_Hp → Prop} (H : w_X9_become l1 l2 l3 h Q) : zz_G zKR zNR (d + 0) mX9_become (qV Q) 0 (zz_L0 4 [.ref 0, .int l1, .int l2, .int l3]) [] h := by
  show zz_G zKR zNR (d + 0) mX9_become (qV Q) 0 [some (.ref 0), some (.int l1), some (.int l2), some (.int l3)] [] h
  unfold w_X9_become at H
  refine zg_iload_n (pc := 0) dX9_become_0 rfl rfl ?_
  refine zg_if_ne (pc := 1) dX9_become_1 (tgt := 14) (by decide) (fun hc => ?_) (fun hc => ?_)
  · replace H := H.1 hc
    refine zg_iload_n (pc := 14) dX9_become_14 rfl rfl ?_
    refine zg_iconst (pc := 15) dX9_become_15 (v := 1) (by decide) ?_
    refine zg_icmp_ne (pc := 16) dX9_become_16 (tgt := 29) (by decide) (fun hc => ?_) (fun hc => ?_)
    · replace H := H.1 hc
      refine zg_iload_n (pc := 29) dX9_become_29 rfl rfl ?_
      refine zg_iconst (pc := 30) dX9_become_30 (v := 2) (by decide) ?_
      refine zg_icmp_ne (pc := 31) dX9_become_31 (tgt := 44) (by decide) (fun hc => ?_) (fun hc => ?_)
      · replace H := H.1 hc
        refine zg_aload_n (pc := 44) dX9_become_44 rfl rfl ?_
        refine zg_getR (pc := 45) dX9_become_45 lf_X9_27 kR_0 (by decide) rfl ?_
        refine zg_iload_n (pc := 48) dX9_become_48 rfl rfl ?_
        refine zg_iload_n (pc := 49) dX9_become_49 rfl rfl ?_
        obtain ⟨hb, H⟩ := H
        refine zg_iast (pc := 50) dX9_become_50 kR_6 (by decide) hb ?_
        generalize eh1 : zz_uI h 6 (Int32.toNatClampNeg l1) l3 = h1
        replace H := H h1 eh1.symm
        exact zg_vret (pc := 51) dX9_become_51 rfl ⟨rfl, H⟩
      · replace H := H.2 hc
        refine zg_aload_n (pc := 34) dX9_become_34 rfl rfl ?_
        refine zg_getR (pc := 35) dX9_become_35 lf_X9_18 kR_0 (by decide) rfl ?_
        refine zg_iload_n (pc := 38) dX9_become_38 rfl rfl ?_
        refine zg_iload_n (pc := 39) dX9_become_39 rfl rfl ?_
        obtain ⟨hb, H⟩ := H
        refine zg_iast (pc := 40) dX9_become_40 kR_3 (by decide) hb ?_
        generalize eh2 : zz_uI h 3 (Int32.toNatClampNeg l1) l3 = h2
        replace H := H h2 eh2.symm
        refine zg_goto (pc := 41) dX9_become_41 (tgt := 51) (by decide) ?_
        exact zg_vret (pc := 51) dX9_become_51 rfl ⟨rfl, H⟩
    · replace H := H.2 hc
      refine zg_aload_n (pc := 19) dX9_become_19 rfl rfl ?_
      refine zg_getR (pc := 20) dX9_become_20 lf_X9_21 kR_0 (by decide) rfl ?_
      refine zg_iload_n (pc := 23) dX9_become_23 rfl rfl ?_
      refine zg_iload_n (pc := 24) dX9_become_24 rfl rfl ?_
      obtain ⟨hb, H⟩ := H
      refine zg_iast (pc := 25) dX9_become_25 kR_4 (by decide) hb ?_
      generalize eh3 : zz_uI h 4 (Int32.toNatClampNeg l1) l3 = h3
      replace H := H h3 eh3.symm
      refine zg_goto (pc := 26) dX9_become_26 (tgt := 51) (by decide) ?_
      exact zg_vret (pc := 51) dX9_become_51 rfl ⟨rfl, H⟩
  · replace H := H.2 hc
    refine zg_aload_n (pc := 4) dX9_become_4 rfl rfl ?_
    refine zg_getR (pc := 5) dX9_become_5 lf_X9_24 kR_0 (by decide) rfl ?_
    refine zg_iload_n (pc := 8) dX9_become_8 rfl rfl ?_
    refine zg_iload_n (pc := 9) dX9_become_9 rfl rfl ?_
    obtain ⟨hb, H⟩ := H
    refine zg_iast (pc := 10) dX9_become_10 kR_5 (by decide) hb ?_
    generalize eh4 : zz_uI h 5 (Int32.toNatClampNeg l1) l3 = h4
    replace H := H h4 eh4.symm
    refine zg_goto (pc := 11) dX9_become_11 (tgt := 51) (by decide) ?_
    exact zg_vret (pc := 51) dX9_become_51 rfl ⟨rfl, H⟩
set_option maxRecDepth 100000 in
theorem sd_X9_toldOf (d : Nat) {l1 : Int32} {l2 : Int32} {h : zz_Hp} {Q : Int32 → zz_Hp → Prop} (H : w_X9_toldOf l1 l2 h Q) : zz_G zKR zNR (d + 0) mX9_toldOf (qI Q) 0 (zz_L0 3 [.ref 0, .int l1, .int l2]) [] h := by
  show zz_G zKR zNR (d + 0) mX9_toldOf (qI Q) 0 [some (.ref 0), some (.int l1), some (.int l2)] [] h
  unfold w_X9_toldOf at H
  refine zg_iload_n (pc := 0) dX9_toldOf_0 rfl rfl ?_
  refine zg_if_ne (pc := 1) dX9_toldOf_1 (tgt := 13) (by decide) (fun hc => ?_) (fun hc => ?_)
  · replace H := H.1 hc
    refine zg_iload_n (pc := 13) dX9_toldOf_13 rfl rfl ?_
    refine zg_iconst (pc := 14) dX9_toldOf_14 (v := 1) (by decide) ?_
    refine zg_icmp_ne (pc := 15) dX9_toldOf_15 (tgt := 27) (by decide) (fun hc => ?_) (fun hc => ?_)
    · replace H := H.1 hc
      refine zg_iload_n (pc := 27) dX9_toldOf_27 rfl rfl ?_
      refine zg_iconst (pc := 28) dX9_toldOf_28 (v := 2) (by decide) ?_
      refine zg_icmp_ne (pc := 29) dX9_toldOf_29 (tgt := 41) (by decide) (fun hc => ?_) (fun hc => ?_)
      · replace H := H.1 hc
        refine zg_aload_n (pc := 41) dX9_toldOf_41 rfl rfl ?_
        refine zg_getR (pc := 42) dX9_toldOf_42 lf_X9_27 kR_0 (by decide) rfl ?_
        refine zg_iload_n (pc := 45) dX9_toldOf_45 rfl rfl ?_
        obtain ⟨hb, H⟩ := H
        refine zg_iald (pc := 46) dX9_toldOf_46 kR_6 (by decide) hb ?_
        exact zg_iret (pc := 47) dX9_toldOf_47 rfl ⟨_, rfl, H⟩
      · replace H := H.2 hc
        refine zg_aload_n (pc := 32) dX9_toldOf_32 rfl rfl ?_
        refine zg_getR (pc := 33) dX9_toldOf_33 lf_X9_18 kR_0 (by decide) rfl ?_
        refine zg_iload_n (pc := 36) dX9_toldOf_36 rfl rfl ?_
        obtain ⟨hb, H⟩ := H
        refine zg_iald (pc := 37) dX9_toldOf_37 kR_3 (by decide) hb ?_
        refine zg_goto (pc := 38) dX9_toldOf_38 (tgt := 47) (by decide) ?_
        exact zg_iret (pc := 47) dX9_toldOf_47 rfl ⟨_, rfl, H⟩
    · replace H := H.2 hc
      refine zg_aload_n (pc := 18) dX9_toldOf_18 rfl rfl ?_
      refine zg_getR (pc := 19) dX9_toldOf_19 lf_X9_21 kR_0 (by decide) rfl ?_
      refine zg_iload_n (pc := 22) dX9_toldOf_22 rfl rfl ?_
      obtain ⟨hb, H⟩ := H
      refine zg_iald (pc := 23) dX9_toldOf_23 kR_4 (by decide) hb ?_
      refine zg_goto (pc := 24) dX9_toldOf_24 (tgt := 47) (by decide) ?_
      exact zg_iret (pc := 47) dX9_toldOf_47 rfl ⟨_, rfl, H⟩
  · replace H := H.2 hc
    refine zg_aload_n (pc := 4) dX9_toldOf_4 rfl rfl ?_
    refine zg_getR (pc := 5) dX9_toldOf_5 lf_X9_24 kR_0 (by decide) rfl ?_
    refine zg_iload_n (pc := 8) dX9_toldOf_8 rfl rfl ?_
    obtain ⟨hb, H⟩ := H
    refine zg_iald (pc := 9) dX9_toldOf_9 kR_5 (by decide) hb ?_
    refine zg_goto (pc := 10) dX9_toldOf_10 (tgt := 47) (by decide) ?_
    exact zg_iret (pc := 47) dX9_toldOf_47 rfl ⟨_, rfl, H⟩
set_option maxRecDepth 100000 in
theorem sd_X9_set_j194 {d : Nat} {Q : Int32 → zz_Hp → Prop} {l1 : Int32} {l2 : Int32} {l3 : Int32} {l6 : Int32}  {h : zz_Hp}  (H : w_X9_set_j194 Q l1 l2 l3 l6 h) : zz_G zKR zNR (d + 2) mX9_set (qI Q) 194 [some (.ref 0), some (.int l1), some (.int l2), some (.int l3), none, none, some (.int l6), none] [] h := by
  unfold w_X9_set_j194 at H
  refine zg_aload_n (pc := 194) dX9_set_194 rfl rfl ?_
  refine zg_getR (pc := 195) dX9_set_195 lf_X9_48 kR_0 (by decide) rfl ?_
  refine zg_aload_n (pc := 198) dX9_set_198 rfl rfl ?_
  refine zg_getI (pc := 199) dX9_set_199 lf_X9_206 kR_0 (by decide) rfl ?_
  refine zg_iload_n (pc := 202) dX9_set_202 rfl rfl ?_
  obtain ⟨hb, H⟩ := H
  refine zg_iast (pc := 203) dX9_set_203 kR_13 (by decide) hb ?_
  generalize eh9 : zz_uI h 13 (Int32.toNatClampNeg (h.1 0 16)) l1 = h9
  replace H := H h9 eh9.symm
  refine zg_aload_n (pc := 204) dX9_set_204 rfl rfl ?_
  refine zg_getR (pc := 205) dX9_set_205 lf_X9_51 kR_0 (by decide) rfl ?_
  refine zg_aload_n (pc := 208) dX9_set_208 rfl rfl ?_
  refine zg_getI (pc := 209) dX9_set_209 lf_X9_206 kR_0 (by decide) rfl ?_
  refine zg_iload_n (pc := 212) dX9_set_212 rfl rfl ?_
  obtain ⟨hb, H⟩ := H
  refine zg_iast (pc := 213) dX9_set_213 kR_14 (by decide) hb ?_
  generalize eh10 : zz_uI h9 14 (Int32.toNatClampNeg (h9.1 0 16)) l2 = h10
  replace H := H h10 eh10.symm
  refine zg_aload_n (pc := 214) dX9_set_214 rfl rfl ?_
  refine zg_getR (pc := 215) dX9_set_215 lf_X9_54 kR_0 (by decide) rfl ?_
  refine zg_aload_n (pc := 218) dX9_set_218 rfl rfl ?_
  refine zg_getI (pc := 219) dX9_set_219 lf_X9_206 kR_0 (by decide) rfl ?_
  refine zg_iload (pc := 222) dX9_set_222 rfl ?_
  obtain ⟨hb, H⟩ := H
  refine zg_iast (pc := 224) dX9_set_224 kR_15 (by decide) hb ?_
  generalize eh11 : zz_uI h10 15 (Int32.toNatClampNeg (h10.1 0 16)) l6 = h11
  replace H := H h11 eh11.symm
  refine zg_aload_n (pc := 225) dX9_set_225 rfl rfl ?_
  refine zg_dup (pc := 226) dX9_set_226 rfl ?_
  refine zg_getI (pc := 227) dX9_set_227 lf_X9_206 kR_0 (by decide) rfl ?_
  refine zg_iconst (pc := 230) dX9_set_230 (v := 1) (by decide) ?_
  refine zg_iadd (pc := 231) dX9_set_231 ?_
  refine zg_putI (pc := 232) dX9_set_232 lp_X9_206 kR_0 (by decide) rfl ?_
  generalize eh12 : zz_uI h11 0 16 ((h11.1 0 16) + 1) = h12
  replace H := H h12 eh12.symm
  refine zg_aload_n (pc := 235) dX9_set_235 rfl rfl ?_
  refine zg_iload_n (pc := 236) dX9_set_236 rfl rfl ?_
  refine zg_iload_n (pc := 237) dX9_set_237 rfl rfl ?_
  refine zg_iload_n (pc := 238) dX9_set_238 rfl rfl ?_
  refine zg_callVv (st := []) (pc := 239) dX9_set_239 (As := [.int l2, .int l1, .int l3]) lk_X9_213 kR_0 (by decide) rfl (Nat.le_of_ble_eq_true rfl) (Nat.le_of_ble_eq_true rfl) (sd_X9_become (d + 1) H) (fun h13 H => ?_)
  refine zg_iload (pc := 242) dX9_set_242 rfl ?_
  exact zg_iret (pc := 244) dX9_set_244 rfl ⟨_, rfl, H⟩
set_option maxRecDepth 100000 in
theorem sd_X9_set_l127 {d : Nat} {Q : Int32 → zz_Hp → Prop} {l1 : Int32} {l2 : Int32} {l3 : Int32} {l6 : Int32} {l7 : Int32} {h : zz_Hp}  (H : lp (fun s ag => w_X9_set_l127 ag Q l1 l2 l3 l6 s.1 s.2) (l7, h)) : zz_G zKR zNR (d + 2) mX9_set (qI Q) 127 [some (.ref 0), some (.int l1), some (.int l2), some (.int l3), none, none, some (.int l6), some (.int l7)] [] h := by
  refine lp_sound (G := fun (s : Int32 × zz_Hp) => zz_G zKR zNR (d + 2) mX9_set (qI Q) 127 [some (.ref 0), some (.int l1), some (.int l2), some (.int l3), none, none, some (.int l6), some (.int s.1)] [] s.2) ?_ H
  clear H
  intro s ag127 hag127 H
  obtain ⟨l7, h⟩ := s
  replace hag127 : ∀ (l7 : Int32) (h : zz_Hp), ag127 (l7, h) → zz_G zKR zNR (d + 2) mX9_set (qI Q) 127 [some (.ref 0), some (.int l1), some (.int l2), some (.int l3), none, none, some (.int l6), some (.int l7)] [] h := fun l7 h H => hag127 (l7, h) H
  replace H : w_X9_set_l127 ag127 Q l1 l2 l3 l6 l7 h := H
  show zz_G zKR zNR (d + 2) mX9_set (qI Q) 127 [some (.ref 0), some (.int l1), some (.int l2), some (.int l3), none, none, some (.int l6), some (.int l7)] [] h
  unfold w_X9_set_l127 at H
  refine zg_iload (pc := 127) dX9_set_127 rfl ?_
  refine zg_bipush (pc := 129) dX9_set_129 (v := 10) (by decide) ?_
  refine zg_icmp_ge (pc := 131) dX9_set_131 (tgt := 188) (by decide) (fun hc => ?_) (fun hc => ?_)
  · replace H := H.1 hc
    refine zg_aload_n (pc := 188) dX9_set_188 rfl rfl ?_
    refine zg_bipush (pc := 189) dX9_set_189 (v := 9) (by decide) ?_
    refine zg_putI (pc := 191) dX9_set_191 lp_X9_206 kR_0 (by decide) rfl ?_
    generalize eh15 : zz_uI h 0 16 9 = h15
    replace H := H h15 eh15.symm
    refine zg_weak (L' := [some (.ref 0), some (.int l1), some (.int l2), some (.int l3), none, none, some (.int l6), none]) ⟨rfl, ⟨rfl, ⟨rfl, ⟨rfl, ⟨rfl, trivial⟩⟩⟩⟩⟩ ?_
    exact sd_X9_set_j194  H
  · replace H := H.2 hc
    refine zg_aload_n (pc := 134) dX9_set_134 rfl rfl ?_
    refine zg_getR (pc := 135) dX9_set_135 lf_X9_48 kR_0 (by decide) rfl ?_
    refine zg_iload (pc := 138) dX9_set_138 rfl ?_
    refine zg_iconst (pc := 140) dX9_set_140 (v := 1) (by decide) ?_
    refine zg_isub (pc := 141) dX9_set_141 ?_
    refine zg_aload_n (pc := 142) dX9_set_142 rfl rfl ?_
    refine zg_getR (pc := 143) dX9_set_143 lf_X9_48 kR_0 (by decide) rfl ?_
    refine zg_iload (pc := 146) dX9_set_146 rfl ?_
    obtain ⟨hb, H⟩ := H
    refine zg_iald (pc := 148) dX9_set_148 kR_13 (by decide) hb ?_
    obtain ⟨hb, H⟩ := H
    refine zg_iast (pc := 149) dX9_set_149 kR_13 (by decide) hb ?_
    generalize eh16 : zz_uI h 13 (Int32.toNatClampNeg (l7 - 1)) (h.1 13 (Int32.toNatClampNeg l7)) = h16
    replace H := H h16 eh16.symm
    refine zg_aload_n (pc := 150) dX9_set_150 rfl rfl ?_
    refine zg_getR (pc := 151) dX9_set_151 lf_X9_51 kR_0 (by decide) rfl ?_
    refine zg_iload (pc := 154) dX9_set_154 rfl ?_
    refine zg_iconst (pc := 156) dX9_set_156 (v := 1) (by decide) ?_
    refine zg_isub (pc := 157) dX9_set_157 ?_
    refine zg_aload_n (pc := 158) dX9_set_158 rfl rfl ?_
    refine zg_getR (pc := 159) dX9_set_159 lf_X9_51 kR_0 (by decide) rfl ?_
    refine zg_iload (pc := 162) dX9_set_162 rfl ?_
    obtain ⟨hb, H⟩ := H
    refine zg_iald (pc := 164) dX9_set_164 kR_14 (by decide) hb ?_
    obtain ⟨hb, H⟩ := H
    refine zg_iast (pc := 165) dX9_set_165 kR_14 (by decide) hb ?_
    generalize eh17 : zz_uI h16 14 (Int32.toNatClampNeg (l7 - 1)) (h16.1 14 (Int32.toNatClampNeg l7)) = h17
    replace H := H h17 eh17.symm
    refine zg_aload_n (pc := 166) dX9_set_166 rfl rfl ?_
    refine zg_getR (pc := 167) dX9_set_167 lf_X9_54 kR_0 (by decide) rfl ?_
    refine zg_iload (pc := 170) dX9_set_170 rfl ?_
    refine zg_iconst (pc := 172) dX9_set_172 (v := 1) (by decide) ?_
    refine zg_isub (pc := 173) dX9_set_173 ?_
    refine zg_aload_n (pc := 174) dX9_set_174 rfl rfl ?_
    refine zg_getR (pc := 175) dX9_set_175 lf_X9_54 kR_0 (by decide) rfl ?_
    refine zg_iload (pc := 178) dX9_set_178 rfl ?_
    obtain ⟨hb, H⟩ := H
    refine zg_iald (pc := 180) dX9_set_180 kR_15 (by decide) hb ?_
    obtain ⟨hb, H⟩ := H
    refine zg_iast (pc := 181) dX9_set_181 kR_15 (by decide) hb ?_
    generalize eh18 : zz_uI h17 15 (Int32.toNatClampNeg (l7 - 1)) (h17.1 15 (Int32.toNatClampNeg l7)) = h18
    replace H := H h18 eh18.symm
    refine zg_iinc (pc := 182) dX9_set_182 rfl (v := l7 + 1) rfl (by decide) (L' := [some (.ref 0), some (.int l1), some (.int l2), some (.int l3), none, none, some (.int l6), some (.int (l7 + 1))]) rfl ?_
    refine zg_goto (pc := 185) dX9_set_185 (tgt := 127) (by decide) ?_
    exact hag127 (l7 + 1) _ H
set_option maxRecDepth 100000 in
theorem sd_X9_set_j101 {d : Nat} {Q : Int32 → zz_Hp → Prop} {l1 : Int32} {l2 : Int32} {l3 : Int32}  {h : zz_Hp}  (H : w_X9_set_j101 Q l1 l2 l3 h) : zz_G zKR zNR (d + 2) mX9_set (qI Q) 101 [some (.ref 0), some (.int l1), some (.int l2), some (.int l3), none, none, none, none] [] h := by
  unfold w_X9_set_j101 at H
  refine zg_aload_n (pc := 101) dX9_set_101 rfl rfl ?_
  refine zg_iload_n (pc := 102) dX9_set_102 rfl rfl ?_
  refine zg_iload_n (pc := 103) dX9_set_103 rfl rfl ?_
  refine zg_callVi (st := []) (pc := 104) dX9_set_104 (As := [.int l2, .int l1]) lk_X9_210 kR_0 (by decide) rfl (Nat.le_of_ble_eq_true rfl) (Nat.le_of_ble_eq_true rfl) (sd_X9_toldOf (d + 1) H) (fun r8 h7 H => ?_)
  refine zg_istore (pc := 107) dX9_set_107 (by decide) (L' := [some (.ref 0), some (.int l1), some (.int l2), some (.int l3), none, none, some (.int r8), none]) rfl ?_
  refine zg_iload (pc := 109) dX9_set_109 rfl ?_
  refine zg_iload_n (pc := 111) dX9_set_111 rfl rfl ?_
  refine zg_icmp_eq (pc := 112) dX9_set_112 (tgt := 242) (by decide) (fun hc => ?_) (fun hc => ?_)
  · replace H := H.1 hc
    refine zg_iload (pc := 242) dX9_set_242 rfl ?_
    exact zg_iret (pc := 244) dX9_set_244 rfl ⟨_, rfl, H⟩
  · replace H := H.2 hc
    refine zg_aload_n (pc := 115) dX9_set_115 rfl rfl ?_
    refine zg_getI (pc := 116) dX9_set_116 lf_X9_206 kR_0 (by decide) rfl ?_
    refine zg_bipush (pc := 119) dX9_set_119 (v := 10) (by decide) ?_
    refine zg_icmp_ne (pc := 121) dX9_set_121 (tgt := 194) (by decide) (fun hc => ?_) (fun hc => ?_)
    · replace H := H.1 hc
      exact sd_X9_set_j194  H
    · replace H := H.2 hc
      refine zg_iconst (pc := 124) dX9_set_124 (v := 1) (by decide) ?_
      refine zg_istore (pc := 125) dX9_set_125 (by decide) (L' := [some (.ref 0), some (.int l1), some (.int l2), some (.int l3), none, none, some (.int r8), some (.int 1)]) rfl ?_
      exact sd_X9_set_l127  H
set_option maxRecDepth 100000 in
theorem sd_X9_set_j62 {d : Nat} {Q : Int32 → zz_Hp → Prop} {l1 : Int32} {l2 : Int32} {l3 : Int32} {l4 : Int32} {s0 : Int32} {h : zz_Hp}  (H : w_X9_set_j62 Q l1 l2 l3 l4 s0 h) : zz_G zKR zNR (d + 2) mX9_set (qI Q) 62 [some (.ref 0), some (.int l1), some (.int l2), some (.int l3), some (.int l4), none, none, none] [.int s0] h := by
  unfold w_X9_set_j62 at H
  refine zg_istore (pc := 62) dX9_set_62 (by decide) (L' := [some (.ref 0), some (.int l1), some (.int l2), some (.int l3), some (.int l4), some (.int s0), none, none]) rfl ?_
  refine zg_iload_n (pc := 64) dX9_set_64 rfl rfl ?_
  refine zg_iload (pc := 65) dX9_set_65 rfl ?_
  refine zg_iload (pc := 67) dX9_set_67 rfl ?_
  refine zg_callSi (st := []) (pc := 69) dX9_set_69 (As := [.int l3, .int l4, .int s0]) lk_X9_143 rfl (Nat.le_of_ble_eq_true rfl) (Nat.le_of_ble_eq_true rfl) (sd_X9_in (d + 1) H) (fun r6 h5 H => ?_)
  refine zg_if_ne (pc := 72) dX9_set_72 (tgt := 78) (by decide) (fun hc => ?_) (fun hc => ?_)
  · replace H := H.1 hc
    refine zg_aload_n (pc := 78) dX9_set_78 rfl rfl ?_
    refine zg_getR (pc := 79) dX9_set_79 lf_X9_9 kR_0 (by decide) rfl ?_
    refine zg_iload_n (pc := 82) dX9_set_82 rfl rfl ?_
    obtain ⟨hb, H⟩ := H
    refine zg_iald (pc := 83) dX9_set_83 kR_1 (by decide) hb ?_
    refine zg_if_le (pc := 84) dX9_set_84 (tgt := 101) (by decide) (fun hc => ?_) (fun hc => ?_)
    · replace H := H.1 hc
      refine zg_weak (L' := [some (.ref 0), some (.int l1), some (.int l2), some (.int l3), none, none, none, none]) ⟨rfl, ⟨rfl, ⟨rfl, ⟨rfl, trivial⟩⟩⟩⟩ ?_
      exact sd_X9_set_j101  H
    · replace H := H.2 hc
      refine zg_iload_n (pc := 87) dX9_set_87 rfl rfl ?_
      refine zg_iconst (pc := 88) dX9_set_88 (v := 1) (by decide) ?_
      refine zg_icmp_eq (pc := 89) dX9_set_89 (tgt := 97) (by decide) (fun hc => ?_) (fun hc => ?_)
      · replace H := H.1 hc
        refine zg_sipush (pc := 97) dX9_set_97 (v := (-10000)) (by decide) ?_
        exact zg_iret (pc := 100) dX9_set_100 rfl ⟨_, rfl, H⟩
      · replace H := H.2 hc
        refine zg_iload_n (pc := 92) dX9_set_92 rfl rfl ?_
        refine zg_iconst (pc := 93) dX9_set_93 (v := 2) (by decide) ?_
        refine zg_icmp_ne (pc := 94) dX9_set_94 (tgt := 101) (by decide) (fun hc => ?_) (fun hc => ?_)
        · replace H := H.1 hc
          refine zg_weak (L' := [some (.ref 0), some (.int l1), some (.int l2), some (.int l3), none, none, none, none]) ⟨rfl, ⟨rfl, ⟨rfl, ⟨rfl, trivial⟩⟩⟩⟩ ?_
          exact sd_X9_set_j101  H
        · replace H := H.2 hc
          refine zg_sipush (pc := 97) dX9_set_97 (v := (-10000)) (by decide) ?_
          exact zg_iret (pc := 100) dX9_set_100 rfl ⟨_, rfl, H⟩
  · replace H := H.2 hc
    refine zg_ldc (pc := 75) dX9_set_75 lc_X9_209 ?_
    exact zg_iret (pc := 77) dX9_set_77 rfl ⟨_, rfl, H⟩
set_option maxRecDepth 100000 in
theorem sd_X9_set_j39 {d : Nat} {Q : Int32 → zz_Hp → Prop} {l1 : Int32} {l2 : Int32} {l3 : Int32} {s0 : Int32} {h : zz_Hp}  (H : w_X9_set_j39 Q l1 l2 l3 s0 h) : zz_G zKR zNR (d + 2) mX9_set (qI Q) 39 [some (.ref 0), some (.int l1), some (.int l2), some (.int l3), none, none, none, none] [.int s0] h := by
  unfold w_X9_set_j39 at H
  refine zg_istore (pc := 39) dX9_set_39 (by decide) (L' := [some (.ref 0), some (.int l1), some (.int l2), some (.int l3), some (.int s0), none, none, none]) rfl ?_
  refine zg_iload_n (pc := 41) dX9_set_41 rfl rfl ?_
  refine zg_iconst (pc := 42) dX9_set_42 (v := 2) (by decide) ?_
  refine zg_icmp_ge (pc := 43) dX9_set_43 (tgt := 51) (by decide) (fun hc => ?_) (fun hc => ?_)
  · replace H := H.1 hc
    refine zg_iload_n (pc := 51) dX9_set_51 rfl rfl ?_
    refine zg_iconst (pc := 52) dX9_set_52 (v := 2) (by decide) ?_
    refine zg_icmp_ne (pc := 53) dX9_set_53 (tgt := 60) (by decide) (fun hc => ?_) (fun hc => ?_)
    · replace H := H.1 hc
      refine zg_ldc (pc := 60) dX9_set_60 lc_X9_189 ?_
      exact sd_X9_set_j62  H
    · replace H := H.2 hc
      refine zg_iconst (pc := 56) dX9_set_56 (v := 3) (by decide) ?_
      refine zg_goto (pc := 57) dX9_set_57 (tgt := 62) (by decide) ?_
      exact sd_X9_set_j62  H
  · replace H := H.2 hc
    refine zg_bipush (pc := 46) dX9_set_46 (v := 99) (by decide) ?_
    refine zg_goto (pc := 48) dX9_set_48 (tgt := 62) (by decide) ?_
    exact sd_X9_set_j62  H
set_option maxRecDepth 100000 in
theorem sd_X9_set (d : Nat) {l1 : Int32} {l2 : Int32} {l3 : Int32} {h : zz_Hp} {Q : Int32 → zz_Hp → Prop} (H : w_X9_set l1 l2 l3 h Q) : zz_G zKR zNR (d + 2) mX9_set (qI Q) 0 (zz_L0 8 [.ref 0, .int l1, .int l2, .int l3]) [] h := by
  show zz_G zKR zNR (d + 2) mX9_set (qI Q) 0 [some (.ref 0), some (.int l1), some (.int l2), some (.int l3), none, none, none, none] [] h
  unfold w_X9_set at H
  refine zg_iload_n (pc := 0) dX9_set_0 rfl rfl ?_
  refine zg_iconst (pc := 1) dX9_set_1 (v := 0) (by decide) ?_
  refine zg_iconst (pc := 2) dX9_set_2 (v := 3) (by decide) ?_
  refine zg_callSi (st := []) (pc := 3) dX9_set_3 (As := [.int l1, .int 0, .int 3]) lk_X9_143 rfl (Nat.le_of_ble_eq_true rfl) (Nat.le_of_ble_eq_true rfl) (sd_X9_in (d + 1) H) (fun r2 h1 H => ?_)
  refine zg_if_eq (pc := 6) dX9_set_6 (tgt := 17) (by decide) (fun hc => ?_) (fun hc => ?_)
  · replace H := H.1 hc
    refine zg_ldc (pc := 17) dX9_set_17 lc_X9_209 ?_
    exact zg_iret (pc := 19) dX9_set_19 rfl ⟨_, rfl, H⟩
  · replace H := H.2 hc
    refine zg_aload_n (pc := 9) dX9_set_9 rfl rfl ?_
    refine zg_iload_n (pc := 10) dX9_set_10 rfl rfl ?_
    refine zg_callVi (st := []) (pc := 11) dX9_set_11 (As := [.int l2]) lk_X9_147 kR_0 (by decide) rfl (Nat.le_of_ble_eq_true rfl) (Nat.le_of_ble_eq_true rfl) (sd_X9_isYarn d H) (fun r4 h3 H => ?_)
    refine zg_if_ne (pc := 14) dX9_set_14 (tgt := 20) (by decide) (fun hc => ?_) (fun hc => ?_)
    · replace H := H.1 hc
      refine zg_iload_n (pc := 20) dX9_set_20 rfl rfl ?_
      refine zg_if_ne (pc := 21) dX9_set_21 (tgt := 29) (by decide) (fun hc => ?_) (fun hc => ?_)
      · replace H := H.1 hc
        refine zg_iload_n (pc := 29) dX9_set_29 rfl rfl ?_
        refine zg_iconst (pc := 30) dX9_set_30 (v := 1) (by decide) ?_
        refine zg_icmp_ne (pc := 31) dX9_set_31 (tgt := 38) (by decide) (fun hc => ?_) (fun hc => ?_)
        · replace H := H.1 hc
          refine zg_iconst (pc := 38) dX9_set_38 (v := 0) (by decide) ?_
          exact sd_X9_set_j39  H
        · replace H := H.2 hc
          refine zg_iconst (pc := 34) dX9_set_34 (v := 1) (by decide) ?_
          refine zg_goto (pc := 35) dX9_set_35 (tgt := 39) (by decide) ?_
          exact sd_X9_set_j39  H
      · replace H := H.2 hc
        refine zg_bipush (pc := 24) dX9_set_24 (v := (-99)) (by decide) ?_
        refine zg_goto (pc := 26) dX9_set_26 (tgt := 39) (by decide) ?_
        exact sd_X9_set_j39  H
    · replace H := H.2 hc
      refine zg_ldc (pc := 17) dX9_set_17 lc_X9_209 ?_
      exact zg_iret (pc := 19) dX9_set_19 rfl ⟨_, rfl, H⟩
set_option maxRecDepth 100000 in
theorem sd_X9_sizeOf (d : Nat) {l0 : Int32} {h : zz_Hp} {Q : Int32 → zz_Hp → Prop} (H : w_X9_sizeOf l0 h Q) : zz_G zKR zNR (d + 0) mX9_sizeOf (qI Q) 0 (zz_L0 1 [.int l0]) [] h := by
  show zz_G zKR zNR (d + 0) mX9_sizeOf (qI Q) 0 [some (.int l0)] [] h
  unfold w_X9_sizeOf at H
  refine zg_iload_n (pc := 0) dX9_sizeOf_0 rfl rfl ?_
  refine zg_if_ge (pc := 1) dX9_sizeOf_1 (tgt := 9) (by decide) (fun hc => ?_) (fun hc => ?_)
  · replace H := H.1 hc
    refine zg_iload_n (pc := 9) dX9_sizeOf_9 rfl rfl ?_
    exact zg_iret (pc := 10) dX9_sizeOf_10 rfl ⟨_, rfl, H⟩
  · replace H := H.2 hc
    refine zg_iload_n (pc := 4) dX9_sizeOf_4 rfl rfl ?_
    refine zg_ineg (pc := 5) dX9_sizeOf_5 ?_
    refine zg_goto (pc := 6) dX9_sizeOf_6 (tgt := 10) (by decide) ?_
    exact zg_iret (pc := 10) dX9_sizeOf_10 rfl ⟨_, rfl, H⟩
set_option maxRecDepth 100000 in
theorem sd_X9_byOf (d : Nat) {l1 : Int32} {h : zz_Hp} {Q : Int32 → zz_Hp → Prop} (H : w_X9_byOf l1 h Q) : zz_G zKR zNR (d + 1) mX9_byOf (qI Q) 0 (zz_L0 2 [.ref 0, .int l1]) [] h := by
  show zz_G zKR zNR (d + 1) mX9_byOf (qI Q) 0 [some (.ref 0), some (.int l1)] [] h
  unfold w_X9_byOf at H
  refine zg_aload_n (pc := 0) dX9_byOf_0 rfl rfl ?_
  refine zg_getR (pc := 1) dX9_byOf_1 lf_X9_9 kR_0 (by decide) rfl ?_
  refine zg_iload_n (pc := 4) dX9_byOf_4 rfl rfl ?_
  obtain ⟨hb, H⟩ := H
  refine zg_iald (pc := 5) dX9_byOf_5 kR_1 (by decide) hb ?_
  refine zg_if_ne (pc := 6) dX9_byOf_6 (tgt := 15) (by decide) (fun hc => ?_) (fun hc => ?_)
  · replace H := H.1 hc
    refine zg_sipush (pc := 15) dX9_byOf_15 (v := 1000) (by decide) ?_
    refine zg_aload_n (pc := 18) dX9_byOf_18 rfl rfl ?_
    refine zg_getR (pc := 19) dX9_byOf_19 lf_X9_24 kR_0 (by decide) rfl ?_
    refine zg_iload_n (pc := 22) dX9_byOf_22 rfl rfl ?_
    obtain ⟨hb, H⟩ := H
    refine zg_iald (pc := 23) dX9_byOf_23 kR_5 (by decide) hb ?_
    refine zg_callSi (st := [.int 1000]) (pc := 24) dX9_byOf_24 (As := [.int (h.1 5 (Int32.toNatClampNeg l1))]) lk_X9_170 rfl (Nat.le_of_ble_eq_true rfl) (Nat.le_of_ble_eq_true rfl) (sd_X9_sizeOf d H) (fun r2 h1 H => ?_)
    refine zg_aload_n (pc := 27) dX9_byOf_27 rfl rfl ?_
    refine zg_getR (pc := 28) dX9_byOf_28 lf_X9_9 kR_0 (by decide) rfl ?_
    refine zg_iload_n (pc := 31) dX9_byOf_31 rfl rfl ?_
    obtain ⟨hb, H⟩ := H
    refine zg_iald (pc := 32) dX9_byOf_32 kR_1 (by decide) hb ?_
    refine zg_imul (pc := 33) dX9_byOf_33 ?_
    refine zg_isub (pc := 34) dX9_byOf_34 ?_
    exact zg_iret (pc := 35) dX9_byOf_35 rfl ⟨_, rfl, H⟩
  · replace H := H.2 hc
    refine zg_sipush (pc := 9) dX9_byOf_9 (v := 1000) (by decide) ?_
    refine zg_goto (pc := 12) dX9_byOf_12 (tgt := 35) (by decide) ?_
    exact zg_iret (pc := 35) dX9_byOf_35 rfl ⟨_, rfl, H⟩
set_option maxRecDepth 100000 in
theorem sd_X9_walk_l108 {n d : Nat} {rc : Int32 → Int32 → Int32 → Int64 → Int64 → zz_Hp → (zz_Hp → Prop) → Prop} {Q : zz_Hp → Prop} {l1 : Int32} {l4 : Int64} {l6 : Int64} {l8 : Int32} {l9 : Int32} {l10 : Int32} {l11 : Int32} {h : zz_Hp} (hrc : ∀ l1 l2 l3 l4 l6 (h : zz_Hp) (Q : zz_Hp → Prop), rc l1 l2 l3 l4 l6 h Q → zz_G zKR zNR (d + n + 2) mX9_walk (qV Q) 0 (zz_L0 12 [.ref 0, .int l1, .int l2, .int l3, .long l4, .long l6]) [] h) (H : lp (fun s ag => w_X9_walk_l108 rc ag Q l1 l4 l6 l8 l9 l10 s.1 s.2) (l11, h)) : zz_G zKR zNR (d + (n + 1) + 2) mX9_walk (qV Q) 108 [some (.ref 0), some (.int l1), none, none, some (.long l4), none, some (.long l6), none, some (.int l8), some (.int l9), some (.int l10), some (.int l11)] [] h := by
  refine lp_sound (G := fun (s : Int32 × zz_Hp) => zz_G zKR zNR (d + (n + 1) + 2) mX9_walk (qV Q) 108 [some (.ref 0), some (.int l1), none, none, some (.long l4), none, some (.long l6), none, some (.int l8), some (.int l9), some (.int l10), some (.int s.1)] [] s.2) ?_ H
  clear H
  intro s ag108 hag108 H
  obtain ⟨l11, h⟩ := s
  replace hag108 : ∀ (l11 : Int32) (h : zz_Hp), ag108 (l11, h) → zz_G zKR zNR (d + (n + 1) + 2) mX9_walk (qV Q) 108 [some (.ref 0), some (.int l1), none, none, some (.long l4), none, some (.long l6), none, some (.int l8), some (.int l9), some (.int l10), some (.int l11)] [] h := fun l11 h H => hag108 (l11, h) H
  replace H : w_X9_walk_l108 rc ag108 Q l1 l4 l6 l8 l9 l10 l11 h := H
  show zz_G zKR zNR (d + (n + 1) + 2) mX9_walk (qV Q) 108 [some (.ref 0), some (.int l1), none, none, some (.long l4), none, some (.long l6), none, some (.int l8), some (.int l9), some (.int l10), some (.int l11)] [] h
  unfold w_X9_walk_l108 at H
  refine zg_iload (pc := 108) dX9_walk_108 rfl ?_
  refine zg_aload_n (pc := 110) dX9_walk_110 rfl rfl ?_
  refine zg_getR (pc := 111) dX9_walk_111 lf_X9_9 kR_0 (by decide) rfl ?_
  refine zg_iload_n (pc := 114) dX9_walk_114 rfl rfl ?_
  obtain ⟨hb, H⟩ := H
  refine zg_iald (pc := 115) dX9_walk_115 kR_1 (by decide) hb ?_
  refine zg_icmp_ge (pc := 116) dX9_walk_116 (tgt := 156) (by decide) (fun hc => ?_) (fun hc => ?_)
  · replace H := H.1 hc
    exact zg_vret (pc := 156) dX9_walk_156 rfl ⟨rfl, H⟩
  · replace H := H.2 hc
    refine zg_aload_n (pc := 119) dX9_walk_119 rfl rfl ?_
    refine zg_aload_n (pc := 120) dX9_walk_120 rfl rfl ?_
    refine zg_getR (pc := 121) dX9_walk_121 lf_X9_15 kR_0 (by decide) rfl ?_
    refine zg_iconst (pc := 124) dX9_walk_124 (v := 4) (by decide) ?_
    refine zg_iload_n (pc := 125) dX9_walk_125 rfl rfl ?_
    refine zg_imul (pc := 126) dX9_walk_126 ?_
    refine zg_iload (pc := 127) dX9_walk_127 rfl ?_
    refine zg_iadd (pc := 129) dX9_walk_129 ?_
    obtain ⟨hb, H⟩ := H
    refine zg_iald (pc := 130) dX9_walk_130 kR_2 (by decide) hb ?_
    refine zg_iload (pc := 131) dX9_walk_131 rfl ?_
    refine zg_iload (pc := 133) dX9_walk_133 rfl ?_
    refine zg_lload (pc := 135) dX9_walk_135 rfl ?_
    refine zg_iload (pc := 137) dX9_walk_137 rfl ?_
    refine zg_i2l (pc := 139) dX9_walk_139 ?_
    refine zg_lmul (pc := 140) dX9_walk_140 ?_
    refine zg_lload (pc := 141) dX9_walk_141 rfl ?_
    refine zg_ldc2 (pc := 143) dX9_walk_143 lc_X9_179 ?_
    refine zg_lmul (pc := 146) dX9_walk_146 ?_
    refine zg_callVv (st := []) (pc := 147) dX9_walk_147 (As := [.int (h.1 2 (Int32.toNatClampNeg ((4 * l1) + l11))), .int l8, .int l10, .long (l4 * (Int32.toInt64 l9)), .long (l6 * 1000)]) lk_X9_181 kR_0 (by decide) rfl (Nat.le_of_ble_eq_true rfl) (Nat.le_of_ble_eq_true rfl) (hrc (h.1 2 (Int32.toNatClampNeg ((4 * l1) + l11))) l8 l10 (l4 * (Int32.toInt64 l9)) (l6 * 1000) _ _ H) (fun h3 H => ?_)
    refine zg_iinc (pc := 150) dX9_walk_150 rfl (v := l11 + 1) rfl (by decide) (L' := [some (.ref 0), some (.int l1), none, none, some (.long l4), none, some (.long l6), none, some (.int l8), some (.int l9), some (.int l10), some (.int (l11 + 1))]) rfl ?_
    refine zg_goto (pc := 153) dX9_walk_153 (tgt := 108) (by decide) ?_
    exact hag108 (l11 + 1) _ H
set_option maxRecDepth 100000 in
theorem sd_X9_walk_b {n d : Nat} {rc : Int32 → Int32 → Int32 → Int64 → Int64 → zz_Hp → (zz_Hp → Prop) → Prop} {l1 : Int32} {l2 : Int32} {l3 : Int32} {l4 : Int64} {l6 : Int64} {h : zz_Hp} {Q : zz_Hp → Prop} (hrc : ∀ l1 l2 l3 l4 l6 (h : zz_Hp) (Q : zz_Hp → Prop), rc l1 l2 l3 l4 l6 h Q → zz_G zKR zNR (d + n + 2) mX9_walk (qV Q) 0 (zz_L0 12 [.ref 0, .int l1, .int l2, .int l3, .long l4, .long l6]) [] h) (H : w_X9_walk_b rc l1 l2 l3 l4 l6 h Q) : zz_G zKR zNR (d + (n + 1) + 2) mX9_walk (qV Q) 0 [some (.ref 0), some (.int l1), some (.int l2), some (.int l3), some (.long l4), none, some (.long l6), none, none, none, none, none] [] h := by
  unfold w_X9_walk_b at H
  refine zg_iload_n (pc := 0) dX9_walk_0 rfl rfl ?_
  refine zg_aload_n (pc := 1) dX9_walk_1 rfl rfl ?_
  refine zg_getR (pc := 2) dX9_walk_2 lf_X9_24 kR_0 (by decide) rfl ?_
  refine zg_iload_n (pc := 5) dX9_walk_5 rfl rfl ?_
  obtain ⟨hb, H⟩ := H
  refine zg_iald (pc := 6) dX9_walk_6 kR_5 (by decide) hb ?_
  refine zg_iadd (pc := 7) dX9_walk_7 ?_
  refine zg_istore (pc := 8) dX9_walk_8 (by decide) (L' := [some (.ref 0), some (.int l1), some (.int l2), some (.int l3), some (.long l4), none, some (.long l6), none, some (.int (l2 + (h.1 5 (Int32.toNatClampNeg l1)))), none, none, none]) rfl ?_
  refine zg_aload_n (pc := 10) dX9_walk_10 rfl rfl ?_
  refine zg_getR (pc := 11) dX9_walk_11 lf_X9_9 kR_0 (by decide) rfl ?_
  refine zg_iload_n (pc := 14) dX9_walk_14 rfl rfl ?_
  obtain ⟨hb, H⟩ := H
  refine zg_iald (pc := 15) dX9_walk_15 kR_1 (by decide) hb ?_
  refine zg_if_ne (pc := 16) dX9_walk_16 (tgt := 83) (by decide) (fun hc => ?_) (fun hc => ?_)
  · replace H := H.1 hc
    refine zg_aload_n (pc := 83) dX9_walk_83 rfl rfl ?_
    refine zg_iload_n (pc := 84) dX9_walk_84 rfl rfl ?_
    refine zg_callVi (st := []) (pc := 85) dX9_walk_85 (As := [.int l1]) lk_X9_176 kR_0 (by decide) rfl (Nat.le_of_ble_eq_true rfl) (Nat.le_of_ble_eq_true rfl) (sd_X9_byOf (d + (n + 1)) H) (fun r2 h1 H => ?_)
    refine zg_istore (pc := 88) dX9_walk_88 (by decide) (L' := [some (.ref 0), some (.int l1), some (.int l2), some (.int l3), some (.long l4), none, some (.long l6), none, some (.int (l2 + (h.1 5 (Int32.toNatClampNeg l1)))), some (.int r2), none, none]) rfl ?_
    refine zg_iload_n (pc := 90) dX9_walk_90 rfl rfl ?_
    refine zg_sipush (pc := 91) dX9_walk_91 (v := 1000) (by decide) ?_
    refine zg_imul (pc := 94) dX9_walk_94 ?_
    refine zg_iload (pc := 95) dX9_walk_95 rfl ?_
    refine zg_iadd (pc := 97) dX9_walk_97 ?_
    refine zg_iconst (pc := 98) dX9_walk_98 (v := 1) (by decide) ?_
    refine zg_isub (pc := 99) dX9_walk_99 ?_
    refine zg_iload (pc := 100) dX9_walk_100 rfl ?_
    obtain ⟨hb, H⟩ := H
    refine zg_idiv (pc := 102) dX9_walk_102 hb ?_
    refine zg_istore (pc := 103) dX9_walk_103 (by decide) (L' := [some (.ref 0), some (.int l1), some (.int l2), some (.int l3), some (.long l4), none, some (.long l6), none, some (.int (l2 + (h.1 5 (Int32.toNatClampNeg l1)))), some (.int r2), some (.int ((((l3 * 1000) + r2) - 1) / r2)), none]) rfl ?_
    refine zg_iconst (pc := 105) dX9_walk_105 (v := 0) (by decide) ?_
    refine zg_istore (pc := 106) dX9_walk_106 (by decide) (L' := [some (.ref 0), some (.int l1), some (.int l2), some (.int l3), some (.long l4), none, some (.long l6), none, some (.int (l2 + (h.1 5 (Int32.toNatClampNeg l1)))), some (.int r2), some (.int ((((l3 * 1000) + r2) - 1) / r2)), some (.int 0)]) rfl ?_
    refine zg_weak (L' := [some (.ref 0), some (.int l1), none, none, some (.long l4), none, some (.long l6), none, some (.int (l2 + (h.1 5 (Int32.toNatClampNeg l1)))), some (.int r2), some (.int ((((l3 * 1000) + r2) - 1) / r2)), some (.int 0)]) ⟨rfl, ⟨rfl, ⟨rfl, ⟨rfl, ⟨rfl, ⟨rfl, ⟨rfl, ⟨rfl, trivial⟩⟩⟩⟩⟩⟩⟩⟩ ?_
    exact sd_X9_walk_l108 hrc H
  · replace H := H.2 hc
    refine zg_aload_n (pc := 19) dX9_walk_19 rfl rfl ?_
    refine zg_getR (pc := 20) dX9_walk_20 lf_X9_102 kR_0 (by decide) rfl ?_
    refine zg_aload_n (pc := 23) dX9_walk_23 rfl rfl ?_
    refine zg_getI (pc := 24) dX9_walk_24 lf_X9_173 kR_0 (by decide) rfl ?_
    refine zg_iload_n (pc := 27) dX9_walk_27 rfl rfl ?_
    obtain ⟨hb, H⟩ := H
    refine zg_iast (pc := 28) dX9_walk_28 kR_31 (by decide) hb ?_
    generalize eh5 : zz_uI h 31 (Int32.toNatClampNeg (h.1 0 40)) l1 = h5
    replace H := H h5 eh5.symm
    refine zg_aload_n (pc := 29) dX9_walk_29 rfl rfl ?_
    refine zg_getR (pc := 30) dX9_walk_30 lf_X9_105 kR_0 (by decide) rfl ?_
    refine zg_aload_n (pc := 33) dX9_walk_33 rfl rfl ?_
    refine zg_getI (pc := 34) dX9_walk_34 lf_X9_173 kR_0 (by decide) rfl ?_
    refine zg_iload (pc := 37) dX9_walk_37 rfl ?_
    obtain ⟨hb, H⟩ := H
    refine zg_iast (pc := 39) dX9_walk_39 kR_32 (by decide) hb ?_
    generalize eh6 : zz_uI h5 32 (Int32.toNatClampNeg (h5.1 0 40)) (l2 + (h.1 5 (Int32.toNatClampNeg l1))) = h6
    replace H := H h6 eh6.symm
    refine zg_aload_n (pc := 40) dX9_walk_40 rfl rfl ?_
    refine zg_getR (pc := 41) dX9_walk_41 lf_X9_108 kR_0 (by decide) rfl ?_
    refine zg_aload_n (pc := 44) dX9_walk_44 rfl rfl ?_
    refine zg_getI (pc := 45) dX9_walk_45 lf_X9_173 kR_0 (by decide) rfl ?_
    refine zg_iload_n (pc := 48) dX9_walk_48 rfl rfl ?_
    obtain ⟨hb, H⟩ := H
    refine zg_iast (pc := 49) dX9_walk_49 kR_33 (by decide) hb ?_
    generalize eh7 : zz_uI h6 33 (Int32.toNatClampNeg (h6.1 0 40)) l3 = h7
    replace H := H h7 eh7.symm
    refine zg_aload_n (pc := 50) dX9_walk_50 rfl rfl ?_
    refine zg_getR (pc := 51) dX9_walk_51 lf_X9_111 kR_0 (by decide) rfl ?_
    refine zg_aload_n (pc := 54) dX9_walk_54 rfl rfl ?_
    refine zg_getI (pc := 55) dX9_walk_55 lf_X9_173 kR_0 (by decide) rfl ?_
    refine zg_lload (pc := 58) dX9_walk_58 rfl ?_
    obtain ⟨hb, H⟩ := H
    refine zg_last (pc := 60) dX9_walk_60 kR_34 (by decide) hb ?_
    generalize eh8 : zz_uL h7 34 (Int32.toNatClampNeg (h7.1 0 40)) l4 = h8
    replace H := H h8 eh8.symm
    refine zg_aload_n (pc := 61) dX9_walk_61 rfl rfl ?_
    refine zg_getR (pc := 62) dX9_walk_62 lf_X9_115 kR_0 (by decide) rfl ?_
    refine zg_aload_n (pc := 65) dX9_walk_65 rfl rfl ?_
    refine zg_getI (pc := 66) dX9_walk_66 lf_X9_173 kR_0 (by decide) rfl ?_
    refine zg_lload (pc := 69) dX9_walk_69 rfl ?_
    obtain ⟨hb, H⟩ := H
    refine zg_last (pc := 71) dX9_walk_71 kR_35 (by decide) hb ?_
    generalize eh9 : zz_uL h8 35 (Int32.toNatClampNeg (h8.1 0 40)) l6 = h9
    replace H := H h9 eh9.symm
    refine zg_aload_n (pc := 72) dX9_walk_72 rfl rfl ?_
    refine zg_dup (pc := 73) dX9_walk_73 rfl ?_
    refine zg_getI (pc := 74) dX9_walk_74 lf_X9_173 kR_0 (by decide) rfl ?_
    refine zg_iconst (pc := 77) dX9_walk_77 (v := 1) (by decide) ?_
    refine zg_iadd (pc := 78) dX9_walk_78 ?_
    refine zg_putI (pc := 79) dX9_walk_79 lp_X9_173 kR_0 (by decide) rfl ?_
    generalize eh10 : zz_uI h9 0 40 ((h9.1 0 40) + 1) = h10
    replace H := H h10 eh10.symm
    exact zg_vret (pc := 82) dX9_walk_82 rfl ⟨rfl, H⟩
theorem sd_X9_walk : ∀ (n d : Nat) {l1 : Int32} {l2 : Int32} {l3 : Int32} {l4 : Int64} {l6 : Int64} {h : zz_Hp} {Q : zz_Hp → Prop} (_ : w_X9_walk n l1 l2 l3 l4 l6 h Q), zz_G zKR zNR (d + n + 2) mX9_walk (qV Q) 0 (zz_L0 12 [.ref 0, .int l1, .int l2, .int l3, .long l4, .long l6]) [] h := by
  intro n
  induction n with
  | zero => intro d l1 l2 l3 l4 l6 h Q H; exact H.elim
  | succ n ih => intro d l1 l2 l3 l4 l6 h Q H; exact sd_X9_walk_b (fun l1 l2 l3 l4 l6 h Q H => ih d H) H
set_option maxRecDepth 100000 in
theorem sd_X9_walkOver (d : Nat) {l1 : Int32} {l2 : Int32} {h : zz_Hp} {Q : zz_Hp → Prop} (H : w_X9_walkOver l1 l2 h Q) : zz_G zKR zNR (d + 8) mX9_walkOver (qV Q) 0 (zz_L0 3 [.ref 0, .int l1, .int l2]) [] h := by
  show zz_G zKR zNR (d + 8) mX9_walkOver (qV Q) 0 [some (.ref 0), some (.int l1), some (.int l2)] [] h
  unfold w_X9_walkOver at H
  refine zg_aload_n (pc := 0) dX9_walkOver_0 rfl rfl ?_
  refine zg_iconst (pc := 1) dX9_walkOver_1 (v := 0) (by decide) ?_
  refine zg_putI (pc := 2) dX9_walkOver_2 lp_X9_173 kR_0 (by decide) rfl ?_
  generalize eh1 : zz_uI h 0 40 0 = h1
  replace H := H h1 eh1.symm
  refine zg_aload_n (pc := 5) dX9_walkOver_5 rfl rfl ?_
  refine zg_iload_n (pc := 6) dX9_walkOver_6 rfl rfl ?_
  refine zg_iconst (pc := 7) dX9_walkOver_7 (v := 0) (by decide) ?_
  refine zg_iload_n (pc := 8) dX9_walkOver_8 rfl rfl ?_
  refine zg_lconst (pc := 9) dX9_walkOver_9 (v := 1) (by decide) ?_
  refine zg_lconst (pc := 10) dX9_walkOver_10 (v := 1) (by decide) ?_
  refine zg_callVv (st := []) (pc := 11) dX9_walkOver_11 (As := [.int l1, .int 0, .int l2, .long 1, .long 1]) lk_X9_181 kR_0 (by decide) rfl (Nat.le_of_ble_eq_true rfl) (Nat.le_of_ble_eq_true rfl) (sd_X9_walk 5 d H) (fun h2 H => ?_)
  exact zg_vret (pc := 14) dX9_walkOver_14 rfl ⟨rfl, H⟩
set_option maxRecDepth 100000 in
theorem sd_X9_of (d : Nat) {l1 : Int32} {l2 : Int32} {h : zz_Hp} {Q : Int32 → zz_Hp → Prop} (H : w_X9_of l1 l2 h Q) : zz_G zKR zNR (d + 9) mX9_of (qI Q) 0 (zz_L0 3 [.ref 0, .int l1, .int l2]) [] h := by
  show zz_G zKR zNR (d + 9) mX9_of (qI Q) 0 [some (.ref 0), some (.int l1), some (.int l2)] [] h
  unfold w_X9_of at H
  refine zg_aload_n (pc := 0) dX9_of_0 rfl rfl ?_
  refine zg_iload_n (pc := 1) dX9_of_1 rfl rfl ?_
  refine zg_callVi (st := []) (pc := 2) dX9_of_2 (As := [.int l1]) lk_X9_147 kR_0 (by decide) rfl (Nat.le_of_ble_eq_true rfl) (Nat.le_of_ble_eq_true rfl) (sd_X9_isYarn (d + 7) H) (fun r2 h1 H => ?_)
  refine zg_if_eq (pc := 5) dX9_of_5 (tgt := 18) (by decide) (fun hc => ?_) (fun hc => ?_)
  · replace H := H.1 hc
    refine zg_ldc (pc := 18) dX9_of_18 lc_X9_209 ?_
    exact zg_iret (pc := 20) dX9_of_20 rfl ⟨_, rfl, H⟩
  · replace H := H.2 hc
    refine zg_iload_n (pc := 8) dX9_of_8 rfl rfl ?_
    refine zg_iconst (pc := 9) dX9_of_9 (v := 0) (by decide) ?_
    refine zg_bipush (pc := 10) dX9_of_10 (v := 7) (by decide) ?_
    refine zg_callSi (st := []) (pc := 12) dX9_of_12 (As := [.int l2, .int 0, .int 7]) lk_X9_143 rfl (Nat.le_of_ble_eq_true rfl) (Nat.le_of_ble_eq_true rfl) (sd_X9_in (d + 8) H) (fun r4 h3 H => ?_)
    refine zg_if_ne (pc := 15) dX9_of_15 (tgt := 21) (by decide) (fun hc => ?_) (fun hc => ?_)
    · replace H := H.1 hc
      refine zg_iload_n (pc := 21) dX9_of_21 rfl rfl ?_
      by_cases hc : (Int32.toInt l2) < 4 ∨ 7 < (Int32.toInt l2)
      · refine zg_tabOut (pc := 22) dX9_of_22 hc (tgt := 82) (by decide) ?_
        replace H := H.2.2.2.2 hc
        refine zg_aload_n (pc := 82) dX9_of_82 rfl rfl ?_
        refine zg_iload_n (pc := 83) dX9_of_83 rfl rfl ?_
        refine zg_iload_n (pc := 84) dX9_of_84 rfl rfl ?_
        refine zg_callVi (st := []) (pc := 85) dX9_of_85 (As := [.int l1, .int l2]) lk_X9_210 kR_0 (by decide) rfl (Nat.le_of_ble_eq_true rfl) (Nat.le_of_ble_eq_true rfl) (sd_X9_toldOf (d + 8) H) (fun r12 h11 H => ?_)
        exact zg_iret (pc := 88) dX9_of_88 rfl ⟨_, rfl, H⟩
      · have hx : (Int32.toInt l2) = 4 ∨ (Int32.toInt l2) = 5 ∨ (Int32.toInt l2) = 6 ∨ (Int32.toInt l2) = 7 := by omega
        rcases hx with hx | hx | hx | hx
        · refine zg_tabIn (pc := 22) dX9_of_22 (by omega) (by omega) (off := 30) (by rw [hx]; rfl) (tgt := 52) (by decide) ?_
          replace H := H.1 hx
          refine zg_aload_n (pc := 52) dX9_of_52 rfl rfl ?_
          refine zg_getR (pc := 53) dX9_of_53 lf_X9_9 kR_0 (by decide) rfl ?_
          refine zg_iload_n (pc := 56) dX9_of_56 rfl rfl ?_
          obtain ⟨hb, H⟩ := H
          refine zg_iald (pc := 57) dX9_of_57 kR_1 (by decide) hb ?_
          exact zg_iret (pc := 58) dX9_of_58 rfl ⟨_, rfl, H⟩
        · refine zg_tabIn (pc := 22) dX9_of_22 (by omega) (by omega) (off := 37) (by rw [hx]; rfl) (tgt := 59) (by decide) ?_
          replace H := H.2.1 hx
          refine zg_aload_n (pc := 59) dX9_of_59 rfl rfl ?_
          refine zg_iload_n (pc := 60) dX9_of_60 rfl rfl ?_
          refine zg_callVi (st := []) (pc := 61) dX9_of_61 (As := [.int l1]) lk_X9_151 kR_0 (by decide) rfl (Nat.le_of_ble_eq_true rfl) (Nat.le_of_ble_eq_true rfl) (sd_X9_depthOf 5 (d + 3) H) (fun r6 h5 H => ?_)
          exact zg_iret (pc := 64) dX9_of_64 rfl ⟨_, rfl, H⟩
        · refine zg_tabIn (pc := 22) dX9_of_22 (by omega) (by omega) (off := 43) (by rw [hx]; rfl) (tgt := 65) (by decide) ?_
          replace H := H.2.2.1 hx
          refine zg_aload_n (pc := 65) dX9_of_65 rfl rfl ?_
          refine zg_iload_n (pc := 66) dX9_of_66 rfl rfl ?_
          refine zg_iconst (pc := 67) dX9_of_67 (v := 0) (by decide) ?_
          refine zg_callVv (st := []) (pc := 68) dX9_of_68 (As := [.int l1, .int 0]) lk_X9_185 kR_0 (by decide) rfl (Nat.le_of_ble_eq_true rfl) (Nat.le_of_ble_eq_true rfl) (sd_X9_walkOver d H) (fun h7 H => ?_)
          refine zg_aload_n (pc := 71) dX9_of_71 rfl rfl ?_
          refine zg_getI (pc := 72) dX9_of_72 lf_X9_173 kR_0 (by decide) rfl ?_
          exact zg_iret (pc := 75) dX9_of_75 rfl ⟨_, rfl, H⟩
        · refine zg_tabIn (pc := 22) dX9_of_22 (by omega) (by omega) (off := 54) (by rw [hx]; rfl) (tgt := 76) (by decide) ?_
          replace H := H.2.2.2.1 hx
          refine zg_aload_n (pc := 76) dX9_of_76 rfl rfl ?_
          refine zg_iload_n (pc := 77) dX9_of_77 rfl rfl ?_
          refine zg_callVi (st := []) (pc := 78) dX9_of_78 (As := [.int l1]) lk_X9_176 kR_0 (by decide) rfl (Nat.le_of_ble_eq_true rfl) (Nat.le_of_ble_eq_true rfl) (sd_X9_byOf (d + 7) H) (fun r10 h9 H => ?_)
          exact zg_iret (pc := 81) dX9_of_81 rfl ⟨_, rfl, H⟩
    · replace H := H.2 hc
      refine zg_ldc (pc := 18) dX9_of_18 lc_X9_209 ?_
      exact zg_iret (pc := 20) dX9_of_20 rfl ⟨_, rfl, H⟩
set_option maxRecDepth 100000 in
theorem sd_X9_partOf (d : Nat) {l1 : Int32} {l2 : Int32} {h : zz_Hp} {Q : Int32 → zz_Hp → Prop} (H : w_X9_partOf l1 l2 h Q) : zz_G zKR zNR (d + 2) mX9_partOf (qI Q) 0 (zz_L0 3 [.ref 0, .int l1, .int l2]) [] h := by
  show zz_G zKR zNR (d + 2) mX9_partOf (qI Q) 0 [some (.ref 0), some (.int l1), some (.int l2)] [] h
  unfold w_X9_partOf at H
  refine zg_aload_n (pc := 0) dX9_partOf_0 rfl rfl ?_
  refine zg_iload_n (pc := 1) dX9_partOf_1 rfl rfl ?_
  refine zg_callVi (st := []) (pc := 2) dX9_partOf_2 (As := [.int l1]) lk_X9_147 kR_0 (by decide) rfl (Nat.le_of_ble_eq_true rfl) (Nat.le_of_ble_eq_true rfl) (sd_X9_isYarn d H) (fun r2 h1 H => ?_)
  refine zg_if_eq (pc := 5) dX9_partOf_5 (tgt := 12) (by decide) (fun hc => ?_) (fun hc => ?_)
  · replace H := H.1 hc
    refine zg_iconst (pc := 12) dX9_partOf_12 (v := (-1)) (by decide) ?_
    exact zg_iret (pc := 13) dX9_partOf_13 rfl ⟨_, rfl, H⟩
  · replace H := H.2 hc
    refine zg_iload_n (pc := 8) dX9_partOf_8 rfl rfl ?_
    refine zg_if_ge (pc := 9) dX9_partOf_9 (tgt := 14) (by decide) (fun hc => ?_) (fun hc => ?_)
    · replace H := H.1 hc
      refine zg_iload_n (pc := 14) dX9_partOf_14 rfl rfl ?_
      refine zg_iconst (pc := 15) dX9_partOf_15 (v := 0) (by decide) ?_
      refine zg_aload_n (pc := 16) dX9_partOf_16 rfl rfl ?_
      refine zg_getR (pc := 17) dX9_partOf_17 lf_X9_9 kR_0 (by decide) rfl ?_
      refine zg_iload_n (pc := 20) dX9_partOf_20 rfl rfl ?_
      obtain ⟨hb, H⟩ := H
      refine zg_iald (pc := 21) dX9_partOf_21 kR_1 (by decide) hb ?_
      refine zg_iconst (pc := 22) dX9_partOf_22 (v := 1) (by decide) ?_
      refine zg_isub (pc := 23) dX9_partOf_23 ?_
      refine zg_callSi (st := []) (pc := 24) dX9_partOf_24 (As := [.int l2, .int 0, .int ((h1.1 1 (Int32.toNatClampNeg l1)) - 1)]) lk_X9_143 rfl (Nat.le_of_ble_eq_true rfl) (Nat.le_of_ble_eq_true rfl) (sd_X9_in (d + 1) H) (fun r4 h3 H => ?_)
      refine zg_if_eq (pc := 27) dX9_partOf_27 (tgt := 43) (by decide) (fun hc => ?_) (fun hc => ?_)
      · replace H := H.1 hc
        refine zg_bipush (pc := 43) dX9_partOf_43 (v := (-2)) (by decide) ?_
        exact zg_iret (pc := 45) dX9_partOf_45 rfl ⟨_, rfl, H⟩
      · replace H := H.2 hc
        refine zg_aload_n (pc := 30) dX9_partOf_30 rfl rfl ?_
        refine zg_getR (pc := 31) dX9_partOf_31 lf_X9_15 kR_0 (by decide) rfl ?_
        refine zg_iconst (pc := 34) dX9_partOf_34 (v := 4) (by decide) ?_
        refine zg_iload_n (pc := 35) dX9_partOf_35 rfl rfl ?_
        refine zg_imul (pc := 36) dX9_partOf_36 ?_
        refine zg_iload_n (pc := 37) dX9_partOf_37 rfl rfl ?_
        refine zg_iadd (pc := 38) dX9_partOf_38 ?_
        obtain ⟨hb, H⟩ := H
        refine zg_iald (pc := 39) dX9_partOf_39 kR_2 (by decide) hb ?_
        refine zg_goto (pc := 40) dX9_partOf_40 (tgt := 45) (by decide) ?_
        exact zg_iret (pc := 45) dX9_partOf_45 rfl ⟨_, rfl, H⟩
    · replace H := H.2 hc
      refine zg_iconst (pc := 12) dX9_partOf_12 (v := (-1)) (by decide) ?_
      exact zg_iret (pc := 13) dX9_partOf_13 rfl ⟨_, rfl, H⟩
set_option maxRecDepth 100000 in
theorem sd_X9_leaf (d : Nat) {l1 : Int32} {l2 : Int32} {l3 : Int32} {h : zz_Hp} {Q : Int32 → zz_Hp → Prop} (H : w_X9_leaf l1 l2 l3 h Q) : zz_G zKR zNR (d + 9) mX9_leaf (qI Q) 0 (zz_L0 4 [.ref 0, .int l1, .int l2, .int l3]) [] h := by
  show zz_G zKR zNR (d + 9) mX9_leaf (qI Q) 0 [some (.ref 0), some (.int l1), some (.int l2), some (.int l3)] [] h
  unfold w_X9_leaf at H
  refine zg_aload_n (pc := 0) dX9_leaf_0 rfl rfl ?_
  refine zg_iload_n (pc := 1) dX9_leaf_1 rfl rfl ?_
  refine zg_callVi (st := []) (pc := 2) dX9_leaf_2 (As := [.int l1]) lk_X9_147 kR_0 (by decide) rfl (Nat.le_of_ble_eq_true rfl) (Nat.le_of_ble_eq_true rfl) (sd_X9_isYarn (d + 7) H) (fun r2 h1 H => ?_)
  refine zg_if_eq (pc := 5) dX9_leaf_5 (tgt := 17) (by decide) (fun hc => ?_) (fun hc => ?_)
  · replace H := H.1 hc
    refine zg_ldc (pc := 17) dX9_leaf_17 lc_X9_209 ?_
    exact zg_iret (pc := 19) dX9_leaf_19 rfl ⟨_, rfl, H⟩
  · replace H := H.2 hc
    refine zg_iload_n (pc := 8) dX9_leaf_8 rfl rfl ?_
    refine zg_iconst (pc := 9) dX9_leaf_9 (v := 0) (by decide) ?_
    refine zg_iconst (pc := 10) dX9_leaf_10 (v := 1) (by decide) ?_
    refine zg_callSi (st := []) (pc := 11) dX9_leaf_11 (As := [.int l3, .int 0, .int 1]) lk_X9_143 rfl (Nat.le_of_ble_eq_true rfl) (Nat.le_of_ble_eq_true rfl) (sd_X9_in (d + 8) H) (fun r4 h3 H => ?_)
    refine zg_if_ne (pc := 14) dX9_leaf_14 (tgt := 20) (by decide) (fun hc => ?_) (fun hc => ?_)
    · replace H := H.1 hc
      refine zg_aload_n (pc := 20) dX9_leaf_20 rfl rfl ?_
      refine zg_iload_n (pc := 21) dX9_leaf_21 rfl rfl ?_
      refine zg_iconst (pc := 22) dX9_leaf_22 (v := 0) (by decide) ?_
      refine zg_callVv (st := []) (pc := 23) dX9_leaf_23 (As := [.int l1, .int 0]) lk_X9_185 kR_0 (by decide) rfl (Nat.le_of_ble_eq_true rfl) (Nat.le_of_ble_eq_true rfl) (sd_X9_walkOver d H) (fun h5 H => ?_)
      refine zg_iload_n (pc := 26) dX9_leaf_26 rfl rfl ?_
      refine zg_iconst (pc := 27) dX9_leaf_27 (v := 0) (by decide) ?_
      refine zg_aload_n (pc := 28) dX9_leaf_28 rfl rfl ?_
      refine zg_getI (pc := 29) dX9_leaf_29 lf_X9_173 kR_0 (by decide) rfl ?_
      refine zg_iconst (pc := 32) dX9_leaf_32 (v := 1) (by decide) ?_
      refine zg_isub (pc := 33) dX9_leaf_33 ?_
      refine zg_callSi (st := []) (pc := 34) dX9_leaf_34 (As := [.int l2, .int 0, .int ((h5.1 0 40) - 1)]) lk_X9_143 rfl (Nat.le_of_ble_eq_true rfl) (Nat.le_of_ble_eq_true rfl) (sd_X9_in (d + 8) H) (fun r8 h7 H => ?_)
      refine zg_if_ne (pc := 37) dX9_leaf_37 (tgt := 43) (by decide) (fun hc => ?_) (fun hc => ?_)
      · replace H := H.1 hc
        refine zg_iload_n (pc := 43) dX9_leaf_43 rfl rfl ?_
        refine zg_if_ne (pc := 44) dX9_leaf_44 (tgt := 56) (by decide) (fun hc => ?_) (fun hc => ?_)
        · replace H := H.1 hc
          refine zg_aload_n (pc := 56) dX9_leaf_56 rfl rfl ?_
          refine zg_getR (pc := 57) dX9_leaf_57 lf_X9_105 kR_0 (by decide) rfl ?_
          refine zg_iload_n (pc := 60) dX9_leaf_60 rfl rfl ?_
          obtain ⟨hb, H⟩ := H
          refine zg_iald (pc := 61) dX9_leaf_61 kR_32 (by decide) hb ?_
          exact zg_iret (pc := 62) dX9_leaf_62 rfl ⟨_, rfl, H⟩
        · replace H := H.2 hc
          refine zg_aload_n (pc := 47) dX9_leaf_47 rfl rfl ?_
          refine zg_getR (pc := 48) dX9_leaf_48 lf_X9_102 kR_0 (by decide) rfl ?_
          refine zg_iload_n (pc := 51) dX9_leaf_51 rfl rfl ?_
          obtain ⟨hb, H⟩ := H
          refine zg_iald (pc := 52) dX9_leaf_52 kR_31 (by decide) hb ?_
          refine zg_goto (pc := 53) dX9_leaf_53 (tgt := 62) (by decide) ?_
          exact zg_iret (pc := 62) dX9_leaf_62 rfl ⟨_, rfl, H⟩
      · replace H := H.2 hc
        refine zg_ldc (pc := 40) dX9_leaf_40 lc_X9_209 ?_
        exact zg_iret (pc := 42) dX9_leaf_42 rfl ⟨_, rfl, H⟩
    · replace H := H.2 hc
      refine zg_ldc (pc := 17) dX9_leaf_17 lc_X9_209 ?_
      exact zg_iret (pc := 19) dX9_leaf_19 rfl ⟨_, rfl, H⟩
set_option maxRecDepth 100000 in
theorem sd_X9_tallyIn_l26 {n d : Nat} {rc : Int32 → zz_Hp → (zz_Hp → Prop) → Prop} {Q : zz_Hp → Prop} {l1 : Int32} {l2 : Int32} {h : zz_Hp} (hrc : ∀ l1 (h : zz_Hp) (Q : zz_Hp → Prop), rc l1 h Q → zz_G zKR zNR (d + n + 0) mX9_tallyIn (qV Q) 0 (zz_L0 3 [.ref 0, .int l1]) [] h) (H : lp (fun s ag => w_X9_tallyIn_l26 rc ag Q l1 s.1 s.2) (l2, h)) : zz_G zKR zNR (d + (n + 1) + 0) mX9_tallyIn (qV Q) 26 [some (.ref 0), some (.int l1), some (.int l2)] [] h := by
  refine lp_sound (G := fun (s : Int32 × zz_Hp) => zz_G zKR zNR (d + (n + 1) + 0) mX9_tallyIn (qV Q) 26 [some (.ref 0), some (.int l1), some (.int s.1)] [] s.2) ?_ H
  clear H
  intro s ag26 hag26 H
  obtain ⟨l2, h⟩ := s
  replace hag26 : ∀ (l2 : Int32) (h : zz_Hp), ag26 (l2, h) → zz_G zKR zNR (d + (n + 1) + 0) mX9_tallyIn (qV Q) 26 [some (.ref 0), some (.int l1), some (.int l2)] [] h := fun l2 h H => hag26 (l2, h) H
  replace H : w_X9_tallyIn_l26 rc ag26 Q l1 l2 h := H
  show zz_G zKR zNR (d + (n + 1) + 0) mX9_tallyIn (qV Q) 26 [some (.ref 0), some (.int l1), some (.int l2)] [] h
  unfold w_X9_tallyIn_l26 at H
  refine zg_iload_n (pc := 26) dX9_tallyIn_26 rfl rfl ?_
  refine zg_aload_n (pc := 27) dX9_tallyIn_27 rfl rfl ?_
  refine zg_getR (pc := 28) dX9_tallyIn_28 lf_X9_9 kR_0 (by decide) rfl ?_
  refine zg_iload_n (pc := 31) dX9_tallyIn_31 rfl rfl ?_
  obtain ⟨hb, H⟩ := H
  refine zg_iald (pc := 32) dX9_tallyIn_32 kR_1 (by decide) hb ?_
  refine zg_icmp_ge (pc := 33) dX9_tallyIn_33 (tgt := 56) (by decide) (fun hc => ?_) (fun hc => ?_)
  · replace H := H.1 hc
    exact zg_vret (pc := 56) dX9_tallyIn_56 rfl ⟨rfl, H⟩
  · replace H := H.2 hc
    refine zg_aload_n (pc := 36) dX9_tallyIn_36 rfl rfl ?_
    refine zg_aload_n (pc := 37) dX9_tallyIn_37 rfl rfl ?_
    refine zg_getR (pc := 38) dX9_tallyIn_38 lf_X9_15 kR_0 (by decide) rfl ?_
    refine zg_iconst (pc := 41) dX9_tallyIn_41 (v := 4) (by decide) ?_
    refine zg_iload_n (pc := 42) dX9_tallyIn_42 rfl rfl ?_
    refine zg_imul (pc := 43) dX9_tallyIn_43 ?_
    refine zg_iload_n (pc := 44) dX9_tallyIn_44 rfl rfl ?_
    refine zg_iadd (pc := 45) dX9_tallyIn_45 ?_
    obtain ⟨hb, H⟩ := H
    refine zg_iald (pc := 46) dX9_tallyIn_46 kR_2 (by decide) hb ?_
    refine zg_callVv (st := []) (pc := 47) dX9_tallyIn_47 (As := [.int (h.1 2 (Int32.toNatClampNeg ((4 * l1) + l2)))]) lk_X9_166 kR_0 (by decide) rfl (Nat.le_of_ble_eq_true rfl) (Nat.le_of_ble_eq_true rfl) (hrc (h.1 2 (Int32.toNatClampNeg ((4 * l1) + l2))) _ _ H) (fun h1 H => ?_)
    refine zg_iinc (pc := 50) dX9_tallyIn_50 rfl (v := l2 + 1) rfl (by decide) (L' := [some (.ref 0), some (.int l1), some (.int (l2 + 1))]) rfl ?_
    refine zg_goto (pc := 53) dX9_tallyIn_53 (tgt := 26) (by decide) ?_
    exact hag26 (l2 + 1) _ H
set_option maxRecDepth 100000 in
theorem sd_X9_tallyIn_b {n d : Nat} {rc : Int32 → zz_Hp → (zz_Hp → Prop) → Prop} {l1 : Int32} {h : zz_Hp} {Q : zz_Hp → Prop} (hrc : ∀ l1 (h : zz_Hp) (Q : zz_Hp → Prop), rc l1 h Q → zz_G zKR zNR (d + n + 0) mX9_tallyIn (qV Q) 0 (zz_L0 3 [.ref 0, .int l1]) [] h) (H : w_X9_tallyIn_b rc l1 h Q) : zz_G zKR zNR (d + (n + 1) + 0) mX9_tallyIn (qV Q) 0 [some (.ref 0), some (.int l1), none] [] h := by
  unfold w_X9_tallyIn_b at H
  refine zg_aload_n (pc := 0) dX9_tallyIn_0 rfl rfl ?_
  refine zg_getR (pc := 1) dX9_tallyIn_1 lf_X9_9 kR_0 (by decide) rfl ?_
  refine zg_iload_n (pc := 4) dX9_tallyIn_4 rfl rfl ?_
  obtain ⟨hb, H⟩ := H
  refine zg_iald (pc := 5) dX9_tallyIn_5 kR_1 (by decide) hb ?_
  refine zg_if_ne (pc := 6) dX9_tallyIn_6 (tgt := 24) (by decide) (fun hc => ?_) (fun hc => ?_)
  · replace H := H.1 hc
    refine zg_iconst (pc := 24) dX9_tallyIn_24 (v := 0) (by decide) ?_
    refine zg_istore_n (pc := 25) dX9_tallyIn_25 rfl (by decide) (L' := [some (.ref 0), some (.int l1), some (.int 0)]) rfl ?_
    exact sd_X9_tallyIn_l26 hrc H
  · replace H := H.2 hc
    refine zg_aload_n (pc := 9) dX9_tallyIn_9 rfl rfl ?_
    refine zg_getR (pc := 10) dX9_tallyIn_10 lf_X9_66 kR_0 (by decide) rfl ?_
    refine zg_aload_n (pc := 13) dX9_tallyIn_13 rfl rfl ?_
    refine zg_getR (pc := 14) dX9_tallyIn_14 lf_X9_18 kR_0 (by decide) rfl ?_
    refine zg_iload_n (pc := 17) dX9_tallyIn_17 rfl rfl ?_
    obtain ⟨hb, H⟩ := H
    refine zg_iald (pc := 18) dX9_tallyIn_18 kR_3 (by decide) hb ?_
    refine zg_dup2 (pc := 19) dX9_tallyIn_19 rfl rfl ?_
    obtain ⟨hb, H⟩ := H
    refine zg_iald (pc := 20) dX9_tallyIn_20 kR_19 (by decide) hb ?_
    refine zg_iconst (pc := 21) dX9_tallyIn_21 (v := 1) (by decide) ?_
    refine zg_iadd (pc := 22) dX9_tallyIn_22 ?_
    obtain ⟨hb, H⟩ := H
    refine zg_iast (pc := 23) dX9_tallyIn_23 kR_19 (by decide) hb ?_
    generalize eh3 : zz_uI h 19 (Int32.toNatClampNeg (h.1 3 (Int32.toNatClampNeg l1))) ((h.1 19 (Int32.toNatClampNeg (h.1 3 (Int32.toNatClampNeg l1)))) + 1) = h3
    replace H := H h3 eh3.symm
    refine zg_iconst (pc := 24) dX9_tallyIn_24 (v := 0) (by decide) ?_
    refine zg_istore_n (pc := 25) dX9_tallyIn_25 rfl (by decide) (L' := [some (.ref 0), some (.int l1), some (.int 0)]) rfl ?_
    exact sd_X9_tallyIn_l26 hrc H
theorem sd_X9_tallyIn : ∀ (n d : Nat) {l1 : Int32} {h : zz_Hp} {Q : zz_Hp → Prop} (_ : w_X9_tallyIn n l1 h Q), zz_G zKR zNR (d + n + 0) mX9_tallyIn (qV Q) 0 (zz_L0 3 [.ref 0, .int l1]) [] h := by
  intro n
  induction n with
  | zero => intro d l1 h Q H; exact H.elim
  | succ n ih => intro d l1 h Q H; exact sd_X9_tallyIn_b (fun l1 h Q H => ih d H) H
set_option maxRecDepth 100000 in
theorem sd_X9_pull (d : Nat) {l0 : Int32} {l1 : Int32} {l2 : Int32} {h : zz_Hp} {Q : Int32 → zz_Hp → Prop} (H : w_X9_pull l0 l1 l2 h Q) : zz_G zKR zNR (d + 0) mX9_pull (qI Q) 0 (zz_L0 4 [.int l0, .int l1, .int l2]) [] h := by
  show zz_G zKR zNR (d + 0) mX9_pull (qI Q) 0 [some (.int l0), some (.int l1), some (.int l2), none] [] h
  unfold w_X9_pull at H
  refine zg_iload_n (pc := 0) dX9_pull_0 rfl rfl ?_
  refine zg_iload_n (pc := 1) dX9_pull_1 rfl rfl ?_
  refine zg_imul (pc := 2) dX9_pull_2 ?_
  refine zg_istore_n (pc := 3) dX9_pull_3 rfl (by decide) (L' := [some (.int l0), some (.int l1), some (.int l2), some (.int (l1 * l2))]) rfl ?_
  refine zg_iload_n (pc := 4) dX9_pull_4 rfl rfl ?_
  refine zg_if_ne (pc := 5) dX9_pull_5 (tgt := 10) (by decide) (fun hc => ?_) (fun hc => ?_)
  · replace H := H.1 hc
    refine zg_iload_n (pc := 10) dX9_pull_10 rfl rfl ?_
    refine zg_iconst (pc := 11) dX9_pull_11 (v := 1) (by decide) ?_
    refine zg_icmp_ne (pc := 12) dX9_pull_12 (tgt := 19) (by decide) (fun hc => ?_) (fun hc => ?_)
    · replace H := H.1 hc
      refine zg_iload_n (pc := 19) dX9_pull_19 rfl rfl ?_
      refine zg_iconst (pc := 20) dX9_pull_20 (v := 2) (by decide) ?_
      refine zg_icmp_ne (pc := 21) dX9_pull_21 (tgt := 28) (by decide) (fun hc => ?_) (fun hc => ?_)
      · replace H := H.1 hc
        refine zg_iload_n (pc := 28) dX9_pull_28 rfl rfl ?_
        refine zg_bipush (pc := 29) dX9_pull_29 (v := 20) (by decide) ?_
        refine zg_icmp_le (pc := 31) dX9_pull_31 (tgt := 45) (by decide) (fun hc => ?_) (fun hc => ?_)
        · replace H := H.1 hc
          refine zg_iload_n (pc := 45) dX9_pull_45 rfl rfl ?_
          refine zg_bipush (pc := 46) dX9_pull_46 (v := (-20)) (by decide) ?_
          refine zg_icmp_ge (pc := 48) dX9_pull_48 (tgt := 62) (by decide) (fun hc => ?_) (fun hc => ?_)
          · replace H := H.1 hc
            refine zg_iload_n (pc := 62) dX9_pull_62 rfl rfl ?_
            exact zg_iret (pc := 63) dX9_pull_63 rfl ⟨_, rfl, H⟩
          · replace H := H.2 hc
            refine zg_iload_n (pc := 51) dX9_pull_51 rfl rfl ?_
            refine zg_iload_n (pc := 52) dX9_pull_52 rfl rfl ?_
            refine zg_iload_n (pc := 53) dX9_pull_53 rfl rfl ?_
            refine zg_bipush (pc := 54) dX9_pull_54 (v := 20) (by decide) ?_
            refine zg_iadd (pc := 56) dX9_pull_56 ?_
            refine zg_imul (pc := 57) dX9_pull_57 ?_
            refine zg_iadd (pc := 58) dX9_pull_58 ?_
            refine zg_goto (pc := 59) dX9_pull_59 (tgt := 63) (by decide) ?_
            exact zg_iret (pc := 63) dX9_pull_63 rfl ⟨_, rfl, H⟩
        · replace H := H.2 hc
          refine zg_iload_n (pc := 34) dX9_pull_34 rfl rfl ?_
          refine zg_iload_n (pc := 35) dX9_pull_35 rfl rfl ?_
          refine zg_iload_n (pc := 36) dX9_pull_36 rfl rfl ?_
          refine zg_bipush (pc := 37) dX9_pull_37 (v := 20) (by decide) ?_
          refine zg_isub (pc := 39) dX9_pull_39 ?_
          refine zg_imul (pc := 40) dX9_pull_40 ?_
          refine zg_iadd (pc := 41) dX9_pull_41 ?_
          refine zg_goto (pc := 42) dX9_pull_42 (tgt := 63) (by decide) ?_
          exact zg_iret (pc := 63) dX9_pull_63 rfl ⟨_, rfl, H⟩
      · replace H := H.2 hc
        refine zg_iload_n (pc := 24) dX9_pull_24 rfl rfl ?_
        refine zg_iconst (pc := 25) dX9_pull_25 (v := 2) (by decide) ?_
        refine zg_idiv (pc := 26) dX9_pull_26 (by decide) ?_
        exact zg_iret (pc := 27) dX9_pull_27 rfl ⟨_, rfl, H⟩
    · replace H := H.2 hc
      refine zg_iconst (pc := 15) dX9_pull_15 (v := 2) (by decide) ?_
      refine zg_iload_n (pc := 16) dX9_pull_16 rfl rfl ?_
      refine zg_imul (pc := 17) dX9_pull_17 ?_
      exact zg_iret (pc := 18) dX9_pull_18 rfl ⟨_, rfl, H⟩
  · replace H := H.2 hc
    refine zg_iload_n (pc := 8) dX9_pull_8 rfl rfl ?_
    exact zg_iret (pc := 9) dX9_pull_9 rfl ⟨_, rfl, H⟩
set_option maxRecDepth 100000 in
theorem sd_X9_torqueIn_l48 {n d : Nat} {rc : Int32 → Int32 → zz_Hp → (Int32 → zz_Hp → Prop) → Prop} {Q : Int32 → zz_Hp → Prop} {l1 : Int32} {l3 : Int32} {l4 : Int32} {l5 : Int32} {h : zz_Hp} (hrc : ∀ l1 l2 (h : zz_Hp) (Q : Int32 → zz_Hp → Prop), rc l1 l2 h Q → zz_G zKR zNR (d + n + 1) mX9_torqueIn (qI Q) 0 (zz_L0 6 [.ref 0, .int l1, .int l2]) [] h) (H : lp (fun s ag => w_X9_torqueIn_l48 rc ag Q l1 l3 s.1 s.2.1 s.2.2) (l4, l5, h)) : zz_G zKR zNR (d + (n + 1) + 1) mX9_torqueIn (qI Q) 48 [some (.ref 0), some (.int l1), none, some (.int l3), some (.int l4), some (.int l5)] [] h := by
  refine lp_sound (G := fun (s : Int32 × Int32 × zz_Hp) => zz_G zKR zNR (d + (n + 1) + 1) mX9_torqueIn (qI Q) 48 [some (.ref 0), some (.int l1), none, some (.int l3), some (.int s.1), some (.int s.2.1)] [] s.2.2) ?_ H
  clear H
  intro s ag48 hag48 H
  obtain ⟨l4, l5, h⟩ := s
  replace hag48 : ∀ (l4 : Int32) (l5 : Int32) (h : zz_Hp), ag48 (l4, l5, h) → zz_G zKR zNR (d + (n + 1) + 1) mX9_torqueIn (qI Q) 48 [some (.ref 0), some (.int l1), none, some (.int l3), some (.int l4), some (.int l5)] [] h := fun l4 l5 h H => hag48 (l4, l5, h) H
  replace H : w_X9_torqueIn_l48 rc ag48 Q l1 l3 l4 l5 h := H
  show zz_G zKR zNR (d + (n + 1) + 1) mX9_torqueIn (qI Q) 48 [some (.ref 0), some (.int l1), none, some (.int l3), some (.int l4), some (.int l5)] [] h
  unfold w_X9_torqueIn_l48 at H
  refine zg_iload (pc := 48) dX9_torqueIn_48 rfl ?_
  refine zg_aload_n (pc := 50) dX9_torqueIn_50 rfl rfl ?_
  refine zg_getR (pc := 51) dX9_torqueIn_51 lf_X9_9 kR_0 (by decide) rfl ?_
  refine zg_iload_n (pc := 54) dX9_torqueIn_54 rfl rfl ?_
  obtain ⟨hb, H⟩ := H
  refine zg_iald (pc := 55) dX9_torqueIn_55 kR_1 (by decide) hb ?_
  refine zg_icmp_ge (pc := 56) dX9_torqueIn_56 (tgt := 86) (by decide) (fun hc => ?_) (fun hc => ?_)
  · replace H := H.1 hc
    refine zg_iload (pc := 86) dX9_torqueIn_86 rfl ?_
    exact zg_iret (pc := 88) dX9_torqueIn_88 rfl ⟨_, rfl, H⟩
  · replace H := H.2 hc
    refine zg_iload (pc := 59) dX9_torqueIn_59 rfl ?_
    refine zg_aload_n (pc := 61) dX9_torqueIn_61 rfl rfl ?_
    refine zg_aload_n (pc := 62) dX9_torqueIn_62 rfl rfl ?_
    refine zg_getR (pc := 63) dX9_torqueIn_63 lf_X9_15 kR_0 (by decide) rfl ?_
    refine zg_iconst (pc := 66) dX9_torqueIn_66 (v := 4) (by decide) ?_
    refine zg_iload_n (pc := 67) dX9_torqueIn_67 rfl rfl ?_
    refine zg_imul (pc := 68) dX9_torqueIn_68 ?_
    refine zg_iload (pc := 69) dX9_torqueIn_69 rfl ?_
    refine zg_iadd (pc := 71) dX9_torqueIn_71 ?_
    obtain ⟨hb, H⟩ := H
    refine zg_iald (pc := 72) dX9_torqueIn_72 kR_2 (by decide) hb ?_
    refine zg_iload_n (pc := 73) dX9_torqueIn_73 rfl rfl ?_
    refine zg_callVi (st := [.int l4]) (pc := 74) dX9_torqueIn_74 (As := [.int (h.1 2 (Int32.toNatClampNeg ((4 * l1) + l5))), .int l3]) lk_X9_162 kR_0 (by decide) rfl (Nat.le_of_ble_eq_true rfl) (Nat.le_of_ble_eq_true rfl) (hrc (h.1 2 (Int32.toNatClampNeg ((4 * l1) + l5))) l3 _ _ H) (fun r2 h1 H => ?_)
    refine zg_iadd (pc := 77) dX9_torqueIn_77 ?_
    refine zg_istore (pc := 78) dX9_torqueIn_78 (by decide) (L' := [some (.ref 0), some (.int l1), none, some (.int l3), some (.int (l4 + r2)), some (.int l5)]) rfl ?_
    refine zg_iinc (pc := 80) dX9_torqueIn_80 rfl (v := l5 + 1) rfl (by decide) (L' := [some (.ref 0), some (.int l1), none, some (.int l3), some (.int (l4 + r2)), some (.int (l5 + 1))]) rfl ?_
    refine zg_goto (pc := 83) dX9_torqueIn_83 (tgt := 48) (by decide) ?_
    exact hag48 (l4 + r2) (l5 + 1) _ H
set_option maxRecDepth 100000 in
theorem sd_X9_torqueIn_b {n d : Nat} {rc : Int32 → Int32 → zz_Hp → (Int32 → zz_Hp → Prop) → Prop} {l1 : Int32} {l2 : Int32} {h : zz_Hp} {Q : Int32 → zz_Hp → Prop} (hrc : ∀ l1 l2 (h : zz_Hp) (Q : Int32 → zz_Hp → Prop), rc l1 l2 h Q → zz_G zKR zNR (d + n + 1) mX9_torqueIn (qI Q) 0 (zz_L0 6 [.ref 0, .int l1, .int l2]) [] h) (H : w_X9_torqueIn_b rc l1 l2 h Q) : zz_G zKR zNR (d + (n + 1) + 1) mX9_torqueIn (qI Q) 0 [some (.ref 0), some (.int l1), some (.int l2), none, none, none] [] h := by
  unfold w_X9_torqueIn_b at H
  refine zg_iload_n (pc := 0) dX9_torqueIn_0 rfl rfl ?_
  refine zg_aload_n (pc := 1) dX9_torqueIn_1 rfl rfl ?_
  refine zg_getR (pc := 2) dX9_torqueIn_2 lf_X9_24 kR_0 (by decide) rfl ?_
  refine zg_iload_n (pc := 5) dX9_torqueIn_5 rfl rfl ?_
  obtain ⟨hb, H⟩ := H
  refine zg_iald (pc := 6) dX9_torqueIn_6 kR_5 (by decide) hb ?_
  refine zg_iadd (pc := 7) dX9_torqueIn_7 ?_
  refine zg_istore_n (pc := 8) dX9_torqueIn_8 rfl (by decide) (L' := [some (.ref 0), some (.int l1), some (.int l2), some (.int (l2 + (h.1 5 (Int32.toNatClampNeg l1)))), none, none]) rfl ?_
  refine zg_aload_n (pc := 9) dX9_torqueIn_9 rfl rfl ?_
  refine zg_getR (pc := 10) dX9_torqueIn_10 lf_X9_9 kR_0 (by decide) rfl ?_
  refine zg_iload_n (pc := 13) dX9_torqueIn_13 rfl rfl ?_
  obtain ⟨hb, H⟩ := H
  refine zg_iald (pc := 14) dX9_torqueIn_14 kR_1 (by decide) hb ?_
  refine zg_if_ne (pc := 15) dX9_torqueIn_15 (tgt := 35) (by decide) (fun hc => ?_) (fun hc => ?_)
  · replace H := H.1 hc
    refine zg_iload_n (pc := 35) dX9_torqueIn_35 rfl rfl ?_
    refine zg_aload_n (pc := 36) dX9_torqueIn_36 rfl rfl ?_
    refine zg_getR (pc := 37) dX9_torqueIn_37 lf_X9_9 kR_0 (by decide) rfl ?_
    refine zg_iload_n (pc := 40) dX9_torqueIn_40 rfl rfl ?_
    obtain ⟨hb, H⟩ := H
    refine zg_iald (pc := 41) dX9_torqueIn_41 kR_1 (by decide) hb ?_
    refine zg_imul (pc := 42) dX9_torqueIn_42 ?_
    refine zg_istore (pc := 43) dX9_torqueIn_43 (by decide) (L' := [some (.ref 0), some (.int l1), some (.int l2), some (.int (l2 + (h.1 5 (Int32.toNatClampNeg l1)))), some (.int ((l2 + (h.1 5 (Int32.toNatClampNeg l1))) * (h.1 1 (Int32.toNatClampNeg l1)))), none]) rfl ?_
    refine zg_iconst (pc := 45) dX9_torqueIn_45 (v := 0) (by decide) ?_
    refine zg_istore (pc := 46) dX9_torqueIn_46 (by decide) (L' := [some (.ref 0), some (.int l1), some (.int l2), some (.int (l2 + (h.1 5 (Int32.toNatClampNeg l1)))), some (.int ((l2 + (h.1 5 (Int32.toNatClampNeg l1))) * (h.1 1 (Int32.toNatClampNeg l1)))), some (.int 0)]) rfl ?_
    refine zg_weak (L' := [some (.ref 0), some (.int l1), none, some (.int (l2 + (h.1 5 (Int32.toNatClampNeg l1)))), some (.int ((l2 + (h.1 5 (Int32.toNatClampNeg l1))) * (h.1 1 (Int32.toNatClampNeg l1)))), some (.int 0)]) ⟨rfl, ⟨rfl, ⟨rfl, ⟨rfl, ⟨rfl, trivial⟩⟩⟩⟩⟩ ?_
    exact sd_X9_torqueIn_l48 hrc H
  · replace H := H.2 hc
    refine zg_aload_n (pc := 18) dX9_torqueIn_18 rfl rfl ?_
    refine zg_getR (pc := 19) dX9_torqueIn_19 lf_X9_18 kR_0 (by decide) rfl ?_
    refine zg_iload_n (pc := 22) dX9_torqueIn_22 rfl rfl ?_
    obtain ⟨hb, H⟩ := H
    refine zg_iald (pc := 23) dX9_torqueIn_23 kR_3 (by decide) hb ?_
    refine zg_aload_n (pc := 24) dX9_torqueIn_24 rfl rfl ?_
    refine zg_getR (pc := 25) dX9_torqueIn_25 lf_X9_21 kR_0 (by decide) rfl ?_
    refine zg_iload_n (pc := 28) dX9_torqueIn_28 rfl rfl ?_
    obtain ⟨hb, H⟩ := H
    refine zg_iald (pc := 29) dX9_torqueIn_29 kR_4 (by decide) hb ?_
    refine zg_iload_n (pc := 30) dX9_torqueIn_30 rfl rfl ?_
    refine zg_callSi (st := []) (pc := 31) dX9_torqueIn_31 (As := [.int (h.1 3 (Int32.toNatClampNeg l1)), .int (h.1 4 (Int32.toNatClampNeg l1)), .int (l2 + (h.1 5 (Int32.toNatClampNeg l1)))]) lk_X9_158 rfl (Nat.le_of_ble_eq_true rfl) (Nat.le_of_ble_eq_true rfl) (sd_X9_pull (d + (n + 1)) H) (fun r4 h3 H => ?_)
    exact zg_iret (pc := 34) dX9_torqueIn_34 rfl ⟨_, rfl, H⟩
theorem sd_X9_torqueIn : ∀ (n d : Nat) {l1 : Int32} {l2 : Int32} {h : zz_Hp} {Q : Int32 → zz_Hp → Prop} (_ : w_X9_torqueIn n l1 l2 h Q), zz_G zKR zNR (d + n + 1) mX9_torqueIn (qI Q) 0 (zz_L0 6 [.ref 0, .int l1, .int l2]) [] h := by
  intro n
  induction n with
  | zero => intro d l1 l2 h Q H; exact H.elim
  | succ n ih => intro d l1 l2 h Q H; exact sd_X9_torqueIn_b (fun l1 l2 h Q H => ih d H) H
