set_option maxRecDepth 100000 in
theorem sd_X4_inBestOrder_j50 {d : Nat} {ag8 : Int32 × Int32 × Int32 × zz_Hp → Prop} {Q : Int32 → zz_Hp → Prop} {l1 : Int32} {l2 : Int32} {l3 : Int32} {l4 : Int32}  {h : zz_Hp} (hag8 : ∀ (l2 : Int32) (l3 : Int32) (l4 : Int32) (h : zz_Hp), ag8 (l2, l3, l4, h) → zz_G zKC zNC (d + 1) mX4_inBestOrder (qI Q) 8 [some (.ref 37), some (.int l1), some (.int l2), some (.int l3), some (.int l4)] [] h) (H : w_X4_inBestOrder_j50 ag8 Q l1 l2 l3 l4 h) : zz_G zKC zNC (d + 1) mX4_inBestOrder (qI Q) 50 [some (.ref 37), some (.int l1), some (.int l2), some (.int l3), some (.int l4)] [] h := by
  unfold w_X4_inBestOrder_j50 at H
  refine zg_iload_n (pc := 50) dX4_inBestOrder_50 rfl rfl ?_
  refine zg_iconst (pc := 51) dX4_inBestOrder_51 (v := 1) (by decide) ?_
  refine zg_iload_n (pc := 52) dX4_inBestOrder_52 rfl rfl ?_
  refine zg_ishl (pc := 53) dX4_inBestOrder_53 ?_
  refine zg_ior (pc := 54) dX4_inBestOrder_54 ?_
  refine zg_istore_n (pc := 55) dX4_inBestOrder_55 rfl (by decide) (L' := [some (.ref 37), some (.int l1), some (.int (l2 ||| (1 <<< (l3 &&& 31)))), some (.int l3), some (.int l4)]) rfl ?_
  refine zg_iinc (pc := 56) dX4_inBestOrder_56 rfl (v := l4 + 1) rfl (by decide) (L' := [some (.ref 37), some (.int l1), some (.int (l2 ||| (1 <<< (l3 &&& 31)))), some (.int l3), some (.int (l4 + 1))]) rfl ?_
  refine zg_goto (pc := 59) dX4_inBestOrder_59 (tgt := 8) (by decide) ?_
  exact hag8 (l2 ||| (1 <<< (l3 &&& 31))) l3 (l4 + 1) _ H
set_option maxRecDepth 100000 in
theorem sd_X4_inBestOrder_l25 {d : Nat} {ag8 : Int32 × Int32 × Int32 × zz_Hp → Prop} {Q : Int32 → zz_Hp → Prop} {l1 : Int32} {l2 : Int32} {l4 : Int32} {l3 : Int32} {h : zz_Hp} (hag8 : ∀ (l2 : Int32) (l3 : Int32) (l4 : Int32) (h : zz_Hp), ag8 (l2, l3, l4, h) → zz_G zKC zNC (d + 1) mX4_inBestOrder (qI Q) 8 [some (.ref 37), some (.int l1), some (.int l2), some (.int l3), some (.int l4)] [] h) (H : lp (fun s ag => w_X4_inBestOrder_l25 ag8 ag Q l1 l2 l4 s.1 s.2) (l3, h)) : zz_G zKC zNC (d + 1) mX4_inBestOrder (qI Q) 25 [some (.ref 37), some (.int l1), some (.int l2), some (.int l3), some (.int l4)] [] h := by
  refine lp_sound (G := fun (s : Int32 × zz_Hp) => zz_G zKC zNC (d + 1) mX4_inBestOrder (qI Q) 25 [some (.ref 37), some (.int l1), some (.int l2), some (.int s.1), some (.int l4)] [] s.2) ?_ H
  clear H
  intro s ag25 hag25 H
  obtain ⟨l3, h⟩ := s
  replace hag25 : ∀ (l3 : Int32) (h : zz_Hp), ag25 (l3, h) → zz_G zKC zNC (d + 1) mX4_inBestOrder (qI Q) 25 [some (.ref 37), some (.int l1), some (.int l2), some (.int l3), some (.int l4)] [] h := fun l3 h H => hag25 (l3, h) H
  replace H : w_X4_inBestOrder_l25 ag8 ag25 Q l1 l2 l4 l3 h := H
  show zz_G zKC zNC (d + 1) mX4_inBestOrder (qI Q) 25 [some (.ref 37), some (.int l1), some (.int l2), some (.int l3), some (.int l4)] [] h
  unfold w_X4_inBestOrder_l25 at H
  refine zg_iload_n (pc := 25) dX4_inBestOrder_25 rfl rfl ?_
  refine zg_iconst (pc := 26) dX4_inBestOrder_26 (v := 1) (by decide) ?_
  refine zg_iadd (pc := 27) dX4_inBestOrder_27 ?_
  refine zg_aload_n (pc := 28) dX4_inBestOrder_28 rfl rfl ?_
  refine zg_getI (pc := 29) dX4_inBestOrder_29 lf_X4_18 kC_37 (by decide) rfl ?_
  refine zg_icmp_ge (pc := 32) dX4_inBestOrder_32 (tgt := 50) (by decide) (fun hc => ?_) (fun hc => ?_)
  · replace H := H.1 hc
    exact sd_X4_inBestOrder_j50 hag8 H
  · replace H := H.2 hc
    refine zg_aload_n (pc := 35) dX4_inBestOrder_35 rfl rfl ?_
    refine zg_iload_n (pc := 36) dX4_inBestOrder_36 rfl rfl ?_
    refine zg_iload_n (pc := 37) dX4_inBestOrder_37 rfl rfl ?_
    refine zg_callVi (st := []) (pc := 38) dX4_inBestOrder_38 (As := [.int l2, .int l3]) lk_X4_42 kC_37 (by decide) rfl (Nat.le_of_ble_eq_true rfl) (Nat.le_of_ble_eq_true rfl) (sd_X4_isBest d H) (fun r2 h1 H => ?_)
    refine zg_if_ne (pc := 41) dX4_inBestOrder_41 (tgt := 50) (by decide) (fun hc => ?_) (fun hc => ?_)
    · replace H := H.1 hc
      exact sd_X4_inBestOrder_j50 hag8 H
    · replace H := H.2 hc
      refine zg_iinc (pc := 44) dX4_inBestOrder_44 rfl (v := l3 + 1) rfl (by decide) (L' := [some (.ref 37), some (.int l1), some (.int l2), some (.int (l3 + 1)), some (.int l4)]) rfl ?_
      refine zg_goto (pc := 47) dX4_inBestOrder_47 (tgt := 25) (by decide) ?_
      exact hag25 (l3 + 1) _ H
set_option maxRecDepth 100000 in
theorem sd_X4_inBestOrder_l8 {d : Nat} {Q : Int32 → zz_Hp → Prop} {l1 : Int32} {l2 : Int32} {l3 : Int32} {l4 : Int32} {h : zz_Hp}  (H : lp (fun s ag => w_X4_inBestOrder_l8 ag Q l1 s.1 s.2.1 s.2.2.1 s.2.2.2) (l2, l3, l4, h)) : zz_G zKC zNC (d + 1) mX4_inBestOrder (qI Q) 8 [some (.ref 37), some (.int l1), some (.int l2), some (.int l3), some (.int l4)] [] h := by
  refine lp_sound (G := fun (s : Int32 × Int32 × Int32 × zz_Hp) => zz_G zKC zNC (d + 1) mX4_inBestOrder (qI Q) 8 [some (.ref 37), some (.int l1), some (.int s.1), some (.int s.2.1), some (.int s.2.2.1)] [] s.2.2.2) ?_ H
  clear H
  intro s ag8 hag8 H
  obtain ⟨l2, l3, l4, h⟩ := s
  replace hag8 : ∀ (l2 : Int32) (l3 : Int32) (l4 : Int32) (h : zz_Hp), ag8 (l2, l3, l4, h) → zz_G zKC zNC (d + 1) mX4_inBestOrder (qI Q) 8 [some (.ref 37), some (.int l1), some (.int l2), some (.int l3), some (.int l4)] [] h := fun l2 l3 l4 h H => hag8 (l2, l3, l4, h) H
  replace H : w_X4_inBestOrder_l8 ag8 Q l1 l2 l3 l4 h := H
  show zz_G zKC zNC (d + 1) mX4_inBestOrder (qI Q) 8 [some (.ref 37), some (.int l1), some (.int l2), some (.int l3), some (.int l4)] [] h
  unfold w_X4_inBestOrder_l8 at H
  refine zg_iload (pc := 8) dX4_inBestOrder_8 rfl ?_
  refine zg_iload_n (pc := 10) dX4_inBestOrder_10 rfl rfl ?_
  refine zg_icmp_gt (pc := 11) dX4_inBestOrder_11 (tgt := 62) (by decide) (fun hc => ?_) (fun hc => ?_)
  · replace H := H.1 hc
    refine zg_iload_n (pc := 62) dX4_inBestOrder_62 rfl rfl ?_
    exact zg_iret (pc := 63) dX4_inBestOrder_63 rfl ⟨_, rfl, H⟩
  · replace H := H.2 hc
    refine zg_iload (pc := 14) dX4_inBestOrder_14 rfl ?_
    refine zg_aload_n (pc := 16) dX4_inBestOrder_16 rfl rfl ?_
    refine zg_getI (pc := 17) dX4_inBestOrder_17 lf_X4_18 kC_37 (by decide) rfl ?_
    refine zg_icmp_ge (pc := 20) dX4_inBestOrder_20 (tgt := 62) (by decide) (fun hc => ?_) (fun hc => ?_)
    · replace H := H.1 hc
      refine zg_iload_n (pc := 62) dX4_inBestOrder_62 rfl rfl ?_
      exact zg_iret (pc := 63) dX4_inBestOrder_63 rfl ⟨_, rfl, H⟩
    · replace H := H.2 hc
      refine zg_iconst (pc := 23) dX4_inBestOrder_23 (v := 0) (by decide) ?_
      refine zg_istore_n (pc := 24) dX4_inBestOrder_24 rfl (by decide) (L' := [some (.ref 37), some (.int l1), some (.int l2), some (.int 0), some (.int l4)]) rfl ?_
      exact sd_X4_inBestOrder_l25 hag8 H
set_option maxRecDepth 100000 in
theorem sd_X4_inBestOrder (d : Nat) {l1 : Int32} {h : zz_Hp} {Q : Int32 → zz_Hp → Prop} (H : w_X4_inBestOrder l1 h Q) : zz_G zKC zNC (d + 1) mX4_inBestOrder (qI Q) 0 (zz_L0 5 [.ref 37, .int l1]) [] h := by
  show zz_G zKC zNC (d + 1) mX4_inBestOrder (qI Q) 0 [some (.ref 37), some (.int l1), none, none, none] [] h
  unfold w_X4_inBestOrder at H
  refine zg_iconst (pc := 0) dX4_inBestOrder_0 (v := 0) (by decide) ?_
  refine zg_istore_n (pc := 1) dX4_inBestOrder_1 rfl (by decide) (L' := [some (.ref 37), some (.int l1), some (.int 0), none, none]) rfl ?_
  refine zg_bipush (pc := 2) dX4_inBestOrder_2 (v := (-2)) (by decide) ?_
  refine zg_istore_n (pc := 4) dX4_inBestOrder_4 rfl (by decide) (L' := [some (.ref 37), some (.int l1), some (.int 0), some (.int ((-2))), none]) rfl ?_
  refine zg_iconst (pc := 5) dX4_inBestOrder_5 (v := 0) (by decide) ?_
  refine zg_istore (pc := 6) dX4_inBestOrder_6 (by decide) (L' := [some (.ref 37), some (.int l1), some (.int 0), some (.int ((-2))), some (.int 0)]) rfl ?_
  exact sd_X4_inBestOrder_l8  H
set_option maxRecDepth 100000 in
theorem sd_X4_leastWorst (d : Nat)  {h : zz_Hp} {Q : Int32 → zz_Hp → Prop} (H : w_X4_leastWorst  h Q) : zz_G zKC zNC (d + 0) mX4_leastWorst (qI Q) 0 (zz_L0 1 [.ref 37]) [] h := by
  show zz_G zKC zNC (d + 0) mX4_leastWorst (qI Q) 0 [some (.ref 37)] [] h
  unfold w_X4_leastWorst at H
  refine zg_aload_n (pc := 0) dX4_leastWorst_0 rfl rfl ?_
  refine zg_getR (pc := 1) dX4_leastWorst_1 lf_X4_15 kC_37 (by decide) rfl ?_
  refine zg_iconst (pc := 4) dX4_leastWorst_4 (v := 0) (by decide) ?_
  obtain ⟨hb, H⟩ := H
  refine zg_iald (pc := 5) dX4_leastWorst_5 kC_39 (by decide) hb ?_
  exact zg_iret (pc := 6) dX4_leastWorst_6 rfl ⟨_, rfl, H⟩
set_option maxRecDepth 100000 in
theorem sd_X8_order (d : Nat) {l1 : Int32} {h : zz_Hp} {Q : Int32 → zz_Hp → Prop} (H : w_X8_order l1 h Q) : zz_G zKC zNC (d + 6) mX8_order (qI Q) 0 (zz_L0 2 [.ref 0, .int l1]) [] h := by
  show zz_G zKC zNC (d + 6) mX8_order (qI Q) 0 [some (.ref 0), some (.int l1)] [] h
  unfold w_X8_order at H
  refine zg_iload_n (pc := 0) dX8_order_0 rfl rfl ?_
  refine zg_iconst (pc := 1) dX8_order_1 (v := (-1)) (by decide) ?_
  refine zg_aload_n (pc := 2) dX8_order_2 rfl rfl ?_
  refine zg_getR (pc := 3) dX8_order_3 lf_X8_12 kC_0 (by decide) rfl ?_
  refine zg_getR (pc := 6) dX8_order_6 lf_X8_221 kC_1 (by decide) rfl ?_
  refine zg_getI (pc := 9) dX8_order_9 lf_X8_224 kC_5 (by decide) rfl ?_
  refine zg_iconst (pc := 12) dX8_order_12 (v := 1) (by decide) ?_
  refine zg_isub (pc := 13) dX8_order_13 ?_
  refine zg_callSi (st := []) (pc := 14) dX8_order_14 (As := [.int l1, .int ((-1)), .int ((h.1 5 0) - 1)]) lk_X8_121 rfl (Nat.le_of_ble_eq_true rfl) (Nat.le_of_ble_eq_true rfl) (sd_X8_inRange (d + 5) H) (fun r2 h1 H => ?_)
  refine zg_if_ne (pc := 17) dX8_order_17 (tgt := 22) (by decide) (fun hc => ?_) (fun hc => ?_)
  · replace H := H.1 hc
    refine zg_aload_n (pc := 22) dX8_order_22 rfl rfl ?_
    refine zg_callVv (st := []) (pc := 23) dX8_order_23 (As := []) lk_X8_225 kC_0 (by decide) rfl (Nat.le_of_ble_eq_true rfl) (Nat.le_of_ble_eq_true rfl) (sd_X8_weighLayers d H) (fun h3 H => ?_)
    refine zg_aload_n (pc := 26) dX8_order_26 rfl rfl ?_
    refine zg_getR (pc := 27) dX8_order_27 lf_X8_68 kC_0 (by decide) rfl ?_
    refine zg_callVv (st := []) (pc := 30) dX8_order_30 (As := []) lk_X8_235 kC_37 (by decide) rfl (Nat.le_of_ble_eq_true rfl) (Nat.le_of_ble_eq_true rfl) (sd_X4_findReaches (d + 4) H) (fun h5 H => ?_)
    refine zg_iload_n (pc := 33) dX8_order_33 rfl rfl ?_
    refine zg_if_ge (pc := 34) dX8_order_34 (tgt := 47) (by decide) (fun hc => ?_) (fun hc => ?_)
    · replace H := H.1 hc
      refine zg_aload_n (pc := 47) dX8_order_47 rfl rfl ?_
      refine zg_getR (pc := 48) dX8_order_48 lf_X8_68 kC_0 (by decide) rfl ?_
      refine zg_iload_n (pc := 51) dX8_order_51 rfl rfl ?_
      refine zg_callVi (st := []) (pc := 52) dX8_order_52 (As := [.int l1]) lk_X8_241 kC_37 (by decide) rfl (Nat.le_of_ble_eq_true rfl) (Nat.le_of_ble_eq_true rfl) (sd_X4_inBestOrder (d + 4) H) (fun r8 h7 H => ?_)
      exact zg_iret (pc := 55) dX8_order_55 rfl ⟨_, rfl, H⟩
    · replace H := H.2 hc
      refine zg_aload_n (pc := 37) dX8_order_37 rfl rfl ?_
      refine zg_getR (pc := 38) dX8_order_38 lf_X8_68 kC_0 (by decide) rfl ?_
      refine zg_callVi (st := []) (pc := 41) dX8_order_41 (As := []) lk_X8_238 kC_37 (by decide) rfl (Nat.le_of_ble_eq_true rfl) (Nat.le_of_ble_eq_true rfl) (sd_X4_leastWorst (d + 5) H) (fun r10 h9 H => ?_)
      refine zg_goto (pc := 44) dX8_order_44 (tgt := 55) (by decide) ?_
      exact zg_iret (pc := 55) dX8_order_55 rfl ⟨_, rfl, H⟩
  · replace H := H.2 hc
    refine zg_iconst (pc := 20) dX8_order_20 (v := (-1)) (by decide) ?_
    exact zg_iret (pc := 21) dX8_order_21 rfl ⟨_, rfl, H⟩
set_option maxRecDepth 100000 in
theorem sd_X4_bestToTurn_l10 {d : Nat} {Q : Int32 → zz_Hp → Prop}  {l1 : Int32} {l2 : Int32} {l3 : Int32} {h : zz_Hp}  (H : lp (fun s ag => w_X4_bestToTurn_l10 ag Q  s.1 s.2.1 s.2.2.1 s.2.2.2) (l1, l2, l3, h)) : zz_G zKC zNC (d + 2) mX4_bestToTurn (qI Q) 10 [some (.ref 37), some (.int l1), some (.int l2), some (.int l3), none] [] h := by
  refine lp_sound (G := fun (s : Int32 × Int32 × Int32 × zz_Hp) => zz_G zKC zNC (d + 2) mX4_bestToTurn (qI Q) 10 [some (.ref 37), some (.int s.1), some (.int s.2.1), some (.int s.2.2.1), none] [] s.2.2.2) ?_ H
  clear H
  intro s ag10 hag10 H
  obtain ⟨l1, l2, l3, h⟩ := s
  replace hag10 : ∀ (l1 : Int32) (l2 : Int32) (l3 : Int32) (h : zz_Hp), ag10 (l1, l2, l3, h) → zz_G zKC zNC (d + 2) mX4_bestToTurn (qI Q) 10 [some (.ref 37), some (.int l1), some (.int l2), some (.int l3), none] [] h := fun l1 l2 l3 h H => hag10 (l1, l2, l3, h) H
  replace H : w_X4_bestToTurn_l10 ag10 Q  l1 l2 l3 h := H
  show zz_G zKC zNC (d + 2) mX4_bestToTurn (qI Q) 10 [some (.ref 37), some (.int l1), some (.int l2), some (.int l3), none] [] h
  unfold w_X4_bestToTurn_l10 at H
  refine zg_iload_n (pc := 10) dX4_bestToTurn_10 rfl rfl ?_
  refine zg_aload_n (pc := 11) dX4_bestToTurn_11 rfl rfl ?_
  refine zg_getI (pc := 12) dX4_bestToTurn_12 lf_X4_18 kC_37 (by decide) rfl ?_
  refine zg_icmp_ge (pc := 15) dX4_bestToTurn_15 (tgt := 67) (by decide) (fun hc => ?_) (fun hc => ?_)
  · replace H := H.1 hc
    refine zg_iload_n (pc := 67) dX4_bestToTurn_67 rfl rfl ?_
    exact zg_iret (pc := 68) dX4_bestToTurn_68 rfl ⟨_, rfl, H⟩
  · replace H := H.2 hc
    refine zg_aload_n (pc := 18) dX4_bestToTurn_18 rfl rfl ?_
    refine zg_getR (pc := 19) dX4_bestToTurn_19 lf_X4_9 kC_37 (by decide) rfl ?_
    refine zg_iload_n (pc := 22) dX4_bestToTurn_22 rfl rfl ?_
    refine zg_aload_n (pc := 23) dX4_bestToTurn_23 rfl rfl ?_
    refine zg_getR (pc := 24) dX4_bestToTurn_24 lf_X4_9 kC_37 (by decide) rfl ?_
    refine zg_iload_n (pc := 27) dX4_bestToTurn_27 rfl rfl ?_
    obtain ⟨hb, H⟩ := H
    refine zg_iald (pc := 28) dX4_bestToTurn_28 kC_38 (by decide) hb ?_
    refine zg_ineg (pc := 29) dX4_bestToTurn_29 ?_
    obtain ⟨hb, H⟩ := H
    refine zg_iast (pc := 30) dX4_bestToTurn_30 kC_38 (by decide) hb ?_
    generalize eh3 : zz_uI h 38 (Int32.toNatClampNeg l3) (-(h.1 38 (Int32.toNatClampNeg l3))) = h3
    replace H := H h3 eh3.symm
    refine zg_aload_n (pc := 31) dX4_bestToTurn_31 rfl rfl ?_
    refine zg_callVi (st := []) (pc := 32) dX4_bestToTurn_32 (As := []) lk_X4_32 kC_37 (by decide) rfl (Nat.le_of_ble_eq_true rfl) (Nat.le_of_ble_eq_true rfl) (sd_X4_worstBehind d H) (fun r5 h4 H => ?_)
    refine zg_istore (pc := 35) dX4_bestToTurn_35 (by decide) (L' := [some (.ref 37), some (.int l1), some (.int l2), some (.int l3), some (.int r5)]) rfl ?_
    refine zg_aload_n (pc := 37) dX4_bestToTurn_37 rfl rfl ?_
    refine zg_getR (pc := 38) dX4_bestToTurn_38 lf_X4_9 kC_37 (by decide) rfl ?_
    refine zg_iload_n (pc := 41) dX4_bestToTurn_41 rfl rfl ?_
    refine zg_aload_n (pc := 42) dX4_bestToTurn_42 rfl rfl ?_
    refine zg_getR (pc := 43) dX4_bestToTurn_43 lf_X4_9 kC_37 (by decide) rfl ?_
    refine zg_iload_n (pc := 46) dX4_bestToTurn_46 rfl rfl ?_
    obtain ⟨hb, H⟩ := H
    refine zg_iald (pc := 47) dX4_bestToTurn_47 kC_38 (by decide) hb ?_
    refine zg_ineg (pc := 48) dX4_bestToTurn_48 ?_
    obtain ⟨hb, H⟩ := H
    refine zg_iast (pc := 49) dX4_bestToTurn_49 kC_38 (by decide) hb ?_
    generalize eh6 : zz_uI h4 38 (Int32.toNatClampNeg l3) (-(h4.1 38 (Int32.toNatClampNeg l3))) = h6
    replace H := H h6 eh6.symm
    refine zg_iload (pc := 50) dX4_bestToTurn_50 rfl ?_
    refine zg_iload_n (pc := 52) dX4_bestToTurn_52 rfl rfl ?_
    refine zg_icmp_ge (pc := 53) dX4_bestToTurn_53 (tgt := 61) (by decide) (fun hc => ?_) (fun hc => ?_)
    · replace H := H.1 hc
      refine zg_iinc (pc := 61) dX4_bestToTurn_61 rfl (v := l3 + 1) rfl (by decide) (L' := [some (.ref 37), some (.int l1), some (.int l2), some (.int (l3 + 1)), some (.int r5)]) rfl ?_
      refine zg_goto (pc := 64) dX4_bestToTurn_64 (tgt := 10) (by decide) ?_
      refine zg_weak (L' := [some (.ref 37), some (.int l1), some (.int l2), some (.int (l3 + 1)), none]) ⟨rfl, ⟨rfl, ⟨rfl, ⟨rfl, trivial⟩⟩⟩⟩ ?_
      exact hag10 l1 l2 (l3 + 1) _ H
    · replace H := H.2 hc
      refine zg_iload (pc := 56) dX4_bestToTurn_56 rfl ?_
      refine zg_istore_n (pc := 58) dX4_bestToTurn_58 rfl (by decide) (L' := [some (.ref 37), some (.int r5), some (.int l2), some (.int l3), some (.int r5)]) rfl ?_
      refine zg_iload_n (pc := 59) dX4_bestToTurn_59 rfl rfl ?_
      refine zg_istore_n (pc := 60) dX4_bestToTurn_60 rfl (by decide) (L' := [some (.ref 37), some (.int r5), some (.int l3), some (.int l3), some (.int r5)]) rfl ?_
      refine zg_iinc (pc := 61) dX4_bestToTurn_61 rfl (v := l3 + 1) rfl (by decide) (L' := [some (.ref 37), some (.int r5), some (.int l3), some (.int (l3 + 1)), some (.int r5)]) rfl ?_
      refine zg_goto (pc := 64) dX4_bestToTurn_64 (tgt := 10) (by decide) ?_
      refine zg_weak (L' := [some (.ref 37), some (.int r5), some (.int l3), some (.int (l3 + 1)), none]) ⟨rfl, ⟨rfl, ⟨rfl, ⟨rfl, trivial⟩⟩⟩⟩ ?_
      exact hag10 r5 l3 (l3 + 1) _ H
set_option maxRecDepth 100000 in
theorem sd_X4_bestToTurn (d : Nat)  {h : zz_Hp} {Q : Int32 → zz_Hp → Prop} (H : w_X4_bestToTurn  h Q) : zz_G zKC zNC (d + 2) mX4_bestToTurn (qI Q) 0 (zz_L0 5 [.ref 37]) [] h := by
  show zz_G zKC zNC (d + 2) mX4_bestToTurn (qI Q) 0 [some (.ref 37), none, none, none, none] [] h
  unfold w_X4_bestToTurn at H
  refine zg_aload_n (pc := 0) dX4_bestToTurn_0 rfl rfl ?_
  refine zg_callVi (st := []) (pc := 1) dX4_bestToTurn_1 (As := []) lk_X4_32 kC_37 (by decide) rfl (Nat.le_of_ble_eq_true rfl) (Nat.le_of_ble_eq_true rfl) (sd_X4_worstBehind d H) (fun r2 h1 H => ?_)
  refine zg_istore_n (pc := 4) dX4_bestToTurn_4 rfl (by decide) (L' := [some (.ref 37), some (.int r2), none, none, none]) rfl ?_
  refine zg_bipush (pc := 5) dX4_bestToTurn_5 (v := (-2)) (by decide) ?_
  refine zg_istore_n (pc := 7) dX4_bestToTurn_7 rfl (by decide) (L' := [some (.ref 37), some (.int r2), some (.int ((-2))), none, none]) rfl ?_
  refine zg_iconst (pc := 8) dX4_bestToTurn_8 (v := 0) (by decide) ?_
  refine zg_istore_n (pc := 9) dX4_bestToTurn_9 rfl (by decide) (L' := [some (.ref 37), some (.int r2), some (.int ((-2))), some (.int 0), none]) rfl ?_
  exact sd_X4_bestToTurn_l10  H
set_option maxRecDepth 100000 in
theorem sd_X8_turned (d : Nat)  {h : zz_Hp} {Q : Int32 → zz_Hp → Prop} (H : w_X8_turned  h Q) : zz_G zKC zNC (d + 6) mX8_turned (qI Q) 0 (zz_L0 1 [.ref 0]) [] h := by
  show zz_G zKC zNC (d + 6) mX8_turned (qI Q) 0 [some (.ref 0)] [] h
  unfold w_X8_turned at H
  refine zg_aload_n (pc := 0) dX8_turned_0 rfl rfl ?_
  refine zg_callVv (st := []) (pc := 1) dX8_turned_1 (As := []) lk_X8_225 kC_0 (by decide) rfl (Nat.le_of_ble_eq_true rfl) (Nat.le_of_ble_eq_true rfl) (sd_X8_weighLayers d H) (fun h1 H => ?_)
  refine zg_aload_n (pc := 4) dX8_turned_4 rfl rfl ?_
  refine zg_getR (pc := 5) dX8_turned_5 lf_X8_68 kC_0 (by decide) rfl ?_
  refine zg_callVi (st := []) (pc := 8) dX8_turned_8 (As := []) lk_X8_244 kC_37 (by decide) rfl (Nat.le_of_ble_eq_true rfl) (Nat.le_of_ble_eq_true rfl) (sd_X4_bestToTurn (d + 3) H) (fun r4 h3 H => ?_)
  exact zg_iret (pc := 11) dX8_turned_11 rfl ⟨_, rfl, H⟩
set_option maxRecDepth 100000 in
theorem sd_X3_has (d : Nat) {l1 : Int32} {h : zz_Hp} {Q : Int32 → zz_Hp → Prop} (H : w_X3_has l1 h Q) : zz_G zKC zNC (d + 0) mX3_has (qI Q) 0 (zz_L0 2 [.ref 21, .int l1]) [] h := by
  show zz_G zKC zNC (d + 0) mX3_has (qI Q) 0 [some (.ref 21), some (.int l1)] [] h
  unfold w_X3_has at H
  refine zg_iload_n (pc := 0) dX3_has_0 rfl rfl ?_
  refine zg_if_lt (pc := 1) dX3_has_1 (tgt := 13) (by decide) (fun hc => ?_) (fun hc => ?_)
  · replace H := H.1 hc
    refine zg_iconst (pc := 13) dX3_has_13 (v := 0) (by decide) ?_
    exact zg_zret (pc := 14) dX3_has_14 (Or.inl rfl) rfl ⟨_, rfl, H⟩
  · replace H := H.2 hc
    refine zg_iload_n (pc := 4) dX3_has_4 rfl rfl ?_
    refine zg_iconst (pc := 5) dX3_has_5 (v := 3) (by decide) ?_
    refine zg_icmp_ge (pc := 6) dX3_has_6 (tgt := 13) (by decide) (fun hc => ?_) (fun hc => ?_)
    · replace H := H.1 hc
      refine zg_iconst (pc := 13) dX3_has_13 (v := 0) (by decide) ?_
      exact zg_zret (pc := 14) dX3_has_14 (Or.inl rfl) rfl ⟨_, rfl, H⟩
    · replace H := H.2 hc
      refine zg_iconst (pc := 9) dX3_has_9 (v := 1) (by decide) ?_
      refine zg_goto (pc := 10) dX3_has_10 (tgt := 14) (by decide) ?_
      exact zg_zret (pc := 14) dX3_has_14 (Or.inr rfl) rfl ⟨_, rfl, H⟩
set_option maxRecDepth 100000 in
theorem sd_X3_isMissing (d : Nat) {l1 : Int32} {h : zz_Hp} {Q : Int32 → zz_Hp → Prop} (H : w_X3_isMissing l1 h Q) : zz_G zKC zNC (d + 0) mX3_isMissing (qI Q) 0 (zz_L0 2 [.ref 21, .int l1]) [] h := by
  show zz_G zKC zNC (d + 0) mX3_isMissing (qI Q) 0 [some (.ref 21), some (.int l1)] [] h
  unfold w_X3_isMissing at H
  refine zg_aload_n (pc := 0) dX3_isMissing_0 rfl rfl ?_
  refine zg_getR (pc := 1) dX3_isMissing_1 lf_X3_9 kC_21 (by decide) rfl ?_
  refine zg_iload_n (pc := 4) dX3_isMissing_4 rfl rfl ?_
  obtain ⟨hb, H⟩ := H
  refine zg_iald (pc := 5) dX3_isMissing_5 kC_22 (by decide) hb ?_
  refine zg_if_ge (pc := 6) dX3_isMissing_6 (tgt := 13) (by decide) (fun hc => ?_) (fun hc => ?_)
  · replace H := H.1 hc
    refine zg_iconst (pc := 13) dX3_isMissing_13 (v := 0) (by decide) ?_
    exact zg_zret (pc := 14) dX3_isMissing_14 (Or.inl rfl) rfl ⟨_, rfl, H⟩
  · replace H := H.2 hc
    refine zg_iconst (pc := 9) dX3_isMissing_9 (v := 1) (by decide) ?_
    refine zg_goto (pc := 10) dX3_isMissing_10 (tgt := 14) (by decide) ?_
    exact zg_zret (pc := 14) dX3_isMissing_14 (Or.inr rfl) rfl ⟨_, rfl, H⟩
set_option maxRecDepth 100000 in
theorem sd_X3_placeAt (d : Nat) {l1 : Int32} {l2 : Int32} {h : zz_Hp} {Q : Int32 → zz_Hp → Prop} (H : w_X3_placeAt l1 l2 h Q) : zz_G zKC zNC (d + 0) mX3_placeAt (qI Q) 0 (zz_L0 3 [.ref 21, .int l1, .int l2]) [] h := by
  show zz_G zKC zNC (d + 0) mX3_placeAt (qI Q) 0 [some (.ref 21), some (.int l1), some (.int l2)] [] h
  unfold w_X3_placeAt at H
  refine zg_aload_n (pc := 0) dX3_placeAt_0 rfl rfl ?_
  refine zg_getR (pc := 1) dX3_placeAt_1 lf_X3_15 kC_21 (by decide) rfl ?_
  refine zg_iload_n (pc := 4) dX3_placeAt_4 rfl rfl ?_
  refine zg_bipush (pc := 5) dX3_placeAt_5 (v := 40) (by decide) ?_
  refine zg_imul (pc := 7) dX3_placeAt_7 ?_
  refine zg_iload_n (pc := 8) dX3_placeAt_8 rfl rfl ?_
  refine zg_iadd (pc := 9) dX3_placeAt_9 ?_
  obtain ⟨hb, H⟩ := H
  refine zg_iald (pc := 10) dX3_placeAt_10 kC_23 (by decide) hb ?_
  exact zg_iret (pc := 11) dX3_placeAt_11 rfl ⟨_, rfl, H⟩
set_option maxRecDepth 100000 in
theorem sd_X3_sizeOf (d : Nat) {l1 : Int32} {h : zz_Hp} {Q : Int32 → zz_Hp → Prop} (H : w_X3_sizeOf l1 h Q) : zz_G zKC zNC (d + 0) mX3_sizeOf (qI Q) 0 (zz_L0 2 [.ref 21, .int l1]) [] h := by
  show zz_G zKC zNC (d + 0) mX3_sizeOf (qI Q) 0 [some (.ref 21), some (.int l1)] [] h
  unfold w_X3_sizeOf at H
  refine zg_aload_n (pc := 0) dX3_sizeOf_0 rfl rfl ?_
  refine zg_getR (pc := 1) dX3_sizeOf_1 lf_X3_9 kC_21 (by decide) rfl ?_
  refine zg_iload_n (pc := 4) dX3_sizeOf_4 rfl rfl ?_
  obtain ⟨hb, H⟩ := H
  refine zg_iald (pc := 5) dX3_sizeOf_5 kC_22 (by decide) hb ?_
  exact zg_iret (pc := 6) dX3_sizeOf_6 rfl ⟨_, rfl, H⟩
set_option maxRecDepth 100000 in
theorem sd_X6_pullsOf_l6 {d : Nat} {Q : Int32 → zz_Hp → Prop} {l1 : Int32} {l2 : Int32} {l3 : Int32} {l4 : Int32} {l5 : Int32} {l6 : Int32} {h : zz_Hp}  (H : lp (fun s ag => w_X6_pullsOf_l6 ag Q l1 l2 l3 l4 s.1 s.2.1 s.2.2) (l5, l6, h)) : zz_G zKC zNC (d + 2) mX6_pullsOf (qI Q) 6 [some (.ref 27), some (.int l1), some (.int l2), some (.int l3), some (.int l4), some (.int l5), some (.int l6)] [] h := by
  refine lp_sound (G := fun (s : Int32 × Int32 × zz_Hp) => zz_G zKC zNC (d + 2) mX6_pullsOf (qI Q) 6 [some (.ref 27), some (.int l1), some (.int l2), some (.int l3), some (.int l4), some (.int s.1), some (.int s.2.1)] [] s.2.2) ?_ H
  clear H
  intro s ag6 hag6 H
  obtain ⟨l5, l6, h⟩ := s
  replace hag6 : ∀ (l5 : Int32) (l6 : Int32) (h : zz_Hp), ag6 (l5, l6, h) → zz_G zKC zNC (d + 2) mX6_pullsOf (qI Q) 6 [some (.ref 27), some (.int l1), some (.int l2), some (.int l3), some (.int l4), some (.int l5), some (.int l6)] [] h := fun l5 l6 h H => hag6 (l5, l6, h) H
  replace H : w_X6_pullsOf_l6 ag6 Q l1 l2 l3 l4 l5 l6 h := H
  show zz_G zKC zNC (d + 2) mX6_pullsOf (qI Q) 6 [some (.ref 27), some (.int l1), some (.int l2), some (.int l3), some (.int l4), some (.int l5), some (.int l6)] [] h
  unfold w_X6_pullsOf_l6 at H
  refine zg_iload (pc := 6) dX6_pullsOf_6 rfl ?_
  refine zg_aload_n (pc := 8) dX6_pullsOf_8 rfl rfl ?_
  refine zg_getI (pc := 9) dX6_pullsOf_9 lf_X6_34 kC_27 (by decide) rfl ?_
  refine zg_icmp_ge (pc := 12) dX6_pullsOf_12 (tgt := 58) (by decide) (fun hc => ?_) (fun hc => ?_)
  · replace H := H.1 hc
    refine zg_iload (pc := 58) dX6_pullsOf_58 rfl ?_
    exact zg_iret (pc := 60) dX6_pullsOf_60 rfl ⟨_, rfl, H⟩
  · replace H := H.2 hc
    refine zg_aload_n (pc := 15) dX6_pullsOf_15 rfl rfl ?_
    refine zg_getR (pc := 16) dX6_pullsOf_16 lf_X6_9 kC_27 (by decide) rfl ?_
    refine zg_iload (pc := 19) dX6_pullsOf_19 rfl ?_
    obtain ⟨hb, H⟩ := H
    refine zg_iald (pc := 21) dX6_pullsOf_21 kC_28 (by decide) hb ?_
    refine zg_iload_n (pc := 22) dX6_pullsOf_22 rfl rfl ?_
    refine zg_icmp_ne (pc := 23) dX6_pullsOf_23 (tgt := 52) (by decide) (fun hc => ?_) (fun hc => ?_)
    · replace H := H.1 hc
      refine zg_iinc (pc := 52) dX6_pullsOf_52 rfl (v := l6 + 1) rfl (by decide) (L' := [some (.ref 27), some (.int l1), some (.int l2), some (.int l3), some (.int l4), some (.int l5), some (.int (l6 + 1))]) rfl ?_
      refine zg_goto (pc := 55) dX6_pullsOf_55 (tgt := 6) (by decide) ?_
      exact hag6 l5 (l6 + 1) _ H
    · replace H := H.2 hc
      refine zg_iload (pc := 26) dX6_pullsOf_26 rfl ?_
      refine zg_aload_n (pc := 28) dX6_pullsOf_28 rfl rfl ?_
      refine zg_getR (pc := 29) dX6_pullsOf_29 lf_X6_18 kC_27 (by decide) rfl ?_
      refine zg_iload (pc := 32) dX6_pullsOf_32 rfl ?_
      obtain ⟨hb, H⟩ := H
      refine zg_iald (pc := 34) dX6_pullsOf_34 kC_30 (by decide) hb ?_
      refine zg_iload_n (pc := 35) dX6_pullsOf_35 rfl rfl ?_
      refine zg_iload_n (pc := 36) dX6_pullsOf_36 rfl rfl ?_
      refine zg_aload_n (pc := 37) dX6_pullsOf_37 rfl rfl ?_
      refine zg_iload (pc := 38) dX6_pullsOf_38 rfl ?_
      refine zg_iload (pc := 40) dX6_pullsOf_40 rfl ?_
      refine zg_callVi (st := [.int l3, .int l2, .int (h.1 30 (Int32.toNatClampNeg l6)), .int l5]) (pc := 42) dX6_pullsOf_42 (As := [.int l6, .int l4]) lk_X6_59 kC_27 (by decide) rfl (Nat.le_of_ble_eq_true rfl) (Nat.le_of_ble_eq_true rfl) (sd_X6_turnBy (d + 1) H) (fun r2 h1 H => ?_)
      refine zg_callNi (st := [.int (h.1 30 (Int32.toNatClampNeg l6)), .int l5]) (pc := 45) dX6_pullsOf_45 (As := [.int l2, .int l3, .int r2]) lk_X6_62 rfl (Nat.le_of_ble_eq_true rfl) (Nat.le_of_ble_eq_true rfl) (sd_X8_fibrePull d H) (fun r4 h3 H => ?_)
      refine zg_imul (pc := 48) dX6_pullsOf_48 ?_
      refine zg_iadd (pc := 49) dX6_pullsOf_49 ?_
      refine zg_istore (pc := 50) dX6_pullsOf_50 (by decide) (L' := [some (.ref 27), some (.int l1), some (.int l2), some (.int l3), some (.int l4), some (.int (l5 + ((h.1 30 (Int32.toNatClampNeg l6)) * r4))), some (.int l6)]) rfl ?_
      refine zg_iinc (pc := 52) dX6_pullsOf_52 rfl (v := l6 + 1) rfl (by decide) (L' := [some (.ref 27), some (.int l1), some (.int l2), some (.int l3), some (.int l4), some (.int (l5 + ((h.1 30 (Int32.toNatClampNeg l6)) * r4))), some (.int (l6 + 1))]) rfl ?_
      refine zg_goto (pc := 55) dX6_pullsOf_55 (tgt := 6) (by decide) ?_
      exact hag6 (l5 + ((h.1 30 (Int32.toNatClampNeg l6)) * r4)) (l6 + 1) _ H
set_option maxRecDepth 100000 in
theorem sd_X6_pullsOf (d : Nat) {l1 : Int32} {l2 : Int32} {l3 : Int32} {l4 : Int32} {h : zz_Hp} {Q : Int32 → zz_Hp → Prop} (H : w_X6_pullsOf l1 l2 l3 l4 h Q) : zz_G zKC zNC (d + 2) mX6_pullsOf (qI Q) 0 (zz_L0 7 [.ref 27, .int l1, .int l2, .int l3, .int l4]) [] h := by
  show zz_G zKC zNC (d + 2) mX6_pullsOf (qI Q) 0 [some (.ref 27), some (.int l1), some (.int l2), some (.int l3), some (.int l4), none, none] [] h
  unfold w_X6_pullsOf at H
  refine zg_iconst (pc := 0) dX6_pullsOf_0 (v := 0) (by decide) ?_
  refine zg_istore (pc := 1) dX6_pullsOf_1 (by decide) (L' := [some (.ref 27), some (.int l1), some (.int l2), some (.int l3), some (.int l4), some (.int 0), none]) rfl ?_
  refine zg_iconst (pc := 3) dX6_pullsOf_3 (v := 0) (by decide) ?_
  refine zg_istore (pc := 4) dX6_pullsOf_4 (by decide) (L' := [some (.ref 27), some (.int l1), some (.int l2), some (.int l3), some (.int l4), some (.int 0), some (.int 0)]) rfl ?_
  exact sd_X6_pullsOf_l6  H
set_option maxRecDepth 100000 in
theorem sd_X8_isFitting_l3 {d : Nat} {Q : Int32 → zz_Hp → Prop} {l1 : Int32} {l2 : Int32} {l3 : Int32} {l4 : Int32} {l5 : Int32} {h : zz_Hp}  (H : lp (fun s ag => w_X8_isFitting_l3 ag Q l1 l2 l3 l4 s.1 s.2) (l5, h)) : zz_G zKC zNC (d + 3) mX8_isFitting (qI Q) 3 [some (.ref 0), some (.int l1), some (.int l2), some (.int l3), some (.int l4), some (.int l5)] [] h := by
  refine lp_sound (G := fun (s : Int32 × zz_Hp) => zz_G zKC zNC (d + 3) mX8_isFitting (qI Q) 3 [some (.ref 0), some (.int l1), some (.int l2), some (.int l3), some (.int l4), some (.int s.1)] [] s.2) ?_ H
  clear H
  intro s ag3 hag3 H
  obtain ⟨l5, h⟩ := s
  replace hag3 : ∀ (l5 : Int32) (h : zz_Hp), ag3 (l5, h) → zz_G zKC zNC (d + 3) mX8_isFitting (qI Q) 3 [some (.ref 0), some (.int l1), some (.int l2), some (.int l3), some (.int l4), some (.int l5)] [] h := fun l5 h H => hag3 (l5, h) H
  replace H : w_X8_isFitting_l3 ag3 Q l1 l2 l3 l4 l5 h := H
  show zz_G zKC zNC (d + 3) mX8_isFitting (qI Q) 3 [some (.ref 0), some (.int l1), some (.int l2), some (.int l3), some (.int l4), some (.int l5)] [] h
  unfold w_X8_isFitting_l3 at H
  refine zg_iload (pc := 3) dX8_isFitting_3 rfl ?_
  refine zg_iload (pc := 5) dX8_isFitting_5 rfl ?_
  refine zg_icmp_ge (pc := 7) dX8_isFitting_7 (tgt := 40) (by decide) (fun hc => ?_) (fun hc => ?_)
  · replace H := H.1 hc
    refine zg_iconst (pc := 40) dX8_isFitting_40 (v := 1) (by decide) ?_
    exact zg_zret (pc := 41) dX8_isFitting_41 (Or.inr rfl) rfl ⟨_, rfl, H⟩
  · replace H := H.2 hc
    refine zg_aload_n (pc := 10) dX8_isFitting_10 rfl rfl ?_
    refine zg_getR (pc := 11) dX8_isFitting_11 lf_X8_54 kC_0 (by decide) rfl ?_
    refine zg_iload_n (pc := 14) dX8_isFitting_14 rfl rfl ?_
    refine zg_iload_n (pc := 15) dX8_isFitting_15 rfl rfl ?_
    refine zg_iload_n (pc := 16) dX8_isFitting_16 rfl rfl ?_
    refine zg_iload (pc := 17) dX8_isFitting_17 rfl ?_
    refine zg_callVi (st := []) (pc := 19) dX8_isFitting_19 (As := [.int l1, .int l2, .int l3, .int l5]) lk_X8_329 kC_27 (by decide) rfl (Nat.le_of_ble_eq_true rfl) (Nat.le_of_ble_eq_true rfl) (sd_X6_pullsOf d H) (fun r2 h1 H => ?_)
    refine zg_aload_n (pc := 22) dX8_isFitting_22 rfl rfl ?_
    refine zg_getR (pc := 23) dX8_isFitting_23 lf_X8_72 kC_0 (by decide) rfl ?_
    refine zg_iload (pc := 26) dX8_isFitting_26 rfl ?_
    obtain ⟨hb, H⟩ := H
    refine zg_iald (pc := 28) dX8_isFitting_28 kC_40 (by decide) hb ?_
    refine zg_icmp_eq (pc := 29) dX8_isFitting_29 (tgt := 34) (by decide) (fun hc => ?_) (fun hc => ?_)
    · replace H := H.1 hc
      refine zg_iinc (pc := 34) dX8_isFitting_34 rfl (v := l5 + 1) rfl (by decide) (L' := [some (.ref 0), some (.int l1), some (.int l2), some (.int l3), some (.int l4), some (.int (l5 + 1))]) rfl ?_
      refine zg_goto (pc := 37) dX8_isFitting_37 (tgt := 3) (by decide) ?_
      exact hag3 (l5 + 1) _ H
    · replace H := H.2 hc
      refine zg_iconst (pc := 32) dX8_isFitting_32 (v := 0) (by decide) ?_
      exact zg_zret (pc := 33) dX8_isFitting_33 (Or.inl rfl) rfl ⟨_, rfl, H⟩
set_option maxRecDepth 100000 in
theorem sd_X8_isFitting (d : Nat) {l1 : Int32} {l2 : Int32} {l3 : Int32} {l4 : Int32} {h : zz_Hp} {Q : Int32 → zz_Hp → Prop} (H : w_X8_isFitting l1 l2 l3 l4 h Q) : zz_G zKC zNC (d + 3) mX8_isFitting (qI Q) 0 (zz_L0 6 [.ref 0, .int l1, .int l2, .int l3, .int l4]) [] h := by
  show zz_G zKC zNC (d + 3) mX8_isFitting (qI Q) 0 [some (.ref 0), some (.int l1), some (.int l2), some (.int l3), some (.int l4), none] [] h
  unfold w_X8_isFitting at H
  refine zg_iconst (pc := 0) dX8_isFitting_0 (v := 0) (by decide) ?_
  refine zg_istore (pc := 1) dX8_isFitting_1 (by decide) (L' := [some (.ref 0), some (.int l1), some (.int l2), some (.int l3), some (.int l4), some (.int 0)]) rfl ?_
  exact sd_X8_isFitting_l3  H
set_option maxRecDepth 100000 in
theorem sd_X8_fittingFibres_l5 {d : Nat} {Q : Int32 → zz_Hp → Prop} {l1 : Int32} {l2 : Int32} {l3 : Int32} {l4 : Int32} {h : zz_Hp}  (H : lp (fun s ag => w_X8_fittingFibres_l5 ag Q l1 l2 s.1 s.2.1 s.2.2) (l3, l4, h)) : zz_G zKC zNC (d + 4) mX8_fittingFibres (qI Q) 5 [some (.ref 0), some (.int l1), some (.int l2), some (.int l3), some (.int l4)] [] h := by
  refine lp_sound (G := fun (s : Int32 × Int32 × zz_Hp) => zz_G zKC zNC (d + 4) mX8_fittingFibres (qI Q) 5 [some (.ref 0), some (.int l1), some (.int l2), some (.int s.1), some (.int s.2.1)] [] s.2.2) ?_ H
  clear H
  intro s ag5 hag5 H
  obtain ⟨l3, l4, h⟩ := s
  replace hag5 : ∀ (l3 : Int32) (l4 : Int32) (h : zz_Hp), ag5 (l3, l4, h) → zz_G zKC zNC (d + 4) mX8_fittingFibres (qI Q) 5 [some (.ref 0), some (.int l1), some (.int l2), some (.int l3), some (.int l4)] [] h := fun l3 l4 h H => hag5 (l3, l4, h) H
  replace H : w_X8_fittingFibres_l5 ag5 Q l1 l2 l3 l4 h := H
  show zz_G zKC zNC (d + 4) mX8_fittingFibres (qI Q) 5 [some (.ref 0), some (.int l1), some (.int l2), some (.int l3), some (.int l4)] [] h
  unfold w_X8_fittingFibres_l5 at H
  refine zg_iload (pc := 5) dX8_fittingFibres_5 rfl ?_
  refine zg_iconst (pc := 7) dX8_fittingFibres_7 (v := 4) (by decide) ?_
  refine zg_icmp_ge (pc := 8) dX8_fittingFibres_8 (tgt := 47) (by decide) (fun hc => ?_) (fun hc => ?_)
  · replace H := H.1 hc
    refine zg_iload_n (pc := 47) dX8_fittingFibres_47 rfl rfl ?_
    exact zg_iret (pc := 48) dX8_fittingFibres_48 rfl ⟨_, rfl, H⟩
  · replace H := H.2 hc
    refine zg_aload_n (pc := 11) dX8_fittingFibres_11 rfl rfl ?_
    refine zg_iload_n (pc := 12) dX8_fittingFibres_12 rfl rfl ?_
    refine zg_iload (pc := 13) dX8_fittingFibres_13 rfl ?_
    refine zg_aload_n (pc := 15) dX8_fittingFibres_15 rfl rfl ?_
    refine zg_getR (pc := 16) dX8_fittingFibres_16 lf_X8_12 kC_0 (by decide) rfl ?_
    refine zg_getR (pc := 19) dX8_fittingFibres_19 lf_X8_75 kC_1 (by decide) rfl ?_
    refine zg_iload_n (pc := 22) dX8_fittingFibres_22 rfl rfl ?_
    refine zg_iconst (pc := 23) dX8_fittingFibres_23 (v := 1) (by decide) ?_
    refine zg_callVi (st := [.int l4, .int l1, .ref 0]) (pc := 24) dX8_fittingFibres_24 (As := [.int l1, .int 1]) lk_X8_130 kC_2 (by decide) rfl (Nat.le_of_ble_eq_true rfl) (Nat.le_of_ble_eq_true rfl) (sd_X7_fact (d + 3) H) (fun r2 h1 H => ?_)
    refine zg_iload_n (pc := 27) dX8_fittingFibres_27 rfl rfl ?_
    refine zg_callVi (st := []) (pc := 28) dX8_fittingFibres_28 (As := [.int l1, .int l4, .int r2, .int l2]) lk_X8_325 kC_0 (by decide) rfl (Nat.le_of_ble_eq_true rfl) (Nat.le_of_ble_eq_true rfl) (sd_X8_isFitting d H) (fun r4 h3 H => ?_)
    refine zg_if_eq (pc := 31) dX8_fittingFibres_31 (tgt := 41) (by decide) (fun hc => ?_) (fun hc => ?_)
    · replace H := H.1 hc
      refine zg_iinc (pc := 41) dX8_fittingFibres_41 rfl (v := l4 + 1) rfl (by decide) (L' := [some (.ref 0), some (.int l1), some (.int l2), some (.int l3), some (.int (l4 + 1))]) rfl ?_
      refine zg_goto (pc := 44) dX8_fittingFibres_44 (tgt := 5) (by decide) ?_
      exact hag5 l3 (l4 + 1) _ H
    · replace H := H.2 hc
      refine zg_iload_n (pc := 34) dX8_fittingFibres_34 rfl rfl ?_
      refine zg_iconst (pc := 35) dX8_fittingFibres_35 (v := 1) (by decide) ?_
      refine zg_iload (pc := 36) dX8_fittingFibres_36 rfl ?_
      refine zg_ishl (pc := 38) dX8_fittingFibres_38 ?_
      refine zg_ior (pc := 39) dX8_fittingFibres_39 ?_
      refine zg_istore_n (pc := 40) dX8_fittingFibres_40 rfl (by decide) (L' := [some (.ref 0), some (.int l1), some (.int l2), some (.int (l3 ||| (1 <<< (l4 &&& 31)))), some (.int l4)]) rfl ?_
      refine zg_iinc (pc := 41) dX8_fittingFibres_41 rfl (v := l4 + 1) rfl (by decide) (L' := [some (.ref 0), some (.int l1), some (.int l2), some (.int (l3 ||| (1 <<< (l4 &&& 31)))), some (.int (l4 + 1))]) rfl ?_
      refine zg_goto (pc := 44) dX8_fittingFibres_44 (tgt := 5) (by decide) ?_
      exact hag5 (l3 ||| (1 <<< (l4 &&& 31))) (l4 + 1) _ H
set_option maxRecDepth 100000 in
theorem sd_X8_fittingFibres (d : Nat) {l1 : Int32} {l2 : Int32} {h : zz_Hp} {Q : Int32 → zz_Hp → Prop} (H : w_X8_fittingFibres l1 l2 h Q) : zz_G zKC zNC (d + 4) mX8_fittingFibres (qI Q) 0 (zz_L0 5 [.ref 0, .int l1, .int l2]) [] h := by
  show zz_G zKC zNC (d + 4) mX8_fittingFibres (qI Q) 0 [some (.ref 0), some (.int l1), some (.int l2), none, none] [] h
  unfold w_X8_fittingFibres at H
  refine zg_iconst (pc := 0) dX8_fittingFibres_0 (v := 0) (by decide) ?_
  refine zg_istore_n (pc := 1) dX8_fittingFibres_1 rfl (by decide) (L' := [some (.ref 0), some (.int l1), some (.int l2), some (.int 0), none]) rfl ?_
  refine zg_iconst (pc := 2) dX8_fittingFibres_2 (v := 0) (by decide) ?_
  refine zg_istore (pc := 3) dX8_fittingFibres_3 (by decide) (L' := [some (.ref 0), some (.int l1), some (.int l2), some (.int 0), some (.int 0)]) rfl ?_
  exact sd_X8_fittingFibres_l5  H
set_option maxRecDepth 100000 in
theorem sd_X8_fittingWeights_l11 {d : Nat} {Q : Int32 → zz_Hp → Prop} {l1 : Int32} {l2 : Int32} {l3 : Int32} {l4 : Int32} {l5 : Int32} {l6 : Int32} {h : zz_Hp}  (H : lp (fun s ag => w_X8_fittingWeights_l11 ag Q l1 l2 l3 s.1 s.2.1 s.2.2.1 s.2.2.2) (l4, l5, l6, h)) : zz_G zKC zNC (d + 4) mX8_fittingWeights (qI Q) 11 [some (.ref 0), some (.int l1), some (.int l2), some (.int l3), some (.int l4), some (.int l5), some (.int l6)] [] h := by
  refine lp_sound (G := fun (s : Int32 × Int32 × Int32 × zz_Hp) => zz_G zKC zNC (d + 4) mX8_fittingWeights (qI Q) 11 [some (.ref 0), some (.int l1), some (.int l2), some (.int l3), some (.int s.1), some (.int s.2.1), some (.int s.2.2.1)] [] s.2.2.2) ?_ H
  clear H
  intro s ag11 hag11 H
  obtain ⟨l4, l5, l6, h⟩ := s
  replace hag11 : ∀ (l4 : Int32) (l5 : Int32) (l6 : Int32) (h : zz_Hp), ag11 (l4, l5, l6, h) → zz_G zKC zNC (d + 4) mX8_fittingWeights (qI Q) 11 [some (.ref 0), some (.int l1), some (.int l2), some (.int l3), some (.int l4), some (.int l5), some (.int l6)] [] h := fun l4 l5 l6 h H => hag11 (l4, l5, l6, h) H
  replace H : w_X8_fittingWeights_l11 ag11 Q l1 l2 l3 l4 l5 l6 h := H
  show zz_G zKC zNC (d + 4) mX8_fittingWeights (qI Q) 11 [some (.ref 0), some (.int l1), some (.int l2), some (.int l3), some (.int l4), some (.int l5), some (.int l6)] [] h
  unfold w_X8_fittingWeights_l11 at H
  refine zg_iload (pc := 11) dX8_fittingWeights_11 rfl ?_
  refine zg_iconst (pc := 13) dX8_fittingWeights_13 (v := 1) (by decide) ?_
  refine zg_icmp_lt (pc := 14) dX8_fittingWeights_14 (tgt := 53) (by decide) (fun hc => ?_) (fun hc => ?_)
  · replace H := H.1 hc
    refine zg_iload_n (pc := 53) dX8_fittingWeights_53 rfl rfl ?_
    refine zg_iconst (pc := 54) dX8_fittingWeights_54 (v := 1) (by decide) ?_
    refine zg_icmp_ne (pc := 55) dX8_fittingWeights_55 (tgt := 63) (by decide) (fun hc => ?_) (fun hc => ?_)
    · replace H := H.1 hc
      refine zg_iload (pc := 63) dX8_fittingWeights_63 rfl ?_
      exact zg_iret (pc := 65) dX8_fittingWeights_65 rfl ⟨_, rfl, H⟩
    · replace H := H.2 hc
      refine zg_iload (pc := 58) dX8_fittingWeights_58 rfl ?_
      refine zg_goto (pc := 60) dX8_fittingWeights_60 (tgt := 65) (by decide) ?_
      exact zg_iret (pc := 65) dX8_fittingWeights_65 rfl ⟨_, rfl, H⟩
  · replace H := H.2 hc
    refine zg_aload_n (pc := 17) dX8_fittingWeights_17 rfl rfl ?_
    refine zg_iload_n (pc := 18) dX8_fittingWeights_18 rfl rfl ?_
    refine zg_aload_n (pc := 19) dX8_fittingWeights_19 rfl rfl ?_
    refine zg_getR (pc := 20) dX8_fittingWeights_20 lf_X8_12 kC_0 (by decide) rfl ?_
    refine zg_getR (pc := 23) dX8_fittingWeights_23 lf_X8_75 kC_1 (by decide) rfl ?_
    refine zg_iload_n (pc := 26) dX8_fittingWeights_26 rfl rfl ?_
    refine zg_iconst (pc := 27) dX8_fittingWeights_27 (v := 2) (by decide) ?_
    refine zg_callVi (st := [.int l1, .ref 0]) (pc := 28) dX8_fittingWeights_28 (As := [.int l1, .int 2]) lk_X8_130 kC_2 (by decide) rfl (Nat.le_of_ble_eq_true rfl) (Nat.le_of_ble_eq_true rfl) (sd_X7_fact (d + 3) H) (fun r2 h1 H => ?_)
    refine zg_iload (pc := 31) dX8_fittingWeights_31 rfl ?_
    refine zg_iload_n (pc := 33) dX8_fittingWeights_33 rfl rfl ?_
    refine zg_callVi (st := []) (pc := 34) dX8_fittingWeights_34 (As := [.int l1, .int r2, .int l6, .int l2]) lk_X8_325 kC_0 (by decide) rfl (Nat.le_of_ble_eq_true rfl) (Nat.le_of_ble_eq_true rfl) (sd_X8_isFitting d H) (fun r4 h3 H => ?_)
    refine zg_if_eq (pc := 37) dX8_fittingWeights_37 (tgt := 47) (by decide) (fun hc => ?_) (fun hc => ?_)
    · replace H := H.1 hc
      refine zg_iinc (pc := 47) dX8_fittingWeights_47 rfl (v := l6 + (-1)) rfl (by decide) (L' := [some (.ref 0), some (.int l1), some (.int l2), some (.int l3), some (.int l4), some (.int l5), some (.int (l6 + (-1)))]) rfl ?_
      refine zg_goto (pc := 50) dX8_fittingWeights_50 (tgt := 11) (by decide) ?_
      exact hag11 l4 l5 (l6 + (-1)) _ H
    · replace H := H.2 hc
      refine zg_iinc (pc := 40) dX8_fittingWeights_40 rfl (v := l4 + 1) rfl (by decide) (L' := [some (.ref 0), some (.int l1), some (.int l2), some (.int l3), some (.int (l4 + 1)), some (.int l5), some (.int l6)]) rfl ?_
      refine zg_iload (pc := 43) dX8_fittingWeights_43 rfl ?_
      refine zg_istore (pc := 45) dX8_fittingWeights_45 (by decide) (L' := [some (.ref 0), some (.int l1), some (.int l2), some (.int l3), some (.int (l4 + 1)), some (.int l6), some (.int l6)]) rfl ?_
      refine zg_iinc (pc := 47) dX8_fittingWeights_47 rfl (v := l6 + (-1)) rfl (by decide) (L' := [some (.ref 0), some (.int l1), some (.int l2), some (.int l3), some (.int (l4 + 1)), some (.int l6), some (.int (l6 + (-1)))]) rfl ?_
      refine zg_goto (pc := 50) dX8_fittingWeights_50 (tgt := 11) (by decide) ?_
      exact hag11 (l4 + 1) l6 (l6 + (-1)) _ H
set_option maxRecDepth 100000 in
theorem sd_X8_fittingWeights (d : Nat) {l1 : Int32} {l2 : Int32} {l3 : Int32} {h : zz_Hp} {Q : Int32 → zz_Hp → Prop} (H : w_X8_fittingWeights l1 l2 l3 h Q) : zz_G zKC zNC (d + 4) mX8_fittingWeights (qI Q) 0 (zz_L0 7 [.ref 0, .int l1, .int l2, .int l3]) [] h := by
  show zz_G zKC zNC (d + 4) mX8_fittingWeights (qI Q) 0 [some (.ref 0), some (.int l1), some (.int l2), some (.int l3), none, none, none] [] h
  unfold w_X8_fittingWeights at H
  refine zg_iconst (pc := 0) dX8_fittingWeights_0 (v := 0) (by decide) ?_
  refine zg_istore (pc := 1) dX8_fittingWeights_1 (by decide) (L' := [some (.ref 0), some (.int l1), some (.int l2), some (.int l3), some (.int 0), none, none]) rfl ?_
  refine zg_bipush (pc := 3) dX8_fittingWeights_3 (v := (-2)) (by decide) ?_
  refine zg_istore (pc := 5) dX8_fittingWeights_5 (by decide) (L' := [some (.ref 0), some (.int l1), some (.int l2), some (.int l3), some (.int 0), some (.int ((-2))), none]) rfl ?_
  refine zg_bipush (pc := 7) dX8_fittingWeights_7 (v := 99) (by decide) ?_
  refine zg_istore (pc := 9) dX8_fittingWeights_9 (by decide) (L' := [some (.ref 0), some (.int l1), some (.int l2), some (.int l3), some (.int 0), some (.int ((-2))), some (.int 99)]) rfl ?_
  exact sd_X8_fittingWeights_l11  H
set_option maxRecDepth 100000 in
theorem sd_X8_fits_l154 {d : Nat} {Q : Int32 → zz_Hp → Prop} {l1 : Int32} {l2 : Int32} {l5 : Int32} {l7 : Int32} {l9 : Int32} {h : zz_Hp}  (H : lp (fun s ag => w_X8_fits_l154 ag Q l1 l2 l5 l7 s.1 s.2) (l9, h)) : zz_G zKC zNC (d + 5) mX8_fits (qI Q) 154 [some (.ref 0), some (.int l1), some (.int l2), none, none, some (.int l5), some (.ref 2), some (.int l7), none, some (.int l9)] [] h := by
  refine lp_sound (G := fun (s : Int32 × zz_Hp) => zz_G zKC zNC (d + 5) mX8_fits (qI Q) 154 [some (.ref 0), some (.int l1), some (.int l2), none, none, some (.int l5), some (.ref 2), some (.int l7), none, some (.int s.1)] [] s.2) ?_ H
  clear H
  intro s ag154 hag154 H
  obtain ⟨l9, h⟩ := s
  replace hag154 : ∀ (l9 : Int32) (h : zz_Hp), ag154 (l9, h) → zz_G zKC zNC (d + 5) mX8_fits (qI Q) 154 [some (.ref 0), some (.int l1), some (.int l2), none, none, some (.int l5), some (.ref 2), some (.int l7), none, some (.int l9)] [] h := fun l9 h H => hag154 (l9, h) H
  replace H : w_X8_fits_l154 ag154 Q l1 l2 l5 l7 l9 h := H
  show zz_G zKC zNC (d + 5) mX8_fits (qI Q) 154 [some (.ref 0), some (.int l1), some (.int l2), none, none, some (.int l5), some (.ref 2), some (.int l7), none, some (.int l9)] [] h
  unfold w_X8_fits_l154 at H
  refine zg_iload (pc := 154) dX8_fits_154 rfl ?_
  refine zg_iload_n (pc := 156) dX8_fits_156 rfl rfl ?_
  refine zg_icmp_ge (pc := 157) dX8_fits_157 (tgt := 197) (by decide) (fun hc => ?_) (fun hc => ?_)
  · replace H := H.1 hc
    refine zg_iload (pc := 197) dX8_fits_197 rfl ?_
    refine zg_if_ne (pc := 199) dX8_fits_199 (tgt := 212) (by decide) (fun hc => ?_) (fun hc => ?_)
    · replace H := H.1 hc
      refine zg_aload_n (pc := 212) dX8_fits_212 rfl rfl ?_
      refine zg_iload (pc := 213) dX8_fits_213 rfl ?_
      refine zg_iload_n (pc := 215) dX8_fits_215 rfl rfl ?_
      refine zg_iload (pc := 216) dX8_fits_216 rfl ?_
      refine zg_callVi (st := []) (pc := 218) dX8_fits_218 (As := [.int l7, .int l2, .int l5]) lk_X8_264 kC_0 (by decide) rfl (Nat.le_of_ble_eq_true rfl) (Nat.le_of_ble_eq_true rfl) (sd_X8_fittingWeights d H) (fun r22 h21 H => ?_)
      exact zg_iret (pc := 221) dX8_fits_221 rfl ⟨_, rfl, H⟩
    · replace H := H.2 hc
      refine zg_aload_n (pc := 202) dX8_fits_202 rfl rfl ?_
      refine zg_iload (pc := 203) dX8_fits_203 rfl ?_
      refine zg_iload_n (pc := 205) dX8_fits_205 rfl rfl ?_
      refine zg_callVi (st := []) (pc := 206) dX8_fits_206 (As := [.int l7, .int l2]) lk_X8_261 kC_0 (by decide) rfl (Nat.le_of_ble_eq_true rfl) (Nat.le_of_ble_eq_true rfl) (sd_X8_fittingFibres d H) (fun r24 h23 H => ?_)
      refine zg_goto (pc := 209) dX8_fits_209 (tgt := 221) (by decide) ?_
      exact zg_iret (pc := 221) dX8_fits_221 rfl ⟨_, rfl, H⟩
  · replace H := H.2 hc
    refine zg_aload_n (pc := 160) dX8_fits_160 rfl rfl ?_
    refine zg_getR (pc := 161) dX8_fits_161 lf_X8_72 kC_0 (by decide) rfl ?_
    refine zg_iload (pc := 164) dX8_fits_164 rfl ?_
    refine zg_aload_n (pc := 166) dX8_fits_166 rfl rfl ?_
    refine zg_getR (pc := 167) dX8_fits_167 lf_X8_40 kC_0 (by decide) rfl ?_
    refine zg_iload_n (pc := 170) dX8_fits_170 rfl rfl ?_
    refine zg_iload (pc := 171) dX8_fits_171 rfl ?_
    refine zg_callVi (st := [.int l9, .ref 40]) (pc := 173) dX8_fits_173 (As := [.int l1, .int l9]) lk_X8_254 kC_21 (by decide) rfl (Nat.le_of_ble_eq_true rfl) (Nat.le_of_ble_eq_true rfl) (sd_X3_placeAt (d + 4) H) (fun r26 h25 H => ?_)
    refine zg_aload_n (pc := 176) dX8_fits_176 rfl rfl ?_
    refine zg_getR (pc := 177) dX8_fits_177 lf_X8_54 kC_0 (by decide) rfl ?_
    refine zg_aload (pc := 180) dX8_fits_180 rfl ?_
    refine zg_iload (pc := 182) dX8_fits_182 rfl ?_
    refine zg_iload (pc := 184) dX8_fits_184 rfl ?_
    refine zg_callVi (st := [.int r26, .int l9, .ref 40]) (pc := 186) dX8_fits_186 (As := [.ref 2, .int l7, .int l9]) lk_X8_257 kC_27 (by decide) rfl (Nat.le_of_ble_eq_true rfl) (Nat.le_of_ble_eq_true rfl) (sd_X6_torqueWithout (d + 2) H) (fun r28 h27 H => ?_)
    refine zg_isub (pc := 189) dX8_fits_189 ?_
    obtain ⟨hb, H⟩ := H
    refine zg_iast (pc := 190) dX8_fits_190 kC_40 (by decide) hb ?_
    generalize eh29 : zz_uI h27 40 (Int32.toNatClampNeg l9) (r26 - r28) = h29
    replace H := H h29 eh29.symm
    refine zg_iinc (pc := 191) dX8_fits_191 rfl (v := l9 + 1) rfl (by decide) (L' := [some (.ref 0), some (.int l1), some (.int l2), none, none, some (.int l5), some (.ref 2), some (.int l7), none, some (.int (l9 + 1))]) rfl ?_
    refine zg_goto (pc := 194) dX8_fits_194 (tgt := 154) (by decide) ?_
    exact hag154 (l9 + 1) _ H
set_option maxRecDepth 100000 in
theorem sd_X8_fits (d : Nat) {l1 : Int32} {l2 : Int32} {l3 : Int32} {l4 : Int32} {l5 : Int32} {h : zz_Hp} {Q : Int32 → zz_Hp → Prop} (H : w_X8_fits l1 l2 l3 l4 l5 h Q) : zz_G zKC zNC (d + 5) mX8_fits (qI Q) 0 (zz_L0 10 [.ref 0, .int l1, .int l2, .int l3, .int l4, .int l5]) [] h := by
  show zz_G zKC zNC (d + 5) mX8_fits (qI Q) 0 [some (.ref 0), some (.int l1), some (.int l2), some (.int l3), some (.int l4), some (.int l5), none, none, none, none] [] h
  unfold w_X8_fits at H
  refine zg_aload_n (pc := 0) dX8_fits_0 rfl rfl ?_
  refine zg_getR (pc := 1) dX8_fits_1 lf_X8_12 kC_0 (by decide) rfl ?_
  refine zg_getR (pc := 4) dX8_fits_4 lf_X8_75 kC_1 (by decide) rfl ?_
  refine zg_astore (pc := 7) dX8_fits_7 (by decide) (L' := [some (.ref 0), some (.int l1), some (.int l2), some (.int l3), some (.int l4), some (.int l5), some (.ref 2), none, none, none]) rfl ?_
  refine zg_aload_n (pc := 9) dX8_fits_9 rfl rfl ?_
  refine zg_getR (pc := 10) dX8_fits_10 lf_X8_40 kC_0 (by decide) rfl ?_
  refine zg_iload_n (pc := 13) dX8_fits_13 rfl rfl ?_
  refine zg_callVi (st := []) (pc := 14) dX8_fits_14 (As := [.int l1]) lk_X8_247 kC_21 (by decide) rfl (Nat.le_of_ble_eq_true rfl) (Nat.le_of_ble_eq_true rfl) (sd_X3_has (d + 4) H) (fun r2 h1 H => ?_)
  refine zg_if_eq (pc := 17) dX8_fits_17 (tgt := 80) (by decide) (fun hc => ?_) (fun hc => ?_)
  · replace H := H.1 hc
    refine zg_iconst (pc := 80) dX8_fits_80 (v := (-1)) (by decide) ?_
    exact zg_iret (pc := 81) dX8_fits_81 rfl ⟨_, rfl, H⟩
  · replace H := H.2 hc
    refine zg_iload_n (pc := 20) dX8_fits_20 rfl rfl ?_
    refine zg_iconst (pc := 21) dX8_fits_21 (v := 0) (by decide) ?_
    refine zg_bipush (pc := 22) dX8_fits_22 (v := 40) (by decide) ?_
    refine zg_callSi (st := []) (pc := 24) dX8_fits_24 (As := [.int l2, .int 0, .int 40]) lk_X8_121 rfl (Nat.le_of_ble_eq_true rfl) (Nat.le_of_ble_eq_true rfl) (sd_X8_inRange (d + 4) H) (fun r4 h3 H => ?_)
    refine zg_if_eq (pc := 27) dX8_fits_27 (tgt := 80) (by decide) (fun hc => ?_) (fun hc => ?_)
    · replace H := H.1 hc
      refine zg_iconst (pc := 80) dX8_fits_80 (v := (-1)) (by decide) ?_
      exact zg_iret (pc := 81) dX8_fits_81 rfl ⟨_, rfl, H⟩
    · replace H := H.2 hc
      refine zg_aload (pc := 30) dX8_fits_30 rfl ?_
      refine zg_iload_n (pc := 32) dX8_fits_32 rfl rfl ?_
      refine zg_callVi (st := []) (pc := 33) dX8_fits_33 (As := [.int l3]) lk_X8_85 kC_2 (by decide) rfl (Nat.le_of_ble_eq_true rfl) (Nat.le_of_ble_eq_true rfl) (sd_X7_has (d + 4) H) (fun r6 h5 H => ?_)
      refine zg_if_eq (pc := 36) dX8_fits_36 (tgt := 80) (by decide) (fun hc => ?_) (fun hc => ?_)
      · replace H := H.1 hc
        refine zg_iconst (pc := 80) dX8_fits_80 (v := (-1)) (by decide) ?_
        exact zg_iret (pc := 81) dX8_fits_81 rfl ⟨_, rfl, H⟩
      · replace H := H.2 hc
        refine zg_iload (pc := 39) dX8_fits_39 rfl ?_
        refine zg_if_lt (pc := 41) dX8_fits_41 (tgt := 80) (by decide) (fun hc => ?_) (fun hc => ?_)
        · replace H := H.1 hc
          refine zg_iconst (pc := 80) dX8_fits_80 (v := (-1)) (by decide) ?_
          exact zg_iret (pc := 81) dX8_fits_81 rfl ⟨_, rfl, H⟩
        · replace H := H.2 hc
          refine zg_aload (pc := 44) dX8_fits_44 rfl ?_
          refine zg_iload (pc := 46) dX8_fits_46 rfl ?_
          refine zg_bipush (pc := 48) dX8_fits_48 (v := 16) (by decide) ?_
          refine zg_idiv (pc := 50) dX8_fits_50 (by decide) ?_
          refine zg_callVi (st := []) (pc := 51) dX8_fits_51 (As := [.int (l4 / 16)]) lk_X8_197 kC_2 (by decide) rfl (Nat.le_of_ble_eq_true rfl) (Nat.le_of_ble_eq_true rfl) (sd_X7_isThread (d + 3) H) (fun r8 h7 H => ?_)
          refine zg_if_eq (pc := 54) dX8_fits_54 (tgt := 80) (by decide) (fun hc => ?_) (fun hc => ?_)
          · replace H := H.1 hc
            refine zg_iconst (pc := 80) dX8_fits_80 (v := (-1)) (by decide) ?_
            exact zg_iret (pc := 81) dX8_fits_81 rfl ⟨_, rfl, H⟩
          · replace H := H.2 hc
            refine zg_aload (pc := 57) dX8_fits_57 rfl ?_
            refine zg_iload (pc := 59) dX8_fits_59 rfl ?_
            refine zg_bipush (pc := 61) dX8_fits_61 (v := 16) (by decide) ?_
            refine zg_irem (pc := 63) dX8_fits_63 (by decide) ?_
            refine zg_callVi (st := []) (pc := 64) dX8_fits_64 (As := [.int (l4 - l4 / 16 * 16)]) lk_X8_85 kC_2 (by decide) rfl (Nat.le_of_ble_eq_true rfl) (Nat.le_of_ble_eq_true rfl) (sd_X7_has (d + 4) H) (fun r10 h9 H => ?_)
            refine zg_if_eq (pc := 67) dX8_fits_67 (tgt := 80) (by decide) (fun hc => ?_) (fun hc => ?_)
            · replace H := H.1 hc
              refine zg_iconst (pc := 80) dX8_fits_80 (v := (-1)) (by decide) ?_
              exact zg_iret (pc := 81) dX8_fits_81 rfl ⟨_, rfl, H⟩
            · replace H := H.2 hc
              refine zg_iload (pc := 70) dX8_fits_70 rfl ?_
              refine zg_iconst (pc := 72) dX8_fits_72 (v := 0) (by decide) ?_
              refine zg_iconst (pc := 73) dX8_fits_73 (v := 2) (by decide) ?_
              refine zg_callSi (st := []) (pc := 74) dX8_fits_74 (As := [.int l5, .int 0, .int 2]) lk_X8_121 rfl (Nat.le_of_ble_eq_true rfl) (Nat.le_of_ble_eq_true rfl) (sd_X8_inRange (d + 4) H) (fun r12 h11 H => ?_)
              refine zg_if_ne (pc := 77) dX8_fits_77 (tgt := 82) (by decide) (fun hc => ?_) (fun hc => ?_)
              · replace H := H.1 hc
                refine zg_iload (pc := 82) dX8_fits_82 rfl ?_
                refine zg_bipush (pc := 84) dX8_fits_84 (v := 16) (by decide) ?_
                refine zg_idiv (pc := 86) dX8_fits_86 (by decide) ?_
                refine zg_istore (pc := 87) dX8_fits_87 (by decide) (L' := [some (.ref 0), some (.int l1), some (.int l2), some (.int l3), some (.int l4), some (.int l5), some (.ref 2), some (.int (l4 / 16)), none, none]) rfl ?_
                refine zg_iload (pc := 89) dX8_fits_89 rfl ?_
                refine zg_bipush (pc := 91) dX8_fits_91 (v := 16) (by decide) ?_
                refine zg_irem (pc := 93) dX8_fits_93 (by decide) ?_
                refine zg_istore (pc := 94) dX8_fits_94 (by decide) (L' := [some (.ref 0), some (.int l1), some (.int l2), some (.int l3), some (.int l4), some (.int l5), some (.ref 2), some (.int (l4 / 16)), some (.int (l4 - l4 / 16 * 16)), none]) rfl ?_
                refine zg_aload (pc := 96) dX8_fits_96 rfl ?_
                refine zg_iload (pc := 98) dX8_fits_98 rfl ?_
                refine zg_iload_n (pc := 100) dX8_fits_100 rfl rfl ?_
                refine zg_callVi (st := []) (pc := 101) dX8_fits_101 (As := [.int (l4 - l4 / 16 * 16), .int l3]) lk_X8_184 kC_2 (by decide) rfl (Nat.le_of_ble_eq_true rfl) (Nat.le_of_ble_eq_true rfl) (sd_X7_isInside (d + 3) H) (fun r14 h13 H => ?_)
                refine zg_if_ne (pc := 104) dX8_fits_104 (tgt := 110) (by decide) (fun hc => ?_) (fun hc => ?_)
                · replace H := H.1 hc
                  refine zg_aload_n (pc := 110) dX8_fits_110 rfl rfl ?_
                  refine zg_getR (pc := 111) dX8_fits_111 lf_X8_40 kC_0 (by decide) rfl ?_
                  refine zg_iload_n (pc := 114) dX8_fits_114 rfl rfl ?_
                  refine zg_callVi (st := []) (pc := 115) dX8_fits_115 (As := [.int l1]) lk_X8_248 kC_21 (by decide) rfl (Nat.le_of_ble_eq_true rfl) (Nat.le_of_ble_eq_true rfl) (sd_X3_isMissing (d + 4) H) (fun r16 h15 H => ?_)
                  refine zg_if_eq (pc := 118) dX8_fits_118 (tgt := 124) (by decide) (fun hc => ?_) (fun hc => ?_)
                  · replace H := H.1 hc
                    refine zg_iload_n (pc := 124) dX8_fits_124 rfl rfl ?_
                    refine zg_aload_n (pc := 125) dX8_fits_125 rfl rfl ?_
                    refine zg_getR (pc := 126) dX8_fits_126 lf_X8_40 kC_0 (by decide) rfl ?_
                    refine zg_iload_n (pc := 129) dX8_fits_129 rfl rfl ?_
                    refine zg_callVi (st := [.int l2]) (pc := 130) dX8_fits_130 (As := [.int l1]) lk_X8_251 kC_21 (by decide) rfl (Nat.le_of_ble_eq_true rfl) (Nat.le_of_ble_eq_true rfl) (sd_X3_sizeOf (d + 4) H) (fun r18 h17 H => ?_)
                    refine zg_icmp_le (pc := 133) dX8_fits_133 (tgt := 139) (by decide) (fun hc => ?_) (fun hc => ?_)
                    · replace H := H.1 hc
                      refine zg_aload_n (pc := 139) dX8_fits_139 rfl rfl ?_
                      refine zg_getR (pc := 140) dX8_fits_140 lf_X8_54 kC_0 (by decide) rfl ?_
                      refine zg_aload (pc := 143) dX8_fits_143 rfl ?_
                      refine zg_iload_n (pc := 145) dX8_fits_145 rfl rfl ?_
                      refine zg_iload (pc := 146) dX8_fits_146 rfl ?_
                      refine zg_callVv (st := []) (pc := 148) dX8_fits_148 (As := [.ref 2, .int l3, .int (l4 - l4 / 16 * 16)]) lk_X8_173 kC_27 (by decide) rfl (Nat.le_of_ble_eq_true rfl) (Nat.le_of_ble_eq_true rfl) (sd_X6_walk (d + 1) H) (fun h19 H => ?_)
                      refine zg_iconst (pc := 151) dX8_fits_151 (v := 0) (by decide) ?_
                      refine zg_istore (pc := 152) dX8_fits_152 (by decide) (L' := [some (.ref 0), some (.int l1), some (.int l2), some (.int l3), some (.int l4), some (.int l5), some (.ref 2), some (.int (l4 / 16)), some (.int (l4 - l4 / 16 * 16)), some (.int 0)]) rfl ?_
                      refine zg_weak (L' := [some (.ref 0), some (.int l1), some (.int l2), none, none, some (.int l5), some (.ref 2), some (.int (l4 / 16)), none, some (.int 0)]) ⟨rfl, ⟨rfl, ⟨rfl, ⟨rfl, ⟨rfl, ⟨rfl, ⟨rfl, trivial⟩⟩⟩⟩⟩⟩⟩ ?_
                      exact sd_X8_fits_l154  H
                    · replace H := H.2 hc
                      refine zg_bipush (pc := 136) dX8_fits_136 (v := (-13)) (by decide) ?_
                      exact zg_iret (pc := 138) dX8_fits_138 rfl ⟨_, rfl, H⟩
                  · replace H := H.2 hc
                    refine zg_bipush (pc := 121) dX8_fits_121 (v := (-11)) (by decide) ?_
                    exact zg_iret (pc := 123) dX8_fits_123 rfl ⟨_, rfl, H⟩
                · replace H := H.2 hc
                  refine zg_bipush (pc := 107) dX8_fits_107 (v := (-5)) (by decide) ?_
                  exact zg_iret (pc := 109) dX8_fits_109 rfl ⟨_, rfl, H⟩
              · replace H := H.2 hc
                refine zg_iconst (pc := 80) dX8_fits_80 (v := (-1)) (by decide) ?_
                exact zg_iret (pc := 81) dX8_fits_81 rfl ⟨_, rfl, H⟩
set_option maxRecDepth 100000 in
theorem sd_X1_isFull_7 (d : Nat)  {h : zz_Hp} {Q : Int32 → zz_Hp → Prop} (H : w_X1_isFull_7  h Q) : zz_G zKC zNC (d + 0) mX1_isFull (qI Q) 0 (zz_L0 1 [.ref 7]) [] h := by
  show zz_G zKC zNC (d + 0) mX1_isFull (qI Q) 0 [some (.ref 7)] [] h
  unfold w_X1_isFull_7 at H
  refine zg_aload_n (pc := 0) dX1_isFull_0 rfl rfl ?_
  refine zg_getI (pc := 1) dX1_isFull_1 lf_X1_13 kC_7 (by decide) rfl ?_
  refine zg_iconst (pc := 4) dX1_isFull_4 (v := 1) (by decide) ?_
  refine zg_iadd (pc := 5) dX1_isFull_5 ?_
  refine zg_iconst (pc := 6) dX1_isFull_6 (v := 3) (by decide) ?_
  refine zg_imul (pc := 7) dX1_isFull_7 ?_
  refine zg_aload_n (pc := 8) dX1_isFull_8 rfl rfl ?_
  refine zg_getR (pc := 9) dX1_isFull_9 lf_X1_9 kC_7 (by decide) rfl ?_
  refine zg_alen (pc := 12) dX1_isFull_12 (Or.inl rfl) (v := 24) (by decide) kC_8 (by decide) ?_
  refine zg_icmp_le (pc := 13) dX1_isFull_13 (tgt := 20) (by decide) (fun hc => ?_) (fun hc => ?_)
  · replace H := H.1 hc
    refine zg_iconst (pc := 20) dX1_isFull_20 (v := 0) (by decide) ?_
    exact zg_zret (pc := 21) dX1_isFull_21 (Or.inl rfl) rfl ⟨_, rfl, H⟩
  · replace H := H.2 hc
    refine zg_iconst (pc := 16) dX1_isFull_16 (v := 1) (by decide) ?_
    refine zg_goto (pc := 17) dX1_isFull_17 (tgt := 21) (by decide) ?_
    exact zg_zret (pc := 21) dX1_isFull_21 (Or.inr rfl) rfl ⟨_, rfl, H⟩
set_option maxRecDepth 100000 in
theorem sd_X1_add_7 (d : Nat) {l1 : Int32} {l2 : Int32} {l3 : Int32} {h : zz_Hp} {Q : zz_Hp → Prop} (H : w_X1_add_7 l1 l2 l3 h Q) : zz_G zKC zNC (d + 1) mX1_add (qV Q) 0 (zz_L0 4 [.ref 7, .int l1, .int l2, .int l3]) [] h := by
  show zz_G zKC zNC (d + 1) mX1_add (qV Q) 0 [some (.ref 7), some (.int l1), some (.int l2), some (.int l3)] [] h
  unfold w_X1_add_7 at H
  refine zg_aload_n (pc := 0) dX1_add_0 rfl rfl ?_
  refine zg_callVi (st := []) (pc := 1) dX1_add_1 (As := []) lk_X1_17 kC_7 (by decide) rfl (Nat.le_of_ble_eq_true rfl) (Nat.le_of_ble_eq_true rfl) (sd_X1_isFull_7 d H) (fun r2 h1 H => ?_)
  refine zg_if_ne (pc := 4) dX1_add_4 (tgt := 57) (by decide) (fun hc => ?_) (fun hc => ?_)
  · replace H := H.1 hc
    exact zg_vret (pc := 57) dX1_add_57 rfl ⟨rfl, H⟩
  · replace H := H.2 hc
    refine zg_aload_n (pc := 7) dX1_add_7 rfl rfl ?_
    refine zg_getR (pc := 8) dX1_add_8 lf_X1_9 kC_7 (by decide) rfl ?_
    refine zg_aload_n (pc := 11) dX1_add_11 rfl rfl ?_
    refine zg_getI (pc := 12) dX1_add_12 lf_X1_13 kC_7 (by decide) rfl ?_
    refine zg_iconst (pc := 15) dX1_add_15 (v := 3) (by decide) ?_
    refine zg_imul (pc := 16) dX1_add_16 ?_
    refine zg_iload_n (pc := 17) dX1_add_17 rfl rfl ?_
    obtain ⟨hb, H⟩ := H
    refine zg_iast (pc := 18) dX1_add_18 kC_8 (by decide) hb ?_
    generalize eh3 : zz_uI h1 8 (Int32.toNatClampNeg ((h1.1 7 0) * 3)) l1 = h3
    replace H := H h3 eh3.symm
    refine zg_aload_n (pc := 19) dX1_add_19 rfl rfl ?_
    refine zg_getR (pc := 20) dX1_add_20 lf_X1_9 kC_7 (by decide) rfl ?_
    refine zg_aload_n (pc := 23) dX1_add_23 rfl rfl ?_
    refine zg_getI (pc := 24) dX1_add_24 lf_X1_13 kC_7 (by decide) rfl ?_
    refine zg_iconst (pc := 27) dX1_add_27 (v := 3) (by decide) ?_
    refine zg_imul (pc := 28) dX1_add_28 ?_
    refine zg_iconst (pc := 29) dX1_add_29 (v := 1) (by decide) ?_
    refine zg_iadd (pc := 30) dX1_add_30 ?_
    refine zg_iload_n (pc := 31) dX1_add_31 rfl rfl ?_
    obtain ⟨hb, H⟩ := H
    refine zg_iast (pc := 32) dX1_add_32 kC_8 (by decide) hb ?_
    generalize eh4 : zz_uI h3 8 (Int32.toNatClampNeg (((h3.1 7 0) * 3) + 1)) l2 = h4
    replace H := H h4 eh4.symm
    refine zg_aload_n (pc := 33) dX1_add_33 rfl rfl ?_
    refine zg_getR (pc := 34) dX1_add_34 lf_X1_9 kC_7 (by decide) rfl ?_
    refine zg_aload_n (pc := 37) dX1_add_37 rfl rfl ?_
    refine zg_getI (pc := 38) dX1_add_38 lf_X1_13 kC_7 (by decide) rfl ?_
    refine zg_iconst (pc := 41) dX1_add_41 (v := 3) (by decide) ?_
    refine zg_imul (pc := 42) dX1_add_42 ?_
    refine zg_iconst (pc := 43) dX1_add_43 (v := 2) (by decide) ?_
    refine zg_iadd (pc := 44) dX1_add_44 ?_
    refine zg_iload_n (pc := 45) dX1_add_45 rfl rfl ?_
    obtain ⟨hb, H⟩ := H
    refine zg_iast (pc := 46) dX1_add_46 kC_8 (by decide) hb ?_
    generalize eh5 : zz_uI h4 8 (Int32.toNatClampNeg (((h4.1 7 0) * 3) + 2)) l3 = h5
    replace H := H h5 eh5.symm
    refine zg_aload_n (pc := 47) dX1_add_47 rfl rfl ?_
    refine zg_dup (pc := 48) dX1_add_48 rfl ?_
    refine zg_getI (pc := 49) dX1_add_49 lf_X1_13 kC_7 (by decide) rfl ?_
    refine zg_iconst (pc := 52) dX1_add_52 (v := 1) (by decide) ?_
    refine zg_iadd (pc := 53) dX1_add_53 ?_
    refine zg_putI (pc := 54) dX1_add_54 lp_X1_13 kC_7 (by decide) rfl ?_
    generalize eh6 : zz_uI h5 7 0 ((h5.1 7 0) + 1) = h6
    replace H := H h6 eh6.symm
    exact zg_vret (pc := 57) dX1_add_57 rfl ⟨rfl, H⟩
set_option maxRecDepth 100000 in
theorem sd_X8_job (d : Nat) {l1 : Int32} {l2 : Int32} {h : zz_Hp} {Q : Int32 → zz_Hp → Prop} (H : w_X8_job l1 l2 h Q) : zz_G zKC zNC (d + 2) mX8_job (qI Q) 0 (zz_L0 3 [.ref 0, .int l1, .int l2]) [] h := by
  show zz_G zKC zNC (d + 2) mX8_job (qI Q) 0 [some (.ref 0), some (.int l1), some (.int l2)] [] h
  unfold w_X8_job at H
  refine zg_aload_n (pc := 0) dX8_job_0 rfl rfl ?_
  refine zg_getR (pc := 1) dX8_job_1 lf_X8_12 kC_0 (by decide) rfl ?_
  refine zg_getR (pc := 4) dX8_job_4 lf_X8_75 kC_1 (by decide) rfl ?_
  refine zg_iload_n (pc := 7) dX8_job_7 rfl rfl ?_
  refine zg_callVi (st := []) (pc := 8) dX8_job_8 (As := [.int l1]) lk_X8_85 kC_2 (by decide) rfl (Nat.le_of_ble_eq_true rfl) (Nat.le_of_ble_eq_true rfl) (sd_X7_has (d + 1) H) (fun r2 h1 H => ?_)
  refine zg_if_eq (pc := 11) dX8_job_11 (tgt := 25) (by decide) (fun hc => ?_) (fun hc => ?_)
  · replace H := H.1 hc
    refine zg_iconst (pc := 25) dX8_job_25 (v := (-1)) (by decide) ?_
    exact zg_iret (pc := 26) dX8_job_26 rfl ⟨_, rfl, H⟩
  · replace H := H.2 hc
    refine zg_iload_n (pc := 14) dX8_job_14 rfl rfl ?_
    refine zg_iconst (pc := 15) dX8_job_15 (v := 1) (by decide) ?_
    refine zg_sipush (pc := 16) dX8_job_16 (v := 9999) (by decide) ?_
    refine zg_callSi (st := []) (pc := 19) dX8_job_19 (As := [.int l2, .int 1, .int 9999]) lk_X8_121 rfl (Nat.le_of_ble_eq_true rfl) (Nat.le_of_ble_eq_true rfl) (sd_X8_inRange (d + 1) H) (fun r4 h3 H => ?_)
    refine zg_if_ne (pc := 22) dX8_job_22 (tgt := 27) (by decide) (fun hc => ?_) (fun hc => ?_)
    · replace H := H.1 hc
      refine zg_aload_n (pc := 27) dX8_job_27 rfl rfl ?_
      refine zg_getR (pc := 28) dX8_job_28 lf_X8_12 kC_0 (by decide) rfl ?_
      refine zg_getR (pc := 31) dX8_job_31 lf_X8_75 kC_1 (by decide) rfl ?_
      refine zg_iload_n (pc := 34) dX8_job_34 rfl rfl ?_
      refine zg_callVi (st := []) (pc := 35) dX8_job_35 (As := [.int l1]) lk_X8_197 kC_2 (by decide) rfl (Nat.le_of_ble_eq_true rfl) (Nat.le_of_ble_eq_true rfl) (sd_X7_isThread d H) (fun r6 h5 H => ?_)
      refine zg_if_eq (pc := 38) dX8_job_38 (tgt := 44) (by decide) (fun hc => ?_) (fun hc => ?_)
      · replace H := H.1 hc
        refine zg_aload_n (pc := 44) dX8_job_44 rfl rfl ?_
        refine zg_getR (pc := 45) dX8_job_45 lf_X8_12 kC_0 (by decide) rfl ?_
        refine zg_getR (pc := 48) dX8_job_48 lf_X8_267 kC_1 (by decide) rfl ?_
        refine zg_callVi (st := []) (pc := 51) dX8_job_51 (As := []) lk_X8_110 kC_7 (by decide) rfl (Nat.le_of_ble_eq_true rfl) (Nat.le_of_ble_eq_true rfl) (sd_X1_isFull_7 (d + 1) H) (fun r8 h7 H => ?_)
        refine zg_if_eq (pc := 54) dX8_job_54 (tgt := 60) (by decide) (fun hc => ?_) (fun hc => ?_)
        · replace H := H.1 hc
          refine zg_aload_n (pc := 60) dX8_job_60 rfl rfl ?_
          refine zg_getR (pc := 61) dX8_job_61 lf_X8_12 kC_0 (by decide) rfl ?_
          refine zg_getR (pc := 64) dX8_job_64 lf_X8_267 kC_1 (by decide) rfl ?_
          refine zg_iload_n (pc := 67) dX8_job_67 rfl rfl ?_
          refine zg_iload_n (pc := 68) dX8_job_68 rfl rfl ?_
          refine zg_iconst (pc := 69) dX8_job_69 (v := 0) (by decide) ?_
          refine zg_callVv (st := []) (pc := 70) dX8_job_70 (As := [.int l1, .int l2, .int 0]) lk_X8_117 kC_7 (by decide) rfl (Nat.le_of_ble_eq_true rfl) (Nat.le_of_ble_eq_true rfl) (sd_X1_add_7 d H) (fun h9 H => ?_)
          refine zg_aload_n (pc := 73) dX8_job_73 rfl rfl ?_
          refine zg_getR (pc := 74) dX8_job_74 lf_X8_12 kC_0 (by decide) rfl ?_
          refine zg_getR (pc := 77) dX8_job_77 lf_X8_267 kC_1 (by decide) rfl ?_
          refine zg_getI (pc := 80) dX8_job_80 lf_X8_224 kC_7 (by decide) rfl ?_
          exact zg_iret (pc := 83) dX8_job_83 rfl ⟨_, rfl, H⟩
        · replace H := H.2 hc
          refine zg_bipush (pc := 57) dX8_job_57 (v := (-3)) (by decide) ?_
          exact zg_iret (pc := 59) dX8_job_59 rfl ⟨_, rfl, H⟩
      · replace H := H.2 hc
        refine zg_bipush (pc := 41) dX8_job_41 (v := (-5)) (by decide) ?_
        exact zg_iret (pc := 43) dX8_job_43 rfl ⟨_, rfl, H⟩
    · replace H := H.2 hc
      refine zg_iconst (pc := 25) dX8_job_25 (v := (-1)) (by decide) ?_
      exact zg_iret (pc := 26) dX8_job_26 rfl ⟨_, rfl, H⟩
set_option maxRecDepth 100000 in
theorem sd_X1_at_7 (d : Nat) {l1 : Int32} {l2 : Int32} {h : zz_Hp} {Q : Int32 → zz_Hp → Prop} (H : w_X1_at_7 l1 l2 h Q) : zz_G zKC zNC (d + 0) mX1_at (qI Q) 0 (zz_L0 3 [.ref 7, .int l1, .int l2]) [] h := by
  show zz_G zKC zNC (d + 0) mX1_at (qI Q) 0 [some (.ref 7), some (.int l1), some (.int l2)] [] h
  unfold w_X1_at_7 at H
  refine zg_aload_n (pc := 0) dX1_at_0 rfl rfl ?_
  refine zg_getR (pc := 1) dX1_at_1 lf_X1_9 kC_7 (by decide) rfl ?_
  refine zg_iload_n (pc := 4) dX1_at_4 rfl rfl ?_
  refine zg_iconst (pc := 5) dX1_at_5 (v := 3) (by decide) ?_
  refine zg_imul (pc := 6) dX1_at_6 ?_
  refine zg_iload_n (pc := 7) dX1_at_7 rfl rfl ?_
  refine zg_iadd (pc := 8) dX1_at_8 ?_
  obtain ⟨hb, H⟩ := H
  refine zg_iald (pc := 9) dX1_at_9 kC_8 (by decide) hb ?_
  exact zg_iret (pc := 10) dX1_at_10 rfl ⟨_, rfl, H⟩
set_option maxRecDepth 100000 in
theorem sd_X1_drop_7 (d : Nat) {l1 : Int32} {h : zz_Hp} {Q : zz_Hp → Prop} (H : w_X1_drop_7 l1 h Q) : zz_G zKC zNC (d + 1) mX1_drop (qV Q) 0 (zz_L0 2 [.ref 7, .int l1]) [] h := by
  show zz_G zKC zNC (d + 1) mX1_drop (qV Q) 0 [some (.ref 7), some (.int l1)] [] h
  unfold w_X1_drop_7 at H
  refine zg_iload_n (pc := 0) dX1_drop_0 rfl rfl ?_
  refine zg_if_lt (pc := 1) dX1_drop_1 (tgt := 51) (by decide) (fun hc => ?_) (fun hc => ?_)
  · replace H := H.1 hc
    exact zg_vret (pc := 51) dX1_drop_51 rfl ⟨rfl, H⟩
  · replace H := H.2 hc
    refine zg_iload_n (pc := 4) dX1_drop_4 rfl rfl ?_
    refine zg_aload_n (pc := 5) dX1_drop_5 rfl rfl ?_
    refine zg_getI (pc := 6) dX1_drop_6 lf_X1_13 kC_7 (by decide) rfl ?_
    refine zg_icmp_ge (pc := 9) dX1_drop_9 (tgt := 51) (by decide) (fun hc => ?_) (fun hc => ?_)
    · replace H := H.1 hc
      exact zg_vret (pc := 51) dX1_drop_51 rfl ⟨rfl, H⟩
    · replace H := H.2 hc
      refine zg_aload_n (pc := 12) dX1_drop_12 rfl rfl ?_
      refine zg_getR (pc := 13) dX1_drop_13 lf_X1_9 kC_7 (by decide) rfl ?_
      refine zg_iload_n (pc := 16) dX1_drop_16 rfl rfl ?_
      refine zg_iconst (pc := 17) dX1_drop_17 (v := 1) (by decide) ?_
      refine zg_iadd (pc := 18) dX1_drop_18 ?_
      refine zg_iconst (pc := 19) dX1_drop_19 (v := 3) (by decide) ?_
      refine zg_imul (pc := 20) dX1_drop_20 ?_
      refine zg_aload_n (pc := 21) dX1_drop_21 rfl rfl ?_
      refine zg_getR (pc := 22) dX1_drop_22 lf_X1_9 kC_7 (by decide) rfl ?_
      refine zg_iload_n (pc := 25) dX1_drop_25 rfl rfl ?_
      refine zg_iconst (pc := 26) dX1_drop_26 (v := 3) (by decide) ?_
      refine zg_imul (pc := 27) dX1_drop_27 ?_
      refine zg_aload_n (pc := 28) dX1_drop_28 rfl rfl ?_
      refine zg_getI (pc := 29) dX1_drop_29 lf_X1_13 kC_7 (by decide) rfl ?_
      refine zg_iload_n (pc := 32) dX1_drop_32 rfl rfl ?_
      refine zg_isub (pc := 33) dX1_drop_33 ?_
      refine zg_iconst (pc := 34) dX1_drop_34 (v := 1) (by decide) ?_
      refine zg_isub (pc := 35) dX1_drop_35 ?_
      refine zg_iconst (pc := 36) dX1_drop_36 (v := 3) (by decide) ?_
      refine zg_imul (pc := 37) dX1_drop_37 ?_
      obtain ⟨hb1, hb2, hb3, hb4, hb5, H⟩ := H
      refine zg_copy (pc := 38) dX1_drop_38 lk_X1_21 kC_8 kC_8 (by decide) (by decide) hb1 hb2 hb3 hb4 hb5 (Nat.le_of_ble_eq_true rfl) ?_
      generalize eh1 : zz_uC h 8 8 (Int32.toNatClampNeg ((l1 + 1) * 3)) (Int32.toNatClampNeg (l1 * 3)) (Int32.toNatClampNeg ((((h.1 7 0) - l1) - 1) * 3)) = h1
      replace H := H h1 eh1.symm
      refine zg_aload_n (pc := 41) dX1_drop_41 rfl rfl ?_
      refine zg_dup (pc := 42) dX1_drop_42 rfl ?_
      refine zg_getI (pc := 43) dX1_drop_43 lf_X1_13 kC_7 (by decide) rfl ?_
      refine zg_iconst (pc := 46) dX1_drop_46 (v := 1) (by decide) ?_
      refine zg_isub (pc := 47) dX1_drop_47 ?_
      refine zg_putI (pc := 48) dX1_drop_48 lp_X1_13 kC_7 (by decide) rfl ?_
      generalize eh2 : zz_uI h1 7 0 ((h1.1 7 0) - 1) = h2
      replace H := H h2 eh2.symm
      exact zg_vret (pc := 51) dX1_drop_51 rfl ⟨rfl, H⟩
set_option maxRecDepth 100000 in
theorem sd_X8_do1 (d : Nat)  {h : zz_Hp} {Q : Int32 → zz_Hp → Prop} (H : w_X8_do1  h Q) : zz_G zKC zNC (d + 5) mX8_do1 (qI Q) 0 (zz_L0 2 [.ref 0]) [] h := by
  show zz_G zKC zNC (d + 5) mX8_do1 (qI Q) 0 [some (.ref 0), none] [] h
  unfold w_X8_do1 at H
  refine zg_aload_n (pc := 0) dX8_do1_0 rfl rfl ?_
  refine zg_getR (pc := 1) dX8_do1_1 lf_X8_12 kC_0 (by decide) rfl ?_
  refine zg_getR (pc := 4) dX8_do1_4 lf_X8_267 kC_1 (by decide) rfl ?_
  refine zg_astore_n (pc := 7) dX8_do1_7 rfl (by decide) (L' := [some (.ref 0), some (.ref 7)]) rfl ?_
  refine zg_aload_n (pc := 8) dX8_do1_8 rfl rfl ?_
  refine zg_getI (pc := 9) dX8_do1_9 lf_X8_224 kC_7 (by decide) rfl ?_
  refine zg_if_ne (pc := 12) dX8_do1_12 (tgt := 18) (by decide) (fun hc => ?_) (fun hc => ?_)
  · replace H := H.1 hc
    refine zg_aload_n (pc := 18) dX8_do1_18 rfl rfl ?_
    refine zg_aload_n (pc := 19) dX8_do1_19 rfl rfl ?_
    refine zg_iconst (pc := 20) dX8_do1_20 (v := 0) (by decide) ?_
    refine zg_iconst (pc := 21) dX8_do1_21 (v := 0) (by decide) ?_
    refine zg_callVi (st := [.ref 0]) (pc := 22) dX8_do1_22 (As := [.int 0, .int 0]) lk_X8_270 kC_7 (by decide) rfl (Nat.le_of_ble_eq_true rfl) (Nat.le_of_ble_eq_true rfl) (sd_X1_at_7 (d + 4) H) (fun r2 h1 H => ?_)
    refine zg_aload_n (pc := 25) dX8_do1_25 rfl rfl ?_
    refine zg_iconst (pc := 26) dX8_do1_26 (v := 0) (by decide) ?_
    refine zg_iconst (pc := 27) dX8_do1_27 (v := 1) (by decide) ?_
    refine zg_callVi (st := [.int r2, .ref 0]) (pc := 28) dX8_do1_28 (As := [.int 0, .int 1]) lk_X8_270 kC_7 (by decide) rfl (Nat.le_of_ble_eq_true rfl) (Nat.le_of_ble_eq_true rfl) (sd_X1_at_7 (d + 4) H) (fun r4 h3 H => ?_)
    refine zg_callVi (st := []) (pc := 31) dX8_do1_31 (As := [.int r2, .int r4]) lk_X8_218 kC_0 (by decide) rfl (Nat.le_of_ble_eq_true rfl) (Nat.le_of_ble_eq_true rfl) (sd_X8_makeYards d H) (fun r6 h5 H => ?_)
    refine zg_if_ge (pc := 34) dX8_do1_34 (tgt := 40) (by decide) (fun hc => ?_) (fun hc => ?_)
    · replace H := H.1 hc
      refine zg_aload_n (pc := 40) dX8_do1_40 rfl rfl ?_
      refine zg_iconst (pc := 41) dX8_do1_41 (v := 0) (by decide) ?_
      refine zg_callVv (st := []) (pc := 42) dX8_do1_42 (As := [.int 0]) lk_X8_114 kC_7 (by decide) rfl (Nat.le_of_ble_eq_true rfl) (Nat.le_of_ble_eq_true rfl) (sd_X1_drop_7 (d + 3) H) (fun h7 H => ?_)
      refine zg_aload_n (pc := 45) dX8_do1_45 rfl rfl ?_
      refine zg_getR (pc := 46) dX8_do1_46 lf_X8_30 kC_0 (by decide) rfl ?_
      refine zg_callVv (st := []) (pc := 49) dX8_do1_49 (As := []) lk_X8_106 kC_18 (by decide) rfl (Nat.le_of_ble_eq_true rfl) (Nat.le_of_ble_eq_true rfl) (sd_X1_empty_18 (d + 4) H) (fun h9 H => ?_)
      refine zg_aload_n (pc := 52) dX8_do1_52 rfl rfl ?_
      refine zg_getI (pc := 53) dX8_do1_53 lf_X8_224 kC_7 (by decide) rfl ?_
      exact zg_iret (pc := 56) dX8_do1_56 rfl ⟨_, rfl, H⟩
    · replace H := H.2 hc
      refine zg_bipush (pc := 37) dX8_do1_37 (v := (-5)) (by decide) ?_
      exact zg_iret (pc := 39) dX8_do1_39 rfl ⟨_, rfl, H⟩
  · replace H := H.2 hc
    refine zg_bipush (pc := 15) dX8_do1_15 (v := (-2)) (by decide) ?_
    exact zg_iret (pc := 17) dX8_do1_17 rfl ⟨_, rfl, H⟩
set_option maxRecDepth 100000 in
theorem sd_X8_strike_l31 {d : Nat} {Q : Int32 → zz_Hp → Prop} {l1 : Int32} {l2 : Int32} {l3 : Int32} {h : zz_Hp}  (H : lp (fun s ag => w_X8_strike_l31 ag Q l1 l2 s.1 s.2) (l3, h)) : zz_G zKC zNC (d + 2) mX8_strike (qI Q) 31 [some (.ref 0), some (.int l1), some (.int l2), some (.int l3)] [] h := by
  refine lp_sound (G := fun (s : Int32 × zz_Hp) => zz_G zKC zNC (d + 2) mX8_strike (qI Q) 31 [some (.ref 0), some (.int l1), some (.int l2), some (.int s.1)] [] s.2) ?_ H
  clear H
  intro s ag31 hag31 H
  obtain ⟨l3, h⟩ := s
  replace hag31 : ∀ (l3 : Int32) (h : zz_Hp), ag31 (l3, h) → zz_G zKC zNC (d + 2) mX8_strike (qI Q) 31 [some (.ref 0), some (.int l1), some (.int l2), some (.int l3)] [] h := fun l3 h H => hag31 (l3, h) H
  replace H : w_X8_strike_l31 ag31 Q l1 l2 l3 h := H
  show zz_G zKC zNC (d + 2) mX8_strike (qI Q) 31 [some (.ref 0), some (.int l1), some (.int l2), some (.int l3)] [] h
  unfold w_X8_strike_l31 at H
  refine zg_iload_n (pc := 31) dX8_strike_31 rfl rfl ?_
  refine zg_if_lt (pc := 32) dX8_strike_32 (tgt := 68) (by decide) (fun hc => ?_) (fun hc => ?_)
  · replace H := H.1 hc
    refine zg_iload_n (pc := 68) dX8_strike_68 rfl rfl ?_
    refine zg_aload_n (pc := 69) dX8_strike_69 rfl rfl ?_
    refine zg_getR (pc := 70) dX8_strike_70 lf_X8_12 kC_0 (by decide) rfl ?_
    refine zg_getR (pc := 73) dX8_strike_73 lf_X8_267 kC_1 (by decide) rfl ?_
    refine zg_getI (pc := 76) dX8_strike_76 lf_X8_224 kC_7 (by decide) rfl ?_
    refine zg_isub (pc := 79) dX8_strike_79 ?_
    exact zg_iret (pc := 80) dX8_strike_80 rfl ⟨_, rfl, H⟩
  · replace H := H.2 hc
    refine zg_aload_n (pc := 35) dX8_strike_35 rfl rfl ?_
    refine zg_getR (pc := 36) dX8_strike_36 lf_X8_12 kC_0 (by decide) rfl ?_
    refine zg_getR (pc := 39) dX8_strike_39 lf_X8_267 kC_1 (by decide) rfl ?_
    refine zg_iload_n (pc := 42) dX8_strike_42 rfl rfl ?_
    refine zg_iconst (pc := 43) dX8_strike_43 (v := 0) (by decide) ?_
    refine zg_callVi (st := []) (pc := 44) dX8_strike_44 (As := [.int l3, .int 0]) lk_X8_270 kC_7 (by decide) rfl (Nat.le_of_ble_eq_true rfl) (Nat.le_of_ble_eq_true rfl) (sd_X1_at_7 (d + 1) H) (fun r4 h3 H => ?_)
    refine zg_iload_n (pc := 47) dX8_strike_47 rfl rfl ?_
    refine zg_icmp_ne (pc := 48) dX8_strike_48 (tgt := 62) (by decide) (fun hc => ?_) (fun hc => ?_)
    · replace H := H.1 hc
      refine zg_iinc (pc := 62) dX8_strike_62 rfl (v := l3 + (-1)) rfl (by decide) (L' := [some (.ref 0), some (.int l1), some (.int l2), some (.int (l3 + (-1)))]) rfl ?_
      refine zg_goto (pc := 65) dX8_strike_65 (tgt := 31) (by decide) ?_
      exact hag31 (l3 + (-1)) _ H
    · replace H := H.2 hc
      refine zg_aload_n (pc := 51) dX8_strike_51 rfl rfl ?_
      refine zg_getR (pc := 52) dX8_strike_52 lf_X8_12 kC_0 (by decide) rfl ?_
      refine zg_getR (pc := 55) dX8_strike_55 lf_X8_267 kC_1 (by decide) rfl ?_
      refine zg_iload_n (pc := 58) dX8_strike_58 rfl rfl ?_
      refine zg_callVv (st := []) (pc := 59) dX8_strike_59 (As := [.int l3]) lk_X8_114 kC_7 (by decide) rfl (Nat.le_of_ble_eq_true rfl) (Nat.le_of_ble_eq_true rfl) (sd_X1_drop_7 d H) (fun h5 H => ?_)
      refine zg_iinc (pc := 62) dX8_strike_62 rfl (v := l3 + (-1)) rfl (by decide) (L' := [some (.ref 0), some (.int l1), some (.int l2), some (.int (l3 + (-1)))]) rfl ?_
      refine zg_goto (pc := 65) dX8_strike_65 (tgt := 31) (by decide) ?_
      exact hag31 (l3 + (-1)) _ H
set_option maxRecDepth 100000 in
theorem sd_X8_strike (d : Nat) {l1 : Int32} {h : zz_Hp} {Q : Int32 → zz_Hp → Prop} (H : w_X8_strike l1 h Q) : zz_G zKC zNC (d + 2) mX8_strike (qI Q) 0 (zz_L0 4 [.ref 0, .int l1]) [] h := by
  show zz_G zKC zNC (d + 2) mX8_strike (qI Q) 0 [some (.ref 0), some (.int l1), none, none] [] h
  unfold w_X8_strike at H
  refine zg_aload_n (pc := 0) dX8_strike_0 rfl rfl ?_
  refine zg_getR (pc := 1) dX8_strike_1 lf_X8_12 kC_0 (by decide) rfl ?_
  refine zg_getR (pc := 4) dX8_strike_4 lf_X8_75 kC_1 (by decide) rfl ?_
  refine zg_iload_n (pc := 7) dX8_strike_7 rfl rfl ?_
  refine zg_callVi (st := []) (pc := 8) dX8_strike_8 (As := [.int l1]) lk_X8_85 kC_2 (by decide) rfl (Nat.le_of_ble_eq_true rfl) (Nat.le_of_ble_eq_true rfl) (sd_X7_has (d + 1) H) (fun r2 h1 H => ?_)
  refine zg_if_ne (pc := 11) dX8_strike_11 (tgt := 16) (by decide) (fun hc => ?_) (fun hc => ?_)
  · replace H := H.1 hc
    refine zg_aload_n (pc := 16) dX8_strike_16 rfl rfl ?_
    refine zg_getR (pc := 17) dX8_strike_17 lf_X8_12 kC_0 (by decide) rfl ?_
    refine zg_getR (pc := 20) dX8_strike_20 lf_X8_267 kC_1 (by decide) rfl ?_
    refine zg_getI (pc := 23) dX8_strike_23 lf_X8_224 kC_7 (by decide) rfl ?_
    refine zg_istore_n (pc := 26) dX8_strike_26 rfl (by decide) (L' := [some (.ref 0), some (.int l1), some (.int (h1.1 7 0)), none]) rfl ?_
    refine zg_iload_n (pc := 27) dX8_strike_27 rfl rfl ?_
    refine zg_iconst (pc := 28) dX8_strike_28 (v := 1) (by decide) ?_
    refine zg_isub (pc := 29) dX8_strike_29 ?_
    refine zg_istore_n (pc := 30) dX8_strike_30 rfl (by decide) (L' := [some (.ref 0), some (.int l1), some (.int (h1.1 7 0)), some (.int ((h1.1 7 0) - 1))]) rfl ?_
    exact sd_X8_strike_l31  H
  · replace H := H.2 hc
    refine zg_iconst (pc := 14) dX8_strike_14 (v := (-1)) (by decide) ?_
    exact zg_iret (pc := 15) dX8_strike_15 rfl ⟨_, rfl, H⟩
set_option maxRecDepth 100000 in
theorem sd_X1_reverse_l16 {d : Nat} {ag9 : Int32 × Int32 × zz_Hp → Prop} {Q : zz_Hp → Prop} {l1 : Int32} {l2 : Int32} {l3 : Int32} {h : zz_Hp} (hag9 : ∀ (l1 : Int32) (l2 : Int32) (h : zz_Hp), ag9 (l1, l2, h) → zz_G zKC zNC (d + 0) mX1_reverse (qV Q) 9 [some (.ref 7), some (.int l1), some (.int l2), none, none] [] h) (H : lp (fun s ag => w_X1_reverse_l16 ag9 ag Q l1 l2 s.1 s.2) (l3, h)) : zz_G zKC zNC (d + 0) mX1_reverse (qV Q) 16 [some (.ref 7), some (.int l1), some (.int l2), some (.int l3), none] [] h := by
  refine lp_sound (G := fun (s : Int32 × zz_Hp) => zz_G zKC zNC (d + 0) mX1_reverse (qV Q) 16 [some (.ref 7), some (.int l1), some (.int l2), some (.int s.1), none] [] s.2) ?_ H
  clear H
  intro s ag16 hag16 H
  obtain ⟨l3, h⟩ := s
  replace hag16 : ∀ (l3 : Int32) (h : zz_Hp), ag16 (l3, h) → zz_G zKC zNC (d + 0) mX1_reverse (qV Q) 16 [some (.ref 7), some (.int l1), some (.int l2), some (.int l3), none] [] h := fun l3 h H => hag16 (l3, h) H
  replace H : w_X1_reverse_l16 ag9 ag16 Q l1 l2 l3 h := H
  show zz_G zKC zNC (d + 0) mX1_reverse (qV Q) 16 [some (.ref 7), some (.int l1), some (.int l2), some (.int l3), none] [] h
  unfold w_X1_reverse_l16 at H
  refine zg_iload_n (pc := 16) dX1_reverse_16 rfl rfl ?_
  refine zg_iconst (pc := 17) dX1_reverse_17 (v := 3) (by decide) ?_
  refine zg_icmp_ge (pc := 18) dX1_reverse_18 (tgt := 71) (by decide) (fun hc => ?_) (fun hc => ?_)
  · replace H := H.1 hc
    refine zg_iinc (pc := 71) dX1_reverse_71 rfl (v := l1 + 1) rfl (by decide) (L' := [some (.ref 7), some (.int (l1 + 1)), some (.int l2), some (.int l3), none]) rfl ?_
    refine zg_iinc (pc := 74) dX1_reverse_74 rfl (v := l2 + (-1)) rfl (by decide) (L' := [some (.ref 7), some (.int (l1 + 1)), some (.int (l2 + (-1))), some (.int l3), none]) rfl ?_
    refine zg_goto (pc := 77) dX1_reverse_77 (tgt := 9) (by decide) ?_
    refine zg_weak (L' := [some (.ref 7), some (.int (l1 + 1)), some (.int (l2 + (-1))), none, none]) ⟨rfl, ⟨rfl, ⟨rfl, trivial⟩⟩⟩ ?_
    exact hag9 (l1 + 1) (l2 + (-1)) _ H
  · replace H := H.2 hc
    refine zg_aload_n (pc := 21) dX1_reverse_21 rfl rfl ?_
    refine zg_getR (pc := 22) dX1_reverse_22 lf_X1_9 kC_7 (by decide) rfl ?_
    refine zg_iload_n (pc := 25) dX1_reverse_25 rfl rfl ?_
    refine zg_iconst (pc := 26) dX1_reverse_26 (v := 3) (by decide) ?_
    refine zg_imul (pc := 27) dX1_reverse_27 ?_
    refine zg_iload_n (pc := 28) dX1_reverse_28 rfl rfl ?_
    refine zg_iadd (pc := 29) dX1_reverse_29 ?_
    obtain ⟨hb, H⟩ := H
    refine zg_iald (pc := 30) dX1_reverse_30 kC_8 (by decide) hb ?_
    refine zg_istore (pc := 31) dX1_reverse_31 (by decide) (L' := [some (.ref 7), some (.int l1), some (.int l2), some (.int l3), some (.int (h.1 8 (Int32.toNatClampNeg ((l1 * 3) + l3))))]) rfl ?_
    refine zg_aload_n (pc := 33) dX1_reverse_33 rfl rfl ?_
    refine zg_getR (pc := 34) dX1_reverse_34 lf_X1_9 kC_7 (by decide) rfl ?_
    refine zg_iload_n (pc := 37) dX1_reverse_37 rfl rfl ?_
    refine zg_iconst (pc := 38) dX1_reverse_38 (v := 3) (by decide) ?_
    refine zg_imul (pc := 39) dX1_reverse_39 ?_
    refine zg_iload_n (pc := 40) dX1_reverse_40 rfl rfl ?_
    refine zg_iadd (pc := 41) dX1_reverse_41 ?_
    refine zg_aload_n (pc := 42) dX1_reverse_42 rfl rfl ?_
    refine zg_getR (pc := 43) dX1_reverse_43 lf_X1_9 kC_7 (by decide) rfl ?_
    refine zg_iload_n (pc := 46) dX1_reverse_46 rfl rfl ?_
    refine zg_iconst (pc := 47) dX1_reverse_47 (v := 3) (by decide) ?_
    refine zg_imul (pc := 48) dX1_reverse_48 ?_
    refine zg_iload_n (pc := 49) dX1_reverse_49 rfl rfl ?_
    refine zg_iadd (pc := 50) dX1_reverse_50 ?_
    obtain ⟨hb, H⟩ := H
    refine zg_iald (pc := 51) dX1_reverse_51 kC_8 (by decide) hb ?_
    obtain ⟨hb, H⟩ := H
    refine zg_iast (pc := 52) dX1_reverse_52 kC_8 (by decide) hb ?_
    generalize eh1 : zz_uI h 8 (Int32.toNatClampNeg ((l1 * 3) + l3)) (h.1 8 (Int32.toNatClampNeg ((l2 * 3) + l3))) = h1
    replace H := H h1 eh1.symm
    refine zg_aload_n (pc := 53) dX1_reverse_53 rfl rfl ?_
    refine zg_getR (pc := 54) dX1_reverse_54 lf_X1_9 kC_7 (by decide) rfl ?_
    refine zg_iload_n (pc := 57) dX1_reverse_57 rfl rfl ?_
    refine zg_iconst (pc := 58) dX1_reverse_58 (v := 3) (by decide) ?_
    refine zg_imul (pc := 59) dX1_reverse_59 ?_
    refine zg_iload_n (pc := 60) dX1_reverse_60 rfl rfl ?_
    refine zg_iadd (pc := 61) dX1_reverse_61 ?_
    refine zg_iload (pc := 62) dX1_reverse_62 rfl ?_
    obtain ⟨hb, H⟩ := H
    refine zg_iast (pc := 64) dX1_reverse_64 kC_8 (by decide) hb ?_
    generalize eh2 : zz_uI h1 8 (Int32.toNatClampNeg ((l2 * 3) + l3)) (h.1 8 (Int32.toNatClampNeg ((l1 * 3) + l3))) = h2
    replace H := H h2 eh2.symm
    refine zg_iinc (pc := 65) dX1_reverse_65 rfl (v := l3 + 1) rfl (by decide) (L' := [some (.ref 7), some (.int l1), some (.int l2), some (.int (l3 + 1)), some (.int (h.1 8 (Int32.toNatClampNeg ((l1 * 3) + l3))))]) rfl ?_
    refine zg_goto (pc := 68) dX1_reverse_68 (tgt := 16) (by decide) ?_
    refine zg_weak (L' := [some (.ref 7), some (.int l1), some (.int l2), some (.int (l3 + 1)), none]) ⟨rfl, ⟨rfl, ⟨rfl, ⟨rfl, trivial⟩⟩⟩⟩ ?_
    exact hag16 (l3 + 1) _ H
set_option maxRecDepth 100000 in
theorem sd_X1_reverse_l9 {d : Nat} {Q : zz_Hp → Prop}  {l1 : Int32} {l2 : Int32} {h : zz_Hp}  (H : lp (fun s ag => w_X1_reverse_l9 ag Q  s.1 s.2.1 s.2.2) (l1, l2, h)) : zz_G zKC zNC (d + 0) mX1_reverse (qV Q) 9 [some (.ref 7), some (.int l1), some (.int l2), none, none] [] h := by
  refine lp_sound (G := fun (s : Int32 × Int32 × zz_Hp) => zz_G zKC zNC (d + 0) mX1_reverse (qV Q) 9 [some (.ref 7), some (.int s.1), some (.int s.2.1), none, none] [] s.2.2) ?_ H
  clear H
  intro s ag9 hag9 H
  obtain ⟨l1, l2, h⟩ := s
  replace hag9 : ∀ (l1 : Int32) (l2 : Int32) (h : zz_Hp), ag9 (l1, l2, h) → zz_G zKC zNC (d + 0) mX1_reverse (qV Q) 9 [some (.ref 7), some (.int l1), some (.int l2), none, none] [] h := fun l1 l2 h H => hag9 (l1, l2, h) H
  replace H : w_X1_reverse_l9 ag9 Q  l1 l2 h := H
  show zz_G zKC zNC (d + 0) mX1_reverse (qV Q) 9 [some (.ref 7), some (.int l1), some (.int l2), none, none] [] h
  unfold w_X1_reverse_l9 at H
  refine zg_iload_n (pc := 9) dX1_reverse_9 rfl rfl ?_
  refine zg_iload_n (pc := 10) dX1_reverse_10 rfl rfl ?_
  refine zg_icmp_ge (pc := 11) dX1_reverse_11 (tgt := 80) (by decide) (fun hc => ?_) (fun hc => ?_)
  · replace H := H.1 hc
    exact zg_vret (pc := 80) dX1_reverse_80 rfl ⟨rfl, H⟩
  · replace H := H.2 hc
    refine zg_iconst (pc := 14) dX1_reverse_14 (v := 0) (by decide) ?_
    refine zg_istore_n (pc := 15) dX1_reverse_15 rfl (by decide) (L' := [some (.ref 7), some (.int l1), some (.int l2), some (.int 0), none]) rfl ?_
    exact sd_X1_reverse_l16 hag9 H
set_option maxRecDepth 100000 in
theorem sd_X1_reverse (d : Nat)  {h : zz_Hp} {Q : zz_Hp → Prop} (H : w_X1_reverse  h Q) : zz_G zKC zNC (d + 0) mX1_reverse (qV Q) 0 (zz_L0 5 [.ref 7]) [] h := by
  show zz_G zKC zNC (d + 0) mX1_reverse (qV Q) 0 [some (.ref 7), none, none, none, none] [] h
  unfold w_X1_reverse at H
  refine zg_iconst (pc := 0) dX1_reverse_0 (v := 0) (by decide) ?_
  refine zg_istore_n (pc := 1) dX1_reverse_1 rfl (by decide) (L' := [some (.ref 7), some (.int 0), none, none, none]) rfl ?_
  refine zg_aload_n (pc := 2) dX1_reverse_2 rfl rfl ?_
  refine zg_getI (pc := 3) dX1_reverse_3 lf_X1_13 kC_7 (by decide) rfl ?_
  refine zg_iconst (pc := 6) dX1_reverse_6 (v := 1) (by decide) ?_
  refine zg_isub (pc := 7) dX1_reverse_7 ?_
  refine zg_istore_n (pc := 8) dX1_reverse_8 rfl (by decide) (L' := [some (.ref 7), some (.int 0), some (.int ((h.1 7 0) - 1)), none, none]) rfl ?_
  exact sd_X1_reverse_l9  H
set_option maxRecDepth 100000 in
theorem sd_X8_about (d : Nat)  {h : zz_Hp} {Q : Int32 → zz_Hp → Prop} (H : w_X8_about  h Q) : zz_G zKC zNC (d + 1) mX8_about (qI Q) 0 (zz_L0 1 [.ref 0]) [] h := by
  show zz_G zKC zNC (d + 1) mX8_about (qI Q) 0 [some (.ref 0)] [] h
  unfold w_X8_about at H
  refine zg_aload_n (pc := 0) dX8_about_0 rfl rfl ?_
  refine zg_getR (pc := 1) dX8_about_1 lf_X8_12 kC_0 (by decide) rfl ?_
  refine zg_getR (pc := 4) dX8_about_4 lf_X8_267 kC_1 (by decide) rfl ?_
  refine zg_callVv (st := []) (pc := 7) dX8_about_7 (As := []) lk_X8_273 kC_7 (by decide) rfl (Nat.le_of_ble_eq_true rfl) (Nat.le_of_ble_eq_true rfl) (sd_X1_reverse d H) (fun h1 H => ?_)
  refine zg_aload_n (pc := 10) dX8_about_10 rfl rfl ?_
  refine zg_getR (pc := 11) dX8_about_11 lf_X8_12 kC_0 (by decide) rfl ?_
  refine zg_getR (pc := 14) dX8_about_14 lf_X8_267 kC_1 (by decide) rfl ?_
  refine zg_getI (pc := 17) dX8_about_17 lf_X8_224 kC_7 (by decide) rfl ?_
  exact zg_iret (pc := 20) dX8_about_20 rfl ⟨_, rfl, H⟩
set_option maxRecDepth 100000 in
theorem sd_X8_jobOf (d : Nat) {l1 : Int32} {l2 : Int32} {h : zz_Hp} {Q : Int32 → zz_Hp → Prop} (H : w_X8_jobOf l1 l2 h Q) : zz_G zKC zNC (d + 1) mX8_jobOf (qI Q) 0 (zz_L0 3 [.ref 0, .int l1, .int l2]) [] h := by
  show zz_G zKC zNC (d + 1) mX8_jobOf (qI Q) 0 [some (.ref 0), some (.int l1), some (.int l2)] [] h
  unfold w_X8_jobOf at H
  refine zg_iload_n (pc := 0) dX8_jobOf_0 rfl rfl ?_
  refine zg_iconst (pc := 1) dX8_jobOf_1 (v := 0) (by decide) ?_
  refine zg_iconst (pc := 2) dX8_jobOf_2 (v := 1) (by decide) ?_
  refine zg_callSi (st := []) (pc := 3) dX8_jobOf_3 (As := [.int l2, .int 0, .int 1]) lk_X8_121 rfl (Nat.le_of_ble_eq_true rfl) (Nat.le_of_ble_eq_true rfl) (sd_X8_inRange d H) (fun r2 h1 H => ?_)
  refine zg_if_ne (pc := 6) dX8_jobOf_6 (tgt := 11) (by decide) (fun hc => ?_) (fun hc => ?_)
  · replace H := H.1 hc
    refine zg_iload_n (pc := 11) dX8_jobOf_11 rfl rfl ?_
    refine zg_iconst (pc := 12) dX8_jobOf_12 (v := 0) (by decide) ?_
    refine zg_aload_n (pc := 13) dX8_jobOf_13 rfl rfl ?_
    refine zg_getR (pc := 14) dX8_jobOf_14 lf_X8_12 kC_0 (by decide) rfl ?_
    refine zg_getR (pc := 17) dX8_jobOf_17 lf_X8_267 kC_1 (by decide) rfl ?_
    refine zg_getI (pc := 20) dX8_jobOf_20 lf_X8_224 kC_7 (by decide) rfl ?_
    refine zg_iconst (pc := 23) dX8_jobOf_23 (v := 1) (by decide) ?_
    refine zg_isub (pc := 24) dX8_jobOf_24 ?_
    refine zg_callSi (st := []) (pc := 25) dX8_jobOf_25 (As := [.int l1, .int 0, .int ((h1.1 7 0) - 1)]) lk_X8_121 rfl (Nat.le_of_ble_eq_true rfl) (Nat.le_of_ble_eq_true rfl) (sd_X8_inRange d H) (fun r4 h3 H => ?_)
    refine zg_if_eq (pc := 28) dX8_jobOf_28 (tgt := 46) (by decide) (fun hc => ?_) (fun hc => ?_)
    · replace H := H.1 hc
      refine zg_bipush (pc := 46) dX8_jobOf_46 (v := (-2)) (by decide) ?_
      exact zg_iret (pc := 48) dX8_jobOf_48 rfl ⟨_, rfl, H⟩
    · replace H := H.2 hc
      refine zg_aload_n (pc := 31) dX8_jobOf_31 rfl rfl ?_
      refine zg_getR (pc := 32) dX8_jobOf_32 lf_X8_12 kC_0 (by decide) rfl ?_
      refine zg_getR (pc := 35) dX8_jobOf_35 lf_X8_267 kC_1 (by decide) rfl ?_
      refine zg_iload_n (pc := 38) dX8_jobOf_38 rfl rfl ?_
      refine zg_iload_n (pc := 39) dX8_jobOf_39 rfl rfl ?_
      refine zg_callVi (st := []) (pc := 40) dX8_jobOf_40 (As := [.int l1, .int l2]) lk_X8_270 kC_7 (by decide) rfl (Nat.le_of_ble_eq_true rfl) (Nat.le_of_ble_eq_true rfl) (sd_X1_at_7 d H) (fun r6 h5 H => ?_)
      refine zg_goto (pc := 43) dX8_jobOf_43 (tgt := 48) (by decide) ?_
      exact zg_iret (pc := 48) dX8_jobOf_48 rfl ⟨_, rfl, H⟩
  · replace H := H.2 hc
    refine zg_iconst (pc := 9) dX8_jobOf_9 (v := (-1)) (by decide) ?_
    exact zg_iret (pc := 10) dX8_jobOf_10 rfl ⟨_, rfl, H⟩
set_option maxRecDepth 100000 in
theorem sd_X1_at_18 (d : Nat) {l1 : Int32} {l2 : Int32} {h : zz_Hp} {Q : Int32 → zz_Hp → Prop} (H : w_X1_at_18 l1 l2 h Q) : zz_G zKC zNC (d + 0) mX1_at (qI Q) 0 (zz_L0 3 [.ref 18, .int l1, .int l2]) [] h := by
  show zz_G zKC zNC (d + 0) mX1_at (qI Q) 0 [some (.ref 18), some (.int l1), some (.int l2)] [] h
  unfold w_X1_at_18 at H
  refine zg_aload_n (pc := 0) dX1_at_0 rfl rfl ?_
  refine zg_getR (pc := 1) dX1_at_1 lf_X1_9 kC_18 (by decide) rfl ?_
  refine zg_iload_n (pc := 4) dX1_at_4 rfl rfl ?_
  refine zg_iconst (pc := 5) dX1_at_5 (v := 3) (by decide) ?_
  refine zg_imul (pc := 6) dX1_at_6 ?_
  refine zg_iload_n (pc := 7) dX1_at_7 rfl rfl ?_
  refine zg_iadd (pc := 8) dX1_at_8 ?_
  obtain ⟨hb, H⟩ := H
  refine zg_iald (pc := 9) dX1_at_9 kC_19 (by decide) hb ?_
  exact zg_iret (pc := 10) dX1_at_10 rfl ⟨_, rfl, H⟩
set_option maxRecDepth 100000 in
theorem sd_X8_back (d : Nat)  {h : zz_Hp} {Q : Int32 → zz_Hp → Prop} (H : w_X8_back  h Q) : zz_G zKC zNC (d + 3) mX8_back (qI Q) 0 (zz_L0 2 [.ref 0]) [] h := by
  show zz_G zKC zNC (d + 3) mX8_back (qI Q) 0 [some (.ref 0), none] [] h
  unfold w_X8_back at H
  refine zg_aload_n (pc := 0) dX8_back_0 rfl rfl ?_
  refine zg_getR (pc := 1) dX8_back_1 lf_X8_30 kC_0 (by decide) rfl ?_
  refine zg_getI (pc := 4) dX8_back_4 lf_X8_224 kC_18 (by decide) rfl ?_
  refine zg_if_ne (pc := 7) dX8_back_7 (tgt := 13) (by decide) (fun hc => ?_) (fun hc => ?_)
  · replace H := H.1 hc
    refine zg_aload_n (pc := 13) dX8_back_13 rfl rfl ?_
    refine zg_getR (pc := 14) dX8_back_14 lf_X8_30 kC_0 (by decide) rfl ?_
    refine zg_getI (pc := 17) dX8_back_17 lf_X8_224 kC_18 (by decide) rfl ?_
    refine zg_iconst (pc := 20) dX8_back_20 (v := 1) (by decide) ?_
    refine zg_isub (pc := 21) dX8_back_21 ?_
    refine zg_istore_n (pc := 22) dX8_back_22 rfl (by decide) (L' := [some (.ref 0), some (.int ((h.1 18 0) - 1))]) rfl ?_
    refine zg_aload_n (pc := 23) dX8_back_23 rfl rfl ?_
    refine zg_getR (pc := 24) dX8_back_24 lf_X8_12 kC_0 (by decide) rfl ?_
    refine zg_getR (pc := 27) dX8_back_27 lf_X8_75 kC_1 (by decide) rfl ?_
    refine zg_aload_n (pc := 30) dX8_back_30 rfl rfl ?_
    refine zg_getR (pc := 31) dX8_back_31 lf_X8_30 kC_0 (by decide) rfl ?_
    refine zg_iload_n (pc := 34) dX8_back_34 rfl rfl ?_
    refine zg_iconst (pc := 35) dX8_back_35 (v := 0) (by decide) ?_
    refine zg_callVi (st := [.ref 2]) (pc := 36) dX8_back_36 (As := [.int ((h.1 18 0) - 1), .int 0]) lk_X8_270 kC_18 (by decide) rfl (Nat.le_of_ble_eq_true rfl) (Nat.le_of_ble_eq_true rfl) (sd_X1_at_18 (d + 2) H) (fun r2 h1 H => ?_)
    refine zg_aload_n (pc := 39) dX8_back_39 rfl rfl ?_
    refine zg_getR (pc := 40) dX8_back_40 lf_X8_30 kC_0 (by decide) rfl ?_
    refine zg_iload_n (pc := 43) dX8_back_43 rfl rfl ?_
    refine zg_iconst (pc := 44) dX8_back_44 (v := 1) (by decide) ?_
    refine zg_callVi (st := [.int r2, .ref 2]) (pc := 45) dX8_back_45 (As := [.int ((h.1 18 0) - 1), .int 1]) lk_X8_270 kC_18 (by decide) rfl (Nat.le_of_ble_eq_true rfl) (Nat.le_of_ble_eq_true rfl) (sd_X1_at_18 (d + 2) H) (fun r4 h3 H => ?_)
    refine zg_aload_n (pc := 48) dX8_back_48 rfl rfl ?_
    refine zg_getR (pc := 49) dX8_back_49 lf_X8_30 kC_0 (by decide) rfl ?_
    refine zg_iload_n (pc := 52) dX8_back_52 rfl rfl ?_
    refine zg_iconst (pc := 53) dX8_back_53 (v := 2) (by decide) ?_
    refine zg_callVi (st := [.int r4, .int r2, .ref 2]) (pc := 54) dX8_back_54 (As := [.int ((h.1 18 0) - 1), .int 2]) lk_X8_270 kC_18 (by decide) rfl (Nat.le_of_ble_eq_true rfl) (Nat.le_of_ble_eq_true rfl) (sd_X1_at_18 (d + 2) H) (fun r6 h5 H => ?_)
    refine zg_callVi (st := []) (pc := 57) dX8_back_57 (As := [.int r2, .int r4, .int r6]) lk_X8_107 kC_2 (by decide) rfl (Nat.le_of_ble_eq_true rfl) (Nat.le_of_ble_eq_true rfl) (sd_X7_tell d H) (fun r8 h7 H => ?_)
    refine zg_pop (pc := 60) dX8_back_60 rfl ?_
    refine zg_aload_n (pc := 61) dX8_back_61 rfl rfl ?_
    refine zg_getR (pc := 62) dX8_back_62 lf_X8_30 kC_0 (by decide) rfl ?_
    refine zg_iload_n (pc := 65) dX8_back_65 rfl rfl ?_
    refine zg_callVv (st := []) (pc := 66) dX8_back_66 (As := [.int ((h.1 18 0) - 1)]) lk_X8_114 kC_18 (by decide) rfl (Nat.le_of_ble_eq_true rfl) (Nat.le_of_ble_eq_true rfl) (sd_X1_drop_18 (d + 1) H) (fun h9 H => ?_)
    refine zg_aload_n (pc := 69) dX8_back_69 rfl rfl ?_
    refine zg_getR (pc := 70) dX8_back_70 lf_X8_30 kC_0 (by decide) rfl ?_
    refine zg_getI (pc := 73) dX8_back_73 lf_X8_224 kC_18 (by decide) rfl ?_
    exact zg_iret (pc := 76) dX8_back_76 rfl ⟨_, rfl, H⟩
  · replace H := H.2 hc
    refine zg_bipush (pc := 10) dX8_back_10 (v := (-5)) (by decide) ?_
    exact zg_iret (pc := 12) dX8_back_12 rfl ⟨_, rfl, H⟩
set_option maxRecDepth 100000 in
theorem sd_X5_add (d : Nat) {l1 : Int32} {h : zz_Hp} {Q : Int32 → zz_Hp → Prop} (H : w_X5_add l1 h Q) : zz_G zKC zNC (d + 0) mX5_add (qI Q) 0 (zz_L0 2 [.ref 24, .int l1]) [] h := by
  show zz_G zKC zNC (d + 0) mX5_add (qI Q) 0 [some (.ref 24), some (.int l1)] [] h
  unfold w_X5_add at H
  refine zg_aload_n (pc := 0) dX5_add_0 rfl rfl ?_
  refine zg_getI (pc := 1) dX5_add_1 lf_X5_19 kC_24 (by decide) rfl ?_
  refine zg_bipush (pc := 4) dX5_add_4 (v := 80) (by decide) ?_
  refine zg_icmp_lt (pc := 6) dX5_add_6 (tgt := 11) (by decide) (fun hc => ?_) (fun hc => ?_)
  · replace H := H.1 hc
    refine zg_aload_n (pc := 11) dX5_add_11 rfl rfl ?_
    refine zg_getR (pc := 12) dX5_add_12 lf_X5_15 kC_24 (by decide) rfl ?_
    refine zg_aload_n (pc := 15) dX5_add_15 rfl rfl ?_
    refine zg_getI (pc := 16) dX5_add_16 lf_X5_19 kC_24 (by decide) rfl ?_
    refine zg_iload_n (pc := 19) dX5_add_19 rfl rfl ?_
    refine zg_i2b (pc := 20) dX5_add_20 ?_
    obtain ⟨hb, H⟩ := H
    refine zg_bast (pc := 21) dX5_add_21 kC_26 (by decide) hb ?_
    generalize eh1 : zz_uI h 26 (Int32.toNatClampNeg (h.1 24 0)) (Int8.toInt32 (Int32.toInt8 (Int8.toInt32 (Int32.toInt8 l1)))) = h1
    replace H := H h1 eh1.symm
    refine zg_aload_n (pc := 22) dX5_add_22 rfl rfl ?_
    refine zg_dup (pc := 23) dX5_add_23 rfl ?_
    refine zg_getI (pc := 24) dX5_add_24 lf_X5_19 kC_24 (by decide) rfl ?_
    refine zg_iconst (pc := 27) dX5_add_27 (v := 1) (by decide) ?_
    refine zg_iadd (pc := 28) dX5_add_28 ?_
    refine zg_putI (pc := 29) dX5_add_29 lp_X5_19 kC_24 (by decide) rfl ?_
    generalize eh2 : zz_uI h1 24 0 ((h1.1 24 0) + 1) = h2
    replace H := H h2 eh2.symm
    refine zg_iconst (pc := 32) dX5_add_32 (v := 1) (by decide) ?_
    exact zg_zret (pc := 33) dX5_add_33 (Or.inr rfl) rfl ⟨_, rfl, H⟩
  · replace H := H.2 hc
    refine zg_iconst (pc := 9) dX5_add_9 (v := 0) (by decide) ?_
    exact zg_zret (pc := 10) dX5_add_10 (Or.inl rfl) rfl ⟨_, rfl, H⟩
set_option maxRecDepth 100000 in
theorem sd_X8_feed (d : Nat) {l1 : Int32} {h : zz_Hp} {Q : Int32 → zz_Hp → Prop} (H : w_X8_feed l1 h Q) : zz_G zKC zNC (d + 1) mX8_feed (qI Q) 0 (zz_L0 2 [.ref 0, .int l1]) [] h := by
  show zz_G zKC zNC (d + 1) mX8_feed (qI Q) 0 [some (.ref 0), some (.int l1)] [] h
  unfold w_X8_feed at H
  refine zg_iload_n (pc := 0) dX8_feed_0 rfl rfl ?_
  refine zg_bipush (pc := 1) dX8_feed_1 (v := 32) (by decide) ?_
  refine zg_bipush (pc := 3) dX8_feed_3 (v := 126) (by decide) ?_
  refine zg_callSi (st := []) (pc := 5) dX8_feed_5 (As := [.int l1, .int 32, .int 126]) lk_X8_121 rfl (Nat.le_of_ble_eq_true rfl) (Nat.le_of_ble_eq_true rfl) (sd_X8_inRange d H) (fun r2 h1 H => ?_)
  refine zg_if_ne (pc := 8) dX8_feed_8 (tgt := 13) (by decide) (fun hc => ?_) (fun hc => ?_)
  · replace H := H.1 hc
    refine zg_aload_n (pc := 13) dX8_feed_13 rfl rfl ?_
    refine zg_getR (pc := 14) dX8_feed_14 lf_X8_47 kC_0 (by decide) rfl ?_
    refine zg_iload_n (pc := 17) dX8_feed_17 rfl rfl ?_
    refine zg_callVi (st := []) (pc := 18) dX8_feed_18 (As := [.int l1]) lk_X8_276 kC_24 (by decide) rfl (Nat.le_of_ble_eq_true rfl) (Nat.le_of_ble_eq_true rfl) (sd_X5_add d H) (fun r4 h3 H => ?_)
    refine zg_if_eq (pc := 21) dX8_feed_21 (tgt := 34) (by decide) (fun hc => ?_) (fun hc => ?_)
    · replace H := H.1 hc
      refine zg_bipush (pc := 34) dX8_feed_34 (v := (-3)) (by decide) ?_
      exact zg_iret (pc := 36) dX8_feed_36 rfl ⟨_, rfl, H⟩
    · replace H := H.2 hc
      refine zg_aload_n (pc := 24) dX8_feed_24 rfl rfl ?_
      refine zg_getR (pc := 25) dX8_feed_25 lf_X8_47 kC_0 (by decide) rfl ?_
      refine zg_getI (pc := 28) dX8_feed_28 lf_X8_278 kC_24 (by decide) rfl ?_
      refine zg_goto (pc := 31) dX8_feed_31 (tgt := 36) (by decide) ?_
      exact zg_iret (pc := 36) dX8_feed_36 rfl ⟨_, rfl, H⟩
  · replace H := H.2 hc
    refine zg_iconst (pc := 11) dX8_feed_11 (v := (-1)) (by decide) ?_
    exact zg_iret (pc := 12) dX8_feed_12 rfl ⟨_, rfl, H⟩
set_option maxRecDepth 100000 in
theorem sd_X8_wipe (d : Nat)  {h : zz_Hp} {Q : Int32 → zz_Hp → Prop} (H : w_X8_wipe  h Q) : zz_G zKC zNC (d + 0) mX8_wipe (qI Q) 0 (zz_L0 2 [.ref 0]) [] h := by
  show zz_G zKC zNC (d + 0) mX8_wipe (qI Q) 0 [some (.ref 0), none] [] h
  unfold w_X8_wipe at H
  refine zg_aload_n (pc := 0) dX8_wipe_0 rfl rfl ?_
  refine zg_getR (pc := 1) dX8_wipe_1 lf_X8_47 kC_0 (by decide) rfl ?_
  refine zg_getI (pc := 4) dX8_wipe_4 lf_X8_278 kC_24 (by decide) rfl ?_
  refine zg_istore_n (pc := 7) dX8_wipe_7 rfl (by decide) (L' := [some (.ref 0), some (.int (h.1 24 0))]) rfl ?_
  refine zg_aload_n (pc := 8) dX8_wipe_8 rfl rfl ?_
  refine zg_getR (pc := 9) dX8_wipe_9 lf_X8_47 kC_0 (by decide) rfl ?_
  refine zg_iconst (pc := 12) dX8_wipe_12 (v := 0) (by decide) ?_
  refine zg_putI (pc := 13) dX8_wipe_13 lp_X8_278 kC_24 (by decide) rfl ?_
  generalize eh1 : zz_uI h 24 0 0 = h1
  replace H := H h1 eh1.symm
  refine zg_iload_n (pc := 16) dX8_wipe_16 rfl rfl ?_
  exact zg_iret (pc := 17) dX8_wipe_17 rfl ⟨_, rfl, H⟩
set_option maxRecDepth 100000 in
theorem sd_X5_rewind (d : Nat)  {h : zz_Hp} {Q : zz_Hp → Prop} (H : w_X5_rewind  h Q) : zz_G zKC zNC (d + 0) mX5_rewind (qV Q) 0 (zz_L0 1 [.ref 24]) [] h := by
  show zz_G zKC zNC (d + 0) mX5_rewind (qV Q) 0 [some (.ref 24)] [] h
  unfold w_X5_rewind at H
  refine zg_aload_n (pc := 0) dX5_rewind_0 rfl rfl ?_
  refine zg_iconst (pc := 1) dX5_rewind_1 (v := 0) (by decide) ?_
  refine zg_putI (pc := 2) dX5_rewind_2 lp_X5_23 kC_24 (by decide) rfl ?_
  generalize eh1 : zz_uI h 24 4 0 = h1
  replace H := H h1 eh1.symm
  exact zg_vret (pc := 5) dX5_rewind_5 rfl ⟨rfl, H⟩
set_option maxRecDepth 100000 in
theorem sd_X5_takeNumber_j82 {d : Nat} {Q : Int32 → zz_Hp → Prop} {l1 : Int32} {l2 : Int32}  {h : zz_Hp}  (H : w_X5_takeNumber_j82 Q l1 l2 h) : zz_G zKC zNC (d + 0) mX5_takeNumber (qI Q) 82 [some (.ref 24), some (.int l1), some (.int l2)] [] h := by
  unfold w_X5_takeNumber_j82 at H
  refine zg_iload_n (pc := 82) dX5_takeNumber_82 rfl rfl ?_
  refine zg_if_eq (pc := 83) dX5_takeNumber_83 (tgt := 98) (by decide) (fun hc => ?_) (fun hc => ?_)
  · replace H := H.1 hc
    refine zg_iconst (pc := 98) dX5_takeNumber_98 (v := 0) (by decide) ?_
    exact zg_zret (pc := 99) dX5_takeNumber_99 (Or.inl rfl) rfl ⟨_, rfl, H⟩
  · replace H := H.2 hc
    refine zg_aload_n (pc := 86) dX5_takeNumber_86 rfl rfl ?_
    refine zg_getI (pc := 87) dX5_takeNumber_87 lf_X5_37 kC_24 (by decide) rfl ?_
    refine zg_aload_n (pc := 90) dX5_takeNumber_90 rfl rfl ?_
    refine zg_getR (pc := 91) dX5_takeNumber_91 lf_X5_9 kC_24 (by decide) rfl ?_
    refine zg_alen (pc := 94) dX5_takeNumber_94 (Or.inl rfl) (v := 5) (by decide) kC_25 (by decide) ?_
    refine zg_icmp_lt (pc := 95) dX5_takeNumber_95 (tgt := 100) (by decide) (fun hc => ?_) (fun hc => ?_)
    · replace H := H.1 hc
      refine zg_aload_n (pc := 100) dX5_takeNumber_100 rfl rfl ?_
      refine zg_getR (pc := 101) dX5_takeNumber_101 lf_X5_9 kC_24 (by decide) rfl ?_
      refine zg_aload_n (pc := 104) dX5_takeNumber_104 rfl rfl ?_
      refine zg_getI (pc := 105) dX5_takeNumber_105 lf_X5_37 kC_24 (by decide) rfl ?_
      refine zg_iload_n (pc := 108) dX5_takeNumber_108 rfl rfl ?_
      obtain ⟨hb, H⟩ := H
      refine zg_iast (pc := 109) dX5_takeNumber_109 kC_25 (by decide) hb ?_
      generalize eh1 : zz_uI h 25 (Int32.toNatClampNeg (h.1 24 2)) l1 = h1
      replace H := H h1 eh1.symm
      refine zg_aload_n (pc := 110) dX5_takeNumber_110 rfl rfl ?_
      refine zg_dup (pc := 111) dX5_takeNumber_111 rfl ?_
      refine zg_getI (pc := 112) dX5_takeNumber_112 lf_X5_37 kC_24 (by decide) rfl ?_
      refine zg_iconst (pc := 115) dX5_takeNumber_115 (v := 1) (by decide) ?_
      refine zg_iadd (pc := 116) dX5_takeNumber_116 ?_
      refine zg_putI (pc := 117) dX5_takeNumber_117 lp_X5_37 kC_24 (by decide) rfl ?_
      generalize eh2 : zz_uI h1 24 2 ((h1.1 24 2) + 1) = h2
      replace H := H h2 eh2.symm
      refine zg_iconst (pc := 120) dX5_takeNumber_120 (v := 1) (by decide) ?_
      exact zg_zret (pc := 121) dX5_takeNumber_121 (Or.inr rfl) rfl ⟨_, rfl, H⟩
    · replace H := H.2 hc
      refine zg_iconst (pc := 98) dX5_takeNumber_98 (v := 0) (by decide) ?_
      exact zg_zret (pc := 99) dX5_takeNumber_99 (Or.inl rfl) rfl ⟨_, rfl, H⟩
set_option maxRecDepth 100000 in
theorem sd_X5_takeNumber_l4 {d : Nat} {Q : Int32 → zz_Hp → Prop}  {l1 : Int32} {l2 : Int32} {h : zz_Hp}  (H : lp (fun s ag => w_X5_takeNumber_l4 ag Q  s.1 s.2.1 s.2.2) (l1, l2, h)) : zz_G zKC zNC (d + 0) mX5_takeNumber (qI Q) 4 [some (.ref 24), some (.int l1), some (.int l2)] [] h := by
  refine lp_sound (G := fun (s : Int32 × Int32 × zz_Hp) => zz_G zKC zNC (d + 0) mX5_takeNumber (qI Q) 4 [some (.ref 24), some (.int s.1), some (.int s.2.1)] [] s.2.2) ?_ H
  clear H
  intro s ag4 hag4 H
  obtain ⟨l1, l2, h⟩ := s
  replace hag4 : ∀ (l1 : Int32) (l2 : Int32) (h : zz_Hp), ag4 (l1, l2, h) → zz_G zKC zNC (d + 0) mX5_takeNumber (qI Q) 4 [some (.ref 24), some (.int l1), some (.int l2)] [] h := fun l1 l2 h H => hag4 (l1, l2, h) H
  replace H : w_X5_takeNumber_l4 ag4 Q  l1 l2 h := H
  show zz_G zKC zNC (d + 0) mX5_takeNumber (qI Q) 4 [some (.ref 24), some (.int l1), some (.int l2)] [] h
  unfold w_X5_takeNumber_l4 at H
  refine zg_iload_n (pc := 4) dX5_takeNumber_4 rfl rfl ?_
  refine zg_iconst (pc := 5) dX5_takeNumber_5 (v := 5) (by decide) ?_
  refine zg_icmp_ge (pc := 6) dX5_takeNumber_6 (tgt := 82) (by decide) (fun hc => ?_) (fun hc => ?_)
  · replace H := H.1 hc
    exact sd_X5_takeNumber_j82  H
  · replace H := H.2 hc
    refine zg_aload_n (pc := 9) dX5_takeNumber_9 rfl rfl ?_
    refine zg_getI (pc := 10) dX5_takeNumber_10 lf_X5_23 kC_24 (by decide) rfl ?_
    refine zg_aload_n (pc := 13) dX5_takeNumber_13 rfl rfl ?_
    refine zg_getI (pc := 14) dX5_takeNumber_14 lf_X5_19 kC_24 (by decide) rfl ?_
    refine zg_icmp_ge (pc := 17) dX5_takeNumber_17 (tgt := 82) (by decide) (fun hc => ?_) (fun hc => ?_)
    · replace H := H.1 hc
      exact sd_X5_takeNumber_j82  H
    · replace H := H.2 hc
      refine zg_aload_n (pc := 20) dX5_takeNumber_20 rfl rfl ?_
      refine zg_getR (pc := 21) dX5_takeNumber_21 lf_X5_15 kC_24 (by decide) rfl ?_
      refine zg_aload_n (pc := 24) dX5_takeNumber_24 rfl rfl ?_
      refine zg_getI (pc := 25) dX5_takeNumber_25 lf_X5_23 kC_24 (by decide) rfl ?_
      obtain ⟨hb, H⟩ := H
      refine zg_bald (pc := 28) dX5_takeNumber_28 kC_26 (by decide) hb ?_
      refine zg_bipush (pc := 29) dX5_takeNumber_29 (v := 48) (by decide) ?_
      refine zg_icmp_lt (pc := 31) dX5_takeNumber_31 (tgt := 82) (by decide) (fun hc => ?_) (fun hc => ?_)
      · replace H := H.1 hc
        exact sd_X5_takeNumber_j82  H
      · replace H := H.2 hc
        refine zg_aload_n (pc := 34) dX5_takeNumber_34 rfl rfl ?_
        refine zg_getR (pc := 35) dX5_takeNumber_35 lf_X5_15 kC_24 (by decide) rfl ?_
        refine zg_aload_n (pc := 38) dX5_takeNumber_38 rfl rfl ?_
        refine zg_getI (pc := 39) dX5_takeNumber_39 lf_X5_23 kC_24 (by decide) rfl ?_
        obtain ⟨hb, H⟩ := H
        refine zg_bald (pc := 42) dX5_takeNumber_42 kC_26 (by decide) hb ?_
        refine zg_bipush (pc := 43) dX5_takeNumber_43 (v := 57) (by decide) ?_
        refine zg_icmp_gt (pc := 45) dX5_takeNumber_45 (tgt := 82) (by decide) (fun hc => ?_) (fun hc => ?_)
        · replace H := H.1 hc
          exact sd_X5_takeNumber_j82  H
        · replace H := H.2 hc
          refine zg_iload_n (pc := 48) dX5_takeNumber_48 rfl rfl ?_
          refine zg_bipush (pc := 49) dX5_takeNumber_49 (v := 10) (by decide) ?_
          refine zg_imul (pc := 51) dX5_takeNumber_51 ?_
          refine zg_aload_n (pc := 52) dX5_takeNumber_52 rfl rfl ?_
          refine zg_getR (pc := 53) dX5_takeNumber_53 lf_X5_15 kC_24 (by decide) rfl ?_
          refine zg_aload_n (pc := 56) dX5_takeNumber_56 rfl rfl ?_
          refine zg_getI (pc := 57) dX5_takeNumber_57 lf_X5_23 kC_24 (by decide) rfl ?_
          obtain ⟨hb, H⟩ := H
          refine zg_bald (pc := 60) dX5_takeNumber_60 kC_26 (by decide) hb ?_
          refine zg_iadd (pc := 61) dX5_takeNumber_61 ?_
          refine zg_bipush (pc := 62) dX5_takeNumber_62 (v := 48) (by decide) ?_
          refine zg_isub (pc := 64) dX5_takeNumber_64 ?_
          refine zg_istore_n (pc := 65) dX5_takeNumber_65 rfl (by decide) (L' := [some (.ref 24), some (.int (((l1 * 10) + (h.1 26 (Int32.toNatClampNeg (h.1 24 4)))) - 48)), some (.int l2)]) rfl ?_
          refine zg_iinc (pc := 66) dX5_takeNumber_66 rfl (v := l2 + 1) rfl (by decide) (L' := [some (.ref 24), some (.int (((l1 * 10) + (h.1 26 (Int32.toNatClampNeg (h.1 24 4)))) - 48)), some (.int (l2 + 1))]) rfl ?_
          refine zg_aload_n (pc := 69) dX5_takeNumber_69 rfl rfl ?_
          refine zg_dup (pc := 70) dX5_takeNumber_70 rfl ?_
          refine zg_getI (pc := 71) dX5_takeNumber_71 lf_X5_23 kC_24 (by decide) rfl ?_
          refine zg_iconst (pc := 74) dX5_takeNumber_74 (v := 1) (by decide) ?_
          refine zg_iadd (pc := 75) dX5_takeNumber_75 ?_
          refine zg_putI (pc := 76) dX5_takeNumber_76 lp_X5_23 kC_24 (by decide) rfl ?_
          generalize eh3 : zz_uI h 24 4 ((h.1 24 4) + 1) = h3
          replace H := H h3 eh3.symm
          refine zg_goto (pc := 79) dX5_takeNumber_79 (tgt := 4) (by decide) ?_
          exact hag4 (((l1 * 10) + (h.1 26 (Int32.toNatClampNeg (h.1 24 4)))) - 48) (l2 + 1) _ H
set_option maxRecDepth 100000 in
theorem sd_X5_takeNumber (d : Nat)  {h : zz_Hp} {Q : Int32 → zz_Hp → Prop} (H : w_X5_takeNumber  h Q) : zz_G zKC zNC (d + 0) mX5_takeNumber (qI Q) 0 (zz_L0 3 [.ref 24]) [] h := by
  show zz_G zKC zNC (d + 0) mX5_takeNumber (qI Q) 0 [some (.ref 24), none, none] [] h
  unfold w_X5_takeNumber at H
  refine zg_iconst (pc := 0) dX5_takeNumber_0 (v := 0) (by decide) ?_
  refine zg_istore_n (pc := 1) dX5_takeNumber_1 rfl (by decide) (L' := [some (.ref 24), some (.int 0), none]) rfl ?_
  refine zg_iconst (pc := 2) dX5_takeNumber_2 (v := 0) (by decide) ?_
  refine zg_istore_n (pc := 3) dX5_takeNumber_3 rfl (by decide) (L' := [some (.ref 24), some (.int 0), some (.int 0)]) rfl ?_
  exact sd_X5_takeNumber_l4  H
set_option maxRecDepth 100000 in
theorem sd_X5_takeSign (d : Nat) {l1 : Int32} {h : zz_Hp} {Q : Int32 → zz_Hp → Prop} (H : w_X5_takeSign l1 h Q) : zz_G zKC zNC (d + 0) mX5_takeSign (qI Q) 0 (zz_L0 2 [.ref 24, .int l1]) [] h := by
  show zz_G zKC zNC (d + 0) mX5_takeSign (qI Q) 0 [some (.ref 24), some (.int l1)] [] h
  unfold w_X5_takeSign at H
  refine zg_aload_n (pc := 0) dX5_takeSign_0 rfl rfl ?_
  refine zg_getI (pc := 1) dX5_takeSign_1 lf_X5_23 kC_24 (by decide) rfl ?_
  refine zg_aload_n (pc := 4) dX5_takeSign_4 rfl rfl ?_
  refine zg_getI (pc := 5) dX5_takeSign_5 lf_X5_19 kC_24 (by decide) rfl ?_
  refine zg_icmp_ge (pc := 8) dX5_takeSign_8 (tgt := 24) (by decide) (fun hc => ?_) (fun hc => ?_)
  · replace H := H.1 hc
    refine zg_iconst (pc := 24) dX5_takeSign_24 (v := 0) (by decide) ?_
    exact zg_zret (pc := 25) dX5_takeSign_25 (Or.inl rfl) rfl ⟨_, rfl, H⟩
  · replace H := H.2 hc
    refine zg_aload_n (pc := 11) dX5_takeSign_11 rfl rfl ?_
    refine zg_getR (pc := 12) dX5_takeSign_12 lf_X5_15 kC_24 (by decide) rfl ?_
    refine zg_aload_n (pc := 15) dX5_takeSign_15 rfl rfl ?_
    refine zg_getI (pc := 16) dX5_takeSign_16 lf_X5_23 kC_24 (by decide) rfl ?_
    obtain ⟨hb, H⟩ := H
    refine zg_bald (pc := 19) dX5_takeSign_19 kC_26 (by decide) hb ?_
    refine zg_iload_n (pc := 20) dX5_takeSign_20 rfl rfl ?_
    refine zg_icmp_eq (pc := 21) dX5_takeSign_21 (tgt := 26) (by decide) (fun hc => ?_) (fun hc => ?_)
    · replace H := H.1 hc
      refine zg_aload_n (pc := 26) dX5_takeSign_26 rfl rfl ?_
      refine zg_dup (pc := 27) dX5_takeSign_27 rfl ?_
      refine zg_getI (pc := 28) dX5_takeSign_28 lf_X5_23 kC_24 (by decide) rfl ?_
      refine zg_iconst (pc := 31) dX5_takeSign_31 (v := 1) (by decide) ?_
      refine zg_iadd (pc := 32) dX5_takeSign_32 ?_
      refine zg_putI (pc := 33) dX5_takeSign_33 lp_X5_23 kC_24 (by decide) rfl ?_
      generalize eh1 : zz_uI h 24 4 ((h.1 24 4) + 1) = h1
      replace H := H h1 eh1.symm
      refine zg_iconst (pc := 36) dX5_takeSign_36 (v := 1) (by decide) ?_
      exact zg_zret (pc := 37) dX5_takeSign_37 (Or.inr rfl) rfl ⟨_, rfl, H⟩
    · replace H := H.2 hc
      refine zg_iconst (pc := 24) dX5_takeSign_24 (v := 0) (by decide) ?_
      exact zg_zret (pc := 25) dX5_takeSign_25 (Or.inl rfl) rfl ⟨_, rfl, H⟩
set_option maxRecDepth 100000 in
theorem sd_X5_takeParts_j32 {d : Nat} {ag2 : Int32 × zz_Hp → Prop} {Q : Int32 → zz_Hp → Prop} {l1 : Int32}  {h : zz_Hp} (hag2 : ∀ (l1 : Int32) (h : zz_Hp), ag2 (l1, h) → zz_G zKC zNC (d + 1) mX5_takeParts (qI Q) 2 [some (.ref 24), some (.int l1)] [] h) (H : w_X5_takeParts_j32 ag2 Q l1 h) : zz_G zKC zNC (d + 1) mX5_takeParts (qI Q) 32 [some (.ref 24), some (.int l1)] [] h := by
  unfold w_X5_takeParts_j32 at H
  refine zg_iload_n (pc := 32) dX5_takeParts_32 rfl rfl ?_
  refine zg_iconst (pc := 33) dX5_takeParts_33 (v := 4) (by decide) ?_
  refine zg_icmp_eq (pc := 34) dX5_takeParts_34 (tgt := 46) (by decide) (fun hc => ?_) (fun hc => ?_)
  · replace H := H.1 hc
    refine zg_iconst (pc := 46) dX5_takeParts_46 (v := 0) (by decide) ?_
    exact zg_zret (pc := 47) dX5_takeParts_47 (Or.inl rfl) rfl ⟨_, rfl, H⟩
  · replace H := H.2 hc
    refine zg_aload_n (pc := 37) dX5_takeParts_37 rfl rfl ?_
    refine zg_bipush (pc := 38) dX5_takeParts_38 (v := 44) (by decide) ?_
    refine zg_callVi (st := []) (pc := 40) dX5_takeParts_40 (As := [.int 44]) lk_X5_33 kC_24 (by decide) rfl (Nat.le_of_ble_eq_true rfl) (Nat.le_of_ble_eq_true rfl) (sd_X5_takeSign d H) (fun r4 h3 H => ?_)
    refine zg_if_ne (pc := 43) dX5_takeParts_43 (tgt := 48) (by decide) (fun hc => ?_) (fun hc => ?_)
    · replace H := H.1 hc
      refine zg_iinc (pc := 48) dX5_takeParts_48 rfl (v := l1 + 1) rfl (by decide) (L' := [some (.ref 24), some (.int (l1 + 1))]) rfl ?_
      refine zg_goto (pc := 51) dX5_takeParts_51 (tgt := 2) (by decide) ?_
      exact hag2 (l1 + 1) _ H
    · replace H := H.2 hc
      refine zg_iconst (pc := 46) dX5_takeParts_46 (v := 0) (by decide) ?_
      exact zg_zret (pc := 47) dX5_takeParts_47 (Or.inl rfl) rfl ⟨_, rfl, H⟩
set_option maxRecDepth 100000 in
theorem sd_X5_takeParts_l2 {d : Nat} {Q : Int32 → zz_Hp → Prop}  {l1 : Int32} {h : zz_Hp}  (H : lp (fun s ag => w_X5_takeParts_l2 ag Q  s.1 s.2) (l1, h)) : zz_G zKC zNC (d + 1) mX5_takeParts (qI Q) 2 [some (.ref 24), some (.int l1)] [] h := by
  refine lp_sound (G := fun (s : Int32 × zz_Hp) => zz_G zKC zNC (d + 1) mX5_takeParts (qI Q) 2 [some (.ref 24), some (.int s.1)] [] s.2) ?_ H
  clear H
  intro s ag2 hag2 H
  obtain ⟨l1, h⟩ := s
  replace hag2 : ∀ (l1 : Int32) (h : zz_Hp), ag2 (l1, h) → zz_G zKC zNC (d + 1) mX5_takeParts (qI Q) 2 [some (.ref 24), some (.int l1)] [] h := fun l1 h H => hag2 (l1, h) H
  replace H : w_X5_takeParts_l2 ag2 Q  l1 h := H
  show zz_G zKC zNC (d + 1) mX5_takeParts (qI Q) 2 [some (.ref 24), some (.int l1)] [] h
  unfold w_X5_takeParts_l2 at H
  refine zg_iload_n (pc := 2) dX5_takeParts_2 rfl rfl ?_
  refine zg_iconst (pc := 3) dX5_takeParts_3 (v := 4) (by decide) ?_
  refine zg_icmp_gt (pc := 4) dX5_takeParts_4 (tgt := 54) (by decide) (fun hc => ?_) (fun hc => ?_)
  · replace H := H.1 hc
    refine zg_iconst (pc := 54) dX5_takeParts_54 (v := 0) (by decide) ?_
    exact zg_zret (pc := 55) dX5_takeParts_55 (Or.inl rfl) rfl ⟨_, rfl, H⟩
  · replace H := H.2 hc
    refine zg_aload_n (pc := 7) dX5_takeParts_7 rfl rfl ?_
    refine zg_callVi (st := []) (pc := 8) dX5_takeParts_8 (As := []) lk_X5_43 kC_24 (by decide) rfl (Nat.le_of_ble_eq_true rfl) (Nat.le_of_ble_eq_true rfl) (sd_X5_takeNumber d H) (fun r2 h1 H => ?_)
    refine zg_if_ne (pc := 11) dX5_takeParts_11 (tgt := 16) (by decide) (fun hc => ?_) (fun hc => ?_)
    · replace H := H.1 hc
      refine zg_iload_n (pc := 16) dX5_takeParts_16 rfl rfl ?_
      refine zg_iconst (pc := 17) dX5_takeParts_17 (v := 2) (by decide) ?_
      refine zg_icmp_lt (pc := 18) dX5_takeParts_18 (tgt := 32) (by decide) (fun hc => ?_) (fun hc => ?_)
      · replace H := H.1 hc
        exact sd_X5_takeParts_j32 hag2 H
      · replace H := H.2 hc
        refine zg_aload_n (pc := 21) dX5_takeParts_21 rfl rfl ?_
        refine zg_bipush (pc := 22) dX5_takeParts_22 (v := 58) (by decide) ?_
        refine zg_callVi (st := []) (pc := 24) dX5_takeParts_24 (As := [.int 58]) lk_X5_33 kC_24 (by decide) rfl (Nat.le_of_ble_eq_true rfl) (Nat.le_of_ble_eq_true rfl) (sd_X5_takeSign d H) (fun r6 h5 H => ?_)
        refine zg_if_eq (pc := 27) dX5_takeParts_27 (tgt := 32) (by decide) (fun hc => ?_) (fun hc => ?_)
        · replace H := H.1 hc
          exact sd_X5_takeParts_j32 hag2 H
        · replace H := H.2 hc
          refine zg_iconst (pc := 30) dX5_takeParts_30 (v := 1) (by decide) ?_
          exact zg_zret (pc := 31) dX5_takeParts_31 (Or.inr rfl) rfl ⟨_, rfl, H⟩
    · replace H := H.2 hc
      refine zg_iconst (pc := 14) dX5_takeParts_14 (v := 0) (by decide) ?_
      exact zg_zret (pc := 15) dX5_takeParts_15 (Or.inl rfl) rfl ⟨_, rfl, H⟩
set_option maxRecDepth 100000 in
theorem sd_X5_takeParts (d : Nat)  {h : zz_Hp} {Q : Int32 → zz_Hp → Prop} (H : w_X5_takeParts  h Q) : zz_G zKC zNC (d + 1) mX5_takeParts (qI Q) 0 (zz_L0 2 [.ref 24]) [] h := by
  show zz_G zKC zNC (d + 1) mX5_takeParts (qI Q) 0 [some (.ref 24), none] [] h
  unfold w_X5_takeParts at H
  refine zg_iconst (pc := 0) dX5_takeParts_0 (v := 1) (by decide) ?_
  refine zg_istore_n (pc := 1) dX5_takeParts_1 rfl (by decide) (L' := [some (.ref 24), some (.int 1)]) rfl ?_
  exact sd_X5_takeParts_l2  H
set_option maxRecDepth 100000 in
theorem sd_X5_takeTwist (d : Nat)  {h : zz_Hp} {Q : Int32 → zz_Hp → Prop} (H : w_X5_takeTwist  h Q) : zz_G zKC zNC (d + 1) mX5_takeTwist (qI Q) 0 (zz_L0 2 [.ref 24]) [] h := by
  show zz_G zKC zNC (d + 1) mX5_takeTwist (qI Q) 0 [some (.ref 24), none] [] h
  unfold w_X5_takeTwist at H
  refine zg_aload_n (pc := 0) dX5_takeTwist_0 rfl rfl ?_
  refine zg_bipush (pc := 1) dX5_takeTwist_1 (v := 45) (by decide) ?_
  refine zg_callVi (st := []) (pc := 3) dX5_takeTwist_3 (As := [.int 45]) lk_X5_33 kC_24 (by decide) rfl (Nat.le_of_ble_eq_true rfl) (Nat.le_of_ble_eq_true rfl) (sd_X5_takeSign d H) (fun r2 h1 H => ?_)
  refine zg_istore_n (pc := 6) dX5_takeTwist_6 rfl (by decide) (L' := [some (.ref 24), some (.int r2)]) rfl ?_
  refine zg_aload_n (pc := 7) dX5_takeTwist_7 rfl rfl ?_
  refine zg_callVi (st := []) (pc := 8) dX5_takeTwist_8 (As := []) lk_X5_43 kC_24 (by decide) rfl (Nat.le_of_ble_eq_true rfl) (Nat.le_of_ble_eq_true rfl) (sd_X5_takeNumber d H) (fun r4 h3 H => ?_)
  refine zg_if_ne (pc := 11) dX5_takeTwist_11 (tgt := 16) (by decide) (fun hc => ?_) (fun hc => ?_)
  · replace H := H.1 hc
    refine zg_iload_n (pc := 16) dX5_takeTwist_16 rfl rfl ?_
    refine zg_if_eq (pc := 17) dX5_takeTwist_17 (tgt := 43) (by decide) (fun hc => ?_) (fun hc => ?_)
    · replace H := H.1 hc
      refine zg_iconst (pc := 43) dX5_takeTwist_43 (v := 1) (by decide) ?_
      exact zg_zret (pc := 44) dX5_takeTwist_44 (Or.inr rfl) rfl ⟨_, rfl, H⟩
    · replace H := H.2 hc
      refine zg_aload_n (pc := 20) dX5_takeTwist_20 rfl rfl ?_
      refine zg_getR (pc := 21) dX5_takeTwist_21 lf_X5_9 kC_24 (by decide) rfl ?_
      refine zg_aload_n (pc := 24) dX5_takeTwist_24 rfl rfl ?_
      refine zg_getI (pc := 25) dX5_takeTwist_25 lf_X5_37 kC_24 (by decide) rfl ?_
      refine zg_iconst (pc := 28) dX5_takeTwist_28 (v := 1) (by decide) ?_
      refine zg_isub (pc := 29) dX5_takeTwist_29 ?_
      refine zg_aload_n (pc := 30) dX5_takeTwist_30 rfl rfl ?_
      refine zg_getR (pc := 31) dX5_takeTwist_31 lf_X5_9 kC_24 (by decide) rfl ?_
      refine zg_aload_n (pc := 34) dX5_takeTwist_34 rfl rfl ?_
      refine zg_getI (pc := 35) dX5_takeTwist_35 lf_X5_37 kC_24 (by decide) rfl ?_
      refine zg_iconst (pc := 38) dX5_takeTwist_38 (v := 1) (by decide) ?_
      refine zg_isub (pc := 39) dX5_takeTwist_39 ?_
      obtain ⟨hb, H⟩ := H
      refine zg_iald (pc := 40) dX5_takeTwist_40 kC_25 (by decide) hb ?_
      refine zg_ineg (pc := 41) dX5_takeTwist_41 ?_
      obtain ⟨hb, H⟩ := H
      refine zg_iast (pc := 42) dX5_takeTwist_42 kC_25 (by decide) hb ?_
      generalize eh5 : zz_uI h3 25 (Int32.toNatClampNeg ((h3.1 24 2) - 1)) (-(h3.1 25 (Int32.toNatClampNeg ((h3.1 24 2) - 1)))) = h5
      replace H := H h5 eh5.symm
      refine zg_iconst (pc := 43) dX5_takeTwist_43 (v := 1) (by decide) ?_
      exact zg_zret (pc := 44) dX5_takeTwist_44 (Or.inr rfl) rfl ⟨_, rfl, H⟩
  · replace H := H.2 hc
    refine zg_iconst (pc := 14) dX5_takeTwist_14 (v := 0) (by decide) ?_
    exact zg_zret (pc := 15) dX5_takeTwist_15 (Or.inl rfl) rfl ⟨_, rfl, H⟩
set_option maxRecDepth 100000 in
theorem sd_X5_takeAct (d : Nat)  {h : zz_Hp} {Q : Int32 → zz_Hp → Prop} (H : w_X5_takeAct  h Q) : zz_G zKC zNC (d + 2) mX5_takeAct (qI Q) 0 (zz_L0 1 [.ref 24]) [] h := by
  show zz_G zKC zNC (d + 2) mX5_takeAct (qI Q) 0 [some (.ref 24)] [] h
  unfold w_X5_takeAct at H
  refine zg_aload_n (pc := 0) dX5_takeAct_0 rfl rfl ?_
  refine zg_iconst (pc := 1) dX5_takeAct_1 (v := 0) (by decide) ?_
  refine zg_putI (pc := 2) dX5_takeAct_2 lp_X5_37 kC_24 (by decide) rfl ?_
  generalize eh1 : zz_uI h 24 2 0 = h1
  replace H := H h1 eh1.symm
  refine zg_aload_n (pc := 5) dX5_takeAct_5 rfl rfl ?_
  refine zg_getI (pc := 6) dX5_takeAct_6 lf_X5_23 kC_24 (by decide) rfl ?_
  refine zg_aload_n (pc := 9) dX5_takeAct_9 rfl rfl ?_
  refine zg_getI (pc := 10) dX5_takeAct_10 lf_X5_19 kC_24 (by decide) rfl ?_
  refine zg_icmp_lt (pc := 13) dX5_takeAct_13 (tgt := 18) (by decide) (fun hc => ?_) (fun hc => ?_)
  · replace H := H.1 hc
    refine zg_aload_n (pc := 18) dX5_takeAct_18 rfl rfl ?_
    refine zg_aload_n (pc := 19) dX5_takeAct_19 rfl rfl ?_
    refine zg_getR (pc := 20) dX5_takeAct_20 lf_X5_15 kC_24 (by decide) rfl ?_
    refine zg_aload_n (pc := 23) dX5_takeAct_23 rfl rfl ?_
    refine zg_getI (pc := 24) dX5_takeAct_24 lf_X5_23 kC_24 (by decide) rfl ?_
    obtain ⟨hb, H⟩ := H
    refine zg_bald (pc := 27) dX5_takeAct_27 kC_26 (by decide) hb ?_
    refine zg_putI (pc := 28) dX5_takeAct_28 lp_X5_40 kC_24 (by decide) rfl ?_
    generalize eh2 : zz_uI h1 24 1 (h1.1 26 (Int32.toNatClampNeg (h1.1 24 4))) = h2
    replace H := H h2 eh2.symm
    refine zg_aload_n (pc := 31) dX5_takeAct_31 rfl rfl ?_
    refine zg_getI (pc := 32) dX5_takeAct_32 lf_X5_40 kC_24 (by decide) rfl ?_
    by_cases hc : (Int32.toInt (h2.1 24 1)) < 109 ∨ 116 < (Int32.toInt (h2.1 24 1))
    · refine zg_tabOut (pc := 35) dX5_takeAct_35 hc (tgt := 204) (by decide) ?_
      replace H := H.2.2.2.2.2.2.2.2 hc
      refine zg_iconst (pc := 204) dX5_takeAct_204 (v := 0) (by decide) ?_
      exact zg_zret (pc := 205) dX5_takeAct_205 (Or.inl rfl) rfl ⟨_, rfl, H⟩
    · have hx : (Int32.toInt (h2.1 24 1)) = 109 ∨ (Int32.toInt (h2.1 24 1)) = 110 ∨ (Int32.toInt (h2.1 24 1)) = 111 ∨ (Int32.toInt (h2.1 24 1)) = 112 ∨ (Int32.toInt (h2.1 24 1)) = 113 ∨ (Int32.toInt (h2.1 24 1)) = 114 ∨ (Int32.toInt (h2.1 24 1)) = 115 ∨ (Int32.toInt (h2.1 24 1)) = 116 := by omega
      rcases hx with hx | hx | hx | hx | hx | hx | hx | hx
      · refine zg_tabIn (pc := 35) dX5_takeAct_35 (by omega) (by omega) (off := 130) (by rw [hx]; rfl) (tgt := 165) (by decide) ?_
        replace H := H.1 hx
        refine zg_aload_n (pc := 165) dX5_takeAct_165 rfl rfl ?_
        refine zg_dup (pc := 166) dX5_takeAct_166 rfl ?_
        refine zg_getI (pc := 167) dX5_takeAct_167 lf_X5_23 kC_24 (by decide) rfl ?_
        refine zg_iconst (pc := 170) dX5_takeAct_170 (v := 1) (by decide) ?_
        refine zg_iadd (pc := 171) dX5_takeAct_171 ?_
        refine zg_putI (pc := 172) dX5_takeAct_172 lp_X5_23 kC_24 (by decide) rfl ?_
        generalize eh3 : zz_uI h2 24 4 ((h2.1 24 4) + 1) = h3
        replace H := H h3 eh3.symm
        refine zg_aload_n (pc := 175) dX5_takeAct_175 rfl rfl ?_
        refine zg_callVi (st := []) (pc := 176) dX5_takeAct_176 (As := []) lk_X5_43 kC_24 (by decide) rfl (Nat.le_of_ble_eq_true rfl) (Nat.le_of_ble_eq_true rfl) (sd_X5_takeNumber (d + 1) H) (fun r5 h4 H => ?_)
        refine zg_if_eq (pc := 179) dX5_takeAct_179 (tgt := 202) (by decide) (fun hc => ?_) (fun hc => ?_)
        · replace H := H.1 hc
          refine zg_iconst (pc := 202) dX5_takeAct_202 (v := 0) (by decide) ?_
          exact zg_zret (pc := 203) dX5_takeAct_203 (Or.inl rfl) rfl ⟨_, rfl, H⟩
        · replace H := H.2 hc
          refine zg_aload_n (pc := 182) dX5_takeAct_182 rfl rfl ?_
          refine zg_bipush (pc := 183) dX5_takeAct_183 (v := 44) (by decide) ?_
          refine zg_callVi (st := []) (pc := 185) dX5_takeAct_185 (As := [.int 44]) lk_X5_33 kC_24 (by decide) rfl (Nat.le_of_ble_eq_true rfl) (Nat.le_of_ble_eq_true rfl) (sd_X5_takeSign (d + 1) H) (fun r7 h6 H => ?_)
          refine zg_if_eq (pc := 188) dX5_takeAct_188 (tgt := 202) (by decide) (fun hc => ?_) (fun hc => ?_)
          · replace H := H.1 hc
            refine zg_iconst (pc := 202) dX5_takeAct_202 (v := 0) (by decide) ?_
            exact zg_zret (pc := 203) dX5_takeAct_203 (Or.inl rfl) rfl ⟨_, rfl, H⟩
          · replace H := H.2 hc
            refine zg_aload_n (pc := 191) dX5_takeAct_191 rfl rfl ?_
            refine zg_callVi (st := []) (pc := 192) dX5_takeAct_192 (As := []) lk_X5_43 kC_24 (by decide) rfl (Nat.le_of_ble_eq_true rfl) (Nat.le_of_ble_eq_true rfl) (sd_X5_takeNumber (d + 1) H) (fun r9 h8 H => ?_)
            refine zg_if_eq (pc := 195) dX5_takeAct_195 (tgt := 202) (by decide) (fun hc => ?_) (fun hc => ?_)
            · replace H := H.1 hc
              refine zg_iconst (pc := 202) dX5_takeAct_202 (v := 0) (by decide) ?_
              exact zg_zret (pc := 203) dX5_takeAct_203 (Or.inl rfl) rfl ⟨_, rfl, H⟩
            · replace H := H.2 hc
              refine zg_iconst (pc := 198) dX5_takeAct_198 (v := 1) (by decide) ?_
              refine zg_goto (pc := 199) dX5_takeAct_199 (tgt := 203) (by decide) ?_
              exact zg_zret (pc := 203) dX5_takeAct_203 (Or.inr rfl) rfl ⟨_, rfl, H⟩
      · refine zg_tabIn (pc := 35) dX5_takeAct_35 (by omega) (by omega) (off := 169) (by rw [hx]; rfl) (tgt := 204) (by decide) ?_
        replace H := H.2.1 hx
        refine zg_iconst (pc := 204) dX5_takeAct_204 (v := 0) (by decide) ?_
        exact zg_zret (pc := 205) dX5_takeAct_205 (Or.inl rfl) rfl ⟨_, rfl, H⟩
      · refine zg_tabIn (pc := 35) dX5_takeAct_35 (by omega) (by omega) (off := 169) (by rw [hx]; rfl) (tgt := 204) (by decide) ?_
        replace H := H.2.2.1 hx
        refine zg_iconst (pc := 204) dX5_takeAct_204 (v := 0) (by decide) ?_
        exact zg_zret (pc := 205) dX5_takeAct_205 (Or.inl rfl) rfl ⟨_, rfl, H⟩
      · refine zg_tabIn (pc := 35) dX5_takeAct_35 (by omega) (by omega) (off := 100) (by rw [hx]; rfl) (tgt := 135) (by decide) ?_
        replace H := H.2.2.2.1 hx
        refine zg_aload_n (pc := 135) dX5_takeAct_135 rfl rfl ?_
        refine zg_dup (pc := 136) dX5_takeAct_136 rfl ?_
        refine zg_getI (pc := 137) dX5_takeAct_137 lf_X5_23 kC_24 (by decide) rfl ?_
        refine zg_iconst (pc := 140) dX5_takeAct_140 (v := 1) (by decide) ?_
        refine zg_iadd (pc := 141) dX5_takeAct_141 ?_
        refine zg_putI (pc := 142) dX5_takeAct_142 lp_X5_23 kC_24 (by decide) rfl ?_
        generalize eh10 : zz_uI h2 24 4 ((h2.1 24 4) + 1) = h10
        replace H := H h10 eh10.symm
        refine zg_aload_n (pc := 145) dX5_takeAct_145 rfl rfl ?_
        refine zg_callVi (st := []) (pc := 146) dX5_takeAct_146 (As := []) lk_X5_49 kC_24 (by decide) rfl (Nat.le_of_ble_eq_true rfl) (Nat.le_of_ble_eq_true rfl) (sd_X5_takeParts d H) (fun r12 h11 H => ?_)
        refine zg_if_eq (pc := 149) dX5_takeAct_149 (tgt := 163) (by decide) (fun hc => ?_) (fun hc => ?_)
        · replace H := H.1 hc
          refine zg_iconst (pc := 163) dX5_takeAct_163 (v := 0) (by decide) ?_
          exact zg_zret (pc := 164) dX5_takeAct_164 (Or.inl rfl) rfl ⟨_, rfl, H⟩
        · replace H := H.2 hc
          refine zg_aload_n (pc := 152) dX5_takeAct_152 rfl rfl ?_
          refine zg_callVi (st := []) (pc := 153) dX5_takeAct_153 (As := []) lk_X5_46 kC_24 (by decide) rfl (Nat.le_of_ble_eq_true rfl) (Nat.le_of_ble_eq_true rfl) (sd_X5_takeTwist d H) (fun r14 h13 H => ?_)
          refine zg_if_eq (pc := 156) dX5_takeAct_156 (tgt := 163) (by decide) (fun hc => ?_) (fun hc => ?_)
          · replace H := H.1 hc
            refine zg_iconst (pc := 163) dX5_takeAct_163 (v := 0) (by decide) ?_
            exact zg_zret (pc := 164) dX5_takeAct_164 (Or.inl rfl) rfl ⟨_, rfl, H⟩
          · replace H := H.2 hc
            refine zg_iconst (pc := 159) dX5_takeAct_159 (v := 1) (by decide) ?_
            refine zg_goto (pc := 160) dX5_takeAct_160 (tgt := 164) (by decide) ?_
            exact zg_zret (pc := 164) dX5_takeAct_164 (Or.inr rfl) rfl ⟨_, rfl, H⟩
      · refine zg_tabIn (pc := 35) dX5_takeAct_35 (by omega) (by omega) (off := 169) (by rw [hx]; rfl) (tgt := 204) (by decide) ?_
        replace H := H.2.2.2.2.1 hx
        refine zg_iconst (pc := 204) dX5_takeAct_204 (v := 0) (by decide) ?_
        exact zg_zret (pc := 205) dX5_takeAct_205 (Or.inl rfl) rfl ⟨_, rfl, H⟩
      · refine zg_tabIn (pc := 35) dX5_takeAct_35 (by omega) (by omega) (off := 169) (by rw [hx]; rfl) (tgt := 204) (by decide) ?_
        replace H := H.2.2.2.2.2.1 hx
        refine zg_iconst (pc := 204) dX5_takeAct_204 (v := 0) (by decide) ?_
        exact zg_zret (pc := 205) dX5_takeAct_205 (Or.inl rfl) rfl ⟨_, rfl, H⟩
      · refine zg_tabIn (pc := 35) dX5_takeAct_35 (by omega) (by omega) (off := 130) (by rw [hx]; rfl) (tgt := 165) (by decide) ?_
        replace H := H.2.2.2.2.2.2.1 hx
        refine zg_aload_n (pc := 165) dX5_takeAct_165 rfl rfl ?_
        refine zg_dup (pc := 166) dX5_takeAct_166 rfl ?_
        refine zg_getI (pc := 167) dX5_takeAct_167 lf_X5_23 kC_24 (by decide) rfl ?_
        refine zg_iconst (pc := 170) dX5_takeAct_170 (v := 1) (by decide) ?_
        refine zg_iadd (pc := 171) dX5_takeAct_171 ?_
        refine zg_putI (pc := 172) dX5_takeAct_172 lp_X5_23 kC_24 (by decide) rfl ?_
        generalize eh15 : zz_uI h2 24 4 ((h2.1 24 4) + 1) = h15
        replace H := H h15 eh15.symm
        refine zg_aload_n (pc := 175) dX5_takeAct_175 rfl rfl ?_
        refine zg_callVi (st := []) (pc := 176) dX5_takeAct_176 (As := []) lk_X5_43 kC_24 (by decide) rfl (Nat.le_of_ble_eq_true rfl) (Nat.le_of_ble_eq_true rfl) (sd_X5_takeNumber (d + 1) H) (fun r17 h16 H => ?_)
        refine zg_if_eq (pc := 179) dX5_takeAct_179 (tgt := 202) (by decide) (fun hc => ?_) (fun hc => ?_)
        · replace H := H.1 hc
          refine zg_iconst (pc := 202) dX5_takeAct_202 (v := 0) (by decide) ?_
          exact zg_zret (pc := 203) dX5_takeAct_203 (Or.inl rfl) rfl ⟨_, rfl, H⟩
        · replace H := H.2 hc
          refine zg_aload_n (pc := 182) dX5_takeAct_182 rfl rfl ?_
          refine zg_bipush (pc := 183) dX5_takeAct_183 (v := 44) (by decide) ?_
          refine zg_callVi (st := []) (pc := 185) dX5_takeAct_185 (As := [.int 44]) lk_X5_33 kC_24 (by decide) rfl (Nat.le_of_ble_eq_true rfl) (Nat.le_of_ble_eq_true rfl) (sd_X5_takeSign (d + 1) H) (fun r19 h18 H => ?_)
          refine zg_if_eq (pc := 188) dX5_takeAct_188 (tgt := 202) (by decide) (fun hc => ?_) (fun hc => ?_)
          · replace H := H.1 hc
            refine zg_iconst (pc := 202) dX5_takeAct_202 (v := 0) (by decide) ?_
            exact zg_zret (pc := 203) dX5_takeAct_203 (Or.inl rfl) rfl ⟨_, rfl, H⟩
          · replace H := H.2 hc
            refine zg_aload_n (pc := 191) dX5_takeAct_191 rfl rfl ?_
            refine zg_callVi (st := []) (pc := 192) dX5_takeAct_192 (As := []) lk_X5_43 kC_24 (by decide) rfl (Nat.le_of_ble_eq_true rfl) (Nat.le_of_ble_eq_true rfl) (sd_X5_takeNumber (d + 1) H) (fun r21 h20 H => ?_)
            refine zg_if_eq (pc := 195) dX5_takeAct_195 (tgt := 202) (by decide) (fun hc => ?_) (fun hc => ?_)
            · replace H := H.1 hc
              refine zg_iconst (pc := 202) dX5_takeAct_202 (v := 0) (by decide) ?_
              exact zg_zret (pc := 203) dX5_takeAct_203 (Or.inl rfl) rfl ⟨_, rfl, H⟩
            · replace H := H.2 hc
              refine zg_iconst (pc := 198) dX5_takeAct_198 (v := 1) (by decide) ?_
              refine zg_goto (pc := 199) dX5_takeAct_199 (tgt := 203) (by decide) ?_
              exact zg_zret (pc := 203) dX5_takeAct_203 (Or.inr rfl) rfl ⟨_, rfl, H⟩
      · refine zg_tabIn (pc := 35) dX5_takeAct_35 (by omega) (by omega) (off := 45) (by rw [hx]; rfl) (tgt := 80) (by decide) ?_
        replace H := H.2.2.2.2.2.2.2.1 hx
        refine zg_aload_n (pc := 80) dX5_takeAct_80 rfl rfl ?_
        refine zg_dup (pc := 81) dX5_takeAct_81 rfl ?_
        refine zg_getI (pc := 82) dX5_takeAct_82 lf_X5_23 kC_24 (by decide) rfl ?_
        refine zg_iconst (pc := 85) dX5_takeAct_85 (v := 1) (by decide) ?_
        refine zg_iadd (pc := 86) dX5_takeAct_86 ?_
        refine zg_putI (pc := 87) dX5_takeAct_87 lp_X5_23 kC_24 (by decide) rfl ?_
        generalize eh22 : zz_uI h2 24 4 ((h2.1 24 4) + 1) = h22
        replace H := H h22 eh22.symm
        refine zg_aload_n (pc := 90) dX5_takeAct_90 rfl rfl ?_
        refine zg_callVi (st := []) (pc := 91) dX5_takeAct_91 (As := []) lk_X5_43 kC_24 (by decide) rfl (Nat.le_of_ble_eq_true rfl) (Nat.le_of_ble_eq_true rfl) (sd_X5_takeNumber (d + 1) H) (fun r24 h23 H => ?_)
        refine zg_if_eq (pc := 94) dX5_takeAct_94 (tgt := 133) (by decide) (fun hc => ?_) (fun hc => ?_)
        · replace H := H.1 hc
          refine zg_iconst (pc := 133) dX5_takeAct_133 (v := 0) (by decide) ?_
          exact zg_zret (pc := 134) dX5_takeAct_134 (Or.inl rfl) rfl ⟨_, rfl, H⟩
        · replace H := H.2 hc
          refine zg_aload_n (pc := 97) dX5_takeAct_97 rfl rfl ?_
          refine zg_bipush (pc := 98) dX5_takeAct_98 (v := 44) (by decide) ?_
          refine zg_callVi (st := []) (pc := 100) dX5_takeAct_100 (As := [.int 44]) lk_X5_33 kC_24 (by decide) rfl (Nat.le_of_ble_eq_true rfl) (Nat.le_of_ble_eq_true rfl) (sd_X5_takeSign (d + 1) H) (fun r26 h25 H => ?_)
          refine zg_if_eq (pc := 103) dX5_takeAct_103 (tgt := 133) (by decide) (fun hc => ?_) (fun hc => ?_)
          · replace H := H.1 hc
            refine zg_iconst (pc := 133) dX5_takeAct_133 (v := 0) (by decide) ?_
            exact zg_zret (pc := 134) dX5_takeAct_134 (Or.inl rfl) rfl ⟨_, rfl, H⟩
          · replace H := H.2 hc
            refine zg_aload_n (pc := 106) dX5_takeAct_106 rfl rfl ?_
            refine zg_callVi (st := []) (pc := 107) dX5_takeAct_107 (As := []) lk_X5_43 kC_24 (by decide) rfl (Nat.le_of_ble_eq_true rfl) (Nat.le_of_ble_eq_true rfl) (sd_X5_takeNumber (d + 1) H) (fun r28 h27 H => ?_)
            refine zg_if_eq (pc := 110) dX5_takeAct_110 (tgt := 133) (by decide) (fun hc => ?_) (fun hc => ?_)
            · replace H := H.1 hc
              refine zg_iconst (pc := 133) dX5_takeAct_133 (v := 0) (by decide) ?_
              exact zg_zret (pc := 134) dX5_takeAct_134 (Or.inl rfl) rfl ⟨_, rfl, H⟩
            · replace H := H.2 hc
              refine zg_aload_n (pc := 113) dX5_takeAct_113 rfl rfl ?_
              refine zg_bipush (pc := 114) dX5_takeAct_114 (v := 44) (by decide) ?_
              refine zg_callVi (st := []) (pc := 116) dX5_takeAct_116 (As := [.int 44]) lk_X5_33 kC_24 (by decide) rfl (Nat.le_of_ble_eq_true rfl) (Nat.le_of_ble_eq_true rfl) (sd_X5_takeSign (d + 1) H) (fun r30 h29 H => ?_)
              refine zg_if_eq (pc := 119) dX5_takeAct_119 (tgt := 133) (by decide) (fun hc => ?_) (fun hc => ?_)
              · replace H := H.1 hc
                refine zg_iconst (pc := 133) dX5_takeAct_133 (v := 0) (by decide) ?_
                exact zg_zret (pc := 134) dX5_takeAct_134 (Or.inl rfl) rfl ⟨_, rfl, H⟩
              · replace H := H.2 hc
                refine zg_aload_n (pc := 122) dX5_takeAct_122 rfl rfl ?_
                refine zg_callVi (st := []) (pc := 123) dX5_takeAct_123 (As := []) lk_X5_46 kC_24 (by decide) rfl (Nat.le_of_ble_eq_true rfl) (Nat.le_of_ble_eq_true rfl) (sd_X5_takeTwist d H) (fun r32 h31 H => ?_)
                refine zg_if_eq (pc := 126) dX5_takeAct_126 (tgt := 133) (by decide) (fun hc => ?_) (fun hc => ?_)
                · replace H := H.1 hc
                  refine zg_iconst (pc := 133) dX5_takeAct_133 (v := 0) (by decide) ?_
                  exact zg_zret (pc := 134) dX5_takeAct_134 (Or.inl rfl) rfl ⟨_, rfl, H⟩
                · replace H := H.2 hc
                  refine zg_iconst (pc := 129) dX5_takeAct_129 (v := 1) (by decide) ?_
                  refine zg_goto (pc := 130) dX5_takeAct_130 (tgt := 134) (by decide) ?_
                  exact zg_zret (pc := 134) dX5_takeAct_134 (Or.inr rfl) rfl ⟨_, rfl, H⟩
  · replace H := H.2 hc
    refine zg_iconst (pc := 16) dX5_takeAct_16 (v := 0) (by decide) ?_
    exact zg_zret (pc := 17) dX5_takeAct_17 (Or.inl rfl) rfl ⟨_, rfl, H⟩
set_option maxRecDepth 100000 in
theorem sd_X5_firstFault_l6 {d : Nat} {Q : Int32 → zz_Hp → Prop}  {l1 : Int32} {h : zz_Hp}  (H : lp (fun s ag => w_X5_firstFault_l6 ag Q  s.1 s.2) (l1, h)) : zz_G zKC zNC (d + 3) mX5_firstFault (qI Q) 6 [some (.ref 24), some (.int l1)] [] h := by
  refine lp_sound (G := fun (s : Int32 × zz_Hp) => zz_G zKC zNC (d + 3) mX5_firstFault (qI Q) 6 [some (.ref 24), some (.int s.1)] [] s.2) ?_ H
  clear H
  intro s ag6 hag6 H
  obtain ⟨l1, h⟩ := s
  replace hag6 : ∀ (l1 : Int32) (h : zz_Hp), ag6 (l1, h) → zz_G zKC zNC (d + 3) mX5_firstFault (qI Q) 6 [some (.ref 24), some (.int l1)] [] h := fun l1 h H => hag6 (l1, h) H
  replace H : w_X5_firstFault_l6 ag6 Q  l1 h := H
  show zz_G zKC zNC (d + 3) mX5_firstFault (qI Q) 6 [some (.ref 24), some (.int l1)] [] h
  unfold w_X5_firstFault_l6 at H
  refine zg_iload_n (pc := 6) dX5_firstFault_6 rfl rfl ?_
  refine zg_bipush (pc := 7) dX5_firstFault_7 (v := 80) (by decide) ?_
  refine zg_icmp_ge (pc := 9) dX5_firstFault_9 (tgt := 57) (by decide) (fun hc => ?_) (fun hc => ?_)
  · replace H := H.1 hc
    refine zg_aload_n (pc := 57) dX5_firstFault_57 rfl rfl ?_
    refine zg_getI (pc := 58) dX5_firstFault_58 lf_X5_23 kC_24 (by decide) rfl ?_
    exact zg_iret (pc := 61) dX5_firstFault_61 rfl ⟨_, rfl, H⟩
  · replace H := H.2 hc
    refine zg_aload_n (pc := 12) dX5_firstFault_12 rfl rfl ?_
    refine zg_callVi (st := []) (pc := 13) dX5_firstFault_13 (As := []) lk_X5_29 kC_24 (by decide) rfl (Nat.le_of_ble_eq_true rfl) (Nat.le_of_ble_eq_true rfl) (sd_X5_takeAct d H) (fun r4 h3 H => ?_)
    refine zg_if_ne (pc := 16) dX5_firstFault_16 (tgt := 24) (by decide) (fun hc => ?_) (fun hc => ?_)
    · replace H := H.1 hc
      refine zg_aload_n (pc := 24) dX5_firstFault_24 rfl rfl ?_
      refine zg_getI (pc := 25) dX5_firstFault_25 lf_X5_23 kC_24 (by decide) rfl ?_
      refine zg_aload_n (pc := 28) dX5_firstFault_28 rfl rfl ?_
      refine zg_getI (pc := 29) dX5_firstFault_29 lf_X5_19 kC_24 (by decide) rfl ?_
      refine zg_icmp_lt (pc := 32) dX5_firstFault_32 (tgt := 37) (by decide) (fun hc => ?_) (fun hc => ?_)
      · replace H := H.1 hc
        refine zg_aload_n (pc := 37) dX5_firstFault_37 rfl rfl ?_
        refine zg_bipush (pc := 38) dX5_firstFault_38 (v := 59) (by decide) ?_
        refine zg_callVi (st := []) (pc := 40) dX5_firstFault_40 (As := [.int 59]) lk_X5_33 kC_24 (by decide) rfl (Nat.le_of_ble_eq_true rfl) (Nat.le_of_ble_eq_true rfl) (sd_X5_takeSign (d + 2) H) (fun r6 h5 H => ?_)
        refine zg_if_ne (pc := 43) dX5_firstFault_43 (tgt := 51) (by decide) (fun hc => ?_) (fun hc => ?_)
        · replace H := H.1 hc
          refine zg_iinc (pc := 51) dX5_firstFault_51 rfl (v := l1 + 1) rfl (by decide) (L' := [some (.ref 24), some (.int (l1 + 1))]) rfl ?_
          refine zg_goto (pc := 54) dX5_firstFault_54 (tgt := 6) (by decide) ?_
          exact hag6 (l1 + 1) _ H
        · replace H := H.2 hc
          refine zg_aload_n (pc := 46) dX5_firstFault_46 rfl rfl ?_
          refine zg_getI (pc := 47) dX5_firstFault_47 lf_X5_23 kC_24 (by decide) rfl ?_
          exact zg_iret (pc := 50) dX5_firstFault_50 rfl ⟨_, rfl, H⟩
      · replace H := H.2 hc
        refine zg_iconst (pc := 35) dX5_firstFault_35 (v := (-1)) (by decide) ?_
        exact zg_iret (pc := 36) dX5_firstFault_36 rfl ⟨_, rfl, H⟩
    · replace H := H.2 hc
      refine zg_aload_n (pc := 19) dX5_firstFault_19 rfl rfl ?_
      refine zg_getI (pc := 20) dX5_firstFault_20 lf_X5_23 kC_24 (by decide) rfl ?_
      exact zg_iret (pc := 23) dX5_firstFault_23 rfl ⟨_, rfl, H⟩
set_option maxRecDepth 100000 in
theorem sd_X5_firstFault (d : Nat)  {h : zz_Hp} {Q : Int32 → zz_Hp → Prop} (H : w_X5_firstFault  h Q) : zz_G zKC zNC (d + 3) mX5_firstFault (qI Q) 0 (zz_L0 2 [.ref 24]) [] h := by
  show zz_G zKC zNC (d + 3) mX5_firstFault (qI Q) 0 [some (.ref 24), none] [] h
  unfold w_X5_firstFault at H
  refine zg_aload_n (pc := 0) dX5_firstFault_0 rfl rfl ?_
  refine zg_callVv (st := []) (pc := 1) dX5_firstFault_1 (As := []) lk_X5_26 kC_24 (by decide) rfl (Nat.le_of_ble_eq_true rfl) (Nat.le_of_ble_eq_true rfl) (sd_X5_rewind (d + 2) H) (fun h1 H => ?_)
  refine zg_iconst (pc := 4) dX5_firstFault_4 (v := 0) (by decide) ?_
  refine zg_istore_n (pc := 5) dX5_firstFault_5 rfl (by decide) (L' := [some (.ref 24), some (.int 0)]) rfl ?_
  exact sd_X5_firstFault_l6  H
set_option maxRecDepth 100000 in
theorem sd_X5_lastNumber (d : Nat)  {h : zz_Hp} {Q : Int32 → zz_Hp → Prop} (H : w_X5_lastNumber  h Q) : zz_G zKC zNC (d + 0) mX5_lastNumber (qI Q) 0 (zz_L0 1 [.ref 24]) [] h := by
  show zz_G zKC zNC (d + 0) mX5_lastNumber (qI Q) 0 [some (.ref 24)] [] h
  unfold w_X5_lastNumber at H
  refine zg_aload_n (pc := 0) dX5_lastNumber_0 rfl rfl ?_
  refine zg_getI (pc := 1) dX5_lastNumber_1 lf_X5_37 kC_24 (by decide) rfl ?_
  refine zg_if_le (pc := 4) dX5_lastNumber_4 (tgt := 21) (by decide) (fun hc => ?_) (fun hc => ?_)
  · replace H := H.1 hc
    refine zg_iconst (pc := 21) dX5_lastNumber_21 (v := 0) (by decide) ?_
    exact zg_iret (pc := 22) dX5_lastNumber_22 rfl ⟨_, rfl, H⟩
  · replace H := H.2 hc
    refine zg_aload_n (pc := 7) dX5_lastNumber_7 rfl rfl ?_
    refine zg_getR (pc := 8) dX5_lastNumber_8 lf_X5_9 kC_24 (by decide) rfl ?_
    refine zg_aload_n (pc := 11) dX5_lastNumber_11 rfl rfl ?_
    refine zg_getI (pc := 12) dX5_lastNumber_12 lf_X5_37 kC_24 (by decide) rfl ?_
    refine zg_iconst (pc := 15) dX5_lastNumber_15 (v := 1) (by decide) ?_
    refine zg_isub (pc := 16) dX5_lastNumber_16 ?_
    obtain ⟨hb, H⟩ := H
    refine zg_iald (pc := 17) dX5_lastNumber_17 kC_25 (by decide) hb ?_
    refine zg_goto (pc := 18) dX5_lastNumber_18 (tgt := 22) (by decide) ?_
    exact zg_iret (pc := 22) dX5_lastNumber_22 rfl ⟨_, rfl, H⟩
set_option maxRecDepth 100000 in
theorem sd_X7_join_2_25_l14 {d : Nat} {Q : zz_Hp → Prop} {l1 : Int32} {l3 : Int32} {l4 : Int32} {l5 : Int32} {l6 : Int32} {l7 : Int32} {h : zz_Hp}  (H : lp (fun s ag => w_X7_join_2_25_l14 ag Q l1 l3 s.1 s.2.1 s.2.2.1 s.2.2.2.1 s.2.2.2.2) (l4, l5, l6, l7, h)) : zz_G zKC zNC (d + 1) mX7_join (qV Q) 14 [some (.ref 2), some (.int l1), some (.ref 25), some (.int l3), some (.int l4), some (.int l5), some (.int l6), some (.int l7), none] [] h := by
  refine lp_sound (G := fun (s : Int32 × Int32 × Int32 × Int32 × zz_Hp) => zz_G zKC zNC (d + 1) mX7_join (qV Q) 14 [some (.ref 2), some (.int l1), some (.ref 25), some (.int l3), some (.int s.1), some (.int s.2.1), some (.int s.2.2.1), some (.int s.2.2.2.1), none] [] s.2.2.2.2) ?_ H
  clear H
  intro s ag14 hag14 H
  obtain ⟨l4, l5, l6, l7, h⟩ := s
  replace hag14 : ∀ (l4 : Int32) (l5 : Int32) (l6 : Int32) (l7 : Int32) (h : zz_Hp), ag14 (l4, l5, l6, l7, h) → zz_G zKC zNC (d + 1) mX7_join (qV Q) 14 [some (.ref 2), some (.int l1), some (.ref 25), some (.int l3), some (.int l4), some (.int l5), some (.int l6), some (.int l7), none] [] h := fun l4 l5 l6 l7 h H => hag14 (l4, l5, l6, l7, h) H
  replace H : w_X7_join_2_25_l14 ag14 Q l1 l3 l4 l5 l6 l7 h := H
  show zz_G zKC zNC (d + 1) mX7_join (qV Q) 14 [some (.ref 2), some (.int l1), some (.ref 25), some (.int l3), some (.int l4), some (.int l5), some (.int l6), some (.int l7), none] [] h
  unfold w_X7_join_2_25_l14 at H
  refine zg_iload (pc := 14) dX7_join_14 rfl ?_
  refine zg_iload_n (pc := 16) dX7_join_16 rfl rfl ?_
  refine zg_icmp_ge (pc := 17) dX7_join_17 (tgt := 87) (by decide) (fun hc => ?_) (fun hc => ?_)
  · replace H := H.1 hc
    refine zg_aload_n (pc := 87) dX7_join_87 rfl rfl ?_
    refine zg_iload_n (pc := 88) dX7_join_88 rfl rfl ?_
    refine zg_iconst (pc := 89) dX7_join_89 (v := 4) (by decide) ?_
    refine zg_iload_n (pc := 90) dX7_join_90 rfl rfl ?_
    refine zg_callVv (st := []) (pc := 91) dX7_join_91 (As := [.int l1, .int 4, .int l3]) lk_X7_37 kC_2 (by decide) rfl (Nat.le_of_ble_eq_true rfl) (Nat.le_of_ble_eq_true rfl) (sd_X7_write d H) (fun h1 H => ?_)
    refine zg_aload_n (pc := 94) dX7_join_94 rfl rfl ?_
    refine zg_iload_n (pc := 95) dX7_join_95 rfl rfl ?_
    refine zg_iconst (pc := 96) dX7_join_96 (v := 5) (by decide) ?_
    refine zg_iload (pc := 97) dX7_join_97 rfl ?_
    refine zg_callVv (st := []) (pc := 99) dX7_join_99 (As := [.int l1, .int 5, .int l4]) lk_X7_37 kC_2 (by decide) rfl (Nat.le_of_ble_eq_true rfl) (Nat.le_of_ble_eq_true rfl) (sd_X7_write d H) (fun h3 H => ?_)
    refine zg_aload_n (pc := 102) dX7_join_102 rfl rfl ?_
    refine zg_iload_n (pc := 103) dX7_join_103 rfl rfl ?_
    refine zg_bipush (pc := 104) dX7_join_104 (v := 6) (by decide) ?_
    refine zg_iload (pc := 106) dX7_join_106 rfl ?_
    refine zg_callVv (st := []) (pc := 108) dX7_join_108 (As := [.int l1, .int 6, .int l5]) lk_X7_37 kC_2 (by decide) rfl (Nat.le_of_ble_eq_true rfl) (Nat.le_of_ble_eq_true rfl) (sd_X7_write d H) (fun h5 H => ?_)
    refine zg_aload_n (pc := 111) dX7_join_111 rfl rfl ?_
    refine zg_iload_n (pc := 112) dX7_join_112 rfl rfl ?_
    refine zg_bipush (pc := 113) dX7_join_113 (v := 7) (by decide) ?_
    refine zg_iload (pc := 115) dX7_join_115 rfl ?_
    refine zg_callVv (st := []) (pc := 117) dX7_join_117 (As := [.int l1, .int 7, .int l6]) lk_X7_37 kC_2 (by decide) rfl (Nat.le_of_ble_eq_true rfl) (Nat.le_of_ble_eq_true rfl) (sd_X7_write d H) (fun h7 H => ?_)
    exact zg_vret (pc := 120) dX7_join_120 rfl ⟨rfl, H⟩
  · replace H := H.2 hc
    refine zg_aload_n (pc := 20) dX7_join_20 rfl rfl ?_
    refine zg_iload (pc := 21) dX7_join_21 rfl ?_
    obtain ⟨hb, H⟩ := H
    refine zg_iald (pc := 23) dX7_join_23 kC_25 (by decide) hb ?_
    refine zg_istore (pc := 24) dX7_join_24 (by decide) (L' := [some (.ref 2), some (.int l1), some (.ref 25), some (.int l3), some (.int l4), some (.int l5), some (.int l6), some (.int l7), some (.int (h.1 25 (Int32.toNatClampNeg l7)))]) rfl ?_
    refine zg_aload_n (pc := 26) dX7_join_26 rfl rfl ?_
    refine zg_getR (pc := 27) dX7_join_27 lf_X7_15 kC_2 (by decide) rfl ?_
    refine zg_iload_n (pc := 30) dX7_join_30 rfl rfl ?_
    refine zg_iconst (pc := 31) dX7_join_31 (v := 4) (by decide) ?_
    refine zg_imul (pc := 32) dX7_join_32 ?_
    refine zg_iload (pc := 33) dX7_join_33 rfl ?_
    refine zg_iadd (pc := 35) dX7_join_35 ?_
    refine zg_iload (pc := 36) dX7_join_36 rfl ?_
    obtain ⟨hb, H⟩ := H
    refine zg_iast (pc := 38) dX7_join_38 kC_4 (by decide) hb ?_
    generalize eh9 : zz_uI h 4 (Int32.toNatClampNeg ((l1 * 4) + l7)) (h.1 25 (Int32.toNatClampNeg l7)) = h9
    replace H := H h9 eh9.symm
    refine zg_iload (pc := 39) dX7_join_39 rfl ?_
    refine zg_aload_n (pc := 41) dX7_join_41 rfl rfl ?_
    refine zg_iload (pc := 42) dX7_join_42 rfl ?_
    refine zg_iconst (pc := 44) dX7_join_44 (v := 5) (by decide) ?_
    refine zg_callVi (st := [.int l4]) (pc := 45) dX7_join_45 (As := [.int (h.1 25 (Int32.toNatClampNeg l7)), .int 5]) lk_X7_26 kC_2 (by decide) rfl (Nat.le_of_ble_eq_true rfl) (Nat.le_of_ble_eq_true rfl) (sd_X7_fact d H) (fun r11 h10 H => ?_)
    refine zg_iconst (pc := 48) dX7_join_48 (v := 1) (by decide) ?_
    refine zg_iadd (pc := 49) dX7_join_49 ?_
    refine zg_mmax (pc := 50) dX7_join_50 lk_X7_52 (Nat.le_of_ble_eq_true rfl) ?_
    refine zg_istore (pc := 53) dX7_join_53 (by decide) (L' := [some (.ref 2), some (.int l1), some (.ref 25), some (.int l3), some (.int (if l4 < (r11 + 1) then (r11 + 1) else l4)), some (.int l5), some (.int l6), some (.int l7), some (.int (h.1 25 (Int32.toNatClampNeg l7)))]) rfl ?_
    refine zg_iload (pc := 55) dX7_join_55 rfl ?_
    refine zg_aload_n (pc := 57) dX7_join_57 rfl rfl ?_
    refine zg_iload (pc := 58) dX7_join_58 rfl ?_
    refine zg_bipush (pc := 60) dX7_join_60 (v := 6) (by decide) ?_
    refine zg_callVi (st := [.int l5]) (pc := 62) dX7_join_62 (As := [.int (h.1 25 (Int32.toNatClampNeg l7)), .int 6]) lk_X7_26 kC_2 (by decide) rfl (Nat.le_of_ble_eq_true rfl) (Nat.le_of_ble_eq_true rfl) (sd_X7_fact d H) (fun r13 h12 H => ?_)
    refine zg_iadd (pc := 65) dX7_join_65 ?_
    refine zg_istore (pc := 66) dX7_join_66 (by decide) (L' := [some (.ref 2), some (.int l1), some (.ref 25), some (.int l3), some (.int (if l4 < (r11 + 1) then (r11 + 1) else l4)), some (.int (l5 + r13)), some (.int l6), some (.int l7), some (.int (h.1 25 (Int32.toNatClampNeg l7)))]) rfl ?_
    refine zg_iload (pc := 68) dX7_join_68 rfl ?_
    refine zg_aload_n (pc := 70) dX7_join_70 rfl rfl ?_
    refine zg_iload (pc := 71) dX7_join_71 rfl ?_
    refine zg_bipush (pc := 73) dX7_join_73 (v := 7) (by decide) ?_
    refine zg_callVi (st := [.int l6]) (pc := 75) dX7_join_75 (As := [.int (h.1 25 (Int32.toNatClampNeg l7)), .int 7]) lk_X7_26 kC_2 (by decide) rfl (Nat.le_of_ble_eq_true rfl) (Nat.le_of_ble_eq_true rfl) (sd_X7_fact d H) (fun r15 h14 H => ?_)
    refine zg_ior (pc := 78) dX7_join_78 ?_
    refine zg_istore (pc := 79) dX7_join_79 (by decide) (L' := [some (.ref 2), some (.int l1), some (.ref 25), some (.int l3), some (.int (if l4 < (r11 + 1) then (r11 + 1) else l4)), some (.int (l5 + r13)), some (.int (l6 ||| r15)), some (.int l7), some (.int (h.1 25 (Int32.toNatClampNeg l7)))]) rfl ?_
    refine zg_iinc (pc := 81) dX7_join_81 rfl (v := l7 + 1) rfl (by decide) (L' := [some (.ref 2), some (.int l1), some (.ref 25), some (.int l3), some (.int (if l4 < (r11 + 1) then (r11 + 1) else l4)), some (.int (l5 + r13)), some (.int (l6 ||| r15)), some (.int (l7 + 1)), some (.int (h.1 25 (Int32.toNatClampNeg l7)))]) rfl ?_
    refine zg_goto (pc := 84) dX7_join_84 (tgt := 14) (by decide) ?_
    refine zg_weak (L' := [some (.ref 2), some (.int l1), some (.ref 25), some (.int l3), some (.int (if l4 < (r11 + 1) then (r11 + 1) else l4)), some (.int (l5 + r13)), some (.int (l6 ||| r15)), some (.int (l7 + 1)), none]) ⟨rfl, ⟨rfl, ⟨rfl, ⟨rfl, ⟨rfl, ⟨rfl, ⟨rfl, ⟨rfl, trivial⟩⟩⟩⟩⟩⟩⟩⟩ ?_
    exact hag14 (if l4 < (r11 + 1) then (r11 + 1) else l4) (l5 + r13) (l6 ||| r15) (l7 + 1) _ H
set_option maxRecDepth 100000 in
theorem sd_X7_join_2_25 (d : Nat) {l1 : Int32} {l3 : Int32} {h : zz_Hp} {Q : zz_Hp → Prop} (H : w_X7_join_2_25 l1 l3 h Q) : zz_G zKC zNC (d + 1) mX7_join (qV Q) 0 (zz_L0 9 [.ref 2, .int l1, .ref 25, .int l3]) [] h := by
  show zz_G zKC zNC (d + 1) mX7_join (qV Q) 0 [some (.ref 2), some (.int l1), some (.ref 25), some (.int l3), none, none, none, none, none] [] h
  unfold w_X7_join_2_25 at H
  refine zg_iconst (pc := 0) dX7_join_0 (v := 0) (by decide) ?_
  refine zg_istore (pc := 1) dX7_join_1 (by decide) (L' := [some (.ref 2), some (.int l1), some (.ref 25), some (.int l3), some (.int 0), none, none, none, none]) rfl ?_
  refine zg_iconst (pc := 3) dX7_join_3 (v := 0) (by decide) ?_
  refine zg_istore (pc := 4) dX7_join_4 (by decide) (L' := [some (.ref 2), some (.int l1), some (.ref 25), some (.int l3), some (.int 0), some (.int 0), none, none, none]) rfl ?_
  refine zg_iconst (pc := 6) dX7_join_6 (v := 1) (by decide) ?_
  refine zg_iload_n (pc := 7) dX7_join_7 rfl rfl ?_
  refine zg_ishl (pc := 8) dX7_join_8 ?_
  refine zg_istore (pc := 9) dX7_join_9 (by decide) (L' := [some (.ref 2), some (.int l1), some (.ref 25), some (.int l3), some (.int 0), some (.int 0), some (.int (1 <<< (l1 &&& 31))), none, none]) rfl ?_
  refine zg_iconst (pc := 11) dX7_join_11 (v := 0) (by decide) ?_
  refine zg_istore (pc := 12) dX7_join_12 (by decide) (L' := [some (.ref 2), some (.int l1), some (.ref 25), some (.int l3), some (.int 0), some (.int 0), some (.int (1 <<< (l1 &&& 31))), some (.int 0), none]) rfl ?_
  exact sd_X7_join_2_25_l14  H
set_option maxRecDepth 100000 in
theorem sd_X7_addPlied_2_25_l31 {d : Nat} {Q : Int32 → zz_Hp → Prop} {l2 : Int32} {l3 : Int32} {l4 : Int32} {h : zz_Hp}  (H : lp (fun s ag => w_X7_addPlied_2_25_l31 ag Q l2 l3 s.1 s.2) (l4, h)) : zz_G zKC zNC (d + 2) mX7_addPlied (qI Q) 31 [some (.ref 2), some (.ref 25), some (.int l2), some (.int l3), some (.int l4)] [] h := by
  refine lp_sound (G := fun (s : Int32 × zz_Hp) => zz_G zKC zNC (d + 2) mX7_addPlied (qI Q) 31 [some (.ref 2), some (.ref 25), some (.int l2), some (.int l3), some (.int s.1)] [] s.2) ?_ H
  clear H
  intro s ag31 hag31 H
  obtain ⟨l4, h⟩ := s
  replace hag31 : ∀ (l4 : Int32) (h : zz_Hp), ag31 (l4, h) → zz_G zKC zNC (d + 2) mX7_addPlied (qI Q) 31 [some (.ref 2), some (.ref 25), some (.int l2), some (.int l3), some (.int l4)] [] h := fun l4 h H => hag31 (l4, h) H
  replace H : w_X7_addPlied_2_25_l31 ag31 Q l2 l3 l4 h := H
  show zz_G zKC zNC (d + 2) mX7_addPlied (qI Q) 31 [some (.ref 2), some (.ref 25), some (.int l2), some (.int l3), some (.int l4)] [] h
  unfold w_X7_addPlied_2_25_l31 at H
  refine zg_iload (pc := 31) dX7_addPlied_31 rfl ?_
  refine zg_iload_n (pc := 33) dX7_addPlied_33 rfl rfl ?_
  refine zg_icmp_ge (pc := 34) dX7_addPlied_34 (tgt := 57) (by decide) (fun hc => ?_) (fun hc => ?_)
  · replace H := H.1 hc
    refine zg_aload_n (pc := 57) dX7_addPlied_57 rfl rfl ?_
    refine zg_getI (pc := 58) dX7_addPlied_58 lf_X7_18 kC_2 (by decide) rfl ?_
    refine zg_bipush (pc := 61) dX7_addPlied_61 (v := 16) (by decide) ?_
    refine zg_icmp_lt (pc := 63) dX7_addPlied_63 (tgt := 69) (by decide) (fun hc => ?_) (fun hc => ?_)
    · replace H := H.1 hc
      refine zg_aload_n (pc := 69) dX7_addPlied_69 rfl rfl ?_
      refine zg_getI (pc := 70) dX7_addPlied_70 lf_X7_18 kC_2 (by decide) rfl ?_
      refine zg_istore (pc := 73) dX7_addPlied_73 (by decide) (L' := [some (.ref 2), some (.ref 25), some (.int l2), some (.int l3), some (.int (h.1 2 0))]) rfl ?_
      refine zg_aload_n (pc := 75) dX7_addPlied_75 rfl rfl ?_
      refine zg_dup (pc := 76) dX7_addPlied_76 rfl ?_
      refine zg_getI (pc := 77) dX7_addPlied_77 lf_X7_18 kC_2 (by decide) rfl ?_
      refine zg_iconst (pc := 80) dX7_addPlied_80 (v := 1) (by decide) ?_
      refine zg_iadd (pc := 81) dX7_addPlied_81 ?_
      refine zg_putI (pc := 82) dX7_addPlied_82 lp_X7_18 kC_2 (by decide) rfl ?_
      generalize eh5 : zz_uI h 2 0 ((h.1 2 0) + 1) = h5
      replace H := H h5 eh5.symm
      refine zg_aload_n (pc := 85) dX7_addPlied_85 rfl rfl ?_
      refine zg_iload (pc := 86) dX7_addPlied_86 rfl ?_
      refine zg_iconst (pc := 88) dX7_addPlied_88 (v := 0) (by decide) ?_
      refine zg_iload_n (pc := 89) dX7_addPlied_89 rfl rfl ?_
      refine zg_callVv (st := []) (pc := 90) dX7_addPlied_90 (As := [.int (h.1 2 0), .int 0, .int l3]) lk_X7_37 kC_2 (by decide) rfl (Nat.le_of_ble_eq_true rfl) (Nat.le_of_ble_eq_true rfl) (sd_X7_write (d + 1) H) (fun h6 H => ?_)
      refine zg_aload_n (pc := 93) dX7_addPlied_93 rfl rfl ?_
      refine zg_iload (pc := 94) dX7_addPlied_94 rfl ?_
      refine zg_iconst (pc := 96) dX7_addPlied_96 (v := 1) (by decide) ?_
      refine zg_iconst (pc := 97) dX7_addPlied_97 (v := (-1)) (by decide) ?_
      refine zg_callVv (st := []) (pc := 98) dX7_addPlied_98 (As := [.int (h.1 2 0), .int 1, .int ((-1))]) lk_X7_37 kC_2 (by decide) rfl (Nat.le_of_ble_eq_true rfl) (Nat.le_of_ble_eq_true rfl) (sd_X7_write (d + 1) H) (fun h8 H => ?_)
      refine zg_aload_n (pc := 101) dX7_addPlied_101 rfl rfl ?_
      refine zg_iload (pc := 102) dX7_addPlied_102 rfl ?_
      refine zg_iconst (pc := 104) dX7_addPlied_104 (v := 2) (by decide) ?_
      refine zg_iconst (pc := 105) dX7_addPlied_105 (v := (-1)) (by decide) ?_
      refine zg_callVv (st := []) (pc := 106) dX7_addPlied_106 (As := [.int (h.1 2 0), .int 2, .int ((-1))]) lk_X7_37 kC_2 (by decide) rfl (Nat.le_of_ble_eq_true rfl) (Nat.le_of_ble_eq_true rfl) (sd_X7_write (d + 1) H) (fun h10 H => ?_)
      refine zg_aload_n (pc := 109) dX7_addPlied_109 rfl rfl ?_
      refine zg_iload (pc := 110) dX7_addPlied_110 rfl ?_
      refine zg_iconst (pc := 112) dX7_addPlied_112 (v := 3) (by decide) ?_
      refine zg_iconst (pc := 113) dX7_addPlied_113 (v := 0) (by decide) ?_
      refine zg_callVv (st := []) (pc := 114) dX7_addPlied_114 (As := [.int (h.1 2 0), .int 3, .int 0]) lk_X7_37 kC_2 (by decide) rfl (Nat.le_of_ble_eq_true rfl) (Nat.le_of_ble_eq_true rfl) (sd_X7_write (d + 1) H) (fun h12 H => ?_)
      refine zg_aload_n (pc := 117) dX7_addPlied_117 rfl rfl ?_
      refine zg_iload (pc := 118) dX7_addPlied_118 rfl ?_
      refine zg_aload_n (pc := 120) dX7_addPlied_120 rfl rfl ?_
      refine zg_iload_n (pc := 121) dX7_addPlied_121 rfl rfl ?_
      refine zg_callVv (st := []) (pc := 122) dX7_addPlied_122 (As := [.int (h.1 2 0), .ref 25, .int l2]) lk_X7_48 kC_2 (by decide) rfl (Nat.le_of_ble_eq_true rfl) (Nat.le_of_ble_eq_true rfl) (sd_X7_join_2_25 d H) (fun h14 H => ?_)
      refine zg_iload (pc := 125) dX7_addPlied_125 rfl ?_
      exact zg_iret (pc := 127) dX7_addPlied_127 rfl ⟨_, rfl, H⟩
    · replace H := H.2 hc
      refine zg_bipush (pc := 66) dX7_addPlied_66 (v := (-3)) (by decide) ?_
      exact zg_iret (pc := 68) dX7_addPlied_68 rfl ⟨_, rfl, H⟩
  · replace H := H.2 hc
    refine zg_aload_n (pc := 37) dX7_addPlied_37 rfl rfl ?_
    refine zg_aload_n (pc := 38) dX7_addPlied_38 rfl rfl ?_
    refine zg_iload (pc := 39) dX7_addPlied_39 rfl ?_
    obtain ⟨hb, H⟩ := H
    refine zg_iald (pc := 41) dX7_addPlied_41 kC_25 (by decide) hb ?_
    refine zg_callVi (st := []) (pc := 42) dX7_addPlied_42 (As := [.int (h.1 25 (Int32.toNatClampNeg l4))]) lk_X7_45 kC_2 (by decide) rfl (Nat.le_of_ble_eq_true rfl) (Nat.le_of_ble_eq_true rfl) (sd_X7_canBePart d H) (fun r17 h16 H => ?_)
    refine zg_if_ne (pc := 45) dX7_addPlied_45 (tgt := 51) (by decide) (fun hc => ?_) (fun hc => ?_)
    · replace H := H.1 hc
      refine zg_iinc (pc := 51) dX7_addPlied_51 rfl (v := l4 + 1) rfl (by decide) (L' := [some (.ref 2), some (.ref 25), some (.int l2), some (.int l3), some (.int (l4 + 1))]) rfl ?_
      refine zg_goto (pc := 54) dX7_addPlied_54 (tgt := 31) (by decide) ?_
      exact hag31 (l4 + 1) _ H
    · replace H := H.2 hc
      refine zg_bipush (pc := 48) dX7_addPlied_48 (v := (-5)) (by decide) ?_
      exact zg_iret (pc := 50) dX7_addPlied_50 rfl ⟨_, rfl, H⟩
set_option maxRecDepth 100000 in
theorem sd_X7_addPlied_2_25 (d : Nat) {l2 : Int32} {l3 : Int32} {h : zz_Hp} {Q : Int32 → zz_Hp → Prop} (H : w_X7_addPlied_2_25 l2 l3 h Q) : zz_G zKC zNC (d + 2) mX7_addPlied (qI Q) 0 (zz_L0 5 [.ref 2, .ref 25, .int l2, .int l3]) [] h := by
  show zz_G zKC zNC (d + 2) mX7_addPlied (qI Q) 0 [some (.ref 2), some (.ref 25), some (.int l2), some (.int l3), none] [] h
  unfold w_X7_addPlied_2_25 at H
  refine zg_iconst (pc := 0) dX7_addPlied_0 (v := 0) (by decide) ?_
  refine zg_iload_n (pc := 1) dX7_addPlied_1 rfl rfl ?_
  refine zg_callNi (st := []) (pc := 2) dX7_addPlied_2 (As := [.int 0, .int l3]) lk_X7_33 rfl (Nat.le_of_ble_eq_true rfl) (Nat.le_of_ble_eq_true rfl) (sd_X8_canBeTold d H) (fun r2 h1 H => ?_)
  refine zg_if_ne (pc := 5) dX7_addPlied_5 (tgt := 10) (by decide) (fun hc => ?_) (fun hc => ?_)
  · replace H := H.1 hc
    refine zg_iload_n (pc := 10) dX7_addPlied_10 rfl rfl ?_
    refine zg_iconst (pc := 11) dX7_addPlied_11 (v := 2) (by decide) ?_
    refine zg_iconst (pc := 12) dX7_addPlied_12 (v := 4) (by decide) ?_
    refine zg_callNi (st := []) (pc := 13) dX7_addPlied_13 (As := [.int l2, .int 2, .int 4]) lk_X7_41 rfl (Nat.le_of_ble_eq_true rfl) (Nat.le_of_ble_eq_true rfl) (sd_X8_inRange (d + 1) H) (fun r4 h3 H => ?_)
    refine zg_if_eq (pc := 16) dX7_addPlied_16 (tgt := 25) (by decide) (fun hc => ?_) (fun hc => ?_)
    · replace H := H.1 hc
      refine zg_bipush (pc := 25) dX7_addPlied_25 (v := (-5)) (by decide) ?_
      exact zg_iret (pc := 27) dX7_addPlied_27 rfl ⟨_, rfl, H⟩
    · replace H := H.2 hc
      refine zg_iload_n (pc := 19) dX7_addPlied_19 rfl rfl ?_
      refine zg_aload_n (pc := 20) dX7_addPlied_20 rfl rfl ?_
      refine zg_alen (pc := 21) dX7_addPlied_21 (Or.inl rfl) (v := 5) (by decide) kC_25 (by decide) ?_
      refine zg_icmp_le (pc := 22) dX7_addPlied_22 (tgt := 28) (by decide) (fun hc => ?_) (fun hc => ?_)
      · replace H := H.1 hc
        refine zg_iconst (pc := 28) dX7_addPlied_28 (v := 0) (by decide) ?_
        refine zg_istore (pc := 29) dX7_addPlied_29 (by decide) (L' := [some (.ref 2), some (.ref 25), some (.int l2), some (.int l3), some (.int 0)]) rfl ?_
        exact sd_X7_addPlied_2_25_l31  H
      · replace H := H.2 hc
        refine zg_bipush (pc := 25) dX7_addPlied_25 (v := (-5)) (by decide) ?_
        exact zg_iret (pc := 27) dX7_addPlied_27 rfl ⟨_, rfl, H⟩
  · replace H := H.2 hc
    refine zg_iconst (pc := 8) dX7_addPlied_8 (v := (-1)) (by decide) ?_
    exact zg_iret (pc := 9) dX7_addPlied_9 rfl ⟨_, rfl, H⟩
set_option maxRecDepth 100000 in
theorem sd_X8_doAct (d : Nat)  {h : zz_Hp} {Q : Int32 → zz_Hp → Prop} (H : w_X8_doAct  h Q) : zz_G zKC zNC (d + 5) mX8_doAct (qI Q) 0 (zz_L0 2 [.ref 0]) [] h := by
  show zz_G zKC zNC (d + 5) mX8_doAct (qI Q) 0 [some (.ref 0), none] [] h
  unfold w_X8_doAct at H
  refine zg_aload_n (pc := 0) dX8_doAct_0 rfl rfl ?_
  refine zg_getR (pc := 1) dX8_doAct_1 lf_X8_47 kC_0 (by decide) rfl ?_
  refine zg_getR (pc := 4) dX8_doAct_4 lf_X8_333 kC_24 (by decide) rfl ?_
  refine zg_astore_n (pc := 7) dX8_doAct_7 rfl (by decide) (L' := [some (.ref 0), some (.ref 25)]) rfl ?_
  refine zg_aload_n (pc := 8) dX8_doAct_8 rfl rfl ?_
  refine zg_getR (pc := 9) dX8_doAct_9 lf_X8_47 kC_0 (by decide) rfl ?_
  refine zg_getI (pc := 12) dX8_doAct_12 lf_X8_336 kC_24 (by decide) rfl ?_
  by_cases hc : (Int32.toInt (h.1 24 1)) < 109 ∨ 116 < (Int32.toInt (h.1 24 1))
  · refine zg_tabOut (pc := 15) dX8_doAct_15 hc (tgt := 169) (by decide) ?_
    replace H := H.2.2.2.2.2.2.2.2 hc
    refine zg_iconst (pc := 169) dX8_doAct_169 (v := 0) (by decide) ?_
    exact zg_zret (pc := 170) dX8_doAct_170 (Or.inl rfl) rfl ⟨_, rfl, H⟩
  · have hx : (Int32.toInt (h.1 24 1)) = 109 ∨ (Int32.toInt (h.1 24 1)) = 110 ∨ (Int32.toInt (h.1 24 1)) = 111 ∨ (Int32.toInt (h.1 24 1)) = 112 ∨ (Int32.toInt (h.1 24 1)) = 113 ∨ (Int32.toInt (h.1 24 1)) = 114 ∨ (Int32.toInt (h.1 24 1)) = 115 ∨ (Int32.toInt (h.1 24 1)) = 116 := by omega
    rcases hx with hx | hx | hx | hx | hx | hx | hx | hx
    · refine zg_tabIn (pc := 15) dX8_doAct_15 (by omega) (by omega) (off := 135) (by rw [hx]; rfl) (tgt := 150) (by decide) ?_
      replace H := H.1 hx
      refine zg_aload_n (pc := 150) dX8_doAct_150 rfl rfl ?_
      refine zg_aload_n (pc := 151) dX8_doAct_151 rfl rfl ?_
      refine zg_iconst (pc := 152) dX8_doAct_152 (v := 0) (by decide) ?_
      obtain ⟨hb, H⟩ := H
      refine zg_iald (pc := 153) dX8_doAct_153 kC_25 (by decide) hb ?_
      refine zg_aload_n (pc := 154) dX8_doAct_154 rfl rfl ?_
      refine zg_iconst (pc := 155) dX8_doAct_155 (v := 1) (by decide) ?_
      obtain ⟨hb, H⟩ := H
      refine zg_iald (pc := 156) dX8_doAct_156 kC_25 (by decide) hb ?_
      refine zg_callVi (st := []) (pc := 157) dX8_doAct_157 (As := [.int (h.1 25 (Int32.toNatClampNeg 0)), .int (h.1 25 (Int32.toNatClampNeg 1))]) lk_X8_218 kC_0 (by decide) rfl (Nat.le_of_ble_eq_true rfl) (Nat.le_of_ble_eq_true rfl) (sd_X8_makeYards d H) (fun r2 h1 H => ?_)
      refine zg_if_lt (pc := 160) dX8_doAct_160 (tgt := 167) (by decide) (fun hc => ?_) (fun hc => ?_)
      · replace H := H.1 hc
        refine zg_iconst (pc := 167) dX8_doAct_167 (v := 0) (by decide) ?_
        exact zg_zret (pc := 168) dX8_doAct_168 (Or.inl rfl) rfl ⟨_, rfl, H⟩
      · replace H := H.2 hc
        refine zg_iconst (pc := 163) dX8_doAct_163 (v := 1) (by decide) ?_
        refine zg_goto (pc := 164) dX8_doAct_164 (tgt := 168) (by decide) ?_
        exact zg_zret (pc := 168) dX8_doAct_168 (Or.inr rfl) rfl ⟨_, rfl, H⟩
    · refine zg_tabIn (pc := 15) dX8_doAct_15 (by omega) (by omega) (off := 154) (by rw [hx]; rfl) (tgt := 169) (by decide) ?_
      replace H := H.2.1 hx
      refine zg_iconst (pc := 169) dX8_doAct_169 (v := 0) (by decide) ?_
      exact zg_zret (pc := 170) dX8_doAct_170 (Or.inl rfl) rfl ⟨_, rfl, H⟩
    · refine zg_tabIn (pc := 15) dX8_doAct_15 (by omega) (by omega) (off := 154) (by rw [hx]; rfl) (tgt := 169) (by decide) ?_
      replace H := H.2.2.1 hx
      refine zg_iconst (pc := 169) dX8_doAct_169 (v := 0) (by decide) ?_
      exact zg_zret (pc := 170) dX8_doAct_170 (Or.inl rfl) rfl ⟨_, rfl, H⟩
    · refine zg_tabIn (pc := 15) dX8_doAct_15 (by omega) (by omega) (off := 73) (by rw [hx]; rfl) (tgt := 88) (by decide) ?_
      replace H := H.2.2.2.1 hx
      refine zg_aload_n (pc := 88) dX8_doAct_88 rfl rfl ?_
      refine zg_getR (pc := 89) dX8_doAct_89 lf_X8_12 kC_0 (by decide) rfl ?_
      refine zg_getR (pc := 92) dX8_doAct_92 lf_X8_75 kC_1 (by decide) rfl ?_
      refine zg_aload_n (pc := 95) dX8_doAct_95 rfl rfl ?_
      refine zg_aload_n (pc := 96) dX8_doAct_96 rfl rfl ?_
      refine zg_getR (pc := 97) dX8_doAct_97 lf_X8_47 kC_0 (by decide) rfl ?_
      refine zg_getI (pc := 100) dX8_doAct_100 lf_X8_339 kC_24 (by decide) rfl ?_
      refine zg_iconst (pc := 103) dX8_doAct_103 (v := 1) (by decide) ?_
      refine zg_isub (pc := 104) dX8_doAct_104 ?_
      refine zg_aload_n (pc := 105) dX8_doAct_105 rfl rfl ?_
      refine zg_getR (pc := 106) dX8_doAct_106 lf_X8_47 kC_0 (by decide) rfl ?_
      refine zg_callVi (st := [.int ((h.1 24 2) - 1), .ref 25, .ref 2]) (pc := 109) dX8_doAct_109 (As := []) lk_X8_342 kC_24 (by decide) rfl (Nat.le_of_ble_eq_true rfl) (Nat.le_of_ble_eq_true rfl) (sd_X5_lastNumber (d + 4) H) (fun r4 h3 H => ?_)
      refine zg_callVi (st := []) (pc := 112) dX8_doAct_112 (As := [.ref 25, .int ((h.1 24 2) - 1), .int r4]) lk_X8_96 kC_2 (by decide) rfl (Nat.le_of_ble_eq_true rfl) (Nat.le_of_ble_eq_true rfl) (sd_X7_addPlied_2_25 (d + 2) H) (fun r6 h5 H => ?_)
      refine zg_if_lt (pc := 115) dX8_doAct_115 (tgt := 122) (by decide) (fun hc => ?_) (fun hc => ?_)
      · replace H := H.1 hc
        refine zg_iconst (pc := 122) dX8_doAct_122 (v := 0) (by decide) ?_
        exact zg_zret (pc := 123) dX8_doAct_123 (Or.inl rfl) rfl ⟨_, rfl, H⟩
      · replace H := H.2 hc
        refine zg_iconst (pc := 118) dX8_doAct_118 (v := 1) (by decide) ?_
        refine zg_goto (pc := 119) dX8_doAct_119 (tgt := 123) (by decide) ?_
        exact zg_zret (pc := 123) dX8_doAct_123 (Or.inr rfl) rfl ⟨_, rfl, H⟩
    · refine zg_tabIn (pc := 15) dX8_doAct_15 (by omega) (by omega) (off := 154) (by rw [hx]; rfl) (tgt := 169) (by decide) ?_
      replace H := H.2.2.2.2.1 hx
      refine zg_iconst (pc := 169) dX8_doAct_169 (v := 0) (by decide) ?_
      exact zg_zret (pc := 170) dX8_doAct_170 (Or.inl rfl) rfl ⟨_, rfl, H⟩
    · refine zg_tabIn (pc := 15) dX8_doAct_15 (by omega) (by omega) (off := 154) (by rw [hx]; rfl) (tgt := 169) (by decide) ?_
      replace H := H.2.2.2.2.2.1 hx
      refine zg_iconst (pc := 169) dX8_doAct_169 (v := 0) (by decide) ?_
      exact zg_zret (pc := 170) dX8_doAct_170 (Or.inl rfl) rfl ⟨_, rfl, H⟩
    · refine zg_tabIn (pc := 15) dX8_doAct_15 (by omega) (by omega) (off := 109) (by rw [hx]; rfl) (tgt := 124) (by decide) ?_
      replace H := H.2.2.2.2.2.2.1 hx
      refine zg_aload_n (pc := 124) dX8_doAct_124 rfl rfl ?_
      refine zg_getR (pc := 125) dX8_doAct_125 lf_X8_12 kC_0 (by decide) rfl ?_
      refine zg_getR (pc := 128) dX8_doAct_128 lf_X8_75 kC_1 (by decide) rfl ?_
      refine zg_iconst (pc := 131) dX8_doAct_131 (v := 3) (by decide) ?_
      refine zg_aload_n (pc := 132) dX8_doAct_132 rfl rfl ?_
      refine zg_iconst (pc := 133) dX8_doAct_133 (v := 0) (by decide) ?_
      obtain ⟨hb, H⟩ := H
      refine zg_iald (pc := 134) dX8_doAct_134 kC_25 (by decide) hb ?_
      refine zg_aload_n (pc := 135) dX8_doAct_135 rfl rfl ?_
      refine zg_iconst (pc := 136) dX8_doAct_136 (v := 1) (by decide) ?_
      obtain ⟨hb, H⟩ := H
      refine zg_iald (pc := 137) dX8_doAct_137 kC_25 (by decide) hb ?_
      refine zg_callVi (st := []) (pc := 138) dX8_doAct_138 (As := [.int 3, .int (h.1 25 (Int32.toNatClampNeg 0)), .int (h.1 25 (Int32.toNatClampNeg 1))]) lk_X8_107 kC_2 (by decide) rfl (Nat.le_of_ble_eq_true rfl) (Nat.le_of_ble_eq_true rfl) (sd_X7_tell (d + 2) H) (fun r8 h7 H => ?_)
      refine zg_if_lt (pc := 141) dX8_doAct_141 (tgt := 148) (by decide) (fun hc => ?_) (fun hc => ?_)
      · replace H := H.1 hc
        refine zg_iconst (pc := 148) dX8_doAct_148 (v := 0) (by decide) ?_
        exact zg_zret (pc := 149) dX8_doAct_149 (Or.inl rfl) rfl ⟨_, rfl, H⟩
      · replace H := H.2 hc
        refine zg_iconst (pc := 144) dX8_doAct_144 (v := 1) (by decide) ?_
        refine zg_goto (pc := 145) dX8_doAct_145 (tgt := 149) (by decide) ?_
        exact zg_zret (pc := 149) dX8_doAct_149 (Or.inr rfl) rfl ⟨_, rfl, H⟩
    · refine zg_tabIn (pc := 15) dX8_doAct_15 (by omega) (by omega) (off := 45) (by rw [hx]; rfl) (tgt := 60) (by decide) ?_
      replace H := H.2.2.2.2.2.2.2.1 hx
      refine zg_aload_n (pc := 60) dX8_doAct_60 rfl rfl ?_
      refine zg_getR (pc := 61) dX8_doAct_61 lf_X8_12 kC_0 (by decide) rfl ?_
      refine zg_getR (pc := 64) dX8_doAct_64 lf_X8_75 kC_1 (by decide) rfl ?_
      refine zg_aload_n (pc := 67) dX8_doAct_67 rfl rfl ?_
      refine zg_iconst (pc := 68) dX8_doAct_68 (v := 0) (by decide) ?_
      obtain ⟨hb, H⟩ := H
      refine zg_iald (pc := 69) dX8_doAct_69 kC_25 (by decide) hb ?_
      refine zg_aload_n (pc := 70) dX8_doAct_70 rfl rfl ?_
      refine zg_iconst (pc := 71) dX8_doAct_71 (v := 1) (by decide) ?_
      obtain ⟨hb, H⟩ := H
      refine zg_iald (pc := 72) dX8_doAct_72 kC_25 (by decide) hb ?_
      refine zg_aload_n (pc := 73) dX8_doAct_73 rfl rfl ?_
      refine zg_iconst (pc := 74) dX8_doAct_74 (v := 2) (by decide) ?_
      obtain ⟨hb, H⟩ := H
      refine zg_iald (pc := 75) dX8_doAct_75 kC_25 (by decide) hb ?_
      refine zg_callVi (st := []) (pc := 76) dX8_doAct_76 (As := [.int (h.1 25 (Int32.toNatClampNeg 0)), .int (h.1 25 (Int32.toNatClampNeg 1)), .int (h.1 25 (Int32.toNatClampNeg 2))]) lk_X8_79 kC_2 (by decide) rfl (Nat.le_of_ble_eq_true rfl) (Nat.le_of_ble_eq_true rfl) (sd_X7_addThread (d + 2) H) (fun r10 h9 H => ?_)
      refine zg_if_lt (pc := 79) dX8_doAct_79 (tgt := 86) (by decide) (fun hc => ?_) (fun hc => ?_)
      · replace H := H.1 hc
        refine zg_iconst (pc := 86) dX8_doAct_86 (v := 0) (by decide) ?_
        exact zg_zret (pc := 87) dX8_doAct_87 (Or.inl rfl) rfl ⟨_, rfl, H⟩
      · replace H := H.2 hc
        refine zg_iconst (pc := 82) dX8_doAct_82 (v := 1) (by decide) ?_
        refine zg_goto (pc := 83) dX8_doAct_83 (tgt := 87) (by decide) ?_
        exact zg_zret (pc := 87) dX8_doAct_87 (Or.inr rfl) rfl ⟨_, rfl, H⟩
set_option maxRecDepth 100000 in
theorem sd_X8_read_j104 {d : Nat} {Q : Int32 → zz_Hp → Prop} {l2 : Int32} {l3 : Int32}  {h : zz_Hp}  (H : w_X8_read_j104 Q l2 l3 h) : zz_G zKC zNC (d + 6) mX8_read (qI Q) 104 [none, none, some (.int l2), some (.int l3)] [] h := by
  unfold w_X8_read_j104 at H
  refine zg_iload_n (pc := 104) dX8_read_104 rfl rfl ?_
  refine zg_if_eq (pc := 105) dX8_read_105 (tgt := 116) (by decide) (fun hc => ?_) (fun hc => ?_)
  · replace H := H.1 hc
    refine zg_iload_n (pc := 116) dX8_read_116 rfl rfl ?_
    exact zg_iret (pc := 117) dX8_read_117 rfl ⟨_, rfl, H⟩
  · replace H := H.2 hc
    refine zg_sipush (pc := 108) dX8_read_108 (v := (-200)) (by decide) ?_
    refine zg_iload_n (pc := 111) dX8_read_111 rfl rfl ?_
    refine zg_isub (pc := 112) dX8_read_112 ?_
    refine zg_goto (pc := 113) dX8_read_113 (tgt := 117) (by decide) ?_
    exact zg_iret (pc := 117) dX8_read_117 rfl ⟨_, rfl, H⟩
