/-! the law from its entry -/
theorem lw_d8 : ∀ j, j < 13 → defaultValue (tyX8 j) = vp_V [.null, .null, .int 0, .null, .int 0, .null, .null, .null, .null, .null, .null, .null, .null] j := fun j hj => by rcases (show j = 0 ∨ j = 1 ∨ j = 2 ∨ j = 3 ∨ j = 4 ∨ j = 5 ∨ j = 6 ∨ j = 7 ∨ j = 8 ∨ j = 9 ∨ j = 10 ∨ j = 11 ∨ j = 12 by omega) with rfl | rfl | rfl | rfl | rfl | rfl | rfl | rfl | rfl | rfl | rfl | rfl | rfl <;> rfl
theorem lw_d9 : ∀ j, j < 58 → defaultValue (tyX9 j) = vp_V [.int 0, .null, .null, .null, .null, .null, .null, .int 0, .null, .int 0, .null, .null, .null, .int 0, .null, .null, .int 0, .null, .null, .null, .int 0, .null, .null, .null, .null, .int 0, .int 0, .null, .null, .null, .null, .null, .null, .int 0, .null, .null, .null, .int 0, .null, .null, .int 0, .null, .null, .null, .null, .null, .null, .null, .null, .null, .int 0, .int 0, .int 0, .int 0, .int 0, .null, .null, .null] j := fun j hj => by rcases (show j = 0 ∨ j = 1 ∨ j = 2 ∨ j = 3 ∨ j = 4 ∨ j = 5 ∨ j = 6 ∨ j = 7 ∨ j = 8 ∨ j = 9 ∨ j = 10 ∨ j = 11 ∨ j = 12 ∨ j = 13 ∨ j = 14 ∨ j = 15 ∨ j = 16 ∨ j = 17 ∨ j = 18 ∨ j = 19 ∨ j = 20 ∨ j = 21 ∨ j = 22 ∨ j = 23 ∨ j = 24 ∨ j = 25 ∨ j = 26 ∨ j = 27 ∨ j = 28 ∨ j = 29 ∨ j = 30 ∨ j = 31 ∨ j = 32 ∨ j = 33 ∨ j = 34 ∨ j = 35 ∨ j = 36 ∨ j = 37 ∨ j = 38 ∨ j = 39 ∨ j = 40 ∨ j = 41 ∨ j = 42 ∨ j = 43 ∨ j = 44 ∨ j = 45 ∨ j = 46 ∨ j = 47 ∨ j = 48 ∨ j = 49 ∨ j = 50 ∨ j = 51 ∨ j = 52 ∨ j = 53 ∨ j = 54 ∨ j = 55 ∨ j = 56 ∨ j = 57 by omega) with rfl | rfl | rfl | rfl | rfl | rfl | rfl | rfl | rfl | rfl | rfl | rfl | rfl | rfl | rfl | rfl | rfl | rfl | rfl | rfl | rfl | rfl | rfl | rfl | rfl | rfl | rfl | rfl | rfl | rfl | rfl | rfl | rfl | rfl | rfl | rfl | rfl | rfl | rfl | rfl | rfl | rfl | rfl | rfl | rfl | rfl | rfl | rfl | rfl | rfl | rfl | rfl | rfl | rfl | rfl | rfl | rfl | rfl <;> rfl
set_option maxHeartbeats 4000000 in
set_option maxRecDepth 100000 in
theorem whole_start {p : Program} {e : Env} {s : State} {m : MethodId} {below : List Frame} {meth : Method} {c : Code} (l : Launch) (hflags : l.flags = flags0) {b L : Nat} {xs : Nat → Int32} (hL : L ≤ 3072) (C0 : lw_At p s m meth c b L xs) : W p l e room_1 s m #[Value.ref b] below meth c s.heap [] 0 0 (lw_Z below #[Value.ref b] s) (entryFrame m ([Value.ref b] : List Value).toArray 4) := by
  obtain ⟨hx, hb, hr, hml, hown, hts0, hX, hbl, hlocks, hgv⟩ := id C0
  have hts : ∀ w ∈ yw, w.before #[Value.ref b] s = true := fun w hw => hts0 w (List.mem_filter.mp hw).1
  obtain ⟨G, ca, hSs⟩ := lw_known hts0
  obtain ⟨tL, zL, vL⟩ := lw_LT hts0 hgv
  obtain ⟨tM, zM, vM⟩ := lw_MT hts0 hgv
  have hA : ∀ q : Nat, s.heap.size ≤ q → (fun q : Nat => s.heap.size ≤ q) q := fun _ h => h
  have hS : va_S (fun q : Nat => s.heap.size ≤ q) s.heap s.heap [] := va_S.rf
  have hK := hSs.1
  have hP : va_P G vwCl [] s.heap := fun k q h => by simp at h
  have hD : va_D (fun q : Nat => s.heap.size ≤ q) [] := ⟨fun i j p q h => by simp at h, fun k q h => by simp at h⟩
  have hl := lv_entry ([.ref b]) (n := 4) (Nat.le_of_ble_eq_true rfl)
  rw [lg_entry_eq]
  generalize (lg_sl ([.ref b]) ++ List.replicate (4 - (lg_sl ([.ref b])).length) Slot.unset).toArray = ls at hl ⊢
  have hl : lv_has ls 4 [(0, .ref b)] := hl
  refine va_new (ci := 8) (fs := [.null, .null, .int 0, .null, .int 0, .null, .null, .null, .null, .null, .null, .null, .null]) (C := RX8) (T := TX8) (N := 13) hx hb hts (zz_uws in_X8) tyX8 tyX8_ok hown (hts (.classLink RL 7 RX8) (yw_t 14 (by decide +kernel) rfl)) (hts (.instantiable RX8 13) (yw_t 15 (by decide +kernel) rfl)) (hts (.initialized RX8) (yw_t 1 (by decide +kernel) rfl)) hK hP hD hS hA rfl lw_d8 (Nat.le_of_ble_eq_true rfl) (Nat.le_of_ble_eq_true rfl) dL_law_0 (fun q1 H hP hD hS => ?_)
  refine lv_dup hx hb dL_law_3 rfl ?_
  refine lw_ctor C0 hSs zi_X8 okb_X8_init (yw_t 16 (by decide +kernel) rfl) ⟨Nat.le_of_ble_eq_true rfl, Nat.le_of_ble_eq_true rfl⟩ hl.1 dL_law_4 (st := [.ref q1]) (Nat.le_of_ble_eq_true rfl) ⟨Nat.le_of_ble_eq_true rfl, Nat.le_of_ble_eq_true rfl⟩ (w0 := []) hP hD hS fun w1 H1 locs1 hw1 hP hD hS => ?_
  obtain ⟨u1, rfl, rfl⟩ := hw1
  refine lv_astore_n (lv' := [(1, .ref (u1 0)), (0, .ref b)]) hx hb dL_law_7 rfl hl (by decide) rfl (fun ls hl => ?_)
  refine va_new (ci := 9) (fs := [.int 0, .null, .null, .null, .null, .null, .null, .int 0, .null, .int 0, .null, .null, .null, .int 0, .null, .null, .int 0, .null, .null, .null, .int 0, .null, .null, .null, .null, .int 0, .int 0, .null, .null, .null, .null, .null, .null, .int 0, .null, .null, .null, .int 0, .null, .null, .int 0, .null, .null, .null, .null, .null, .null, .null, .null, .null, .int 0, .int 0, .int 0, .int 0, .int 0, .null, .null, .null]) (C := RX9) (T := TX9) (N := 58) hx hb hts (zz_uws in_X9) tyX9 tyX9_ok hown (hts (.classLink RL 10 RX9) (yw_t 758 (by decide +kernel) rfl)) (hts (.instantiable RX9 58) (yw_t 759 (by decide +kernel) rfl)) (hts (.initialized RX9) (yw_t 10 (by decide +kernel) rfl)) hK hP hD hS hA rfl lw_d9 (Nat.le_of_ble_eq_true rfl) (Nat.le_of_ble_eq_true rfl) dL_law_8 (fun q2 H hP hD hS => ?_)
  refine lv_dup hx hb dL_law_11 rfl ?_
  refine lw_ctor C0 hSs zi_X9 okb_X9_init (yw_t 760 (by decide +kernel) rfl) ⟨Nat.le_of_ble_eq_true rfl, Nat.le_of_ble_eq_true rfl⟩ hl.1 dL_law_12 (st := [.ref q2]) (Nat.le_of_ble_eq_true rfl) ⟨Nat.le_of_ble_eq_true rfl, Nat.le_of_ble_eq_true rfl⟩ (w0 := zz_w (G, ca, u1) zKC 41 (zi_h 22)) hP hD hS fun w2 H2 locs2 hw2 hP hD hS => ?_
  obtain ⟨u2, rfl, rfl⟩ := hw2
  refine lv_astore_n (lv' := [(2, .ref (u2 0)), (1, .ref (u1 0)), (0, .ref b)]) hx hb dL_law_15 rfl hl (by decide) rfl (fun ls hl => ?_)
  refine lv_iconst (v := 0) hx hb dL_law_16 (by decide) ?_
  refine lv_istore_n (lv' := [(3, .int 0), (2, .ref (u2 0)), (1, .ref (u1 0)), (0, .ref b)]) hx hb dL_law_17 rfl hl (by decide) rfl (fun ls hl => ?_)
  refine W.widen (k := 84) (n := 2832) (Nat.le_of_ble_eq_true rfl) (Nat.le_of_ble_eq_true rfl) ?_
  obtain ⟨X, eX⟩ : ∃ X : zz_Fx, X = (G, ca, fun k => if k = 1000 then tL else if k = 1001 then tM else u1 k) := ⟨_, rfl⟩
  obtain ⟨Y, eY⟩ : ∃ Y : zz_Fx, Y = (G, ca, fun k => if k = 1000 then tL else if k = 1001 then tM else u2 k) := ⟨_, rfl⟩
  have uX : ∀ k, k < 1000 → X.2.2 k = u1 k := fun k hk => by rw [eX]; show (if k = 1000 then tL else if k = 1001 then tM else u1 k) = _; rw [if_neg (by omega), if_neg (by omega)]
  have uY : ∀ k, k < 1000 → Y.2.2 k = u2 k := fun k hk => by rw [eY]; show (if k = 1000 then tL else if k = 1001 then tM else u2 k) = _; rw [if_neg (by omega), if_neg (by omega)]
  have gX : X.1 = G := by rw [eX]
  have gY : Y.1 = G := by rw [eY]
  have aX : X.2.1 = ca := by rw [eX]
  have aY : Y.2.1 = ca := by rw [eY]
  have x0 : X.2.2 1000 = tL := by rw [eX]; rfl
  have x1 : X.2.2 1001 = tM := by rw [eX]; rfl
  have y0 : Y.2.2 1000 = tL := by rw [eY]; rfl
  have y1 : Y.2.2 1001 = tM := by rw [eY]; rfl
  clear eX eY
  have wX : zz_w (G, ca, u1) zKC 41 (zi_h 22) = zz_w X zKC zNC (zi_h 22) := (zz_w_u (B := 1000) gX aX uX (by decide) (zz_kb_ok zz_kC)).symm
  have wY : zz_w (G, ca, u2) zKR 43 (zi_h 17) = zz_w Y zKR zNR (zi_h 17) := (zz_w_u (B := 1000) gY aY uY (by decide) (zz_kb_ok zz_kR)).symm
  rw [wX, wY] at hP hD
  rw [← gX] at hP
  have hJ : lw_J X zKC zNC (zi_h 22) Y zKR zNR (zi_h 17) s H2 locs2 := lw_mkJ (gX.trans gY.symm) hP hD hS
  have tX : zz_ty X = zz_ty (G, ca, id) := by unfold zz_ty; rw [aX]
  have tY : zz_ty Y = zz_ty (G, ca, id) := by unfold zz_ty; rw [aY]
  have SX : zz_S X zNC s := ⟨by rw [gX, tX]; exact hSs.1, hSs.2, ⟨by rw [x0]; exact zL.narrow hJ.2.2.2.2.1, by rw [x0]; exact vL.narrow hJ.2.2.2.2.1⟩, by rw [x1]; exact zM.narrow hJ.2.2.2.2.1, by rw [x1]; exact vM.narrow hJ.2.2.2.2.1⟩
  have SY : zz_S Y zNR s := ⟨by rw [gY, tY]; exact hSs.1, hSs.2, ⟨by rw [y0]; exact zL.narrow hJ.2.2.2.2.2.1, by rw [y0]; exact vL.narrow hJ.2.2.2.2.2.1⟩, by rw [y1]; exact zM.narrow hJ.2.2.2.2.2.1, by rw [y1]; exact vM.narrow hJ.2.2.2.2.2.1⟩
  rw [← uX 0 (by decide), ← uY 0 (by decide)] at hl
  exact lw_loop ⟨C0, SX, SY, hL⟩ (L + 1) 0 _ _ H2 locs2 ls (Nat.zero_le _) (by omega) (lv_sub hl [3, 2, 1, 0] rfl) hJ sim_0
