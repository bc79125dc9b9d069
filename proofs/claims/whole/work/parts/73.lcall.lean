/-! the law: two worlds beside each other, calls, the script -/
def lw_J (X : zz_Fx) (K : zz_Kd) (N : Nat) (h : zz_Hp) (Z : zz_Fx) (K2 : zz_Kd) (N2 : Nat) (h2 : zz_Hp) (s : State) (H : Heap) (locs : List Loc) : Prop :=
  va_P X.1 vwCl (zz_w X K N h) H ∧ va_D (zz_A X N) (zz_w X K N h) ∧ va_P Z.1 vwCl (zz_w Z K2 N2 h2) H ∧ va_D (zz_A Z N2) (zz_w Z K2 N2 h2) ∧ (∀ q, zz_A X N q → s.heap.size ≤ q) ∧ (∀ q, zz_A Z N2 q → s.heap.size ≤ q) ∧ (∀ q, zz_A X N q → ¬ zz_A Z N2 q) ∧ va_S (fun q => s.heap.size ≤ q) s.heap H locs
theorem lw_J.swap {X : zz_Fx} {K : zz_Kd} {N : Nat} {h : zz_Hp} {Z : zz_Fx} {K2 : zz_Kd} {N2 : Nat} {h2 : zz_Hp} {s : State} {H : Heap} {locs : List Loc} (j : lw_J X K N h Z K2 N2 h2 s H locs) : lw_J Z K2 N2 h2 X K N h s H locs :=
  ⟨j.2.2.1, j.2.2.2.1, j.1, j.2.1, j.2.2.2.2.2.1, j.2.2.2.2.1, fun q a b => j.2.2.2.2.2.2.1 q b a, j.2.2.2.2.2.2.2⟩
theorem lw_call {p : Program} {l : Launch} {e : Env} {s : State} {m : MethodId} {below : List Frame} {meth : Method} {c : Code} {b L : Nat} {xs : Nat → Int32} (C0 : lw_At p s m meth c b L xs) {X : zz_Fx} {K : zz_Kd} {N : Nat} {h : zz_Hp} {Z : zz_Fx} {K2 : zz_Kd} {N2 : Nat} {h2 : zz_Hp} (SX : zz_S X N s) {d idx ci : Nat} {M' : zz_Mi} {As rest stk : List Value} {Q' : Option Value → zz_Hp → Prop} {fs : List (Option Nat)} (hk : zz_lv RL idx ci As.length M') (hK : K 0 = .inl (ci, fs)) (hN : 0 < N) (hd100 : d ≤ 100) (hlen : (zz_al (.ref 0 :: As)).length ≤ M'.2.2.1) (hG : zz_G K N d M' Q' 0 (zz_L0 M'.2.2.1 (.ref 0 :: As)) [] h) {pc : Nat} {ls : Array Slot} (hd : decode code pc = .ok (.invokevirtual idx, 3)) (hls : ls.size = 4) (hAs : As.map (zz_v X) = As) (hstk : stk = As.reverse ++ .ref (X.2.2 0) :: rest) (hw : (rest.map fun v => v.category).sum ≤ 8) {H : Heap} {locs : List Loc} {cells slots : Nat} (hcs : cells ≤ 600000 ∧ slots ≤ 7302250) {Q : State → Prop} (hJ : lw_J X K N h Z K2 N2 h2 s H locs)
    (kk : ∀ (v : Option Value) (h' : zz_Hp) (H' : Heap) (locs' : List Loc), Q' v h' → lw_J X K N h' Z K2 N2 h2 s H' locs' → W p l e room_1 s m #[Value.ref b] below meth c H' locs' cells slots Q (F0 m (pc + 3) ls ((v.map (zz_v X)).toList ++ rest))) : W p l e room_1 s m #[Value.ref b] below meth c H locs cells slots Q (F0 m pc ls stk) := by
  obtain ⟨hx, hb, hr, hml, hown, hts0, hX, hbl, hlocks, hgv⟩ := C0
  have hts : ∀ w ∈ yw, w.before #[Value.ref b] s = true := fun w hw => hts0 w (List.mem_filter.mp hw).1
  obtain ⟨⟨k1, k2, k3, k4, k5⟩, k6, k7, k8, T, n, k9⟩ := hk
  obtain ⟨j1, j2, j3, j4, j5, j6, j7, j8⟩ := hJ
  have hS0 : va_S (zz_A X N) s.heap H [] := ⟨j8.1, fun q hq _ => j8.2.1 q hq (Nat.not_le.mpr hq), fun _ h => by cases h⟩
  have hrun : va_Run p l e room_1 s m #[Value.ref b] below meth c H locs cells slots 0 0 (F0 m pc ls stk) rest (zz_Q X K N Q' (Value.ref (X.2.2 0) :: As.map (zz_v X)).toArray) (zz_A X N) :=
    va_runV (As := As.map (zz_v X)) (n := As.length) ⟨hx, hb, hml, hown, hts⟩ (zz_met k4 hlen hG l X) ⟨callB_of As.length hts (zz_wsgood k1) rfl rfl rfl (hts _ k2) (hts _ k6) k3 (by
        constructor
        · show d + 1 ≤ 2048; omega
        · show 8 + (M'.2.2.1 + 11) + 64 * d ≤ 84000; omega), hts _ k7, hts _ k8⟩ ⟨zz_blind, va_recv SX.1 j1 k9 (zz_eO hN hK), fun U hU hW => ⟨rfl, by rw [hU]; exact j1, j2, zz_S_warm SX hU hW hS0⟩⟩ rfl (by simp) hls (by rw [hAs]; exact hstk) (lv_room hw) hd hcs
  intro T0 hT0 Y
  obtain ⟨v, st₀, t, T', Lx, e0, Y', hL, e1, e2, ⟨v', h', hq, ho, hP', hD', hF⟩, hgo⟩ := hrun T0 hT0 Y
  have hv : v = v'.map (zz_v X) := by injection ho
  subst hv
  have hJ' : lw_J X K N h' Z K2 N2 h2 s T'.heap (locs ++ Lx) := by
    refine ⟨by rw [e1]; exact hP', hD', j3.kept fun k q hk => ?_, j4, j5, j6, j7, ?_, fun q hq hn => ?_, fun q hq => ?_⟩
    · rw [e1, hF.2 q.1 (by rw [e0]; exact (j3 k q hk).lt) (fun w => j7 q.1 w (j4.2 k q hk)), e0]
    · rw [e1]; exact Nat.le_trans j8.1 (by rw [← e0]; exact hF.1)
    · rw [e1, hF.2 q (by rw [e0]; exact Nat.lt_of_lt_of_le hq j8.1) (fun w => hn (j5 q w)), e0]; exact j8.2.1 q hq hn
    · rcases List.mem_append.mp hq with q1 | q1
      · exact j8.2.2 q q1
      · exact j5 _ (hL q q1)
  obtain ⟨t2, s2, f2⟩ := kk v' h' T'.heap (locs ++ Lx) hq hJ' T' rfl Y'
  exact ⟨t2, hgo t2 s2, f2⟩
/-- what stays over the law's loop -/
def lw_E (p : Program) (s : State) (m : MethodId) (meth : Method) (c : Code) (b L : Nat) (xs : Nat → Int32) (X Y : zz_Fx) : Prop := lw_At p s m meth c b L xs ∧ zz_S X zNC s ∧ zz_S Y zNR s ∧ L ≤ 3072
def lw_L (X Y : zz_Fx) (b i : Nat) (ls : Array Slot) : Prop := lv_has ls 4 [(0, .ref b), (1, .ref (X.2.2 0)), (2, .ref (Y.2.2 0)), (3, .int (nI i))]
def lw_W (p : Program) (l : Launch) (e : Env) (s : State) (m : MethodId) (b : Nat) (below : List Frame) (meth : Method) (c : Code) (Q : State → Prop) (H : Heap) (locs : List Loc) (pc : Nat) (ls : Array Slot) (st : List Value) : Prop := W p l e room_1 s m #[Value.ref b] below meth c H locs 84 2832 Q (F0 m pc ls st)
section LW
variable {p : Program} {l : Launch} {e : Env} {s : State} {m : MethodId} {below : List Frame} {meth : Method} {c : Code} {b L : Nat} {xs : Nat → Int32} {X Y : zz_Fx} {Q : State → Prop} {H : Heap} {locs : List Loc} {pc : Nat} {ls : Array Slot} {rest stk : List Value} {i : Nat} {h h2 : zz_Hp}
theorem lw_ld (E : lw_E p s m meth c b L xs X Y) (hl : lw_L X Y b i ls) (hS : va_S (fun q => s.heap.size ≤ q) s.heap H locs) {j : Nat} {j' : Int} (hj : Int32.ofInt j' = nI j) (hij : i + j < L) (d0 : decode code pc = .ok (.aload_n 0, 1)) (d1 : decode code (pc + 1) = .ok (.iload_n 3, 1)) (d2 : decode code (pc + 2) = .ok (.iconst j', 1)) (d3 : decode code (pc + 3) = .ok (.iadd, 1)) (d4 : decode code (pc + 4) = .ok (.iaload, 1))
    (kk : lw_W p l e s m b below meth c Q H locs (pc + 5) ls (.int (xs (i + j)) :: rest)) : lw_W p l e s m b below meth c Q H locs pc ls rest := by
  obtain ⟨⟨hx, hb, hr, hml, hown, hts0, hX, hbl, hlocks, hgv⟩, -, -, hL⟩ := E
  refine lv_aload_n hx hb d0 rfl (lv_at hl 0 rfl) ?_
  refine lv_iload_n hx hb d1 rfl (lv_at hl 3 rfl) ?_
  refine lv_iconst hx hb d2 hj ?_
  refine lv_iadd hx hb d3 ?_
  rw [nv_add]
  refine va_sld hx hb hX hbl (Nat.not_le.mpr hbl) hS (nv_in hij (by omega)) d4 ?_
  rw [nv_tn (by omega)]
  exact kk
theorem lw_a1 (E : lw_E p s m meth c b L xs X Y) (hl : lw_L X Y b i ls) (d0 : decode code pc = .ok (.aload_n 1, 1)) (kk : lw_W p l e s m b below meth c Q H locs (pc + 1) ls (.ref (X.2.2 0) :: rest)) : lw_W p l e s m b below meth c Q H locs pc ls rest := lv_aload_n E.1.1 E.1.2.1 d0 rfl (lv_at hl 1 rfl) kk
theorem lw_a2 (E : lw_E p s m meth c b L xs X Y) (hl : lw_L X Y b i ls) (d0 : decode code pc = .ok (.aload_n 2, 1)) (kk : lw_W p l e s m b below meth c Q H locs (pc + 1) ls (.ref (Y.2.2 0) :: rest)) : lw_W p l e s m b below meth c Q H locs pc ls rest := lv_aload_n E.1.1 E.1.2.1 d0 rfl (lv_at hl 2 rfl) kk
theorem lw_cC (E : lw_E p s m meth c b L xs X Y) (hl : lw_L X Y b i ls) {d idx : Nat} {M' : zz_Mi} {As : List Value} {Q' : Int32 → zz_Hp → Prop} (hk : zz_lv RL idx 8 As.length M') (hd100 : d ≤ 100) (hlen : (zz_al (.ref 0 :: As)).length ≤ M'.2.2.1) (hG : zz_G zKC zNC d M' (qI Q') 0 (zz_L0 M'.2.2.1 (.ref 0 :: As)) [] h) (hd : decode code pc = .ok (.invokevirtual idx, 3)) (hAs : As.map (zz_v X) = As) (hstk : stk = As.reverse ++ .ref (X.2.2 0) :: rest) (hw : (rest.map fun v => v.category).sum ≤ 8) (hJ : lw_J X zKC zNC h Y zKR zNR h2 s H locs)
    (kk : ∀ (v : Int32) (h' : zz_Hp) (H' : Heap) (locs' : List Loc), Q' v h' → lw_J X zKC zNC h' Y zKR zNR h2 s H' locs' → lw_W p l e s m b below meth c Q H' locs' (pc + 3) ls (.int v :: rest)) : lw_W p l e s m b below meth c Q H locs pc ls stk :=
  lw_call E.1 E.2.1 hk kC_0 (by decide) hd100 hlen hG hd hl.1 hAs hstk hw ⟨Nat.le_of_ble_eq_true rfl, Nat.le_of_ble_eq_true rfl⟩ hJ fun v h' H' locs' hq hJ' => by
    obtain ⟨r, rfl, hq⟩ := hq
    exact kk r h' H' locs' hq hJ'
theorem lw_cCl (E : lw_E p s m meth c b L xs X Y) (hl : lw_L X Y b i ls) {d idx : Nat} {M' : zz_Mi} {As : List Value} {Q' : Int64 → zz_Hp → Prop} (hk : zz_lv RL idx 8 As.length M') (hd100 : d ≤ 100) (hlen : (zz_al (.ref 0 :: As)).length ≤ M'.2.2.1) (hG : zz_G zKC zNC d M' (qL Q') 0 (zz_L0 M'.2.2.1 (.ref 0 :: As)) [] h) (hd : decode code pc = .ok (.invokevirtual idx, 3)) (hAs : As.map (zz_v X) = As) (hstk : stk = As.reverse ++ .ref (X.2.2 0) :: rest) (hw : (rest.map fun v => v.category).sum ≤ 8) (hJ : lw_J X zKC zNC h Y zKR zNR h2 s H locs)
    (kk : ∀ (v : Int64) (h' : zz_Hp) (H' : Heap) (locs' : List Loc), Q' v h' → lw_J X zKC zNC h' Y zKR zNR h2 s H' locs' → lw_W p l e s m b below meth c Q H' locs' (pc + 3) ls (.long v :: rest)) : lw_W p l e s m b below meth c Q H locs pc ls stk :=
  lw_call E.1 E.2.1 hk kC_0 (by decide) hd100 hlen hG hd hl.1 hAs hstk hw ⟨Nat.le_of_ble_eq_true rfl, Nat.le_of_ble_eq_true rfl⟩ hJ fun v h' H' locs' hq hJ' => by
    obtain ⟨r, rfl, hq⟩ := hq
    exact kk r h' H' locs' hq hJ'
theorem lw_cR (E : lw_E p s m meth c b L xs X Y) (hl : lw_L X Y b i ls) {d idx : Nat} {M' : zz_Mi} {As : List Value} {Q' : Int32 → zz_Hp → Prop} (hk : zz_lv RL idx 9 As.length M') (hd100 : d ≤ 100) (hlen : (zz_al (.ref 0 :: As)).length ≤ M'.2.2.1) (hG : zz_G zKR zNR d M' (qI Q') 0 (zz_L0 M'.2.2.1 (.ref 0 :: As)) [] h2) (hd : decode code pc = .ok (.invokevirtual idx, 3)) (hAs : As.map (zz_v Y) = As) (hstk : stk = As.reverse ++ .ref (Y.2.2 0) :: rest) (hw : (rest.map fun v => v.category).sum ≤ 8) (hJ : lw_J X zKC zNC h Y zKR zNR h2 s H locs)
    (kk : ∀ (v : Int32) (h' : zz_Hp) (H' : Heap) (locs' : List Loc), Q' v h' → lw_J X zKC zNC h Y zKR zNR h' s H' locs' → lw_W p l e s m b below meth c Q H' locs' (pc + 3) ls (.int v :: rest)) : lw_W p l e s m b below meth c Q H locs pc ls stk :=
  lw_call E.1 E.2.2.1 hk kR_0 (by decide) hd100 hlen hG hd hl.1 hAs hstk hw ⟨Nat.le_of_ble_eq_true rfl, Nat.le_of_ble_eq_true rfl⟩ hJ.swap fun v h' H' locs' hq hJ' => by
    obtain ⟨r, rfl, hq⟩ := hq
    exact kk r h' H' locs' hq hJ'.swap
theorem lw_cRl (E : lw_E p s m meth c b L xs X Y) (hl : lw_L X Y b i ls) {d idx : Nat} {M' : zz_Mi} {As : List Value} {Q' : Int64 → zz_Hp → Prop} (hk : zz_lv RL idx 9 As.length M') (hd100 : d ≤ 100) (hlen : (zz_al (.ref 0 :: As)).length ≤ M'.2.2.1) (hG : zz_G zKR zNR d M' (qL Q') 0 (zz_L0 M'.2.2.1 (.ref 0 :: As)) [] h2) (hd : decode code pc = .ok (.invokevirtual idx, 3)) (hAs : As.map (zz_v Y) = As) (hstk : stk = As.reverse ++ .ref (Y.2.2 0) :: rest) (hw : (rest.map fun v => v.category).sum ≤ 8) (hJ : lw_J X zKC zNC h Y zKR zNR h2 s H locs)
    (kk : ∀ (v : Int64) (h' : zz_Hp) (H' : Heap) (locs' : List Loc), Q' v h' → lw_J X zKC zNC h Y zKR zNR h' s H' locs' → lw_W p l e s m b below meth c Q H' locs' (pc + 3) ls (.long v :: rest)) : lw_W p l e s m b below meth c Q H locs pc ls stk :=
  lw_call E.1 E.2.2.1 hk kR_0 (by decide) hd100 hlen hG hd hl.1 hAs hstk hw ⟨Nat.le_of_ble_eq_true rfl, Nat.le_of_ble_eq_true rfl⟩ hJ.swap fun v h' H' locs' hq hJ' => by
    obtain ⟨r, rfl, hq⟩ := hq
    exact kk r h' H' locs' hq hJ'.swap
end LW
