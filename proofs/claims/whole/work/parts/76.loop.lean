/-! the law's loop -/
theorem lw_six {L i : Nat} (hL : L ≤ 3072) (hi : i ≤ 4000) (h : ¬ Int32.ofNat L - 6 < nI i) : i + 6 ≤ L := by
  have e : (Int32.ofNat L - 6).toInt = (L : Int) - 6 := by
    rcases Nat.lt_or_ge L 6 with z | z
    · rcases (show L = 0 ∨ L = 1 ∨ L = 2 ∨ L = 3 ∨ L = 4 ∨ L = 5 by omega) with rfl | rfl | rfl | rfl | rfl | rfl <;> decide
    · have : Int32.ofNat L - 6 = nI (L - 6) := nv_sub z
      rw [this, nv_toInt (by omega)]; omega
  have h1 := iv_le.mp (Int32.not_lt.mp h)
  rw [e, nv_toInt (by omega)] at h1
  omega
theorem lw_loop {p : Program} {l : Launch} {e : Env} {s : State} {m : MethodId} {below : List Frame} {meth : Method} {c : Code} {b L : Nat} {xs : Nat → Int32} {X Y : zz_Fx} (E : lw_E p s m meth c b L xs X Y) : ∀ (n i : Nat) (h h2 : zz_Hp) (H : Heap) (locs : List Loc) (ls : Array Slot), i ≤ L → L < i + n → lw_L X Y b i ls → lw_J X zKC zNC h Y zKR zNR h2 s H locs → Sim h h2 → lw_W p l e s m b below meth c (lw_Z below #[Value.ref b] s) H locs 18 ls [] := by
  intro n
  induction n with
  | zero => intro i h h2 H locs ls h1 h3; omega
  | succ n ih =>
    intro i h h2 H locs ls hiL hn hl hJ hs
    obtain ⟨⟨hx, hb, hr, hml, hown, hts0, hX, hbl, hlocks, hgv⟩, -, -, hL⟩ := id E
    have hS := hJ.2.2.2.2.2.2.2
    have hbA : ¬ (fun q : Nat => s.heap.size ≤ q) b := Nat.not_le.mpr hbl
    refine lv_iload_n hx hb dL_law_18 rfl (lv_at hl 3 rfl) ?_
    refine lv_aload_n hx hb dL_law_19 rfl (lv_at hl 0 rfl) ?_
    refine va_slen hx hb hX hbl hbA hS dL_law_20 ?_
    refine lv_bipush (v := 6) hx hb dL_law_21 (by decide) ?_
    refine lv_isub hx hb dL_law_23 ?_
    refine lv_icmp_gt (tgt := 1422) hx hb dL_law_24 (by decide) (fun c1 => ?_) (fun c1 => ?_)
    · refine lv_iconst (v := 1) hx hb dL_law_1422 (by decide) ?_
      refine va_forget (fun q hq => hS.2.2 q hq) ?_
      refine W.widen (k := 600000) (n := 7302250) (Nat.le_of_ble_eq_true rfl) (Nat.le_of_ble_eq_true rfl) ?_
      exact lw_ret hx hb hr hlocks dL_law_1423
    · have hi := lw_six hL (by omega) c1
      refine lv_aload_n hx hb dL_law_27 rfl (lv_at hl 0 rfl) ?_
      refine lv_iload_n hx hb dL_law_28 rfl (lv_at hl 3 rfl) ?_
      refine va_sld hx hb hX hbl hbA hS (nv_in (by omega : i < L) (by omega)) dL_law_29 ?_
      refine lv_bipush (v := 63) hx hb dL_law_30 (by decide) ?_
      refine lv_iand hx hb dL_law_32 ?_
      refine lw_switch E hl hi hJ hs fun h' h2' H' locs' hJ' hs' => ?_
      refine lv_iinc (v := nI (i + 6)) (lv' := [(3, .int (nI (i + 6))), (0, .ref b), (1, .ref (X.2.2 0)), (2, .ref (Y.2.2 0))]) hx hb dL_law_1416 hl (k := 3) rfl (nv_add i 6) (by decide) rfl (fun ls' hl' => ?_)
      refine lv_goto (tgt := 18) hx hb dL_law_1419 (by decide) ?_
      exact ih (i + 6) h' h2' H' locs' ls' hi (by omega) (lv_sub hl' [1, 2, 3, 0] rfl) hJ' hs'
