/-! the law's start: what is known of the machine, the two new objects -/
theorem zz_w_u {X X' : zz_Fx} {K : zz_Kd} {N B : Nat} {h : zz_Hp} (e1 : X.1 = X'.1) (e2 : X.2.1 = X'.2.1) (hu : ∀ k, k < B → X.2.2 k = X'.2.2 k) (hN : N ≤ B) (hK : ∀ k, k < N → ∀ ci fs, K k = .inl (ci, fs) → ∀ t, some t ∈ fs → t < B) : zz_w X K N h = zz_w X' K N h := by
  unfold zz_w
  refine List.map_congr_left fun k hk => ?_
  have hk : k < N := List.mem_range.mp hk
  rw [hu k (by omega)]
  congr 1
  unfold zz_e
  cases q : K k with
  | inl q' =>
    obtain ⟨ci, fs⟩ := q'
    simp only [zz_ex]
    congr 2
    apply List.ext_getElem?
    intro j
    unfold zz_fs
    rw [List.getElem?_mapIdx, List.getElem?_mapIdx]
    cases hf : fs[j]? with
    | none => rfl
    | some f =>
      cases f with
      | none => rfl
      | some t =>
        have := hK k hk ci fs q t (List.mem_of_getElem? hf)
        show some (Value.ref (X.2.2 t)) = some (Value.ref (X'.2.2 t))
        rw [hu t this]
  | inr q' => simp only [zz_ex, e2]
def zz_kb (K : zz_Kd) (N B : Nat) : Bool := (List.range N).all fun k => match K k with
  | .inl q => q.2.all fun o => match o with
    | some t => decide (t < B)
    | none => true
  | .inr _ => true
theorem zz_kb_ok {K : zz_Kd} {N B : Nat} (h : zz_kb K N B = true) : ∀ k, k < N → ∀ ci fs, K k = .inl (ci, fs) → ∀ t, some t ∈ fs → t < B := by
  intro k hk ci fs e t ht
  have h1 := List.all_eq_true.mp h k (List.mem_range.mpr hk)
  rw [e] at h1
  have h2 := List.all_eq_true.mp h1 (some t) ht
  simpa using h2
theorem zz_kC : zz_kb zKC zNC 1000 = true := by decide +kernel
theorem zz_kR : zz_kb zKR zNR 1000 = true := by decide +kernel
theorem zz_wl {X : zz_Fx} {K : zz_Kd} {N : Nat} {h : zz_Hp} : (zz_w X K N h).length = N := by simp [zz_w]
theorem zz_w_in {X : zz_Fx} {K : zz_Kd} {N : Nat} {h : zz_Hp} {k : Nat} {q : Nat × va_E} (hk : (zz_w X K N h)[k]? = some q) : k < N ∧ q.1 = X.2.2 k := by
  have h1 : k < N := by have := (List.getElem?_eq_some_iff.mp hk).1; rwa [zz_wl] at this
  rw [zz_at h1] at hk
  exact ⟨h1, by rw [← Option.some.inj hk]⟩
theorem lw_mkJ {X Y : zz_Fx} {K K2 : zz_Kd} {N N2 : Nat} {h h2 : zz_Hp} {s : State} {H : Heap} {locs : List Loc} (eG : X.1 = Y.1) (hP : va_P X.1 vwCl (zz_w X K N h ++ zz_w Y K2 N2 h2) H) (hD : va_D (fun q => s.heap.size ≤ q) (zz_w X K N h ++ zz_w Y K2 N2 h2)) (hS : va_S (fun q => s.heap.size ≤ q) s.heap H locs) : lw_J X K N h Y K2 N2 h2 s H locs := by
  have l1 : ∀ k q, (zz_w X K N h)[k]? = some q → (zz_w X K N h ++ zz_w Y K2 N2 h2)[k]? = some q := fun k q hk => by
    rw [List.getElem?_append_left (List.getElem?_eq_some_iff.mp hk).1]; exact hk
  have l2 : ∀ k q, (zz_w Y K2 N2 h2)[k]? = some q → (zz_w X K N h ++ zz_w Y K2 N2 h2)[N + k]? = some q := fun k q hk => by
    rw [List.getElem?_append_right (by rw [zz_wl]; omega), zz_wl, show N + k - N = k by omega]; exact hk
  refine ⟨fun k q hk => hP k q (l1 k q hk), ⟨fun i j x y hx hy => hD.1 i j x y (l1 i x hx) (l1 j y hy), fun k q hk => ⟨k, zz_w_in hk⟩⟩, fun k q hk => ?_, ⟨fun i j x y hx hy hxy => ?_, fun k q hk => ⟨k, zz_w_in hk⟩⟩, ?_, ?_, ?_, hS⟩
  · rw [← eG]; exact hP _ q (l2 k q hk)
  · have := hD.1 _ _ x y (l2 i x hx) (l2 j y hy) hxy
    omega
  · rintro q ⟨k, hk, rfl⟩
    exact hD.2 k _ (l1 k _ (zz_at hk))
  · rintro q ⟨k, hk, rfl⟩
    exact hD.2 _ _ (l2 k _ (zz_at hk))
  · rintro q ⟨k, hk, rfl⟩ ⟨j, hj, e⟩
    have := hD.1 k (N + j) _ _ (l1 k _ (zz_at hk)) (l2 j _ (zz_at hj)) e
    omega
theorem lw_ctor {p : Program} {l : Launch} {e : Env} {s : State} {m : MethodId} {below : List Frame} {meth : Method} {c : Code} {b L : Nat} {xs : Nat → Int32} (C0 : lw_At p s m meth c b L xs) {G : va_G} {ca : Nat → ClassId} (hSs : zb_S G ca s) {M' : zz_Mi} {R' : Room} {idx ci q : Nat} {fs0 : List Value} {Q' : va_G → (Nat → ClassId) → Nat → va_W → Prop} (hM : zb_K M' R' ci fs0 [] Q') (hok : zb_ok M' 0) (hlk : Cond.methodLink RL idx M'.1 ∈ yw) (hR' : R'.frames + 1 ≤ 2048 ∧ 8 + (M'.2.2.1 + 11) + R'.locals ≤ 84000) {pc : Nat} {ls : Array Slot} {st : List Value} (hls : ls.size = 4) (hd : decode code pc = .ok (.invokespecial idx, 3)) (hw : (st.map fun v => v.category).sum ≤ 8) {cells slots : Nat} (hc : cells + R'.cells ≤ 600000 ∧ slots + R'.slots ≤ 7302250) {w0 : va_W} {H : Heap} {locs : List Loc} {Q : State → Prop} (hP : va_P G vwCl (w0 ++ [(q, .inr (ci, fs0))]) H) (hD : va_D (fun q => s.heap.size ≤ q) (w0 ++ [(q, .inr (ci, fs0))])) (hS : va_S (fun q => s.heap.size ≤ q) s.heap H locs)
    (kk : ∀ (w1 : va_W) (H1 : Heap) (locs1 : List Loc), Q' G ca q w1 → va_P G vwCl (w0 ++ w1) H1 → va_D (fun q => s.heap.size ≤ q) (w0 ++ w1) → va_S (fun q => s.heap.size ≤ q) s.heap H1 locs1 → W p l e room_1 s m #[Value.ref b] below meth c H1 locs1 (cells + R'.cells) (slots + R'.slots) Q (F0 m (pc + 3) ls st)) : W p l e room_1 s m #[Value.ref b] below meth c H locs cells slots Q (F0 m pc ls (.ref q :: st)) := by
  obtain ⟨hx, hb, hr, hml, hown, hts0, hX, hbl, hlocks, hgv⟩ := C0
  have hts : ∀ w ∈ yw, w.before #[Value.ref b] s = true := fun w hw => hts0 w (List.mem_filter.mp hw).1
  obtain ⟨⟨k1, k2, k3, k4, k5⟩, hin, him, hret⟩ := hok
  have hF : ∀ x, va_A [(q, (Sum.inr (ci, fs0) : va_E))] H.size x → s.heap.size ≤ x := by
    intro x hx
    rcases hx with ⟨k, e, h⟩ | h
    · have hz : k < 1 := (List.getElem?_eq_some_iff.mp h).1
      rw [show k = 0 by omega] at h
      cases h
      exact hD.2 w0.length (q, .inr (ci, fs0)) (zb_last w0 _ (q, .inr (ci, fs0))).1
    · exact Nat.le_trans hS.1 h
  have hPc : va_P G vwCl [(q, .inr (ci, fs0))] H := fun k x hx => by
    have hz : k < 1 := (List.getElem?_eq_some_iff.mp hx).1
    rw [show k = 0 by omega] at hx
    cases hx
    exact hP w0.length (q, .inr (ci, fs0)) (zb_last w0 _ (q, .inr (ci, fs0))).1
  have hDc : va_D (fun _ => True) [(q, (Sum.inr (ci, fs0) : va_E))] := ⟨fun i j x y hx hy _ => by
    have := (List.getElem?_eq_some_iff.mp hx).1
    have := (List.getElem?_eq_some_iff.mp hy).1
    simp only [List.length_singleton] at *
    omega, fun _ _ _ => trivial⟩
  have hps : PreS s H (va_Pc [.ref q] (zb_pre G ca H.size [(q, .inr (ci, fs0))])) [.ref q] := ⟨zb_blind, fun U hU hW => ⟨rfl, by rw [hU], by rw [hU]; exact hPc, hDc, zb_S_warm hSs hW⟩⟩
  have hws : zz_ws M' = Cond.code M'.1 M'.2.1 M'.2.2.1 none :: yw := by unfold zz_ws; rw [hret]
  have hrun : va_Run p l e room_1 s m #[Value.ref b] below meth c H locs cells slots R'.cells R'.slots (F0 m pc ls (.ref q :: st)) st (zb_Q G (va_A [(q, .inr (ci, fs0))] H.size) (Q' G ca q) #[.ref q]) (va_A [(q, .inr (ci, fs0))] H.size) :=
    va_runI (As := []) (n := 0) ⟨hx, hb, hml, hown, hts⟩ (hM l G ca q H.size) (cwI 0 hts (zz_wsgood k1) hws rfl rfl (hts _ k2) (hts _ hlk) (hts _ him) hin k3 hR') hps rfl rfl hls rfl (lv_room hw) hd hc
  refine va_callv hrun hS (fun x _ h => hF x h) hF fun w1 t H1 locs1 ht hvm hw1 hB hz1 hk1 hS1 => ?_
  obtain ⟨hP1, hD1⟩ := hB
  rw [ht] at hP1
  obtain ⟨hP2, hD2⟩ := zb_join (w0 := w0) hP hD hk1 hF hP1 hD1
  exact kk w1 H1 locs1 hw1 hP2 hD2 hS1
