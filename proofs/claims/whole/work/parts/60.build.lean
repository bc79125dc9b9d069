/-! constructors: worlds that grow -/
def zb_S (G : va_G) (ca : Nat → ClassId) (s : State) : Prop := va_K G vwCl (zz_ty (G, ca, id)) s ∧ ∀ q ∈ zz_nw, va_Nw (.methodLinkNest q.1 q.2.1 q.2.2.1 q.2.2.2) s
theorem zb_S_warm {G : va_G} {ca : Nat → ClassId} {s U : State} (h : zb_S G ca s) (hW : s.WarmedH U.vm) : zb_S G ca U := ⟨va_K.moved hW.alike h.1, fun q hq => va_Nw.warmM hW (h.2 q hq)⟩
theorem zb_S_same {G : va_G} {ca : Nat → ClassId} {s U : State} (h : zb_S G ca s) (hv : U.vm = s.vm) : zb_S G ca U := ⟨va_K.moved (by rw [hv]; exact Vm.Alike.refl _) h.1, fun q hq => va_Nw.same rfl hv.symm (h.2 q hq)⟩
def zb_C (G : va_G) (ca : Nat → ClassId) (M : zz_Mi) (R0 : Room) (p : Program) (R : Room) (s : State) (m : MethodId) (args : Array Value) (meth : Method) (c : Code) : Prop :=
  p.tables.exec = Jvm.exec ∧ c.code = M.2.1 ∧ c.maxLocals = M.2.2.1 ∧ meth.sig.returnType = none ∧ meth.locks = false ∧ s.vm.findClass M.1.cls = some m.cls ∧ (∀ w ∈ yw, w.before args s = true) ∧ zb_S G ca s ∧ meth.name = "<init>" ∧ R = R0
def zb_Q (G : va_G) (A : Nat → Prop) (Q : va_W → Prop) : Array Value → State → Outcome → State → Prop := va_Qv Q (fun ws t => va_P G vwCl ws t.heap ∧ va_D A ws) A
/-- from pc on, with these locals, this stack, this world, the constructor ends with a world of Q -/
def zb_G (G : va_G) (ca : Nat → ClassId) (M : zz_Mi) (R0 : Room) (Q : va_W → Prop) (pc : Nat) (lv : List (Nat × Value)) (st : List Value) (ws : va_W) (cells slots : Nat) : Prop :=
  ∀ (A : Nat → Prop) (p : Program) (l : Launch) (e : Env) (R : Room) (s : State) (m : MethodId) (args : Array Value) (below : List Frame) (meth : Method) (c : Code) (H : Heap) (locs : List Loc) (ls : Array Slot),
    zb_C G ca M R0 p R s m args meth c → lv_has ls M.2.2.1 lv → va_P G vwCl ws H → va_D A ws → va_S A s.heap H locs → (∀ q : Nat, s.heap.size ≤ q → A q) →
    W p l e R s m args below meth c H locs cells slots (MQ below (zb_Q G A Q) args s R0.cells R0.slots A) (F0 m pc ls st)
theorem zb_last {α : Type} : ∀ (w : List α) (e e' : α), (w ++ [e])[w.length]? = some e ∧ (w ++ [e]).set w.length e' = w ++ [e'] := by
  intro w e e'
  constructor
  · simp
  · simp
section ZB
variable {G : va_G} {ca : Nat → ClassId} {M : zz_Mi} {R0 : Room} {Q : va_W → Prop} {pc : Nat} {lv : List (Nat × Value)} {st : List Value} {ws : va_W} {cells slots : Nat}
theorem zb_aload_n {q : Fin 4} {i x : Nat} (hd : decode M.2.1 pc = .ok (.aload_n q, 1)) (hi : (q : Nat) = i) (k0 : Nat) (hm : lv[k0]? = some (i, .ref x)) (k : zb_G G ca M R0 Q (pc + 1) lv (.ref x :: st) ws cells slots) : zb_G G ca M R0 Q pc lv st ws cells slots := by
  intro A p l e R s m args below meth c H locs ls C hl hP hD hS hA
  exact lv_aload_n C.1 C.2.1 hd hi (lv_at hl k0 hm) (k A p l e R s m args below meth c H locs ls C hl hP hD hS hA)
theorem zb_iload_n {q : Fin 4} {i : Nat} {x : Int32} (hd : decode M.2.1 pc = .ok (.iload_n q, 1)) (hi : (q : Nat) = i) (k0 : Nat) (hm : lv[k0]? = some (i, .int x)) (k : zb_G G ca M R0 Q (pc + 1) lv (.int x :: st) ws cells slots) : zb_G G ca M R0 Q pc lv st ws cells slots := by
  intro A p l e R s m args below meth c H locs ls C hl hP hD hS hA
  exact lv_iload_n C.1 C.2.1 hd hi (lv_at hl k0 hm) (k A p l e R s m args below meth c H locs ls C hl hP hD hS hA)
theorem zb_iconst {n : Int} {v : Int32} (hd : decode M.2.1 pc = .ok (.iconst n, 1)) (hv : Int32.ofInt n = v) (k : zb_G G ca M R0 Q (pc + 1) lv (.int v :: st) ws cells slots) : zb_G G ca M R0 Q pc lv st ws cells slots := by
  intro A p l e R s m args below meth c H locs ls C hl hP hD hS hA
  exact lv_iconst C.1 C.2.1 hd hv (k A p l e R s m args below meth c H locs ls C hl hP hD hS hA)
theorem zb_bipush {n : Int} {v : Int32} (hd : decode M.2.1 pc = .ok (.bipush n, 2)) (hv : (Int8.ofInt n).toInt32 = v) (k : zb_G G ca M R0 Q (pc + 2) lv (.int v :: st) ws cells slots) : zb_G G ca M R0 Q pc lv st ws cells slots := by
  intro A p l e R s m args below meth c H locs ls C hl hP hD hS hA
  exact lv_bipush C.1 C.2.1 hd hv (k A p l e R s m args below meth c H locs ls C hl hP hD hS hA)
theorem zb_sipush {n : Int} {v : Int32} (hd : decode M.2.1 pc = .ok (.sipush n, 3)) (hv : (Int16.ofInt n).toInt32 = v) (k : zb_G G ca M R0 Q (pc + 3) lv (.int v :: st) ws cells slots) : zb_G G ca M R0 Q pc lv st ws cells slots := by
  intro A p l e R s m args below meth c H locs ls C hl hP hD hS hA
  exact lv_sipush C.1 C.2.1 hd hv (k A p l e R s m args below meth c H locs ls C hl hP hD hS hA)
theorem zb_imul {x y : Int32} (hd : decode M.2.1 pc = .ok (.imul, 1)) (k : zb_G G ca M R0 Q (pc + 1) lv (.int (x * y) :: st) ws cells slots) : zb_G G ca M R0 Q pc lv (.int y :: .int x :: st) ws cells slots := by
  intro A p l e R s m args below meth c H locs ls C hl hP hD hS hA
  exact lv_imul C.1 C.2.1 hd (k A p l e R s m args below meth c H locs ls C hl hP hD hS hA)
theorem zb_dup {v : Value} (hd : decode M.2.1 pc = .ok (.dup, 1)) (hv : v.category = 1) (k : zb_G G ca M R0 Q (pc + 1) lv (v :: v :: st) ws cells slots) : zb_G G ca M R0 Q pc lv (v :: st) ws cells slots := by
  intro A p l e R s m args below meth c H locs ls C hl hP hD hS hA
  exact lv_dup C.1 C.2.1 hd hv (k A p l e R s m args below meth c H locs ls C hl hP hD hS hA)
theorem zb_obj {idx x : Nat} (hd : decode M.2.1 pc = .ok (.invokespecial idx, 3)) (hk : Cond.methodLink M.1.cls idx objectInit ∈ yw ∧ Cond.instanceMethod objectInit ∈ yw ∧ Cond.code objectInit ⟨#[0xb1]⟩ 1 none ∈ yw) (h1 : 1 ≤ R0.frames) (h2 : 12 ≤ R0.locals) (k : zb_G G ca M R0 Q (pc + 3) lv [] ws cells slots) : zb_G G ca M R0 Q pc lv [.ref x] ws cells slots := by
  intro A p l e R s m args below meth c H locs ls C hl hP hD hS hA
  have hts := C.2.2.2.2.2.2.1
  have hR : R = R0 := C.2.2.2.2.2.2.2.2.2
  refine W.objInit C.1 C.2.1 C.2.2.2.2.2.1 (hts _ hk.1) (hts _ hk.2.1) (hts _ hk.2.2) rfl (by rw [C.2.2.1]; exact hl.1) rfl hd (by rw [hR]; exact h1) (by rw [hR]; show 2 * 0 + 0 + 12 ≤ _; omega) ?_
  exact k A p l e R s m args below meth c H locs ls C hl hP hD hS hA
theorem zb_newa {atype : ArrayType} {k0 : Nat} {t : FieldType} (ht : newarray.typeOf atype = t) (hk0 : (zz_ty (G, ca, id))[k0]? = some (ca k0, t)) (hra : ∀ (U : State) (cA : ClassId), va_RA U cA t → U.vm.findClass ("[" ++ t.toString) = some cA) (harr : Cond.arrayClass t ∈ yw) {n : Int32} {N' : Nat} {a0 : vp_A} (ha : ∀ cA : ClassId, vp_cell cA a0 = arrV cA N' (fun _ => defaultValue t)) (hn : ¬ n < 0) (hN : n.toNatClampNeg = N') (hbytes : N' * componentBytes t ≤ 536870912) (hcells : cells + 1 ≤ R0.cells) (hslots : slots + N' ≤ R0.slots) (hd : decode M.2.1 pc = .ok (.newarray atype, 2)) {e0 : Nat × va_E} {rest : va_W}
    (kk : ∀ q : Nat, zb_G G ca M R0 Q (pc + 2) lv (.ref q :: st) (e0 :: (rest ++ [(q, .inl (ca k0, a0))])) (cells + 1) (slots + N')) : zb_G G ca M R0 Q pc lv (.int n :: st) (e0 :: rest) cells slots := by
  intro A p l e R s m args below meth c H locs ls C hl hP hD hS hA
  have hts := C.2.2.2.2.2.2.1
  have hR : R = R0 := C.2.2.2.2.2.2.2.2.2
  have hK : va_K G vwCl (zz_ty (G, ca, id)) s := C.2.2.2.2.2.2.2.1.1
  refine va_newa C.1 C.2.1 (by rw [ht]; exact hts _ harr) ht hK hP hD hS hA ha hn hN hbytes (by rw [hR]; exact hcells) (by rw [hR]; exact hslots) hd fun q cA H1 hK1 hP1 hD1 hS1 => ?_
  have e1 := hra s _ (hK.2 k0 _ hk0).2
  have e2 := hra s _ (hK1.2 (zz_ty (G, ca, id)).length (cA, t) (by rw [List.getElem?_append_right (Nat.le_refl _), Nat.sub_self]; rfl)).2
  have e3 : cA = ca k0 := Option.some.inj (e2.symm.trans e1)
  subst e3
  exact kk q A p l e R s m args below meth c H1 locs ls C hl hP1 hD1 hS1 hA
theorem zb_iast {n : Nat} {a : Nat} {f : Nat → Int32} {i x : Int32} (hd : decode M.2.1 pc = .ok (.iastore, 1)) (hin : vp_in i n) {e0 : Nat × va_E} {rest : va_W}
    (kk : zb_G G ca M R0 Q (pc + 1) lv st (e0 :: (rest ++ [(a, .inl (ca 0, n, .inl (upd f i.toNatClampNeg x)))])) cells slots) : zb_G G ca M R0 Q pc lv (.int x :: .int i :: .ref a :: st) (e0 :: (rest ++ [(a, .inl (ca 0, n, .inl f))])) cells slots := by
  intro A p l e R s m args below meth c H locs ls C hl hP hD hS hA
  have hK : va_K G vwCl (zz_ty (G, ca, id)) s := C.2.2.2.2.2.2.2.1.1
  have z := zb_last (e0 :: rest) (a, (Sum.inl (ca 0, n, .inl f) : va_E)) (a, .inl (ca 0, n, .inl (upd f i.toNatClampNeg x)))
  refine va_iast C.1 C.2.1 hK hP hD hS (e0 :: rest).length 0 z.1 rfl hin hd fun H1 locs1 hP1 hD1 hS1 => ?_
  have e1 : (e0 :: (rest ++ [(a, (Sum.inl (ca 0, n, .inl f) : va_E))])).set (e0 :: rest).length (a, .inl (ca 0, n, .inl (upd f i.toNatClampNeg x))) = e0 :: (rest ++ [(a, .inl (ca 0, n, .inl (upd f i.toNatClampNeg x)))]) := z.2
  rw [e1] at hP1 hD1
  exact kk A p l e R s m args below meth c H1 locs1 ls C hl hP1 hD1 hS1 hA
theorem zb_put {idx ci k0 N x h0 : Nat} {T : u_T} {ty0 : Nat → FieldType} {ty : FieldType} {fs : List Value} (hd : decode M.2.1 pc = .ok (.putfield idx, 3)) (hc : vwCl[ci]? = some (M.1.cls, T, N)) (hk0 : k0 < N) (hin : ∀ k, k < N → u_lay M.1.cls T k ∈ yw) (hty : ∀ k, k < N → parseFieldDescriptor (T k).2.2.1 = some (ty0 k)) (hnm : ∀ a, a < N → ∀ b, b < N → a ≠ b → (T a).2.1 ≠ (T b).2.1) (hlink : Cond.fieldLink M.1.cls idx (T k0).1 (T k0).2.1 (T k0).2.2.1 ∈ yw) (hfin : (T k0).2.2.2 = true) (hdecl : (T k0).1 = M.1.cls) (hds : parseFieldDescriptor (T k0).2.2.1 = some ty) (hn : narrow ty (.ref x) = .ref x) (hfit : fits ty (.ref x) = true) (hl0 : fs.length = N) {rest : va_W}
    (kk : zb_G G ca M R0 Q (pc + 3) lv st ((h0, .inr (ci, fs.set k0 (.ref x))) :: rest) cells slots) : zb_G G ca M R0 Q pc lv (.ref x :: .ref h0 :: st) ((h0, .inr (ci, fs)) :: rest) cells slots := by
  intro A p l e R s m args below meth c H locs ls C hl hP hD hS hA
  have hts := C.2.2.2.2.2.2.1
  have hK : va_K G vwCl (zz_ty (G, ca, id)) s := C.2.2.2.2.2.2.2.1.1
  refine va_putF C.1 C.2.1 hts (zz_uws hin) ty0 hty hnm C.2.2.2.2.2.1 hK hP hD hS 0 rfl hc k0 hk0 (hts _ hlink) (fun _ h9 => h9) hfin C.2.2.2.2.2.2.2.2.1 hdecl hds hn hfit (by omega) hd fun H1 locs1 hP1 hD1 hS1 => ?_
  exact kk A p l e R s m args below meth c H1 locs1 ls C hl hP1 hD1 hS1 hA
theorem zb_new {idx ci N : Nat} {C0 : String} {T : u_T} {ty : Nat → FieldType} {fs : List Value} (hd : decode M.2.1 pc = .ok (.new idx, 3)) (hc : vwCl[ci]? = some (C0, T, N)) (hin : ∀ k, k < N → u_lay C0 T k ∈ yw) (hty : ∀ k, k < N → parseFieldDescriptor (T k).2.2.1 = some (ty k)) (hlk : Cond.classLink M.1.cls idx C0 ∈ yw) (hinst : Cond.instantiable C0 N ∈ yw) (hini : Cond.initialized C0 ∈ yw) (hfs : ∀ j, j < N → defaultValue (ty j) = vp_V fs j) (hcells : cells + 1 ≤ R0.cells) (hslots : slots + N ≤ R0.slots) {e0 : Nat × va_E} {rest : va_W}
    (kk : ∀ q : Nat, zb_G G ca M R0 Q (pc + 3) lv (.ref q :: st) (e0 :: (rest ++ [(q, .inr (ci, fs))])) (cells + 1) (slots + N)) : zb_G G ca M R0 Q pc lv st (e0 :: rest) cells slots := by
  intro A p l e R s m args below meth c H locs ls C hl hP hD hS hA
  have hts := C.2.2.2.2.2.2.1
  have hR : R = R0 := C.2.2.2.2.2.2.2.2.2
  have hK : va_K G vwCl (zz_ty (G, ca, id)) s := C.2.2.2.2.2.2.2.1.1
  exact va_new C.1 C.2.1 hts (zz_uws hin) ty hty C.2.2.2.2.2.1 (hts _ hlk) (hts _ hinst) (hts _ hini) hK hP hD hS hA hc hfs (by rw [hR]; exact hcells) (by rw [hR]; exact hslots) hd fun q H1 hP1 hD1 hS1 => kk q A p l e R s m args below meth c H1 locs ls C hl hP1 hD1 hS1 hA
theorem zb_ret (hd : decode M.2.1 pc = .ok (.return_, 1)) (hc : cells ≤ R0.cells) (hs : slots ≤ R0.slots) (hq : Q ws) : zb_G G ca M R0 Q pc lv [] ws cells slots := by
  intro A p l e R s m args below meth c H locs ls C hl hP hD hS hA
  refine W.widen hc hs ?_
  exact W.vret C.1 C.2.1 C.2.2.2.1 (fun t ht hW => ⟨⟨ws, rfl, hq, by rw [ht]; exact hP, hD⟩, hS.F ht⟩) hS.2.2 hd C.2.2.2.2.1
end ZB
/-- a constructor's contract -/
def zb_pre (G : va_G) (ca : Nat → ClassId) (sz : Nat) (w : va_W) (U : State) : Prop := U.heap.size = sz ∧ va_P G vwCl w U.heap ∧ va_D (fun _ => True) w ∧ zb_S G ca U
def zb_K (M : zz_Mi) (R0 : Room) (ci : Nat) (fs0 As : List Value) (Q : va_G → (Nat → ClassId) → Nat → va_W → Prop) : Prop :=
  ∀ (l : Launch) (G : va_G) (ca : Nat → ClassId) (h0 sz : Nat), Met l M.1 (zz_ws M) R0 (va_Pc (.ref h0 :: As) (zb_pre G ca sz [(h0, .inr (ci, fs0))])) (zb_Q G (va_A [(h0, .inr (ci, fs0))] sz) (Q G ca h0)) R0.cells R0.slots (va_A [(h0, .inr (ci, fs0))] sz)
theorem zb_met {M : zz_Mi} {R0 : Room} {ci : Nat} {fs0 As : List Value} {Q : va_G → (Nat → ClassId) → Nat → va_W → Prop} (hy : plainName M.1.cls = true) (hr : M.2.2.2 = none) (hin : M.1.name = "<init>") (hlen : ∀ h0, (lg_sl (.ref h0 :: As)).length ≤ M.2.2.1) (hG : ∀ G ca h0, zb_G G ca M R0 (Q G ca h0) 0 (lv_args 0 (.ref h0 :: As)) [] [(h0, .inr (ci, fs0))] 0 0) : zb_K M R0 ci fs0 As Q := by
  intro l G ca h0 sz
  refine Met.ofW (cc := M.2.1) (maxL := M.2.2.1) (ret := M.2.2.2) hy rfl ?_
  intro p e s m args below meth c s₁ B hml hv
  obtain ⟨rfl, hsz, hP, hD, hSs⟩ := hv
  have hts := atoms_spec (ws := zz_ws M) B.pre
  have hl := lv_entry (.ref h0 :: As) (n := M.2.2.1) (hlen h0)
  rw [lg_entry_eq]
  subst hsz
  exact hG G ca h0 (va_A [(h0, .inr (ci, fs0))] s.heap.size) p l e _ s m _ below meth c s.heap [] _ ⟨B.exec, B.bytes, hml, B.returns.trans hr, B.notSynchronized, findClass_of_methodNamed B.named, fun w hw => hts w (List.mem_cons_of_mem _ hw), hSs, (name_of_methodNamed B.named B.method).1.trans hin, rfl⟩ hl hP hD.self va_S.rf fun q h => Or.inr h
theorem zb_blind {G : va_G} {ca : Nat → ClassId} {sz : Nat} {w : va_W} {av : List Value} : FrameBlind (va_Pc av (zb_pre G ca sz w)) := fun a U g mk q => by
  obtain ⟨q0, q1, q2, q3, q4⟩ := q
  exact ⟨q0, q1, q2, q3, zb_S_same q4 rfl⟩
theorem zb_join {A0 : Nat → Prop} {G : va_G} {w0 wc w1 : va_W} {H H1 : Heap} (hP : va_P G vwCl (w0 ++ wc) H) (hD : va_D A0 (w0 ++ wc)) (hk : ∀ q : Nat, q < H.size → ¬ va_A wc H.size q → H1[q]? = H[q]?) (hF : ∀ q, va_A wc H.size q → A0 q) (hP1 : va_P G vwCl w1 H1) (hD1 : va_D (va_A wc H.size) w1) : va_P G vwCl (w0 ++ w1) H1 ∧ va_D A0 (w0 ++ w1) := by
  have inl : ∀ (k : Nat) (q : Nat × va_E), w0[k]? = some q → (w0 ++ wc)[k]? = some q := fun k q h => by
    rw [List.getElem?_append_left (List.getElem?_eq_some_iff.mp h).1]; exact h
  have apart : ∀ (k : Nat) (q : Nat × va_E), w0[k]? = some q → q.1 < H.size ∧ ¬ va_A wc H.size q.1 := by
    intro k q hq
    have hl := (hP k q (inl k q hq)).lt
    refine ⟨hl, fun h => ?_⟩
    rcases h with ⟨k2, e, h⟩ | h
    · have h4 : (w0 ++ wc)[w0.length + k2]? = some (q.1, e) := by
        rw [List.getElem?_append_right (by omega), show w0.length + k2 - w0.length = k2 by omega]; exact h
      have := hD.1 k (w0.length + k2) q (q.1, e) (inl k q hq) h4 rfl
      have hk' := (List.getElem?_eq_some_iff.mp hq).1
      omega
    · omega
  have hD0 : va_D A0 w0 := ⟨fun i j x y hx hy hxy => hD.1 i j x y (inl i x hx) (inl j y hy) hxy, fun k q hq => hD.2 k q (inl k q hq)⟩
  refine ⟨va_P.app (fun k q hq => ?_) hP1, va_D.app hD0 (hD1.weaken (fun k q _ h => hF q.1 h)) (fun i j x y hx hy hxy => ?_)⟩
  · obtain ⟨g1, g2⟩ := apart k q hq
    exact (hP k q (inl k q hq)).kept (hk q.1 g1 g2)
  · exact (apart i x hx).2 (by rw [hxy]; exact hD1.2 j y hy)
section ZBC
variable {G : va_G} {ca : Nat → ClassId} {M : zz_Mi} {R0 : Room} {Q : va_W → Prop} {pc : Nat} {lv : List (Nat × Value)} {st : List Value} {ws : va_W} {cells slots : Nat}
/-- what is known of a constructor that is called -/
def zb_ok (M : zz_Mi) (n : Nat) : Prop := zz_ok M n ∧ M.1.name = "<init>" ∧ Cond.instanceMethod M.1 ∈ yw ∧ M.2.2.2 = none
theorem zb_call {M' : zz_Mi} {R' : Room} {idx ci q : Nat} {fs0 As : List Value} {Q' : va_G → (Nat → ClassId) → Nat → va_W → Prop} (hM : zb_K M' R' ci fs0 As Q') (hok : zb_ok M' As.length) (hlk : Cond.methodLink M.1.cls idx M'.1 ∈ yw ∨ ∃ host, (M.1.cls, idx, M'.1, host) ∈ zz_nw) (hR' : R'.frames + 1 ≤ R0.frames ∧ 8 + (M'.2.2.1 + 11) + R'.locals ≤ R0.locals) (hd : decode M.2.1 pc = .ok (.invokespecial idx, 3)) (hw : (st.map fun v => v.category).sum ≤ 8) (hc : cells + R'.cells ≤ R0.cells ∧ slots + R'.slots ≤ R0.slots) {stk : List Value} (hstk : stk = As.reverse ++ .ref q :: st) {e0 : Nat × va_E} {rest : va_W}
    (kk : ∀ w1 : va_W, Q' G ca q w1 → zb_G G ca M R0 Q (pc + 3) lv st (e0 :: (rest ++ w1)) (cells + R'.cells) (slots + R'.slots)) : zb_G G ca M R0 Q pc lv stk (e0 :: (rest ++ [(q, .inr (ci, fs0))])) cells slots := by
  intro A p l e R s m args below meth c H locs ls C hl hP hD hS hA
  have hts := C.2.2.2.2.2.2.1
  have hR : R = R0 := C.2.2.2.2.2.2.2.2.2
  have hSs : zb_S G ca s := C.2.2.2.2.2.2.2.1
  obtain ⟨⟨k1, k2, k3, k4, k5⟩, hin, him, hret⟩ := hok
  subst hR
  have hF : ∀ x, va_A [(q, (Sum.inr (ci, fs0) : va_E))] H.size x → A x := by
    intro x hx
    rcases hx with ⟨k, e, h⟩ | h
    · have hz : k < 1 := (List.getElem?_eq_some_iff.mp h).1
      rw [show k = 0 by omega] at h
      cases h
      exact hD.2 (e0 :: rest).length (q, .inr (ci, fs0)) (zb_last (e0 :: rest) _ (q, .inr (ci, fs0))).1
    · exact hA x (Nat.le_trans hS.1 h)
  have hPc : va_P G vwCl [(q, .inr (ci, fs0))] H := fun k x hx => by
    have hz : k < 1 := (List.getElem?_eq_some_iff.mp hx).1
    rw [show k = 0 by omega] at hx
    cases hx
    exact hP (e0 :: rest).length (q, .inr (ci, fs0)) (zb_last (e0 :: rest) _ (q, .inr (ci, fs0))).1
  have hDc : va_D (fun _ => True) [(q, (Sum.inr (ci, fs0) : va_E))] := ⟨fun i j x y hx hy _ => by
    have := (List.getElem?_eq_some_iff.mp hx).1
    have := (List.getElem?_eq_some_iff.mp hy).1
    simp only [List.length_singleton] at *
    omega, fun _ _ _ => trivial⟩
  have hcode : Cond.code M'.1 M'.2.1 M'.2.2.1 none ∈ zz_ws M' := by rw [← hret]; exact List.mem_cons_self
  have hrun : va_Run p l e R s m args below meth c H locs cells slots R'.cells R'.slots (F0 m pc ls stk) st (zb_Q G (va_A [(q, .inr (ci, fs0))] H.size) (Q' G ca q) (.ref q :: As).toArray) (va_A [(q, .inr (ci, fs0))] H.size) := by
    have hps : PreS s H (va_Pc (.ref q :: As) (zb_pre G ca H.size [(q, .inr (ci, fs0))])) (.ref q :: As) := ⟨zb_blind, fun U hU hW => ⟨rfl, by rw [hU], by rw [hU]; exact hPc, hDc, zb_S_warm hSs hW⟩⟩
    have hws : zz_ws M' = Cond.code M'.1 M'.2.1 M'.2.2.1 none :: yw := by unfold zz_ws; rw [hret]
    rcases hlk with hlk | ⟨host, hlk⟩
    · exact va_runI (As := As) (n := As.length) ⟨C.1, C.2.1, C.2.2.1, C.2.2.2.2.2.1, hts⟩ (hM l G ca q H.size) (cwI As.length hts (zz_wsgood k1) hws rfl rfl (hts _ k2) (hts _ hlk) (hts _ him) hin k3 hR') hps rfl rfl hl.1 hstk (lv_room hw) hd hc
    · exact va_runIN (As := As) (n := As.length) ⟨C.1, C.2.1, C.2.2.1, C.2.2.2.2.2.1, hts⟩ (hM l G ca q H.size) ⟨va_cnB As.length hts (zz_wsgood k1) hws rfl rfl (hSs.2 _ hlk) (hts _ k2) k3 hR', hin, hts _ him⟩ hps rfl rfl hl.1 hstk (lv_room hw) hd hc
  refine va_callv hrun hS (fun x _ h => hF x h) hF fun w1 t H1 locs1 ht hvm hw1 hB hz1 hk1 hS1 => ?_
  obtain ⟨hP1, hD1⟩ := hB
  rw [ht] at hP1
  obtain ⟨hP2, hD2⟩ := zb_join (w0 := e0 :: rest) hP hD hk1 hF hP1 hD1
  exact kk w1 hw1 A p l e R s m args below meth c H1 locs1 ls C hl hP2 hD2 hS1 hA
end ZBC
