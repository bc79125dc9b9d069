/-! the words that every method may use; the worlds; the judgement zz_G and its rules -/
def yw : List Cond := lw_tbl.filter goodWord
theorem yw_mem {w : Cond} (h : w ∈ lw_tbl) (hg : goodWord w = true) : w ∈ yw := List.mem_filter.mpr ⟨h, hg⟩
theorem yw_t {w : Cond} (i : Nat) (h : tables_1[i]? = some w) (hg : goodWord w = true) : w ∈ yw := yw_mem (List.mem_append_right _ (List.mem_of_getElem? h)) hg
theorem yw_s {w : Cond} (i : Nat) (h : (k2_sels lw_privs)[i]? = some w) (hg : goodWord w = true) : w ∈ yw := yw_mem (List.mem_append_left _ (List.mem_of_getElem? h)) hg
theorem yw_good : GoodIn yw yw := fun _ h => ⟨h, good_of_word (List.mem_filter.mp h).2⟩
abbrev zz_Hp : Type := (Nat → Nat → Int32) × (Nat → Nat → Int64)
abbrev zz_Kd : Type := Nat → (Nat × List (Option Nat)) ⊕ (Nat × Nat)
abbrev zz_Fx : Type := va_G × (Nat → ClassId) × (Nat → Nat)
abbrev zz_Mi : Type := MethodName × ByteArray × Nat × Option FieldType
abbrev zz_L : Type := List (Option Value)
def zz_v (X : zz_Fx) : Value → Value
  | .ref k => .ref (X.2.2 k)
  | v => v
theorem zz_v_cat (X : zz_Fx) (v : Value) : (zz_v X v).category = v.category := by cases v <;> rfl
def zz_fv (X : zz_Fx) (h : zz_Hp) (k j : Nat) (f : Option Nat) : Value := match f with
  | none => .int (h.1 k j)
  | some t => .ref (X.2.2 t)
def zz_fs (X : zz_Fx) (h : zz_Hp) (k : Nat) (fs : List (Option Nat)) : List Value := fs.mapIdx (zz_fv X h k)
def zz_ex (X : zz_Fx) (h : zz_Hp) (k : Nat) (q : (Nat × List (Option Nat)) ⊕ (Nat × Nat)) : va_E := match q with
  | .inl q => .inr (q.1, zz_fs X h k q.2)
  | .inr q => .inl (X.2.1 q.1, q.2, if q.1 = 3 then .inr (.inl (h.2 k)) else .inl (h.1 k))
def zz_e (X : zz_Fx) (K : zz_Kd) (h : zz_Hp) (k : Nat) : va_E := zz_ex X h k (K k)
def zz_w (X : zz_Fx) (K : zz_Kd) (N : Nat) (h : zz_Hp) : va_W := (List.range N).map fun k => (X.2.2 k, zz_e X K h k)
def zz_A (X : zz_Fx) (N : Nat) : Nat → Prop := fun q => ∃ k, k < N ∧ q = X.2.2 k
def zz_ty (X : zz_Fx) : List (ClassId × FieldType) := [(X.2.1 0, .int), (X.2.1 1, .byte), (X.2.1 2, .boolean), (X.2.1 3, .long)]
def zz_uI (h : zz_Hp) (o j : Nat) (v : Int32) : zz_Hp := (fun k i => if k = o ∧ i = j then v else h.1 k i, h.2)
def zz_uL (h : zz_Hp) (o j : Nat) (v : Int64) : zz_Hp := (h.1, fun k i => if k = o ∧ i = j then v else h.2 k i)
def zz_uC (h : zz_Hp) (a b sp dp n : Nat) : zz_Hp := (fun k i => if k = b then va_cpy (h.1 a) (h.1 b) sp dp n i else h.1 k i, h.2)
theorem zz_at {X : zz_Fx} {K : zz_Kd} {N : Nat} {h : zz_Hp} {k : Nat} (hk : k < N) : (zz_w X K N h)[k]? = some (X.2.2 k, zz_e X K h k) := by
  simp [zz_w, hk]
theorem zz_set {X : zz_Fx} {K : zz_Kd} {N : Nat} {h h' : zz_Hp} {o : Nat} {E : va_E} (hE : E = zz_e X K h' o) (ho : ∀ k, k ≠ o → zz_e X K h k = zz_e X K h' k) : (zz_w X K N h).set o (X.2.2 o, E) = zz_w X K N h' := by
  apply List.ext_getElem?
  intro k
  by_cases hk : k = o
  · subst hk
    by_cases hl : k < N
    · rw [zz_at hl, List.getElem?_set_self (by simpa [zz_w] using hl), hE]
    · rw [List.getElem?_eq_none (by simpa [zz_w] using hl), List.getElem?_eq_none (by simpa [zz_w] using hl)]
  · rw [List.getElem?_set_ne (fun q => hk q.symm)]
    by_cases hl : k < N
    · rw [zz_at hl, zz_at hl, ho k hk]
    · rw [List.getElem?_eq_none (by simpa [zz_w] using hl), List.getElem?_eq_none (by simpa [zz_w] using hl)]
theorem zz_fs_ne {X : zz_Fx} {h h' : zz_Hp} {k : Nat} {fs : List (Option Nat)} (e : ∀ j, h.1 k j = h'.1 k j) : zz_fs X h k fs = zz_fs X h' k fs := by
  unfold zz_fs
  congr 1
  funext j f
  cases f with
  | none => simp only [zz_fv, e]
  | some t => rfl
theorem zz_ex_ne {X : zz_Fx} {h h' : zz_Hp} {k : Nat} (q : (Nat × List (Option Nat)) ⊕ (Nat × Nat)) (e : ∀ j, h.1 k j = h'.1 k j) (e2 : ∀ j, h.2 k j = h'.2 k j) : zz_ex X h k q = zz_ex X h' k q := by
  cases q with
  | inl q => simp only [zz_ex, zz_fs_ne (X := X) e]
  | inr q => simp only [zz_ex, (funext e : h.1 k = h'.1 k), (funext e2 : h.2 k = h'.2 k)]
theorem zz_uI_ne {X : zz_Fx} {K : zz_Kd} {h : zz_Hp} {o j : Nat} {v : Int32} {k : Nat} (hk : k ≠ o) : zz_e X K h k = zz_e X K (zz_uI h o j v) k :=
  zz_ex_ne _ (fun i => by simp [zz_uI, hk]) (fun _ => rfl)
theorem zz_uL_ne {X : zz_Fx} {K : zz_Kd} {h : zz_Hp} {o j : Nat} {v : Int64} {k : Nat} (hk : k ≠ o) : zz_e X K h k = zz_e X K (zz_uL h o j v) k :=
  zz_ex_ne _ (fun _ => rfl) (fun i => by simp [zz_uL, hk])
theorem zz_uC_ne {X : zz_Fx} {K : zz_Kd} {h : zz_Hp} {a b sp dp n : Nat} {k : Nat} (hk : k ≠ b) : zz_e X K h k = zz_e X K (zz_uC h a b sp dp n) k :=
  zz_ex_ne _ (fun i => by simp [zz_uC, hk]) (fun _ => rfl)
/-- the statics, the array classes, the nest words -/
def zz_lt (j : Nat) : Int32 := ([-99, 1, 0, 0] : List Int32).getD j 0
def zz_mt (j : Nat) : Int32 := ([99, 99, 3, 99999] : List Int32).getD j 0
def zz_S (X : zz_Fx) (N : Nat) (s : State) : Prop := va_K X.1 vwCl (zz_ty X) s ∧ (∀ q ∈ zz_nw, va_Nw (.methodLinkNest q.1 q.2.1 q.2.2.1 q.2.2.2) s) ∧ (va_Z "YarnPlier" "LEAST_TOLD" "[I" (.ref (X.2.2 1000)) (zz_A X N) s s.heap ∧ va_T .int (X.2.2 1000) 4 (fun j => .int (zz_lt j)) (zz_A X N) s s.heap) ∧ (va_Z "YarnPlier" "MOST_TOLD" "[I" (.ref (X.2.2 1001)) (zz_A X N) s s.heap ∧ va_T .int (X.2.2 1001) 4 (fun j => .int (zz_mt j)) (zz_A X N) s s.heap)
theorem zz_S_warm {X : zz_Fx} {N : Nat} {s U : State} {H : Heap} {locs : List Loc} (h : zz_S X N s) (hU : U.heap = H) (hW : s.WarmedH U.vm) (hS : va_S (zz_A X N) s.heap H locs) : zz_S X N U := by
  obtain ⟨h1, h2, ⟨h3, h4⟩, h5, h6⟩ := h
  have kp : ∀ a : Nat, a < s.heap.size → ¬ zz_A X N a → U.heap[a]? = s.heap[a]? := fun a ha hn => by rw [hU]; exact hS.2.1 a ha hn
  exact ⟨va_K.moved hW.alike h1, fun q hq => va_Nw.warmM hW (h2 q hq), ⟨(va_Z.moved hW.alike h3).kept kp, (va_T.moved hW.alike h4).kept kp⟩, (va_Z.moved hW.alike h5).kept kp, (va_T.moved hW.alike h6).kept kp⟩
theorem zz_S_same {X : zz_Fx} {N : Nat} {s U : State} (h : zz_S X N s) (hh : U.heap = s.heap) (hv : U.vm = s.vm) : zz_S X N U := by
  obtain ⟨h1, h2, ⟨h3, h4⟩, h5, h6⟩ := h
  have ha : s.vm.Alike U.vm := by rw [hv]; exact Vm.Alike.refl _
  have kp : ∀ a : Nat, a < s.heap.size → ¬ zz_A X N a → U.heap[a]? = s.heap[a]? := fun a _ _ => by rw [hh]
  exact ⟨va_K.moved ha h1, fun q hq => va_Nw.same rfl hv.symm (h2 q hq), ⟨(va_Z.moved ha h3).kept kp, (va_T.moved ha h4).kept kp⟩, (va_Z.moved ha h5).kept kp, (va_T.moved ha h6).kept kp⟩
/-- room for d calls one in another -/
def zz_rm (d : Nat) : Room := { frames := d, cells := 0, slots := 0, locals := 64 * d }
def zz_ls (X : zz_Fx) (ls : Array Slot) (n : Nat) (L : zz_L) : Prop := L.length ≤ n ∧ ∃ lv, lv_has ls n lv ∧ ∀ i v, L[i]? = some (some v) → (i, zz_v X v) ∈ lv
theorem zz_ls.get {X : zz_Fx} {ls : Array Slot} {n : Nat} {L : zz_L} (h : zz_ls X ls n L) {i : Nat} {v : Value} (hl : L[i]? = some (some v)) : ls[i]? = some (.val (zz_v X v)) := by
  obtain ⟨-, lv, h1, h2⟩ := h
  exact h1.2.2 _ (h2 i v hl)
def zz_keep (i j : Nat) (o : Option Value) : Option Value := bif Nat.beq (j + 1) i then (match o with | some w => (match w with | .long _ => none | .double _ => none | _ => o) | none => none) else o
def zz_st1 (L : zz_L) (i : Nat) (v : Value) : zz_L := L.mapIdx fun j o => bif Nat.beq j i then some v else zz_keep i j o
def zz_st2 (L : zz_L) (i : Nat) (v : Value) : zz_L := L.mapIdx fun j o => bif Nat.beq j i then some v else bif Nat.beq j (i + 1) then none else zz_keep i j o
theorem zz_keep_some {i j : Nat} {o : Option Value} {w : Value} (h : zz_keep i j o = some w) : o = some w ∧ ¬ (j + 1 = i ∧ w.category = 2) := by
  unfold zz_keep at h
  by_cases hb : j + 1 = i
  · rw [Nat.beq_eq.mpr hb] at h
    cases o with
    | none => simp at h
    | some x =>
      cases x <;> simp at h <;> subst h <;> simp [Value.category]
  · have : Nat.beq (j + 1) i = false := by
      cases hc : Nat.beq (j + 1) i with
      | false => rfl
      | true => exact absurd (Nat.eq_of_beq_eq_true hc) hb
    rw [this] at h
    exact ⟨h, fun q => hb q.1⟩
theorem zz_beq_f {a b : Nat} (h : Nat.beq a b = false) : a ≠ b := fun e => by rw [e, Nat.beq_refl] at h; cases h
theorem zz_ls.st1 {X : zz_Fx} {ls' : Array Slot} {n : Nat} {L : zz_L} {i : Nat} {v : Value} {lv : List (Nat × Value)} (h0 : L.length ≤ n) (h2 : ∀ i v, L[i]? = some (some v) → (i, zz_v X v) ∈ lv) (h : lv_has ls' n ((i, zz_v X v) :: lv.filter (fun q => !(q.1 == i) && !(q.1 + 1 == i && q.2.category == 2)))) : zz_ls X ls' n (zz_st1 L i v) := by
  refine ⟨by simpa [zz_st1] using h0, _, h, fun j w hj => ?_⟩
  unfold zz_st1 at hj
  rw [List.getElem?_mapIdx] at hj
  cases ho : L[j]? with
  | none => rw [ho] at hj; cases hj
  | some o =>
    rw [ho] at hj
    have hj := Option.some.inj hj
    cases hb : Nat.beq j i with
    | true =>
      rw [hb] at hj
      have := Nat.eq_of_beq_eq_true hb
      subst this
      have e : v = w := Option.some.inj hj
      subst e
      exact List.mem_cons_self
    | false =>
      rw [hb] at hj
      obtain ⟨e1, e2⟩ := zz_keep_some hj
      subst e1
      refine List.mem_cons_of_mem _ (List.mem_filter.mpr ⟨h2 j w ho, ?_⟩)
      have hne := zz_beq_f hb
      simp only [Bool.and_eq_true, Bool.not_eq_true', beq_eq_false_iff_ne, ne_eq, Bool.and_eq_false_iff, zz_v_cat]
      refine ⟨hne, ?_⟩
      by_cases c : j + 1 = i
      · exact Or.inr fun q => e2 ⟨c, q⟩
      · exact Or.inl c
theorem zz_ls.st2 {X : zz_Fx} {ls' : Array Slot} {n : Nat} {L : zz_L} {i : Nat} {v : Value} {lv : List (Nat × Value)} (h0 : L.length ≤ n) (h2 : ∀ i v, L[i]? = some (some v) → (i, zz_v X v) ∈ lv) (h : lv_has ls' n ((i, zz_v X v) :: lv.filter (fun q => !(q.1 == i) && (!(q.1 == i + 1) && !(q.1 + 1 == i && q.2.category == 2))))) : zz_ls X ls' n (zz_st2 L i v) := by
  refine ⟨by simpa [zz_st2] using h0, _, h, fun j w hj => ?_⟩
  unfold zz_st2 at hj
  rw [List.getElem?_mapIdx] at hj
  cases ho : L[j]? with
  | none => rw [ho] at hj; cases hj
  | some o =>
    rw [ho] at hj
    have hj := Option.some.inj hj
    cases hb : Nat.beq j i with
    | true =>
      rw [hb] at hj
      have := Nat.eq_of_beq_eq_true hb
      subst this
      have e : v = w := Option.some.inj hj
      subst e
      exact List.mem_cons_self
    | false =>
      rw [hb] at hj
      cases hb2 : Nat.beq j (i + 1) with
      | true => rw [hb2] at hj; cases hj
      | false =>
        rw [hb2] at hj
        obtain ⟨e1, e2⟩ := zz_keep_some hj
        subst e1
        refine List.mem_cons_of_mem _ (List.mem_filter.mpr ⟨h2 j w ho, ?_⟩)
        have hne := zz_beq_f hb
        have hne2 := zz_beq_f hb2
        simp only [Bool.and_eq_true, Bool.not_eq_true', beq_eq_false_iff_ne, ne_eq, Bool.and_eq_false_iff, zz_v_cat]
        refine ⟨hne, hne2, ?_⟩
        by_cases c : j + 1 = i
        · exact Or.inr fun q => e2 ⟨c, q⟩
        · exact Or.inl c
/-- what holds of the machine while a method of ours runs -/
def zz_C (X : zz_Fx) (N d : Nat) (M : zz_Mi) (p : Program) (R : Room) (s : State) (m : MethodId) (args : Array Value) (meth : Method) (c : Code) : Prop :=
  p.tables.exec = Jvm.exec ∧ c.code = M.2.1 ∧ c.maxLocals = M.2.2.1 ∧ meth.sig.returnType = M.2.2.2 ∧ meth.locks = false ∧ s.vm.findClass M.1.cls = some m.cls ∧ (∀ w ∈ yw, w.before args s = true) ∧ zz_S X N s ∧ R = zz_rm d
def zz_Q (X : zz_Fx) (K : zz_Kd) (N : Nat) (Q : Option Value → zz_Hp → Prop) : Array Value → State → Outcome → State → Prop := fun _ st oc t =>
  ∃ (v : Option Value) (h : zz_Hp), Q v h ∧ oc = .returned (v.map (zz_v X)) ∧ va_P X.1 vwCl (zz_w X K N h) t.heap ∧ va_D (zz_A X N) (zz_w X K N h) ∧ va_F (zz_A X N) st t
/-- from pc on, with these locals, this stack, this heap, the method ends with Q -/
def zz_G (K : zz_Kd) (N d : Nat) (M : zz_Mi) (Q : Option Value → zz_Hp → Prop) (pc : Nat) (L : zz_L) (st : List Value) (h : zz_Hp) : Prop :=
  ∀ (X : zz_Fx) (p : Program) (l : Launch) (e : Env) (R : Room) (s : State) (m : MethodId) (args : Array Value) (below : List Frame) (meth : Method) (c : Code) (H : Heap) (locs : List Loc) (ls : Array Slot),
    zz_C X N d M p R s m args meth c → zz_ls X ls M.2.2.1 L → va_P X.1 vwCl (zz_w X K N h) H → va_D (zz_A X N) (zz_w X K N h) → va_S (zz_A X N) s.heap H locs →
    W p l e R s m args below meth c H locs 0 0 (MQ below (zz_Q X K N Q) args s 0 0 (zz_A X N)) (F0 m pc ls (st.map (zz_v X)))
def qI (Q : Int32 → zz_Hp → Prop) : Option Value → zz_Hp → Prop := fun v h => ∃ r, v = some (.int r) ∧ Q r h
def qL (Q : Int64 → zz_Hp → Prop) : Option Value → zz_Hp → Prop := fun v h => ∃ r, v = some (.long r) ∧ Q r h
def qV (Q : zz_Hp → Prop) : Option Value → zz_Hp → Prop := fun v h => v = none ∧ Q h
section ZR
variable {K : zz_Kd} {N d : Nat} {M : zz_Mi} {Q : Option Value → zz_Hp → Prop} {pc : Nat} {L : zz_L} {st : List Value} {h : zz_Hp}
theorem zg_iconst {n : Int} {v : Int32} (hd : decode M.2.1 pc = .ok (.iconst n, 1)) (hv : Int32.ofInt n = v) (k : zz_G K N d M Q (pc + 1) L (.int v :: st) h) : zz_G K N d M Q pc L (st) h := by
  intro X p l e R s m args below meth c H locs ls C hl hP hD hS
  exact lv_iconst C.1 C.2.1 hd hv (k X p l e R s m args below meth c H locs ls C hl hP hD hS)
theorem zg_bipush {n : Int} {v : Int32} (hd : decode M.2.1 pc = .ok (.bipush n, 2)) (hv : (Int8.ofInt n).toInt32 = v) (k : zz_G K N d M Q (pc + 2) L (.int v :: st) h) : zz_G K N d M Q pc L (st) h := by
  intro X p l e R s m args below meth c H locs ls C hl hP hD hS
  exact lv_bipush C.1 C.2.1 hd hv (k X p l e R s m args below meth c H locs ls C hl hP hD hS)
theorem zg_sipush {n : Int} {v : Int32} (hd : decode M.2.1 pc = .ok (.sipush n, 3)) (hv : (Int16.ofInt n).toInt32 = v) (k : zz_G K N d M Q (pc + 3) L (.int v :: st) h) : zz_G K N d M Q pc L (st) h := by
  intro X p l e R s m args below meth c H locs ls C hl hP hD hS
  exact lv_sipush C.1 C.2.1 hd hv (k X p l e R s m args below meth c H locs ls C hl hP hD hS)
theorem zg_lconst {n : Fin 2} {v : Int64} (hd : decode M.2.1 pc = .ok (.lconst n, 1)) (hv : Int64.ofNat (n : Nat) = v) (k : zz_G K N d M Q (pc + 1) L (.long v :: st) h) : zz_G K N d M Q pc L (st) h := by
  intro X p l e R s m args below meth c H locs ls C hl hP hD hS
  exact lv_lconst C.1 C.2.1 hd hv (k X p l e R s m args below meth c H locs ls C hl hP hD hS)
theorem zg_iload {i : Nat} {x : Int32} (hd : decode M.2.1 pc = .ok (.iload i, 2)) (hl0 : L[i]? = some (some (.int x))) (k : zz_G K N d M Q (pc + 2) L (.int x :: st) h) : zz_G K N d M Q pc L (st) h := by
  intro X p l e R s m args below meth c H locs ls C hl hP hD hS
  exact lv_iload C.1 C.2.1 hd (hl.get hl0) (k X p l e R s m args below meth c H locs ls C hl hP hD hS)
theorem zg_iload_n {q : Fin 4} {i : Nat} {x : Int32} (hd : decode M.2.1 pc = .ok (.iload_n q, 1)) (hi : (q : Nat) = i) (hl0 : L[i]? = some (some (.int x))) (k : zz_G K N d M Q (pc + 1) L (.int x :: st) h) : zz_G K N d M Q pc L (st) h := by
  intro X p l e R s m args below meth c H locs ls C hl hP hD hS
  exact lv_iload_n C.1 C.2.1 hd hi (hl.get hl0) (k X p l e R s m args below meth c H locs ls C hl hP hD hS)
theorem zg_lload {i : Nat} {x : Int64} (hd : decode M.2.1 pc = .ok (.lload i, 2)) (hl0 : L[i]? = some (some (.long x))) (k : zz_G K N d M Q (pc + 2) L (.long x :: st) h) : zz_G K N d M Q pc L (st) h := by
  intro X p l e R s m args below meth c H locs ls C hl hP hD hS
  exact lv_lload C.1 C.2.1 hd (hl.get hl0) (k X p l e R s m args below meth c H locs ls C hl hP hD hS)
theorem zg_lload_n {q : Fin 4} {i : Nat} {x : Int64} (hd : decode M.2.1 pc = .ok (.lload_n q, 1)) (hi : (q : Nat) = i) (hl0 : L[i]? = some (some (.long x))) (k : zz_G K N d M Q (pc + 1) L (.long x :: st) h) : zz_G K N d M Q pc L (st) h := by
  intro X p l e R s m args below meth c H locs ls C hl hP hD hS
  exact lv_lload_n C.1 C.2.1 hd hi (hl.get hl0) (k X p l e R s m args below meth c H locs ls C hl hP hD hS)
theorem zg_aload {i : Nat} {x : Nat} (hd : decode M.2.1 pc = .ok (.aload i, 2)) (hl0 : L[i]? = some (some (.ref x))) (k : zz_G K N d M Q (pc + 2) L (.ref x :: st) h) : zz_G K N d M Q pc L (st) h := by
  intro X p l e R s m args below meth c H locs ls C hl hP hD hS
  exact lv_aload C.1 C.2.1 hd (hl.get hl0) (k X p l e R s m args below meth c H locs ls C hl hP hD hS)
theorem zg_aload_n {q : Fin 4} {i : Nat} {x : Nat} (hd : decode M.2.1 pc = .ok (.aload_n q, 1)) (hi : (q : Nat) = i) (hl0 : L[i]? = some (some (.ref x))) (k : zz_G K N d M Q (pc + 1) L (.ref x :: st) h) : zz_G K N d M Q pc L (st) h := by
  intro X p l e R s m args below meth c H locs ls C hl hP hD hS
  exact lv_aload_n C.1 C.2.1 hd hi (hl.get hl0) (k X p l e R s m args below meth c H locs ls C hl hP hD hS)
theorem zg_iadd {x y : Int32}  (hd : decode M.2.1 pc = .ok (.iadd, 1)) (k : zz_G K N d M Q (pc + 1) L (.int (x + y) :: st) h) : zz_G K N d M Q pc L (.int y :: .int x :: st) h := by
  intro X p l e R s m args below meth c H locs ls C hl hP hD hS
  exact lv_iadd C.1 C.2.1 hd (k X p l e R s m args below meth c H locs ls C hl hP hD hS)
theorem zg_isub {x y : Int32}  (hd : decode M.2.1 pc = .ok (.isub, 1)) (k : zz_G K N d M Q (pc + 1) L (.int (x - y) :: st) h) : zz_G K N d M Q pc L (.int y :: .int x :: st) h := by
  intro X p l e R s m args below meth c H locs ls C hl hP hD hS
  exact lv_isub C.1 C.2.1 hd (k X p l e R s m args below meth c H locs ls C hl hP hD hS)
theorem zg_imul {x y : Int32}  (hd : decode M.2.1 pc = .ok (.imul, 1)) (k : zz_G K N d M Q (pc + 1) L (.int (x * y) :: st) h) : zz_G K N d M Q pc L (.int y :: .int x :: st) h := by
  intro X p l e R s m args below meth c H locs ls C hl hP hD hS
  exact lv_imul C.1 C.2.1 hd (k X p l e R s m args below meth c H locs ls C hl hP hD hS)
theorem zg_iand {x y : Int32}  (hd : decode M.2.1 pc = .ok (.iand, 1)) (k : zz_G K N d M Q (pc + 1) L (.int (x &&& y) :: st) h) : zz_G K N d M Q pc L (.int y :: .int x :: st) h := by
  intro X p l e R s m args below meth c H locs ls C hl hP hD hS
  exact lv_iand C.1 C.2.1 hd (k X p l e R s m args below meth c H locs ls C hl hP hD hS)
theorem zg_ior {x y : Int32}  (hd : decode M.2.1 pc = .ok (.ior, 1)) (k : zz_G K N d M Q (pc + 1) L (.int (x ||| y) :: st) h) : zz_G K N d M Q pc L (.int y :: .int x :: st) h := by
  intro X p l e R s m args below meth c H locs ls C hl hP hD hS
  exact lv_ior C.1 C.2.1 hd (k X p l e R s m args below meth c H locs ls C hl hP hD hS)
theorem zg_ishl {x y : Int32}  (hd : decode M.2.1 pc = .ok (.ishl, 1)) (k : zz_G K N d M Q (pc + 1) L (.int (x <<< (y &&& 31)) :: st) h) : zz_G K N d M Q pc L (.int y :: .int x :: st) h := by
  intro X p l e R s m args below meth c H locs ls C hl hP hD hS
  exact lv_ishl C.1 C.2.1 hd (k X p l e R s m args below meth c H locs ls C hl hP hD hS)
theorem zg_ishr {x y : Int32}  (hd : decode M.2.1 pc = .ok (.ishr, 1)) (k : zz_G K N d M Q (pc + 1) L (.int (x >>> (y &&& 31)) :: st) h) : zz_G K N d M Q pc L (.int y :: .int x :: st) h := by
  intro X p l e R s m args below meth c H locs ls C hl hP hD hS
  exact lv_ishr C.1 C.2.1 hd (k X p l e R s m args below meth c H locs ls C hl hP hD hS)
theorem zg_idiv {x y : Int32} (hd : decode M.2.1 pc = .ok (.idiv, 1)) (hne : ¬ y = 0) (k : zz_G K N d M Q (pc + 1) L (.int (x / y) :: st) h) : zz_G K N d M Q pc L (.int y :: .int x :: st) h := by
  intro X p l e R s m args below meth c H locs ls C hl hP hD hS
  exact lv_idiv C.1 C.2.1 hd hne (k X p l e R s m args below meth c H locs ls C hl hP hD hS)
theorem zg_irem {x y : Int32} (hd : decode M.2.1 pc = .ok (.irem, 1)) (hne : ¬ y = 0) (k : zz_G K N d M Q (pc + 1) L (.int (x - x / y * y) :: st) h) : zz_G K N d M Q pc L (.int y :: .int x :: st) h := by
  intro X p l e R s m args below meth c H locs ls C hl hP hD hS
  exact lv_irem C.1 C.2.1 hd hne (k X p l e R s m args below meth c H locs ls C hl hP hD hS)
theorem zg_ldiv {x y : Int64} (hd : decode M.2.1 pc = .ok (.ldiv, 1)) (hne : ¬ y = 0) (k : zz_G K N d M Q (pc + 1) L (.long (x / y) :: st) h) : zz_G K N d M Q pc L (.long y :: .long x :: st) h := by
  intro X p l e R s m args below meth c H locs ls C hl hP hD hS
  exact lv_ldiv C.1 C.2.1 hd hne (k X p l e R s m args below meth c H locs ls C hl hP hD hS)
theorem zg_lrem {x y : Int64} (hd : decode M.2.1 pc = .ok (.lrem, 1)) (hne : ¬ y = 0) (k : zz_G K N d M Q (pc + 1) L (.long (x - x / y * y) :: st) h) : zz_G K N d M Q pc L (.long y :: .long x :: st) h := by
  intro X p l e R s m args below meth c H locs ls C hl hP hD hS
  exact lv_lrem C.1 C.2.1 hd hne (k X p l e R s m args below meth c H locs ls C hl hP hD hS)
theorem zg_lmul {x y : Int64}  (hd : decode M.2.1 pc = .ok (.lmul, 1)) (k : zz_G K N d M Q (pc + 1) L (.long (x * y) :: st) h) : zz_G K N d M Q pc L (.long y :: .long x :: st) h := by
  intro X p l e R s m args below meth c H locs ls C hl hP hD hS
  exact lv_lmul C.1 C.2.1 hd (k X p l e R s m args below meth c H locs ls C hl hP hD hS)
theorem zg_ineg {x : Int32}  (hd : decode M.2.1 pc = .ok (.ineg, 1)) (k : zz_G K N d M Q (pc + 1) L (.int (-x) :: st) h) : zz_G K N d M Q pc L (.int x :: st) h := by
  intro X p l e R s m args below meth c H locs ls C hl hP hD hS
  exact lv_ineg C.1 C.2.1 hd (k X p l e R s m args below meth c H locs ls C hl hP hD hS)
theorem zg_i2l {x : Int32}  (hd : decode M.2.1 pc = .ok (.i2l, 1)) (k : zz_G K N d M Q (pc + 1) L (.long x.toInt64 :: st) h) : zz_G K N d M Q pc L (.int x :: st) h := by
  intro X p l e R s m args below meth c H locs ls C hl hP hD hS
  exact lv_i2l C.1 C.2.1 hd rfl (k X p l e R s m args below meth c H locs ls C hl hP hD hS)
theorem zg_i2b {x : Int32}  (hd : decode M.2.1 pc = .ok (.i2b, 1)) (k : zz_G K N d M Q (pc + 1) L (.int x.toInt8.toInt32 :: st) h) : zz_G K N d M Q pc L (.int x :: st) h := by
  intro X p l e R s m args below meth c H locs ls C hl hP hD hS
  exact lv_i2b C.1 C.2.1 hd rfl (k X p l e R s m args below meth c H locs ls C hl hP hD hS)
theorem zg_lcmp {x y : Int64}  (hd : decode M.2.1 pc = .ok (.lcmp, 1)) (k : zz_G K N d M Q (pc + 1) L (.int (lg_cmp x y) :: st) h) : zz_G K N d M Q pc L (.long y :: .long x :: st) h := by
  intro X p l e R s m args below meth c H locs ls C hl hP hD hS
  exact W.lcmp C.1 C.2.1 hd (k X p l e R s m args below meth c H locs ls C hl hP hD hS)
theorem zg_dup {v : Value} (hd : decode M.2.1 pc = .ok (.dup, 1)) (hv : v.category = 1) (k : zz_G K N d M Q (pc + 1) L (v :: v :: st) h) : zz_G K N d M Q pc L (v :: st) h := by
  intro X p l e R s m args below meth c H locs ls C hl hP hD hS
  exact lv_dup C.1 C.2.1 hd (by rw [zz_v_cat]; exact hv) (k X p l e R s m args below meth c H locs ls C hl hP hD hS)
theorem zg_pop {v : Value} (hd : decode M.2.1 pc = .ok (.pop, 1)) (hv : v.category = 1) (k : zz_G K N d M Q (pc + 1) L st h) : zz_G K N d M Q pc L (v :: st) h := by
  intro X p l e R s m args below meth c H locs ls C hl hP hD hS
  exact lv_pop C.1 C.2.1 hd (by rw [zz_v_cat]; exact hv) (k X p l e R s m args below meth c H locs ls C hl hP hD hS)
theorem zg_dup2 {v w : Value} (hd : decode M.2.1 pc = .ok (.dup2, 1)) (hv : v.category = 1) (hw : w.category = 1) (k : zz_G K N d M Q (pc + 1) L (v :: w :: v :: w :: st) h) : zz_G K N d M Q pc L (v :: w :: st) h := by
  intro X p l e R s m args below meth c H locs ls C hl hP hD hS
  exact lv_dup2_11 C.1 C.2.1 hd (by rw [zz_v_cat]; exact hv) (by rw [zz_v_cat]; exact hw) (k X p l e R s m args below meth c H locs ls C hl hP hD hS)
theorem zg_istore {i : Nat} {x : Int32} {L' : zz_L} (hd : decode M.2.1 pc = .ok (.istore i, 2)) (hn : i < M.2.2.1) (hL : zz_st1 L i (.int x) = L') (k : zz_G K N d M Q (pc + 2) L' st h) : zz_G K N d M Q pc L (.int x :: st) h := by
  intro X p l e R s m args below meth c H locs ls C hl hP hD hS
  subst hL
  obtain ⟨h0, lv, h1, h2⟩ := hl
  exact lv_istore C.1 C.2.1 hd h1 hn rfl fun ls' hls => k X p l e R s m args below meth c H locs ls' C (zz_ls.st1 h0 h2 hls) hP hD hS
theorem zg_istore_n {i : Nat} {x : Int32} {L' : zz_L} {q : Fin 4} (hd : decode M.2.1 pc = .ok (.istore_n q, 1)) (hi : (q : Nat) = i) (hn : i < M.2.2.1) (hL : zz_st1 L i (.int x) = L') (k : zz_G K N d M Q (pc + 1) L' st h) : zz_G K N d M Q pc L (.int x :: st) h := by
  intro X p l e R s m args below meth c H locs ls C hl hP hD hS
  subst hL
  obtain ⟨h0, lv, h1, h2⟩ := hl
  exact lv_istore_n C.1 C.2.1 hd hi h1 hn rfl fun ls' hls => k X p l e R s m args below meth c H locs ls' C (zz_ls.st1 h0 h2 hls) hP hD hS
theorem zg_astore {i : Nat} {x : Nat} {L' : zz_L} (hd : decode M.2.1 pc = .ok (.astore i, 2)) (hn : i < M.2.2.1) (hL : zz_st1 L i (.ref x) = L') (k : zz_G K N d M Q (pc + 2) L' st h) : zz_G K N d M Q pc L (.ref x :: st) h := by
  intro X p l e R s m args below meth c H locs ls C hl hP hD hS
  subst hL
  obtain ⟨h0, lv, h1, h2⟩ := hl
  exact lv_astore C.1 C.2.1 hd h1 hn rfl fun ls' hls => k X p l e R s m args below meth c H locs ls' C (zz_ls.st1 h0 h2 hls) hP hD hS
theorem zg_astore_n {i : Nat} {x : Nat} {L' : zz_L} {q : Fin 4} (hd : decode M.2.1 pc = .ok (.astore_n q, 1)) (hi : (q : Nat) = i) (hn : i < M.2.2.1) (hL : zz_st1 L i (.ref x) = L') (k : zz_G K N d M Q (pc + 1) L' st h) : zz_G K N d M Q pc L (.ref x :: st) h := by
  intro X p l e R s m args below meth c H locs ls C hl hP hD hS
  subst hL
  obtain ⟨h0, lv, h1, h2⟩ := hl
  exact lv_astore_n C.1 C.2.1 hd hi h1 hn rfl fun ls' hls => k X p l e R s m args below meth c H locs ls' C (zz_ls.st1 h0 h2 hls) hP hD hS
theorem zg_lstore {i : Nat} {x : Int64} {L' : zz_L} (hd : decode M.2.1 pc = .ok (.lstore i, 2)) (hn : i + 1 < M.2.2.1) (hL : zz_st2 L i (.long x) = L') (k : zz_G K N d M Q (pc + 2) L' st h) : zz_G K N d M Q pc L (.long x :: st) h := by
  intro X p l e R s m args below meth c H locs ls C hl hP hD hS
  subst hL
  obtain ⟨h0, lv, h1, h2⟩ := hl
  exact lv_lstore C.1 C.2.1 hd h1 hn rfl fun ls' hls => k X p l e R s m args below meth c H locs ls' C (zz_ls.st2 h0 h2 hls) hP hD hS
theorem zg_lstore_n {i : Nat} {x : Int64} {L' : zz_L} {q : Fin 4} (hd : decode M.2.1 pc = .ok (.lstore_n q, 1)) (hi : (q : Nat) = i) (hn : i + 1 < M.2.2.1) (hL : zz_st2 L i (.long x) = L') (k : zz_G K N d M Q (pc + 1) L' st h) : zz_G K N d M Q pc L (.long x :: st) h := by
  intro X p l e R s m args below meth c H locs ls C hl hP hD hS
  subst hL
  obtain ⟨h0, lv, h1, h2⟩ := hl
  exact lv_lstore_n C.1 C.2.1 hd hi h1 hn rfl fun ls' hls => k X p l e R s m args below meth c H locs ls' C (zz_ls.st2 h0 h2 hls) hP hD hS
theorem zg_iinc {i : Nat} {n : Int} {x v : Int32} {L' : zz_L} (hd : decode M.2.1 pc = .ok (.iinc i n, 3)) (hl0 : L[i]? = some (some (.int x))) (hv : x + Int32.ofInt n = v) (hn : i < M.2.2.1) (hL : zz_st1 L i (.int v) = L') (k : zz_G K N d M Q (pc + 3) L' st h) : zz_G K N d M Q pc L st h := by
  intro X p l e R s m args below meth c H locs ls C hl hP hD hS
  subst hL
  obtain ⟨h0, lv, h1, h2⟩ := hl
  obtain ⟨q, hq⟩ := List.getElem?_of_mem (h2 i _ hl0)
  exact lv_iinc C.1 C.2.1 hd h1 hq hv hn rfl fun ls' hls => k X p l e R s m args below meth c H locs ls' C (zz_ls.st1 (v := .int v) h0 h2 hls) hP hD hS
theorem zg_if_eq {x : Int32} {off : Int} {tgt : Nat} (hd : decode M.2.1 pc = .ok (.ifCond .eq off, 3)) (ht : (pc : Int) + off = (tgt : Int)) (kt : x = 0 → zz_G K N d M Q tgt L st h) (kf : ¬ (x = 0) → zz_G K N d M Q (pc + 3) L st h) : zz_G K N d M Q pc L (.int x :: st) h := by
  intro X p l e R s m args below meth c H locs ls C hl hP hD hS
  exact lv_if_eq C.1 C.2.1 hd ht (fun q => kt q X p l e R s m args below meth c H locs ls C hl hP hD hS) (fun q => kf q X p l e R s m args below meth c H locs ls C hl hP hD hS)
theorem zg_icmp_eq {x y : Int32} {off : Int} {tgt : Nat} (hd : decode M.2.1 pc = .ok (.if_icmp .eq off, 3)) (ht : (pc : Int) + off = (tgt : Int)) (kt : x = y → zz_G K N d M Q tgt L st h) (kf : ¬ (x = y) → zz_G K N d M Q (pc + 3) L st h) : zz_G K N d M Q pc L (.int y :: .int x :: st) h := by
  intro X p l e R s m args below meth c H locs ls C hl hP hD hS
  exact lv_icmp_eq C.1 C.2.1 hd ht (fun q => kt q X p l e R s m args below meth c H locs ls C hl hP hD hS) (fun q => kf q X p l e R s m args below meth c H locs ls C hl hP hD hS)
theorem zg_if_ne {x : Int32} {off : Int} {tgt : Nat} (hd : decode M.2.1 pc = .ok (.ifCond .ne off, 3)) (ht : (pc : Int) + off = (tgt : Int)) (kt : ¬ x = 0 → zz_G K N d M Q tgt L st h) (kf : x = 0 → zz_G K N d M Q (pc + 3) L st h) : zz_G K N d M Q pc L (.int x :: st) h := by
  intro X p l e R s m args below meth c H locs ls C hl hP hD hS
  exact lv_if_ne C.1 C.2.1 hd ht (fun q => kt q X p l e R s m args below meth c H locs ls C hl hP hD hS) (fun q => kf q X p l e R s m args below meth c H locs ls C hl hP hD hS)
theorem zg_icmp_ne {x y : Int32} {off : Int} {tgt : Nat} (hd : decode M.2.1 pc = .ok (.if_icmp .ne off, 3)) (ht : (pc : Int) + off = (tgt : Int)) (kt : ¬ x = y → zz_G K N d M Q tgt L st h) (kf : x = y → zz_G K N d M Q (pc + 3) L st h) : zz_G K N d M Q pc L (.int y :: .int x :: st) h := by
  intro X p l e R s m args below meth c H locs ls C hl hP hD hS
  exact lv_icmp_ne C.1 C.2.1 hd ht (fun q => kt q X p l e R s m args below meth c H locs ls C hl hP hD hS) (fun q => kf q X p l e R s m args below meth c H locs ls C hl hP hD hS)
theorem zg_if_lt {x : Int32} {off : Int} {tgt : Nat} (hd : decode M.2.1 pc = .ok (.ifCond .lt off, 3)) (ht : (pc : Int) + off = (tgt : Int)) (kt : x < 0 → zz_G K N d M Q tgt L st h) (kf : ¬ (x < 0) → zz_G K N d M Q (pc + 3) L st h) : zz_G K N d M Q pc L (.int x :: st) h := by
  intro X p l e R s m args below meth c H locs ls C hl hP hD hS
  exact lv_if_lt C.1 C.2.1 hd ht (fun q => kt q X p l e R s m args below meth c H locs ls C hl hP hD hS) (fun q => kf q X p l e R s m args below meth c H locs ls C hl hP hD hS)
theorem zg_icmp_lt {x y : Int32} {off : Int} {tgt : Nat} (hd : decode M.2.1 pc = .ok (.if_icmp .lt off, 3)) (ht : (pc : Int) + off = (tgt : Int)) (kt : x < y → zz_G K N d M Q tgt L st h) (kf : ¬ (x < y) → zz_G K N d M Q (pc + 3) L st h) : zz_G K N d M Q pc L (.int y :: .int x :: st) h := by
  intro X p l e R s m args below meth c H locs ls C hl hP hD hS
  exact lv_icmp_lt C.1 C.2.1 hd ht (fun q => kt q X p l e R s m args below meth c H locs ls C hl hP hD hS) (fun q => kf q X p l e R s m args below meth c H locs ls C hl hP hD hS)
theorem zg_if_ge {x : Int32} {off : Int} {tgt : Nat} (hd : decode M.2.1 pc = .ok (.ifCond .ge off, 3)) (ht : (pc : Int) + off = (tgt : Int)) (kt : 0 ≤ x → zz_G K N d M Q tgt L st h) (kf : ¬ (0 ≤ x) → zz_G K N d M Q (pc + 3) L st h) : zz_G K N d M Q pc L (.int x :: st) h := by
  intro X p l e R s m args below meth c H locs ls C hl hP hD hS
  exact lv_if_ge C.1 C.2.1 hd ht (fun q => kt q X p l e R s m args below meth c H locs ls C hl hP hD hS) (fun q => kf q X p l e R s m args below meth c H locs ls C hl hP hD hS)
theorem zg_icmp_ge {x y : Int32} {off : Int} {tgt : Nat} (hd : decode M.2.1 pc = .ok (.if_icmp .ge off, 3)) (ht : (pc : Int) + off = (tgt : Int)) (kt : y ≤ x → zz_G K N d M Q tgt L st h) (kf : ¬ (y ≤ x) → zz_G K N d M Q (pc + 3) L st h) : zz_G K N d M Q pc L (.int y :: .int x :: st) h := by
  intro X p l e R s m args below meth c H locs ls C hl hP hD hS
  exact lv_icmp_ge C.1 C.2.1 hd ht (fun q => kt q X p l e R s m args below meth c H locs ls C hl hP hD hS) (fun q => kf q X p l e R s m args below meth c H locs ls C hl hP hD hS)
theorem zg_if_gt {x : Int32} {off : Int} {tgt : Nat} (hd : decode M.2.1 pc = .ok (.ifCond .gt off, 3)) (ht : (pc : Int) + off = (tgt : Int)) (kt : 0 < x → zz_G K N d M Q tgt L st h) (kf : ¬ (0 < x) → zz_G K N d M Q (pc + 3) L st h) : zz_G K N d M Q pc L (.int x :: st) h := by
  intro X p l e R s m args below meth c H locs ls C hl hP hD hS
  exact lv_if_gt C.1 C.2.1 hd ht (fun q => kt q X p l e R s m args below meth c H locs ls C hl hP hD hS) (fun q => kf q X p l e R s m args below meth c H locs ls C hl hP hD hS)
theorem zg_icmp_gt {x y : Int32} {off : Int} {tgt : Nat} (hd : decode M.2.1 pc = .ok (.if_icmp .gt off, 3)) (ht : (pc : Int) + off = (tgt : Int)) (kt : y < x → zz_G K N d M Q tgt L st h) (kf : ¬ (y < x) → zz_G K N d M Q (pc + 3) L st h) : zz_G K N d M Q pc L (.int y :: .int x :: st) h := by
  intro X p l e R s m args below meth c H locs ls C hl hP hD hS
  exact lv_icmp_gt C.1 C.2.1 hd ht (fun q => kt q X p l e R s m args below meth c H locs ls C hl hP hD hS) (fun q => kf q X p l e R s m args below meth c H locs ls C hl hP hD hS)
theorem zg_if_le {x : Int32} {off : Int} {tgt : Nat} (hd : decode M.2.1 pc = .ok (.ifCond .le off, 3)) (ht : (pc : Int) + off = (tgt : Int)) (kt : x ≤ 0 → zz_G K N d M Q tgt L st h) (kf : ¬ (x ≤ 0) → zz_G K N d M Q (pc + 3) L st h) : zz_G K N d M Q pc L (.int x :: st) h := by
  intro X p l e R s m args below meth c H locs ls C hl hP hD hS
  exact lv_if_le C.1 C.2.1 hd ht (fun q => kt q X p l e R s m args below meth c H locs ls C hl hP hD hS) (fun q => kf q X p l e R s m args below meth c H locs ls C hl hP hD hS)
theorem zg_icmp_le {x y : Int32} {off : Int} {tgt : Nat} (hd : decode M.2.1 pc = .ok (.if_icmp .le off, 3)) (ht : (pc : Int) + off = (tgt : Int)) (kt : x ≤ y → zz_G K N d M Q tgt L st h) (kf : ¬ (x ≤ y) → zz_G K N d M Q (pc + 3) L st h) : zz_G K N d M Q pc L (.int y :: .int x :: st) h := by
  intro X p l e R s m args below meth c H locs ls C hl hP hD hS
  exact lv_icmp_le C.1 C.2.1 hd ht (fun q => kt q X p l e R s m args below meth c H locs ls C hl hP hD hS) (fun q => kf q X p l e R s m args below meth c H locs ls C hl hP hD hS)
theorem zg_goto {off : Int} {tgt : Nat} (hd : decode M.2.1 pc = .ok (.goto off, 3)) (ht : (pc : Int) + off = (tgt : Int)) (k : zz_G K N d M Q tgt L st h) : zz_G K N d M Q pc L st h := by
  intro X p l e R s m args below meth c H locs ls C hl hP hD hS
  exact lv_goto C.1 C.2.1 hd ht (k X p l e R s m args below meth c H locs ls C hl hP hD hS)
theorem zg_tabIn {dflt lo hi : Int} {offs : Array Int} {len : Nat} {x : Int32} {off : Int} {tgt : Nat} (hd : decode M.2.1 pc = .ok (.tableswitch dflt lo hi offs, len)) (h1 : ¬ x.toInt < lo) (h2 : ¬ hi < x.toInt) (ho : offs[(x.toInt - lo).toNat]? = some off) (ht : (pc : Int) + off = (tgt : Int)) (k : zz_G K N d M Q tgt L st h) : zz_G K N d M Q pc L (.int x :: st) h := by
  intro X p l e R s m args below meth c H locs ls C hl hP hD hS
  exact lv_tableIn C.1 C.2.1 hd h1 h2 ho ht (k X p l e R s m args below meth c H locs ls C hl hP hD hS)
theorem zg_tabOut {dflt lo hi : Int} {offs : Array Int} {len : Nat} {x : Int32} {tgt : Nat} (hd : decode M.2.1 pc = .ok (.tableswitch dflt lo hi offs, len)) (h1 : x.toInt < lo ∨ hi < x.toInt) (ht : (pc : Int) + dflt = (tgt : Int)) (k : zz_G K N d M Q tgt L st h) : zz_G K N d M Q pc L (.int x :: st) h := by
  intro X p l e R s m args below meth c H locs ls C hl hP hD hS
  exact lv_tableOut C.1 C.2.1 hd h1 ht (k X p l e R s m args below meth c H locs ls C hl hP hD hS)
theorem zg_ldc {idx : Nat} {v : Int32} (hd : decode M.2.1 pc = .ok (.ldc idx, 2)) (hw : Cond.constant M.1.cls idx v ∈ yw) (k : zz_G K N d M Q (pc + 2) L (.int v :: st) h) : zz_G K N d M Q pc L st h := by
  intro X p l e R s m args below meth c H locs ls C hl hP hD hS
  exact lv_ldc C.1 C.2.1 C.2.2.2.2.2.1 (C.2.2.2.2.2.2.1 _ hw) hd (k X p l e R s m args below meth c H locs ls C hl hP hD hS)
theorem zg_ldcw {idx : Nat} {v : Int32} (hd : decode M.2.1 pc = .ok (.ldc_w idx, 3)) (hw : Cond.constant M.1.cls idx v ∈ yw) (k : zz_G K N d M Q (pc + 3) L (.int v :: st) h) : zz_G K N d M Q pc L st h := by
  intro X p l e R s m args below meth c H locs ls C hl hP hD hS
  exact lv_ldcw C.1 C.2.1 C.2.2.2.2.2.1 (C.2.2.2.2.2.2.1 _ hw) hd (k X p l e R s m args below meth c H locs ls C hl hP hD hS)
theorem zg_ldc2 {idx : Nat} {v : Int64} (hd : decode M.2.1 pc = .ok (.ldc2_w idx, 3)) (hw : Cond.constantLong M.1.cls idx v ∈ yw) (k : zz_G K N d M Q (pc + 3) L (.long v :: st) h) : zz_G K N d M Q pc L st h := by
  intro X p l e R s m args below meth c H locs ls C hl hP hD hS
  exact lv_ldc2 C.1 C.2.1 C.2.2.2.2.2.1 (C.2.2.2.2.2.2.1 _ hw) hd (k X p l e R s m args below meth c H locs ls C hl hP hD hS)
/-- a field's link: class ci's slot j, from class own's entry idx -/
def zz_lf (own : String) (idx ci j : Nat) : Prop := ∃ (C : String) (T : u_T) (n : Nat), vwCl[ci]? = some (C, T, n) ∧ j < n ∧ (∀ k, k < n → u_lay C T k ∈ yw) ∧ Cond.fieldLink own idx (T j).1 (T j).2.1 (T j).2.2.1 ∈ yw
def zz_lp (own : String) (idx ci j : Nat) (ty : FieldType) : Prop := ∃ (C : String) (T : u_T) (n : Nat) (tys : Nat → FieldType), vwCl[ci]? = some (C, T, n) ∧ j < n ∧ (∀ k, k < n → u_lay C T k ∈ yw) ∧ Cond.fieldLink own idx (T j).1 (T j).2.1 (T j).2.2.1 ∈ yw ∧ (∀ k, k < n → parseFieldDescriptor (T k).2.2.1 = some (tys k)) ∧ (∀ a, a < n → ∀ b, b < n → a ≠ b → (T a).2.1 ≠ (T b).2.1) ∧ (T j).2.2.2 = false ∧ parseFieldDescriptor (T j).2.2.1 = some ty
theorem zz_uws {C : String} {T : u_T} {n : Nat} (h : ∀ k, k < n → u_lay C T k ∈ yw) : ∀ w ∈ u_ws C T n, w ∈ yw := by
  intro w hw
  unfold u_ws at hw
  obtain ⟨k, hk, rfl⟩ := List.mem_map.mp hw
  exact h k (List.mem_range.mp hk)
theorem zz_eO {X : zz_Fx} {K : zz_Kd} {N : Nat} {h : zz_Hp} {o ci : Nat} {fs : List (Option Nat)} (ho : o < N) (hK : K o = .inl (ci, fs)) : (zz_w X K N h)[o]? = some (X.2.2 o, .inr (ci, zz_fs X h o fs)) := by
  rw [zz_at ho]; simp only [zz_e, hK, zz_ex]
theorem zz_eI {X : zz_Fx} {K : zz_Kd} {N : Nat} {h : zz_Hp} {o ty n : Nat} (ho : o < N) (hK : K o = .inr (ty, n)) (ht : ty ≠ 3) : (zz_w X K N h)[o]? = some (X.2.2 o, .inl (X.2.1 ty, n, .inl (h.1 o))) := by
  rw [zz_at ho]; simp only [zz_e, hK, zz_ex, if_neg ht]
theorem zz_eL {X : zz_Fx} {K : zz_Kd} {N : Nat} {h : zz_Hp} {o n : Nat} (ho : o < N) (hK : K o = .inr (3, n)) : (zz_w X K N h)[o]? = some (X.2.2 o, .inl (X.2.1 3, n, .inr (.inl (h.2 o)))) := by
  rw [zz_at ho]; simp only [zz_e, hK, zz_ex, if_true]
theorem zz_fs_get {X : zz_Fx} {h : zz_Hp} {o j : Nat} {fs : List (Option Nat)} {f : Option Nat} (hj : fs[j]? = some f) : (zz_fs X h o fs)[j]? = some (zz_fv X h o j f) := by
  unfold zz_fs; rw [List.getElem?_mapIdx, hj]; rfl
theorem zz_fs_set {X : zz_Fx} {h : zz_Hp} {o j : Nat} {fs : List (Option Nat)} (hj : fs[j]? = some none) (v : Int32) : (zz_fs X h o fs).set j (.int v) = zz_fs X (zz_uI h o j v) o fs := by
  apply List.ext_getElem?
  intro i
  by_cases hi : i = j
  · subst hi
    rw [List.getElem?_set_self (by unfold zz_fs; rw [List.length_mapIdx]; exact (List.getElem?_eq_some_iff.mp hj).1), zz_fs_get hj]
    simp [zz_fv, zz_uI]
  · rw [List.getElem?_set_ne (fun q => hi q.symm)]
    unfold zz_fs
    rw [List.getElem?_mapIdx, List.getElem?_mapIdx]
    cases fs[i]? with
    | none => rfl
    | some f =>
      cases f with
      | none => simp [zz_fv, zz_uI, hi]
      | some t => rfl
theorem zg_getI {o ci idx j : Nat} {fs : List (Option Nat)} (hd : decode M.2.1 pc = .ok (.getfield idx, 3)) (hf : zz_lf M.1.cls idx ci j) (hK : K o = .inl (ci, fs)) (ho : o < N) (hj : fs[j]? = some none) (k : zz_G K N d M Q (pc + 3) L (.int (h.1 o j) :: st) h) : zz_G K N d M Q pc L (.ref o :: st) h := by
  intro X p l e R s m args below meth c H locs ls C hl hP hD hS
  obtain ⟨C0, T, n, hc, hjn, hin, hlk⟩ := hf
  exact va_get C.1 C.2.1 C.2.2.2.2.2.2.1 (zz_uws hin) C.2.2.2.2.2.1 C.2.2.2.2.2.2.2.1.1 hP o (zz_eO ho hK) hc j hjn (C.2.2.2.2.2.2.1 _ hlk) (fun _ q => q) (v := .int (h.1 o j)) (zz_fs_get hj) hd (k X p l e R s m args below meth c H locs ls C hl hP hD hS)
theorem zg_getR {o ci idx j t : Nat} {fs : List (Option Nat)} (hd : decode M.2.1 pc = .ok (.getfield idx, 3)) (hf : zz_lf M.1.cls idx ci j) (hK : K o = .inl (ci, fs)) (ho : o < N) (hj : fs[j]? = some (some t)) (k : zz_G K N d M Q (pc + 3) L (.ref t :: st) h) : zz_G K N d M Q pc L (.ref o :: st) h := by
  intro X p l e R s m args below meth c H locs ls C hl hP hD hS
  obtain ⟨C0, T, n, hc, hjn, hin, hlk⟩ := hf
  exact va_get C.1 C.2.1 C.2.2.2.2.2.2.1 (zz_uws hin) C.2.2.2.2.2.1 C.2.2.2.2.2.2.2.1.1 hP o (zz_eO ho hK) hc j hjn (C.2.2.2.2.2.2.1 _ hlk) (fun _ q => q) (v := .ref (X.2.2 t)) (zz_fs_get hj) hd (k X p l e R s m args below meth c H locs ls C hl hP hD hS)
theorem zz_putX {o ci idx j : Nat} {fs : List (Option Nat)} {v : Int32} {ty : FieldType} (hd : decode M.2.1 pc = .ok (.putfield idx, 3)) (hf : zz_lp M.1.cls idx ci j ty) (hn : narrow ty (.int v) = .int v) (hfit : fits ty (.int v) = true) (hK : K o = .inl (ci, fs)) (ho : o < N) (hj : fs[j]? = some none) (k : zz_G K N d M Q (pc + 3) L st (zz_uI h o j v)) : zz_G K N d M Q pc L (.int v :: .ref o :: st) h := by
  intro X p l e R s m args below meth c H locs ls C hl hP hD hS
  obtain ⟨C0, T, n, tys, hc, hjn, hin, hlk, hty, hnm, hfin, hd0⟩ := hf
  refine va_put C.1 C.2.1 C.2.2.2.2.2.2.1 (zz_uws hin) tys hty hnm C.2.2.2.2.2.1 C.2.2.2.2.2.2.2.1.1 hP hD hS o (zz_eO ho hK) hc j hjn (C.2.2.2.2.2.2.1 _ hlk) (fun _ q => q) hfin (v := .int v) hd0 hn hfit (by unfold zz_fs; rw [List.length_mapIdx]; exact (List.getElem?_eq_some_iff.mp hj).1) hd fun H1 locs1 a1 a2 a3 => ?_
  have eW : (zz_w X K N h).set o (X.2.2 o, .inr (ci, (zz_fs X h o fs).set j (.int v))) = zz_w X K N (zz_uI h o j v) := by
    refine zz_set ?_ (fun k hk => zz_uI_ne hk)
    rw [zz_fs_set hj]; simp only [zz_e, hK, zz_ex]
  rw [eW] at a1 a2
  exact k X p l e R s m args below meth c H1 locs1 ls C hl a1 a2 a3
theorem zg_putI {o ci idx j : Nat} {fs : List (Option Nat)} {v : Int32} (hd : decode M.2.1 pc = .ok (.putfield idx, 3)) (hf : zz_lp M.1.cls idx ci j .int) (hK : K o = .inl (ci, fs)) (ho : o < N) (hj : fs[j]? = some none) (k : zz_G K N d M Q (pc + 3) L st (zz_uI h o j v)) : zz_G K N d M Q pc L (.int v :: .ref o :: st) h :=
  zz_putX hd hf rfl rfl hK ho hj k
theorem zg_putZ {o ci idx j : Nat} {fs : List (Option Nat)} {v : Int32} (hd : decode M.2.1 pc = .ok (.putfield idx, 3)) (hv : v = 0 ∨ v = 1) (hf : zz_lp M.1.cls idx ci j .boolean) (hK : K o = .inl (ci, fs)) (ho : o < N) (hj : fs[j]? = some none) (k : zz_G K N d M Q (pc + 3) L st (zz_uI h o j v)) : zz_G K N d M Q pc L (.int v :: .ref o :: st) h := by
  rcases hv with rfl | rfl
  · exact zz_putX hd hf (by decide) (by decide) hK ho hj k
  · exact zz_putX hd hf (by decide) (by decide) hK ho hj k
/-- arrays -/
theorem zg_iald {a n : Nat} {i : Int32} (hd : decode M.2.1 pc = .ok (.iaload, 1)) (hK : K a = .inr (0, n)) (ha : a < N) (hi : vp_in i n) (k : zz_G K N d M Q (pc + 1) L (.int (h.1 a i.toNatClampNeg) :: st) h) : zz_G K N d M Q pc L (.int i :: .ref a :: st) h := by
  intro X p l e R s m args below meth c H locs ls C hl hP hD hS
  exact va_iald C.1 C.2.1 C.2.2.2.2.2.2.2.1.1 hP a 0 (zz_eI ha hK (by decide)) rfl hi hd (k X p l e R s m args below meth c H locs ls C hl hP hD hS)
theorem zg_bald {a n : Nat} {i : Int32} (hd : decode M.2.1 pc = .ok (.baload, 1)) (hK : K a = .inr (1, n)) (ha : a < N) (hi : vp_in i n) (k : zz_G K N d M Q (pc + 1) L (.int (h.1 a i.toNatClampNeg) :: st) h) : zz_G K N d M Q pc L (.int i :: .ref a :: st) h := by
  intro X p l e R s m args below meth c H locs ls C hl hP hD hS
  exact va_bald C.1 C.2.1 C.2.2.2.2.2.2.2.1.1 hP a 1 (zz_eI ha hK (by decide)) rfl hi hd (k X p l e R s m args below meth c H locs ls C hl hP hD hS)
theorem zg_zald {a n : Nat} {i : Int32} (hd : decode M.2.1 pc = .ok (.baload, 1)) (hK : K a = .inr (2, n)) (ha : a < N) (hi : vp_in i n) (k : zz_G K N d M Q (pc + 1) L (.int (h.1 a i.toNatClampNeg) :: st) h) : zz_G K N d M Q pc L (.int i :: .ref a :: st) h := by
  intro X p l e R s m args below meth c H locs ls C hl hP hD hS
  exact va_zald C.1 C.2.1 C.2.2.2.2.2.2.2.1.1 hP a 2 (zz_eI ha hK (by decide)) rfl hi hd (k X p l e R s m args below meth c H locs ls C hl hP hD hS)
theorem zg_lald {a n : Nat} {i : Int32} (hd : decode M.2.1 pc = .ok (.laload, 1)) (hK : K a = .inr (3, n)) (ha : a < N) (hi : vp_in i n) (k : zz_G K N d M Q (pc + 1) L (.long (h.2 a i.toNatClampNeg) :: st) h) : zz_G K N d M Q pc L (.int i :: .ref a :: st) h := by
  intro X p l e R s m args below meth c H locs ls C hl hP hD hS
  exact va_lald C.1 C.2.1 C.2.2.2.2.2.2.2.1.1 hP a 3 (zz_eL ha hK) rfl hi hd (k X p l e R s m args below meth c H locs ls C hl hP hD hS)
theorem zz_setI {X : zz_Fx} {K : zz_Kd} {N : Nat} {h : zz_Hp} {a ty n i : Nat} {v : Int32} (hK : K a = .inr (ty, n)) (ht : ty ≠ 3) : (zz_w X K N h).set a (X.2.2 a, .inl (X.2.1 ty, n, .inl (upd (h.1 a) i v))) = zz_w X K N (zz_uI h a i v) := by
  refine zz_set ?_ (fun k hk => zz_uI_ne hk)
  simp only [zz_e, hK, zz_ex, if_neg ht]
  congr 4
  funext j
  by_cases hj : j = i <;> simp [upd, zz_uI, hj]
theorem zg_iast {a n : Nat} {i v : Int32} (hd : decode M.2.1 pc = .ok (.iastore, 1)) (hK : K a = .inr (0, n)) (ha : a < N) (hi : vp_in i n) (k : zz_G K N d M Q (pc + 1) L st (zz_uI h a i.toNatClampNeg v)) : zz_G K N d M Q pc L (.int v :: .int i :: .ref a :: st) h := by
  intro X p l e R s m args below meth c H locs ls C hl hP hD hS
  refine va_iast C.1 C.2.1 C.2.2.2.2.2.2.2.1.1 hP hD hS a 0 (zz_eI ha hK (by decide)) rfl hi hd fun H1 locs1 a1 a2 a3 => ?_
  rw [zz_setI hK (by decide)] at a1 a2
  exact k X p l e R s m args below meth c H1 locs1 ls C hl a1 a2 a3
theorem zg_bast {a n : Nat} {i v : Int32} (hd : decode M.2.1 pc = .ok (.bastore, 1)) (hK : K a = .inr (1, n)) (ha : a < N) (hi : vp_in i n) (k : zz_G K N d M Q (pc + 1) L st (zz_uI h a i.toNatClampNeg v.toInt8.toInt32)) : zz_G K N d M Q pc L (.int v :: .int i :: .ref a :: st) h := by
  intro X p l e R s m args below meth c H locs ls C hl hP hD hS
  refine va_bast C.1 C.2.1 C.2.2.2.2.2.2.2.1.1 hP hD hS a 1 (zz_eI ha hK (by decide)) rfl hi hd fun H1 locs1 a1 a2 a3 => ?_
  rw [vp_nar_byte, zz_setI hK (by decide)] at a1 a2
  exact k X p l e R s m args below meth c H1 locs1 ls C hl a1 a2 a3
theorem zg_zast {a n : Nat} {i v : Int32} (hd : decode M.2.1 pc = .ok (.bastore, 1)) (hv : v = 0 ∨ v = 1) (hK : K a = .inr (2, n)) (ha : a < N) (hi : vp_in i n) (k : zz_G K N d M Q (pc + 1) L st (zz_uI h a i.toNatClampNeg v)) : zz_G K N d M Q pc L (.int v :: .int i :: .ref a :: st) h := by
  intro X p l e R s m args below meth c H locs ls C hl hP hD hS
  have eW : vp_nar .boolean v = v := by rcases hv with rfl | rfl <;> decide
  refine va_zast C.1 C.2.1 C.2.2.2.2.2.2.2.1.1 hP hD hS a 2 (zz_eI ha hK (by decide)) rfl hi hd fun H1 locs1 a1 a2 a3 => ?_
  rw [eW, zz_setI hK (by decide)] at a1 a2
  exact k X p l e R s m args below meth c H1 locs1 ls C hl a1 a2 a3
theorem zg_last {a n : Nat} {i : Int32} {v : Int64} (hd : decode M.2.1 pc = .ok (.lastore, 1)) (hK : K a = .inr (3, n)) (ha : a < N) (hi : vp_in i n) (k : zz_G K N d M Q (pc + 1) L st (zz_uL h a i.toNatClampNeg v)) : zz_G K N d M Q pc L (.long v :: .int i :: .ref a :: st) h := by
  intro X p l e R s m args below meth c H locs ls C hl hP hD hS
  refine va_last C.1 C.2.1 C.2.2.2.2.2.2.2.1.1 hP hD hS a 3 (zz_eL ha hK) rfl hi hd fun H1 locs1 a1 a2 a3 => ?_
  have eW : (zz_w X K N h).set a (X.2.2 a, .inl (X.2.1 3, n, .inr (.inl (vp_updL (h.2 a) i.toNatClampNeg v)))) = zz_w X K N (zz_uL h a i.toNatClampNeg v) := by
    refine zz_set ?_ (fun k hk => zz_uL_ne hk)
    simp only [zz_e, hK, zz_ex, if_true]
    congr 5
    funext j
    by_cases hj : j = i.toNatClampNeg <;> simp [vp_updL, zz_uL, hj]
  rw [eW] at a1 a2
  exact k X p l e R s m args below meth c H1 locs1 ls C hl a1 a2 a3
theorem zg_alen {a ty n : Nat} {v : Int32} (hd : decode M.2.1 pc = .ok (.arraylength, 1)) (hty : ty = 0 ∨ ty = 1) (hv : Int32.ofNat n = v) (hK : K a = .inr (ty, n)) (ha : a < N) (k : zz_G K N d M Q (pc + 1) L (.int v :: st) h) : zz_G K N d M Q pc L (.ref a :: st) h := by
  intro X p l e R s m args below meth c H locs ls C hl hP hD hS
  rcases hty with rfl | rfl
  · exact va_alen C.1 C.2.1 C.2.2.2.2.2.2.2.1.1 hP a 0 (zz_eI ha hK (by decide)) (ty := .int) rfl hv hd (k X p l e R s m args below meth c H locs ls C hl hP hD hS)
  · exact va_alen C.1 C.2.1 C.2.2.2.2.2.2.2.1.1 hP a 1 (zz_eI ha hK (by decide)) (ty := .byte) rfl hv hd (k X p l e R s m args below meth c H locs ls C hl hP hD hS)
/-- the two static tables: cells 1000 and 1001 -/
theorem zg_getLT {idx : Nat} (hd : decode M.2.1 pc = .ok (.getstatic idx, 3)) (hw : Cond.fieldLink M.1.cls idx "YarnPlier" "LEAST_TOLD" "[I" ∈ yw) (k : zz_G K N d M Q (pc + 3) L (.ref 1000 :: st) h) : zz_G K N d M Q pc L st h := by
  intro X p l e R s m args below meth c H locs ls C hl hP hD hS
  exact va_gets C.1 C.2.1 C.2.2.2.2.2.2.2.1.2.2.1.1 hS C.2.2.2.2.2.1 (C.2.2.2.2.2.2.1 _ hw) (fun _ q => q) hd (k X p l e R s m args below meth c H locs ls C hl hP hD hS)
theorem zg_getMT {idx : Nat} (hd : decode M.2.1 pc = .ok (.getstatic idx, 3)) (hw : Cond.fieldLink M.1.cls idx "YarnPlier" "MOST_TOLD" "[I" ∈ yw) (k : zz_G K N d M Q (pc + 3) L (.ref 1001 :: st) h) : zz_G K N d M Q pc L st h := by
  intro X p l e R s m args below meth c H locs ls C hl hP hD hS
  exact va_gets C.1 C.2.1 C.2.2.2.2.2.2.2.1.2.2.2.1 hS C.2.2.2.2.2.1 (C.2.2.2.2.2.2.1 _ hw) (fun _ q => q) hd (k X p l e R s m args below meth c H locs ls C hl hP hD hS)
theorem zg_aldLT {i : Int32} (hd : decode M.2.1 pc = .ok (.iaload, 1)) (hi : vp_in i 4) (k : zz_G K N d M Q (pc + 1) L (.int (zz_lt i.toNatClampNeg) :: st) h) : zz_G K N d M Q pc L (.int i :: .ref 1000 :: st) h := by
  intro X p l e R s m args below meth c H locs ls C hl hP hD hS
  exact va_ti C.1 C.2.1 C.2.2.2.2.2.2.2.1.2.2.1.2 hS hi rfl hd (k X p l e R s m args below meth c H locs ls C hl hP hD hS)
theorem zg_aldMT {i : Int32} (hd : decode M.2.1 pc = .ok (.iaload, 1)) (hi : vp_in i 4) (k : zz_G K N d M Q (pc + 1) L (.int (zz_mt i.toNatClampNeg) :: st) h) : zz_G K N d M Q pc L (.int i :: .ref 1001 :: st) h := by
  intro X p l e R s m args below meth c H locs ls C hl hP hD hS
  exact va_ti C.1 C.2.1 C.2.2.2.2.2.2.2.1.2.2.2.2 hS hi rfl hd (k X p l e R s m args below meth c H locs ls C hl hP hD hS)
/-- returns -/
theorem zz_fin {X : zz_Fx} {v : Option Value} {s : State} {args : Array Value} {H : Heap} {locs : List Loc} (hq : Q v h) (hP : va_P X.1 vwCl (zz_w X K N h) H) (hD : va_D (zz_A X N) (zz_w X K N h)) (hS : va_S (zz_A X N) s.heap H locs) : ∀ t : State, t.heap = H → s.WarmedH t.vm → zz_Q X K N Q args s (.returned (v.map (zz_v X))) t :=
  fun t ht _ => ⟨v, h, hq, rfl, by rw [ht]; exact hP, hD, hS.F ht⟩
theorem zg_iret {v : Int32} (hd : decode M.2.1 pc = .ok (.ireturn, 1)) (hr : M.2.2.2 = some .int) (hq : Q (some (.int v)) h) : zz_G K N d M Q pc L [.int v] h := by
  intro X p l e R s m args below meth c H locs ls C hl hP hD hS
  exact W.iret (v := v) C.1 C.2.1 (C.2.2.2.1.trans hr) (zz_fin hq hP hD hS) hS.2.2 hd C.2.2.2.2.1
theorem zg_zret {v : Int32} (hd : decode M.2.1 pc = .ok (.ireturn, 1)) (hv : v = 0 ∨ v = 1) (hr : M.2.2.2 = some .boolean) (hq : Q (some (.int v)) h) : zz_G K N d M Q pc L [.int v] h := by
  intro X p l e R s m args below meth c H locs ls C hl hP hD hS
  exact W.zret (v := v) C.1 C.2.1 (C.2.2.2.1.trans hr) (by rcases hv with rfl | rfl <;> decide) (zz_fin hq hP hD hS) hS.2.2 hd C.2.2.2.2.1
theorem zg_lret {v : Int64} (hd : decode M.2.1 pc = .ok (.lreturn, 1)) (hr : M.2.2.2 = some .long) (hq : Q (some (.long v)) h) : zz_G K N d M Q pc L [.long v] h := by
  intro X p l e R s m args below meth c H locs ls C hl hP hD hS
  exact W.lret (v := v) C.1 C.2.1 (C.2.2.2.1.trans hr) (zz_fin hq hP hD hS) hS.2.2 hd C.2.2.2.2.1
theorem zg_vret (hd : decode M.2.1 pc = .ok (.return_, 1)) (hr : M.2.2.2 = none) (hq : Q none h) : zz_G K N d M Q pc L [] h := by
  intro X p l e R s m args below meth c H locs ls C hl hP hD hS
  exact W.vret C.1 C.2.1 (C.2.2.2.1.trans hr) (zz_fin hq hP hD hS) hS.2.2 hd C.2.2.2.2.1
/-- a method's contract out of the judgement at its entry -/
def zz_al : List Value → zz_L
  | [] => []
  | .long v :: vs => some (.long v) :: none :: zz_al vs
  | .double v :: vs => some (.double v) :: none :: zz_al vs
  | v :: vs => some v :: zz_al vs
def zz_L0 (n : Nat) (As : List Value) : zz_L := zz_al As ++ List.replicate (n - (zz_al As).length) none
def zz_ws (M : zz_Mi) : List Cond := Cond.code M.1 M.2.1 M.2.2.1 M.2.2.2 :: yw
def zz_pre (X : zz_Fx) (K : zz_Kd) (N : Nat) (h : zz_Hp) (U : State) : Prop := va_P X.1 vwCl (zz_w X K N h) U.heap ∧ va_D (zz_A X N) (zz_w X K N h) ∧ zz_S X N U
theorem zz_al_args (X : zz_Fx) : ∀ (As : List Value) (n i : Nat) (v : Value), (zz_al As)[i]? = some (some v) → (n + i, zz_v X v) ∈ lv_args n (As.map (zz_v X)) := by
  intro As
  induction As with
  | nil => intro n i v hv; simp [zz_al] at hv
  | cons a as ih =>
    intro n i v hv
    cases a with
    | long x =>
      simp only [zz_al] at hv
      match i, hv with
      | 0, hv => cases hv; exact List.mem_cons_self
      | 1, hv => simp at hv
      | i + 2, hv =>
        have := ih (n + 2) i v (by simpa using hv)
        rw [show n + (i + 2) = n + 2 + i by omega]
        exact List.mem_cons_of_mem _ this
    | double x =>
      simp only [zz_al] at hv
      match i, hv with
      | 0, hv => cases hv; exact List.mem_cons_self
      | 1, hv => simp at hv
      | i + 2, hv =>
        have := ih (n + 2) i v (by simpa using hv)
        rw [show n + (i + 2) = n + 2 + i by omega]
        exact List.mem_cons_of_mem _ this
    | _ =>
      simp only [zz_al] at hv
      match i, hv with
      | 0, hv => cases hv; exact List.mem_cons_self
      | i + 1, hv =>
        have := ih (n + 1) i v (by simpa using hv)
        rw [show n + (i + 1) = n + 1 + i by omega]
        exact List.mem_cons_of_mem _ this
theorem zz_al_len (X : zz_Fx) : ∀ As : List Value, (lg_sl (As.map (zz_v X))).length = (zz_al As).length := by
  intro As
  induction As with
  | nil => rfl
  | cons a as ih =>
    have e : ∀ (v : Value) (vs : List Value), (lg_sl (v :: vs)).length = (if v.category = 2 then 2 else 1) + (lg_sl vs).length := by
      intro v vs
      simp only [lg_sl, List.flatMap_cons, List.length_append]
      split <;> rfl
    rw [List.map_cons, e, ih]
    cases a <;> simp [zz_al, zz_v, Value.category] <;> omega
theorem zz_met {As : List Value} {Q : Option Value → zz_Hp → Prop} (hy : plainName M.1.cls = true) (hlen : (zz_al As).length ≤ M.2.2.1) (hG : zz_G K N d M Q 0 (zz_L0 M.2.2.1 As) [] h) (l : Launch) (X : zz_Fx) : Met l M.1 (zz_ws M) (zz_rm d) (va_Pc (As.map (zz_v X)) (zz_pre X K N h)) (zz_Q X K N Q) 0 0 (zz_A X N) := by
  refine Met.ofW (cc := M.2.1) (maxL := M.2.2.1) (ret := M.2.2.2) hy rfl ?_
  intro p e s m args below meth c s₁ B hml hv
  obtain ⟨rfl, hP, hD, hSs⟩ := hv
  have hts := atoms_spec (ws := zz_ws M) B.pre
  have hl := lv_entry (As.map (zz_v X)) (n := M.2.2.1) (by rw [zz_al_len]; exact hlen)
  rw [lg_entry_eq]
  refine hG X p l e _ s m _ below meth c s.heap [] _ ⟨B.exec, B.bytes, hml, B.returns, B.notSynchronized, findClass_of_methodNamed B.named, fun w hw => hts w (List.mem_cons_of_mem _ hw), hSs, rfl⟩ ⟨?_, _, hl, ?_⟩ hP hD va_S.rf
  · simp [zz_L0]; omega
  · intro i v hv
    have h1 : (zz_al As)[i]? = some (some v) := by
      unfold zz_L0 at hv
      by_cases hi : i < (zz_al As).length
      · rwa [List.getElem?_append_left hi] at hv
      · rw [List.getElem?_append_right (by omega)] at hv
        have := List.eq_of_mem_replicate (List.mem_of_getElem? hv)
        cases this
    have := zz_al_args X As 0 i v h1
    rwa [Nat.zero_add] at this
/-- what is known of a method; of a call's link -/
def zz_ok (M : zz_Mi) (n : Nat) : Prop := Cond.code M.1 M.2.1 M.2.2.1 M.2.2.2 ∈ yw ∧ Cond.initialized M.1.cls ∈ yw ∧ (M.1.cls ≠ "java/lang/invoke/MethodHandle" ∧ M.1.cls ≠ "java/lang/invoke/VarHandle" ∧ (parseMethodDescriptor M.1.desc).map (fun d => d.parameters.length) = some n) ∧ plainName M.1.cls = true ∧ M.2.2.1 ≤ 40
def zz_lv (own : String) (idx ci n : Nat) (M : zz_Mi) : Prop := zz_ok M n ∧ Cond.methodLink own idx M.1 ∈ yw ∧ Cond.instanceMethod M.1 ∈ yw ∧ Cond.selects M.1.cls M.1 M.1 ∈ yw ∧ ∃ (T : u_T) (k : Nat), vwCl[ci]? = some (M.1.cls, T, k)
def zz_lst (own : String) (idx n : Nat) (M : zz_Mi) : Prop := zz_ok M n ∧ Cond.methodLink own idx M.1 ∈ yw ∧ Cond.static M.1 ∈ yw
def zz_lsn (own : String) (idx n : Nat) (M : zz_Mi) : Prop := zz_ok M n ∧ Cond.static M.1 ∈ yw ∧ ∃ host, (own, idx, M.1, host) ∈ zz_nw
theorem zz_blind {X : zz_Fx} {av : List Value} : FrameBlind (va_Pc av (zz_pre X K N h)) := fun a U g mk q => by
  obtain ⟨q0, q1, q2, q3⟩ := q
  exact ⟨q0, q1, q2, zz_S_same q3 rfl rfl⟩
theorem zz_wsgood {M' : zz_Mi} (hc : Cond.code M'.1 M'.2.1 M'.2.2.1 M'.2.2.2 ∈ yw) : GoodIn yw (zz_ws M') := fun w hw => by
  rcases List.mem_cons.mp hw with rfl | hw
  · exact yw_good _ hc
  · exact yw_good _ hw
theorem zz_room {d n : Nat} (h : n ≤ 40) : (zz_rm d).frames + 1 ≤ (zz_rm (d + 1)).frames ∧ 8 + (n + 11) + (zz_rm d).locals ≤ (zz_rm (d + 1)).locals := by
  simp only [zz_rm]; omega
/-- behind a call -/
theorem zz_behind {Q' : Option Value → zz_Hp → Prop} {X : zz_Fx} {p : Program} {l : Launch} {e : Env} {R : Room} {s : State} {m : MethodId} {args : Array Value} {below : List Frame} {meth : Method} {c : Code} {H : Heap} {locs : List Loc} {ls : Array Slot} {stk rest : List Value} {a : Array Value}
    (C : zz_C X N d M p R s m args meth c) (hl : zz_ls X ls M.2.2.1 L) (hS : va_S (zz_A X N) s.heap H locs)
    (hr : va_Run p l e R s m args below meth c H locs 0 0 0 0 (F0 m pc ls stk) (rest.map (zz_v X)) (zz_Q X K N Q' a) (zz_A X N))
    (k : ∀ v h', Q' v h' → zz_G K N d M Q (pc + 3) L (v.toList ++ rest) h') : W p l e R s m args below meth c H locs 0 0 (MQ below (zz_Q X K N Q) args s 0 0 (zz_A X N)) (F0 m pc ls stk) := by
  intro T hT Y
  obtain ⟨v, st₀, t, T', Lx, e0, Y', hL, e1, e2, ⟨v', h', hq, ho, hP', hD', hF⟩, hgo⟩ := hr T hT Y
  have hv : v = v'.map (zz_v X) := by injection ho
  subst hv
  have hS' : va_S (zz_A X N) s.heap T'.heap (locs ++ Lx) := by
    refine ⟨?_, fun q hq hn => ?_, fun q hq => ?_⟩
    · rw [e1]; exact Nat.le_trans hS.1 (by rw [← e0]; exact hF.1)
    · rw [e1, hF.2 q (by rw [e0]; exact Nat.lt_of_lt_of_le hq hS.1) hn, e0]; exact hS.2.1 q hq hn
    · rcases List.mem_append.mp hq with q1 | q1
      · exact hS.2.2 q q1
      · exact hL q q1
  have hk := k v' h' hq X p l e R s m args below meth c T'.heap (locs ++ Lx) ls C hl (by rw [e1]; exact hP') hD' hS'
  have es : List.map (zz_v X) (v'.toList ++ rest) = (v'.map (zz_v X)).toList ++ rest.map (zz_v X) := by cases v' <;> simp
  rw [es] at hk
  obtain ⟨t2, s2, f2⟩ := hk T' rfl Y'
  exact ⟨t2, hgo t2 s2, f2⟩
theorem zg_callV {Q' : Option Value → zz_Hp → Prop} {M' : zz_Mi} {idx ci o : Nat} {fs : List (Option Nat)} {As : List Value} (hd : decode M.2.1 pc = .ok (.invokevirtual idx, 3)) (hk : zz_lv M.1.cls idx ci As.length M') (hK : K o = .inl (ci, fs)) (ho : o < N) (hw : (st.map fun v => v.category).sum ≤ 8) (hlen : (zz_al (.ref o :: As)).length ≤ M'.2.2.1)
    (hc : zz_G K N d M' Q' 0 (zz_L0 M'.2.2.1 (.ref o :: As)) [] h) (k : ∀ v h', Q' v h' → zz_G K N (d + 1) M Q (pc + 3) L (v.toList ++ st) h') : zz_G K N (d + 1) M Q pc L (As.reverse ++ .ref o :: st) h := by
  intro X p l e R s m args below meth c H locs ls C hl hP hD hS
  obtain ⟨⟨k1, k2, k3, k4, k5⟩, k6, k7, k8, T, n, k9⟩ := hk
  have hts := C.2.2.2.2.2.2.1
  have hR : R = zz_rm (d + 1) := C.2.2.2.2.2.2.2.2
  refine zz_behind C hl hS (rest := st) (va_runV (As := As.map (zz_v X)) (n := As.length) ⟨C.1, C.2.1, C.2.2.1, C.2.2.2.2.2.1, hts⟩ (zz_met k4 hlen hc l X) ⟨callB_of As.length hts (zz_wsgood k1) rfl rfl rfl (hts _ k2) (hts _ k6) k3 (by rw [hR]; exact zz_room k5), hts _ k7, hts _ k8⟩ ⟨zz_blind, va_recv C.2.2.2.2.2.2.2.1.1 hP k9 (zz_eO ho hK), fun U hU hW => ⟨rfl, by rw [hU]; exact hP, hD, zz_S_warm C.2.2.2.2.2.2.2.1 hU hW hS⟩⟩ rfl (by simp) (hl.2.choose_spec.1.1) (by simp [zz_v]) (lv_room (by simpa [Function.comp_def, zz_v_cat] using hw)) hd ⟨Nat.zero_le _, Nat.zero_le _⟩) k
theorem zg_callS {Q' : Option Value → zz_Hp → Prop} {M' : zz_Mi} {idx : Nat} {As : List Value} (hd : decode M.2.1 pc = .ok (.invokestatic idx, 3)) (hk : zz_lst M.1.cls idx As.length M') (hw : (st.map fun v => v.category).sum ≤ 8) (hlen : (zz_al As).length ≤ M'.2.2.1)
    (hc : zz_G K N d M' Q' 0 (zz_L0 M'.2.2.1 As) [] h) (k : ∀ v h', Q' v h' → zz_G K N (d + 1) M Q (pc + 3) L (v.toList ++ st) h') : zz_G K N (d + 1) M Q pc L (As.reverse ++ st) h := by
  intro X p l e R s m args below meth c H locs ls C hl hP hD hS
  obtain ⟨⟨k1, k2, k3, k4, k5⟩, k6, k7⟩ := hk
  have hts := C.2.2.2.2.2.2.1
  have hR : R = zz_rm (d + 1) := C.2.2.2.2.2.2.2.2
  refine zz_behind C hl hS (rest := st) (va_runS (As := As.map (zz_v X)) (n := As.length) ⟨C.1, C.2.1, C.2.2.1, C.2.2.2.2.2.1, hts⟩ (zz_met k4 hlen hc l X) ⟨callB_of As.length hts (zz_wsgood k1) rfl rfl rfl (hts _ k2) (hts _ k6) k3 (by rw [hR]; exact zz_room k5), hts _ k7⟩ ⟨zz_blind, fun U hU hW => ⟨rfl, by rw [hU]; exact hP, hD, zz_S_warm C.2.2.2.2.2.2.2.1 hU hW hS⟩⟩ rfl (by simp) (hl.2.choose_spec.1.1) (by simp) (lv_room (by simpa [Function.comp_def, zz_v_cat] using hw)) hd ⟨Nat.zero_le _, Nat.zero_le _⟩) k
theorem zg_callN {Q' : Option Value → zz_Hp → Prop} {M' : zz_Mi} {idx : Nat} {As : List Value} (hd : decode M.2.1 pc = .ok (.invokestatic idx, 3)) (hk : zz_lsn M.1.cls idx As.length M') (hw : (st.map fun v => v.category).sum ≤ 8) (hlen : (zz_al As).length ≤ M'.2.2.1)
    (hc : zz_G K N d M' Q' 0 (zz_L0 M'.2.2.1 As) [] h) (k : ∀ v h', Q' v h' → zz_G K N (d + 1) M Q (pc + 3) L (v.toList ++ st) h') : zz_G K N (d + 1) M Q pc L (As.reverse ++ st) h := by
  intro X p l e R s m args below meth c H locs ls C hl hP hD hS
  obtain ⟨⟨k1, k2, k3, k4, k5⟩, k7, host, k6⟩ := hk
  have hts := C.2.2.2.2.2.2.1
  have hR : R = zz_rm (d + 1) := C.2.2.2.2.2.2.2.2
  refine zz_behind C hl hS (rest := st) (va_runSN (As := As.map (zz_v X)) (n := As.length) ⟨C.1, C.2.1, C.2.2.1, C.2.2.2.2.2.1, hts⟩ (zz_met k4 hlen hc l X) ⟨va_cnB As.length hts (zz_wsgood k1) rfl rfl rfl (C.2.2.2.2.2.2.2.1.2.1 _ k6) (hts _ k2) k3 (by rw [hR]; exact zz_room k5), hts _ k7, trivial⟩ ⟨zz_blind, fun U hU hW => ⟨rfl, by rw [hU]; exact hP, hD, zz_S_warm C.2.2.2.2.2.2.2.1 hU hW hS⟩⟩ rfl (by simp) (hl.2.choose_spec.1.1) (by simp) (lv_room (by simpa [Function.comp_def, zz_v_cat] using hw)) hd ⟨Nat.zero_le _, Nat.zero_le _⟩) k
/-- Math, arraycopy -/
theorem zg_mabs {idx : Nat} {x : Int32} (hd : decode M.2.1 pc = .ok (.invokestatic idx, 3)) (hk : Cond.methodLink M.1.cls idx Lib.Math.abs.name ∈ yw ∧ Cond.static Lib.Math.abs.name ∈ yw ∧ Cond.initialized "java/lang/Math" ∈ yw ∧ Cond.code Lib.Math.abs.name Lib.Math.abs.code 1 (some .int) ∈ yw) (hw : (st.map fun v => v.category).sum ≤ 8) (k : zz_G K N (d + 1) M Q (pc + 3) L (.int (if 0 ≤ x then x else 0 - x) :: st) h) : zz_G K N (d + 1) M Q pc L (.int x :: st) h := by
  intro X p l e R s m args below meth c H locs ls C hl hP hD hS
  have hts := C.2.2.2.2.2.2.1
  have hR : R = zz_rm (d + 1) := C.2.2.2.2.2.2.2.2
  subst hR
  exact va_mabs C.1 C.2.1 (C.2.2.1.trans hl.2.choose_spec.1.1.symm) C.2.2.2.2.2.1 (hts _ hk.1) (hts _ hk.2.1) (hts _ hk.2.2.1) (hts _ hk.2.2.2) (by simp only [zz_rm]; omega) (by have : ((st.map (zz_v X)).map fun v => v.category).sum ≤ 8 := by simpa [Function.comp_def, zz_v_cat] using hw
                                                                                                                                                                                  simp only [zz_rm]; omega) (Nat.zero_le _) (Nat.zero_le _) hd (k X p l e _ s m args below meth c H locs ls C hl hP hD hS)
theorem zg_mmax {idx : Nat} {x y : Int32} (hd : decode M.2.1 pc = .ok (.invokestatic idx, 3)) (hk : Cond.methodLink M.1.cls idx Lib.Math.max.name ∈ yw ∧ Cond.static Lib.Math.max.name ∈ yw ∧ Cond.initialized "java/lang/Math" ∈ yw ∧ Cond.code Lib.Math.max.name Lib.Math.max.code 2 (some .int) ∈ yw) (hw : (st.map fun v => v.category).sum ≤ 8) (k : zz_G K N (d + 1) M Q (pc + 3) L (.int (if x < y then y else x) :: st) h) : zz_G K N (d + 1) M Q pc L (.int y :: .int x :: st) h := by
  intro X p l e R s m args below meth c H locs ls C hl hP hD hS
  have hts := C.2.2.2.2.2.2.1
  have hR : R = zz_rm (d + 1) := C.2.2.2.2.2.2.2.2
  subst hR
  exact va_mmax C.1 C.2.1 (C.2.2.1.trans hl.2.choose_spec.1.1.symm) C.2.2.2.2.2.1 (hts _ hk.1) (hts _ hk.2.1) (hts _ hk.2.2.1) (hts _ hk.2.2.2) (by simp only [zz_rm]; omega) (by have : ((st.map (zz_v X)).map fun v => v.category).sum ≤ 8 := by simpa [Function.comp_def, zz_v_cat] using hw
                                                                                                                                                                                  simp only [zz_rm]; omega) (Nat.zero_le _) (Nat.zero_le _) hd (k X p l e _ s m args below meth c H locs ls C hl hP hD hS)
theorem zg_mmin {idx : Nat} {x y : Int32} (hd : decode M.2.1 pc = .ok (.invokestatic idx, 3)) (hk : Cond.methodLink M.1.cls idx Lib.Math.min.name ∈ yw ∧ Cond.static Lib.Math.min.name ∈ yw ∧ Cond.initialized "java/lang/Math" ∈ yw ∧ Cond.code Lib.Math.min.name Lib.Math.min.code 2 (some .int) ∈ yw) (hw : (st.map fun v => v.category).sum ≤ 8) (k : zz_G K N (d + 1) M Q (pc + 3) L (.int (if y < x then y else x) :: st) h) : zz_G K N (d + 1) M Q pc L (.int y :: .int x :: st) h := by
  intro X p l e R s m args below meth c H locs ls C hl hP hD hS
  have hts := C.2.2.2.2.2.2.1
  have hR : R = zz_rm (d + 1) := C.2.2.2.2.2.2.2.2
  subst hR
  exact va_mmin C.1 C.2.1 (C.2.2.1.trans hl.2.choose_spec.1.1.symm) C.2.2.2.2.2.1 (hts _ hk.1) (hts _ hk.2.1) (hts _ hk.2.2.1) (hts _ hk.2.2.2) (by simp only [zz_rm]; omega) (by have : ((st.map (zz_v X)).map fun v => v.category).sum ≤ 8 := by simpa [Function.comp_def, zz_v_cat] using hw
                                                                                                                                                                                  simp only [zz_rm]; omega) (Nat.zero_le _) (Nat.zero_le _) hd (k X p l e _ s m args below meth c H locs ls C hl hP hD hS)
theorem zg_copy {idx a b n0 n1 : Nat} {sp dp n : Int32} (hd : decode M.2.1 pc = .ok (.invokestatic idx, 3)) (hk : Cond.methodLink M.1.cls idx arraycopyName ∈ yw ∧ Cond.native arraycopyName ∈ yw ∧ Cond.static arraycopyName ∈ yw ∧ Cond.initialized "java/lang/System" ∈ yw) (hKa : K a = .inr (0, n0)) (hKb : K b = .inr (0, n1)) (ha : a < N) (hb : b < N) (h1 : ¬ sp < 0) (h2 : ¬ dp < 0) (h3 : ¬ n < 0) (h4 : sp.toNatClampNeg + n.toNatClampNeg ≤ n0) (h5 : dp.toNatClampNeg + n.toNatClampNeg ≤ n1) (hw : (st.map fun v => v.category).sum ≤ 8)
    (k : zz_G K N (d + 1) M Q (pc + 3) L st (zz_uC h a b sp.toNatClampNeg dp.toNatClampNeg n.toNatClampNeg)) : zz_G K N (d + 1) M Q pc L (.int n :: .int dp :: .ref b :: .int sp :: .ref a :: st) h := by
  intro X p l e R s m args below meth c H locs ls C hl hP hD hS
  have hts := C.2.2.2.2.2.2.1
  have hR : R = zz_rm (d + 1) := C.2.2.2.2.2.2.2.2
  subst hR
  have hw' : ((st.map (zz_v X)).map fun v => v.category).sum ≤ 8 := by simpa [Function.comp_def, zz_v_cat] using hw
  refine va_copyi C.1 C.2.1 (C.2.2.1.trans hl.2.choose_spec.1.1.symm) C.2.2.2.2.2.1 (hts _ hk.1) (hts _ hk.2.1) (hts _ hk.2.2.1) (hts _ hk.2.2.2) C.2.2.2.2.2.2.2.1.1 hP hD hS a b 0 0 (ty := .int) (zz_eI ha hKa (by decide)) (zz_eI hb hKb (by decide)) rfl rfl rfl h1 h2 h3 h4 h5 (fun _ _ => rfl) (by simp only [zz_rm]; omega) (by
    have e5 : nativeFrameWords "java/lang/System" "arraycopy" 5 = 7 := by decide
    rw [e5]
    show _ ≤ 64 * (d + 1)
    omega) hd fun H1 locs1 a1 a2 a3 => ?_
  have eW : (zz_w X K N h).set b (X.2.2 b, .inl (X.2.1 0, n1, .inl (va_cpy (h.1 a) (h.1 b) sp.toNatClampNeg dp.toNatClampNeg n.toNatClampNeg))) = zz_w X K N (zz_uC h a b sp.toNatClampNeg dp.toNatClampNeg n.toNatClampNeg) := by
    refine zz_set ?_ (fun k hk => zz_uC_ne hk)
    simp [zz_e, hKb, zz_ex, zz_uC]
  rw [eW] at a1 a2
  exact k X p l e _ s m args below meth c H1 locs1 ls C hl a1 a2 a3
/-- calls by the kind of answer -/
theorem zg_callVi {Q' : Int32 → zz_Hp → Prop} {M' : zz_Mi} {idx ci o : Nat} {fs : List (Option Nat)} {As stk : List Value} (hd : decode M.2.1 pc = .ok (.invokevirtual idx, 3)) (hk : zz_lv M.1.cls idx ci As.length M') (hK : K o = .inl (ci, fs)) (ho : o < N) (hstk : stk = As.reverse ++ .ref o :: st) (hw : (st.map fun v => v.category).sum ≤ 8) (hlen : (zz_al (.ref o :: As)).length ≤ M'.2.2.1) (hc : zz_G K N d M' (qI Q') 0 (zz_L0 M'.2.2.1 (.ref o :: As)) [] h) (k : ∀ r h', Q' r h' → zz_G K N (d + 1) M Q (pc + 3) L (.int r :: st) h') : zz_G K N (d + 1) M Q pc L stk h := by
  subst hstk
  exact zg_callV hd hk hK ho hw hlen hc fun v h' hq => by obtain ⟨r, rfl, hq⟩ := hq; exact k r h' hq
theorem zg_callVl {Q' : Int64 → zz_Hp → Prop} {M' : zz_Mi} {idx ci o : Nat} {fs : List (Option Nat)} {As stk : List Value} (hd : decode M.2.1 pc = .ok (.invokevirtual idx, 3)) (hk : zz_lv M.1.cls idx ci As.length M') (hK : K o = .inl (ci, fs)) (ho : o < N) (hstk : stk = As.reverse ++ .ref o :: st) (hw : (st.map fun v => v.category).sum ≤ 8) (hlen : (zz_al (.ref o :: As)).length ≤ M'.2.2.1) (hc : zz_G K N d M' (qL Q') 0 (zz_L0 M'.2.2.1 (.ref o :: As)) [] h) (k : ∀ r h', Q' r h' → zz_G K N (d + 1) M Q (pc + 3) L (.long r :: st) h') : zz_G K N (d + 1) M Q pc L stk h := by
  subst hstk
  exact zg_callV hd hk hK ho hw hlen hc fun v h' hq => by obtain ⟨r, rfl, hq⟩ := hq; exact k r h' hq
theorem zg_callVv {Q' : zz_Hp → Prop} {M' : zz_Mi} {idx ci o : Nat} {fs : List (Option Nat)} {As stk : List Value} (hd : decode M.2.1 pc = .ok (.invokevirtual idx, 3)) (hk : zz_lv M.1.cls idx ci As.length M') (hK : K o = .inl (ci, fs)) (ho : o < N) (hstk : stk = As.reverse ++ .ref o :: st) (hw : (st.map fun v => v.category).sum ≤ 8) (hlen : (zz_al (.ref o :: As)).length ≤ M'.2.2.1) (hc : zz_G K N d M' (qV Q') 0 (zz_L0 M'.2.2.1 (.ref o :: As)) [] h) (k : ∀ h', Q' h' → zz_G K N (d + 1) M Q (pc + 3) L st h') : zz_G K N (d + 1) M Q pc L stk h := by
  subst hstk
  exact zg_callV hd hk hK ho hw hlen hc fun v h' hq => by obtain ⟨rfl, hq⟩ := hq; exact k h' hq
theorem zg_callSi {Q' : Int32 → zz_Hp → Prop} {M' : zz_Mi} {idx : Nat} {As stk : List Value} (hd : decode M.2.1 pc = .ok (.invokestatic idx, 3)) (hk : zz_lst M.1.cls idx As.length M') (hstk : stk = As.reverse ++ st) (hw : (st.map fun v => v.category).sum ≤ 8) (hlen : (zz_al As).length ≤ M'.2.2.1) (hc : zz_G K N d M' (qI Q') 0 (zz_L0 M'.2.2.1 As) [] h) (k : ∀ r h', Q' r h' → zz_G K N (d + 1) M Q (pc + 3) L (.int r :: st) h') : zz_G K N (d + 1) M Q pc L stk h := by
  subst hstk
  exact zg_callS hd hk hw hlen hc fun v h' hq => by obtain ⟨r, rfl, hq⟩ := hq; exact k r h' hq
theorem zg_callSl {Q' : Int64 → zz_Hp → Prop} {M' : zz_Mi} {idx : Nat} {As stk : List Value} (hd : decode M.2.1 pc = .ok (.invokestatic idx, 3)) (hk : zz_lst M.1.cls idx As.length M') (hstk : stk = As.reverse ++ st) (hw : (st.map fun v => v.category).sum ≤ 8) (hlen : (zz_al As).length ≤ M'.2.2.1) (hc : zz_G K N d M' (qL Q') 0 (zz_L0 M'.2.2.1 As) [] h) (k : ∀ r h', Q' r h' → zz_G K N (d + 1) M Q (pc + 3) L (.long r :: st) h') : zz_G K N (d + 1) M Q pc L stk h := by
  subst hstk
  exact zg_callS hd hk hw hlen hc fun v h' hq => by obtain ⟨r, rfl, hq⟩ := hq; exact k r h' hq
theorem zg_callSv {Q' : zz_Hp → Prop} {M' : zz_Mi} {idx : Nat} {As stk : List Value} (hd : decode M.2.1 pc = .ok (.invokestatic idx, 3)) (hk : zz_lst M.1.cls idx As.length M') (hstk : stk = As.reverse ++ st) (hw : (st.map fun v => v.category).sum ≤ 8) (hlen : (zz_al As).length ≤ M'.2.2.1) (hc : zz_G K N d M' (qV Q') 0 (zz_L0 M'.2.2.1 As) [] h) (k : ∀ h', Q' h' → zz_G K N (d + 1) M Q (pc + 3) L st h') : zz_G K N (d + 1) M Q pc L stk h := by
  subst hstk
  exact zg_callS hd hk hw hlen hc fun v h' hq => by obtain ⟨rfl, hq⟩ := hq; exact k h' hq
theorem zg_callNi {Q' : Int32 → zz_Hp → Prop} {M' : zz_Mi} {idx : Nat} {As stk : List Value} (hd : decode M.2.1 pc = .ok (.invokestatic idx, 3)) (hk : zz_lsn M.1.cls idx As.length M') (hstk : stk = As.reverse ++ st) (hw : (st.map fun v => v.category).sum ≤ 8) (hlen : (zz_al As).length ≤ M'.2.2.1) (hc : zz_G K N d M' (qI Q') 0 (zz_L0 M'.2.2.1 As) [] h) (k : ∀ r h', Q' r h' → zz_G K N (d + 1) M Q (pc + 3) L (.int r :: st) h') : zz_G K N (d + 1) M Q pc L stk h := by
  subst hstk
  exact zg_callN hd hk hw hlen hc fun v h' hq => by obtain ⟨r, rfl, hq⟩ := hq; exact k r h' hq
end ZR
/-- loops: the body says what must hold, 'again' stands for the loop's head -/
def wh {σ : Type} (body : σ → (σ → Prop) → Prop) : Nat → σ → Prop
  | 0, _ => False
  | n + 1, s => body s (wh body n)
def lp {σ : Type} (body : σ → (σ → Prop) → Prop) (s : σ) : Prop := ∃ n, wh body n s
theorem lp_ind {σ : Type} {body : σ → (σ → Prop) → Prop} (I : σ → Prop) (μ : σ → Nat) (hs : ∀ s, I s → ∀ again : σ → Prop, (∀ s', I s' → μ s' < μ s → again s') → body s again) (s : σ) (h : I s) : lp body s := by
  have key : ∀ n s, I s → μ s < n → wh body n s := by
    intro n
    induction n with
    | zero => intro s _ h; omega
    | succ n ih => intro s hI hm; exact hs s hI _ (fun s' hI' hm' => ih s' hI' (by omega))
  exact ⟨μ s + 1, key _ s h (Nat.lt_succ_self _)⟩
theorem lp_sound {σ : Type} {body : σ → (σ → Prop) → Prop} {G : σ → Prop} (hb : ∀ s (again : σ → Prop), (∀ s', again s' → G s') → body s again → G s) {s : σ} (h : lp body s) : G s := by
  obtain ⟨n, h⟩ := h
  induction n generalizing s with
  | zero => exact h.elim
  | succ n ih => exact hb s _ (fun s' h' => ih h') h
/-- fewer locals known -/
def zz_le : zz_L → zz_L → Prop
  | [], _ => True
  | none :: a, _ :: b => zz_le a b
  | some v :: a, some w :: b => v = w ∧ zz_le a b
  | _, _ => False
theorem zz_le_get : ∀ {a b : zz_L}, zz_le a b → a.length ≤ b.length ∧ ∀ (i : Nat) (v : Value), a[i]? = some (some v) → b[i]? = some (some v) := by
  intro a
  induction a with
  | nil => intro b _; exact ⟨Nat.zero_le _, fun i v h => by simp at h⟩
  | cons x a ih =>
    intro b h
    cases b with
    | nil => cases x <;> exact h.elim
    | cons y b =>
      cases x with
      | none =>
        obtain ⟨h1, h2⟩ := ih (b := b) h
        refine ⟨by simp; omega, fun i v hv => ?_⟩
        cases i with
        | zero => simp at hv
        | succ i => simpa using h2 i v (by simpa using hv)
      | some v0 =>
        cases y with
        | none => exact h.elim
        | some w0 =>
          obtain ⟨rfl, h⟩ := h
          obtain ⟨h1, h2⟩ := ih (b := b) h
          refine ⟨by simp; omega, fun i v hv => ?_⟩
          cases i with
          | zero => simpa using hv
          | succ i => simpa using h2 i v (by simpa using hv)
theorem zg_weak {K : zz_Kd} {N d : Nat} {M : zz_Mi} {Q : Option Value → zz_Hp → Prop} {pc : Nat} {L L' : zz_L} {st : List Value} {h : zz_Hp} (hle : zz_le L' L) (k : zz_G K N d M Q pc L' st h) : zz_G K N d M Q pc L st h := by
  intro X p l e R s m args below meth c H locs ls C hl hP hD hS
  obtain ⟨h1, h2⟩ := zz_le_get hle
  obtain ⟨g1, lv, g2, g3⟩ := hl
  exact k X p l e R s m args below meth c H locs ls C ⟨Nat.le_trans h1 g1, lv, g2, fun i v hv => g3 i v (h2 i v hv)⟩ hP hD hS
