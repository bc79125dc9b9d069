/-! the component's walk through a yarn: places with their turns, like parts merged -/
-- sums
theorem sm_add {f g : Nat → Int32} : ∀ n : Nat, sm (fun i => f i + g i) n = sm f n + sm g n
  | 0 => by simp [sm]
  | n + 1 => by simp only [sm]; rw [sm_add n]; grind
theorem sm_mul {f : Nat → Int32} {a : Int32} : ∀ n : Nat, sm (fun i => a * f i) n = a * sm f n
  | 0 => by simp [sm]
  | n + 1 => by simp only [sm]; rw [sm_mul n]; grind
theorem sm_zero : ∀ n : Nat, sm (fun _ => 0) n = 0
  | 0 => rfl
  | n + 1 => by simp only [sm]; rw [sm_zero n]; rfl
theorem sm_swap {f : Nat → Nat → Int32} : ∀ n m : Nat, sm (fun i => sm (f i) m) n = sm (fun j => sm (fun i => f i j) n) m
  | 0, m => by simp [sm, sm_zero]
  | n + 1, m => by simp only [sm]; rw [sm_swap n m, ← sm_add]
theorem sm_one {x : Int32} : ∀ {n a : Nat}, a < n → sm (fun j => if a = j then x else 0) n = x
  | 0, _, h => by omega
  | n + 1, a, h => by
    simp only [sm]
    by_cases e : a = n
    · subst e
      rw [if_pos rfl, sm_congr (g := fun _ => 0) (fun i hi => if_neg (show ¬ a = i by omega)), sm_zero]; simp
    · rw [if_neg e, sm_one (by omega)]; simp
theorem sm_head {f : Nat → Int32} : ∀ {n : Nat}, 0 < n → sm f n = f 0 + sm (fun j => if 1 ≤ j then f j else 0) n
  | 0, h => by omega
  | 1, _ => by simp [sm]
  | n + 2, _ => by
    have := sm_head (f := f) (n := n + 1) (by omega)
    simp only [sm] at this ⊢
    rw [this, if_pos (show 1 ≤ n + 1 by omega)]; grind
/-- the places stand for all that is within -/
theorem tree_sum {σ : Type} {T : Tb} (hT : okT T) {g : Nat → σ → Int32} {nx : Nat → σ → σ} {s : Nat} {Y R : Nat → Nat} {TI : Nat → Int32} {st : Nat → σ} (hs : 0 < s) (hY : ∀ j, j < s → Y j < yN T) (hR : ∀ j, 1 ≤ j → j < s → R j < j)
    (hC : ∀ i, i < s → ∀ f : Nat → Int32, sm (fun j => if 1 ≤ j ∧ R j = i then TI j * f (Y j) else 0) s = TI i * sm (fun p => f (yQ T (Y i) p)) (yP T (Y i)))
    (hst : ∀ j, 1 ≤ j → j < s → st j = nx (Y (R j)) (st (R j))) : sm (fun j => TI j * g (Y j) (st j)) s = TI 0 * ts (yP T) (yQ T) g nx 5 (Y 0) (st 0) := by
  have hF : ∀ j, j < s → TI j * ts (yP T) (yQ T) g nx 5 (Y j) (st j) = TI j * g (Y j) (st j) + sm (fun j' => if 1 ≤ j' ∧ R j' = j then TI j' * ts (yP T) (yQ T) g nx 5 (Y j') (st j') else 0) s := by
    intro j hj
    have e1 : ts (yP T) (yQ T) g nx 5 (Y j) (st j) = g (Y j) (st j) + sm (fun p => ts (yP T) (yQ T) g nx 5 (yQ T (Y j) p) (nx (Y j) (st j))) (yP T (Y j)) := by
      rw [ts_fuel hT 5 6 _ _ (hY j hj) (by have := hT.D3 (hY j hj); omega) (by have := hT.D3 (hY j hj); omega)]
      rfl
    have e2 := hC j hj (fun v => ts (yP T) (yQ T) g nx 5 v (nx (Y j) (st j)))
    rw [e1]
    have e3 : sm (fun j' => if 1 ≤ j' ∧ R j' = j then TI j' * ts (yP T) (yQ T) g nx 5 (Y j') (st j') else 0) s = sm (fun j' => if 1 ≤ j' ∧ R j' = j then TI j' * ts (yP T) (yQ T) g nx 5 (Y j') (nx (Y j) (st j)) else 0) s := by
      refine sm_congr fun j' hj' => ?_
      by_cases c : 1 ≤ j' ∧ R j' = j
      · rw [if_pos c, if_pos c, hst j' c.1 hj', c.2]
      · rw [if_neg c, if_neg c]
    rw [e3, e2]; grind
  have h1 : sm (fun j => TI j * ts (yP T) (yQ T) g nx 5 (Y j) (st j)) s = sm (fun j => TI j * g (Y j) (st j)) s + sm (fun j => sm (fun j' => if 1 ≤ j' ∧ R j' = j then TI j' * ts (yP T) (yQ T) g nx 5 (Y j') (st j') else 0) s) s := by
    rw [← sm_add]; exact sm_congr hF
  have h2 : sm (fun j => sm (fun j' => if 1 ≤ j' ∧ R j' = j then TI j' * ts (yP T) (yQ T) g nx 5 (Y j') (st j') else 0) s) s = sm (fun j' => if 1 ≤ j' then TI j' * ts (yP T) (yQ T) g nx 5 (Y j') (st j') else 0) s := by
    rw [sm_swap]
    refine sm_congr fun j' hj' => ?_
    by_cases c : 1 ≤ j'
    · rw [if_pos c]
      have hlt : R j' < s := by have := hR j' c hj'; omega
      refine Eq.trans (sm_congr (g := fun j => if R j' = j then TI j' * ts (yP T) (yQ T) g nx 5 (Y j') (st j') else 0) fun j hj => ?_) (sm_one hlt)
      by_cases c2 : R j' = j
      · rw [if_pos ⟨c, c2⟩, if_pos c2]
      · rw [if_neg (fun q => c2 q.2), if_neg c2]
    · rw [if_neg c, sm_congr (g := fun _ => 0) (fun j _ => if_neg (fun q => c q.1)), sm_zero]
  have h3 := sm_head (f := fun j => TI j * ts (yP T) (yQ T) g nx 5 (Y j) (st j)) hs
  rw [h2] at h1
  rw [h1] at h3
  simp only at h3
  grind
-- addPlace
def fW (c c' : zz_Hp) : Prop := ∀ k, ¬ (27 ≤ k ∧ k ≤ 34) → c'.1 k = c.1 k
theorem fW.rf {c : zz_Hp} : fW c c := fun _ _ => rfl
theorem fW.tr {a b c : zz_Hp} (h1 : fW a b) (h2 : fW b c) : fW a c := fun k hk => (h2 k hk).trans (h1 k hk)
theorem fW.sC {c c' : zz_Hp} (h : fW c c') : sC c c' := ⟨fun k hk => h k (by omega), by rw [h 24 (by omega)]⟩
theorem CT_fW {T : Tb} {c c' : zz_Hp} (h : fW c c') (hc : CT T c) : CT T c' := by
  unfold CT; rw [h 2 (by omega), h 3 (by omega), h 4 (by omega)]; exact hc
def plc (c c' : zz_Hp) (s : Nat) (y o tu ti mv : Int32) : Prop := fW c c' ∧ c'.1 27 0 = nI (s + 1) ∧
  (∀ j, j ≠ s → c'.1 28 j = c.1 28 j ∧ c'.1 29 j = c.1 29 j ∧ c'.1 30 j = c.1 30 j ∧ c'.1 31 j = c.1 31 j ∧ c'.1 32 j = c.1 32 j) ∧ c'.1 28 s = y ∧ c'.1 31 s = o ∧ c'.1 29 s = tu ∧ c'.1 30 s = ti ∧ c'.1 32 s = mv
/-- the twist of y, that of 'at' left out -/
def twa (T : Tb) (at_ : Int32) (y : Nat) : Int32 := if nI y = at_ then 0 else yT T y
def mva (at_ : Int32) (y : Nat) : Int32 := if nI y = at_ then 1 else 0
theorem t6_addPlace {T : Tb} (hT : okT T) {c : zz_Hp} (hc : CT T c) {s y : Nat} {l o at_ : Int32} {Q : zz_Hp → Prop} (hs : c.1 27 0 = nI s) (h85 : s < 85) (e : l = nI y) (hy : y < yN T)
    (ho : o = -1 ∨ ∃ q, q < s ∧ o = nI q ∧ (c.1 32 q = 0 ∨ c.1 32 q = 1))
    (HQ : ∀ c', plc c c' s (nI y) o (if o = -1 then twa T at_ y else twa T at_ y + c.1 29 o.toNatClampNeg) (if o = -1 then 1 else c.1 30 o.toNatClampNeg) (if o = -1 then mva at_ y else mva at_ y ||| c.1 32 o.toNatClampNeg) → Q c') : w_X6_addPlace l o at_ c Q := by
  subst e
  have hn := hT.1
  have hsi : vp_in (nI s) 85 := nv_in h85 (by decide)
  have htn : (nI s).toNatClampNeg = s := nv_tn (by omega)
  unfold w_X6_addPlace
  rw [hs, htn]
  refine brt (by rw [show (85 : Int32) = nI 85 from rfl, nv_lt (by omega) (by omega)]; exact h85) ⟨hsi, fun c1 e1 => ?_⟩
  have f1 : c1.1 27 0 = nI s := by rw [e1, zu_ne (Or.inl (by decide)), hs]
  rw [f1, htn]
  refine ⟨hsi, fun c2 e2 => ?_⟩
  have f2 : c2.1 27 0 = nI s := by rw [e2, zu_ne (Or.inl (by decide)), f1]
  have fw2 : fW c c2 := fun k hk => by rw [e2, zu_f (by omega), e1, zu_f (by omega)]
  have hc2 := CT_fW fw2 hc
  rw [f2]
  have key : ∀ tw : Int32, tw = twa T at_ y → w_X6_addPlace_j54 Q (nI y) o at_ tw (nI s) c2 := by
    intro tw htw
    subst htw
    unfold w_X6_addPlace_j54
    rw [htn]
    refine ⟨hsi, fun c3 e3 => ?_⟩
    have f3 : c3.1 27 0 = nI s := by rw [e3, zu_ne (Or.inl (by decide)), f2]
    rw [f3]
    have h01 : mva at_ y = 0 ∨ mva at_ y = 1 := by unfold mva; split <;> simp
    have key2 : ∀ mv : Int32, mv = (if o = -1 then mva at_ y else mva at_ y ||| c.1 32 o.toNatClampNeg) → w_X6_addPlace_j87 Q o mv (nI s) c3 := by
      intro mv hmv
      have hmv01 : mv = 0 ∨ mv = 1 := by
        rcases ho with ho | ⟨q, hq, ho, hq01⟩
        · rw [hmv, if_pos ho]; exact h01
        · have hoq : ¬ o = -1 := fun w => by
            have := iv_eq.mp (ho.symm.trans w)
            rw [nv_toInt (by omega), show (-1 : Int32).toInt = -1 by decide] at this
            omega
          have hqn : (nI q).toNatClampNeg = q := nv_tn (by omega)
          rw [hmv, if_neg hoq, ho, hqn]
          rcases h01 with m0 | m0 <;> rcases hq01 with q0 | q0 <;> rw [m0, q0] <;> decide
      unfold w_X6_addPlace_j87
      rw [htn]
      refine ⟨hsi, hmv01, fun c4 e4 => ?_⟩
      have f4 : c4.1 27 0 = nI s := by rw [e4, zu_ne (Or.inl (by decide)), f3]
      rw [f4, htn]
      refine ⟨hsi, fun c5 e5 => ?_⟩
      have f5 : c5.1 27 0 = nI s := by rw [e5, zu_ne (Or.inl (by decide)), f4]
      rcases ho with ho | ⟨q, hq, ho, hq01⟩
      · refine brt (by rw [ho]; decide) ?_
        intro c6 e6
        rw [f5, lit_1, nv_add] at e6
        rw [if_pos ho] at hmv
        subst e6; subst e5; subst e4; subst e3; subst e2; subst e1
        rw [if_pos ho, if_pos ho, if_pos ho] at HQ
        refine HQ _ ⟨fun k hk => ?_, ?_, fun j hj => ⟨?_, ?_, ?_, ?_, ?_⟩, ?_, ?_, ?_, ?_, ?_⟩
        · simp (disch := omega) only [zu_f]
        · simp (disch := omega) only [zu_eq]
        all_goals simp (disch := omega) only [zu_ne, zu_eq]
        exact hmv
      · have hoq : ¬ o = -1 := fun w => by
          have := iv_eq.mp (ho.symm.trans w)
          rw [nv_toInt (by omega), show (-1 : Int32).toInt = -1 by decide] at this
          omega
        have hqi : vp_in (nI q) 85 := nv_in (by omega) (by decide)
        have hqn : (nI q).toNatClampNeg = q := nv_tn (by omega)
        rw [if_neg hoq, if_neg hoq, if_neg hoq] at HQ
        rw [if_neg hoq] at hmv
        subst ho
        rw [hqn] at HQ hmv
        refine brf (nv_lt0 (by omega)) ?_
        rw [f5, htn, hqn]
        refine ⟨hsi, hqi, hsi, fun c6 e6 => ?_⟩
        have f6 : c6.1 27 0 = nI s := by rw [e6, zu_ne (Or.inl (by decide)), f5]
        rw [f6, htn]
        refine ⟨hqi, hsi, fun c8 e8 => ?_⟩
        have f8 : c8.1 27 0 = nI s := by rw [e8, zu_ne (Or.inl (by decide)), f6]
        intro c9 e9
        rw [f8, lit_1, nv_add] at e9
        subst hmv
        subst e9; subst e8; subst e6; subst e5; subst e4; subst e3; subst e2; subst e1
        refine HQ _ ⟨fun k hk => ?_, ?_, fun j hj => ⟨?_, ?_, ?_, ?_, ?_⟩, ?_, ?_, ?_, ?_, ?_⟩
        · simp (disch := omega) only [zu_f]
        · simp (disch := omega) only [zu_eq]
        all_goals simp (disch := omega) only [zu_ne, zu_eq]
    have hn1 : ∀ q, q < s → o = nI q → ¬ o = -1 := fun q hq ho w => by
      have := iv_eq.mp (ho.symm.trans w)
      rw [nv_toInt (by omega), show (-1 : Int32).toInt = -1 by decide] at this
      omega
    refine brc (fun e => key2 1 ?_) fun e => ?_
    · have m1 : mva at_ y = 1 := by unfold mva; rw [if_pos e]
      rw [m1]
      rcases ho with ho | ⟨q, hq, ho, hq01⟩
      · rw [if_pos ho]
      · rw [if_neg (hn1 q hq ho), ho, nv_tn (by omega)]
        rcases hq01 with q0 | q0 <;> rw [q0] <;> decide
    · have m0 : mva at_ y = 0 := by unfold mva; rw [if_neg e]
      rw [m0] at key2
      rcases ho with ho | ⟨q, hq, ho, hq01⟩
      · refine brt (by rw [ho]; decide) (key2 0 ?_)
        rw [if_pos ho]
      · have hqi : vp_in (nI q) 85 := nv_in (by omega) (by decide)
        have hqn : (nI q).toNatClampNeg = q := nv_tn (by omega)
        have g3 : c3.1 32 q = c.1 32 q := by rw [e3, zu_ne (Or.inl (by decide)), e2, zu_ne (Or.inl (by decide)), e1, zu_ne (Or.inl (by decide))]
        rw [if_neg (hn1 q hq ho)] at key2
        subst ho
        rw [hqn] at key2
        refine brf (nv_lt0 (by omega)) ⟨hqi, ?_⟩
        rw [hqn, g3]
        rcases hq01 with q0 | q0
        · exact brt q0 (key2 0 (by rw [q0]; decide))
        · exact brf (by rw [q0]; decide) (key2 1 (by rw [q0]; decide))
  refine bnc (fun e => ?_) fun e => ?_
  · refine t7_fact y 0 (by omega) (by omega) rfl rfl (key _ ?_)
    rw [(hc2.2 y hy).1.1]; unfold twa; rw [if_neg e]
  · refine key 0 ?_
    unfold twa; rw [if_pos e]
