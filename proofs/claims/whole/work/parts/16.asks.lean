/-! what is asked of the places: torque, pulls, fibres, yards -/
def fpl (f w t : Int32) : Int32 := if f.toInt = 1 then 2 * w * t else if f.toInt = 2 then (w * t) / 2 else if f.toInt = 3 then w * t + w * (if t ≤ 20 then (if -20 ≤ t then 0 else t + 20) else t - 20) else w * t
theorem t8_fibrePull {f w t : Int32} {c : zz_Hp} {Q : Int32 → zz_Hp → Prop} (H : Q (fpl f w t) c) : w_X8_fibrePull f w t c Q := by
  unfold fpl at H
  refine ⟨fun e => ?_, fun e => ?_, fun e => ?_, fun e => ?_⟩
  · rwa [if_pos e] at H
  · rwa [if_neg (by omega), if_pos e] at H
  · rw [if_neg (by omega), if_neg (by omega), if_pos e] at H
    refine brc (fun e3 => ?_) fun e3 => ?_
    · rw [if_pos e3] at H
      refine brc (fun e4 => ?_) fun e4 => ?_
      · rwa [if_pos e4] at H
      · rwa [if_neg e4] at H
    · rwa [if_neg e3] at H
  · rwa [if_neg (by omega), if_neg (by omega), if_neg (by omega)] at H
theorem fpl_pul {f w t : Int32} (hf : okV 2 f) : fpl f w t = pul f w t := by
  obtain ⟨k, hk, rfl⟩ := okV2 hf
  have : k = 0 ∨ k = 1 ∨ k = 2 ∨ k = 3 := by omega
  unfold fpl pul
  rcases this with rfl | rfl | rfl | rfl
  · rw [if_neg (by decide), if_neg (by decide), if_neg (by decide), if_pos (by decide)]
  · rw [if_pos (by decide), if_neg (by decide), if_pos (by decide)]; grind
  · rw [if_neg (by decide), if_pos (by decide), if_neg (by decide), if_neg (by decide), if_pos (by decide)]
  · rw [if_neg (show ¬ (nI 3).toInt = 1 by decide), if_neg (show ¬ (nI 3).toInt = 2 by decide), if_pos (show (nI 3).toInt = 3 by decide), if_neg (show ¬ nI 3 = 0 by decide), if_neg (show ¬ nI 3 = 1 by decide), if_neg (show ¬ nI 3 = 2 by decide)]
    by_cases h1 : t ≤ 20
    · rw [if_pos h1, if_pos h1]
      by_cases h2 : -20 ≤ t
      · rw [if_pos h2, if_pos h2]; simp
      · rw [if_neg h2, if_neg h2]
    · rw [if_neg h1, if_neg h1]
/-- the table, were the twist of 'at' t -/
def Tat (T : Tb) (at_ t : Int32) : Tb := (T.1, T.2.1, T.2.2.1, T.2.2.2.1, twt T at_ t, T.2.2.2.2.2)
section
variable {T : Tb} {c : zz_Hp}
theorem t6_turnBy {j : Nat} {l t : Int32} {Q : Int32 → zz_Hp → Prop} (e : l = nI j) (hj : j < 85) (H : Q (rtn c j t) c) : w_X6_turnBy l t c Q := by
  subst e
  have hji : vp_in (nI j) 85 := nv_in hj (by decide)
  unfold w_X6_turnBy
  rw [nv_tn (by omega)]
  unfold rtn at H
  refine ⟨hji, brc (fun e => ⟨hji, ?_⟩) fun e => ⟨hji, ?_⟩⟩
  · rwa [if_pos e] at H
  · rwa [if_neg e] at H
/-- the sum over the places is the sum over the tree -/
theorem WE.sum {y0 : Nat} {at_ : Int32} (hT : okT T) {s : Nat} {Y R : Nat → Nat} (h : WQ T y0 at_ c s s 0 Y R) (t : Int32) (g : Nat → Int32 → Int32) :
    sm (fun j => c.1 30 j * g (Y j) (rtn c j t)) s = ts (yP T) (yQ T) (fun y a => g y (a + twt T at_ t y)) (fun y a => a + twt T at_ t y) 5 y0 0 := by
  obtain ⟨⟨h1, h2, h3, h4, h5⟩, h6, h7, h8, h9, h10, h11⟩ := h
  have := tree_sum hT (g := fun y a => g y (a + twt T at_ t y)) (nx := fun y a => a + twt T at_ t y) (s := s) (Y := Y) (R := R) (TI := c.1 30) (st := fun j => if j = 0 then 0 else rtn c (R j) t) (by omega) (fun j hj => (h6 j hj).1) (fun j a b => (h7 j a b).1) (fun i hi f => h9 i hi hi f) (fun j a b => by
    have hr := (h7 j a b).1
    rw [if_neg (by omega)]
    by_cases e : R j = 0
    · rw [if_pos e, e, (h8 t).1, h3]; simp
    · rw [if_neg e]; exact (h8 t).2 (R j) (by omega) (by omega))
  simp only [if_pos, h3, h4, Int32.one_mul] at this
  rw [← this]
  refine sm_congr fun j hj => ?_
  by_cases e : j = 0
  · rw [if_pos e, e, (h8 t).1, h3]; simp
  · rw [if_neg e, (h8 t).2 j (by omega) hj]
def gwo (T : Tb) (th : Int32) (y : Nat) (r : Int32) : Int32 := if nI y = th then 0 else if yP T y = 0 then pul (yF T y) (yW T y) r else r * nI (yP T y)
theorem t6_torqueWithout (hT : okT T) (hc : CT T c) {y0 : Nat} {at_ th t : Int32} (hw : WE T y0 at_ c) {Q : Int32 → zz_Hp → Prop}
    (H : Q (ts (yP T) (yQ T) (fun y a => gwo T th y (a + twt T at_ t y)) (fun y a => a + twt T at_ t y) 5 y0 0) c) : w_X6_torqueWithout th t c Q := by
  obtain ⟨s, Y, R, h⟩ := hw
  have hn := hT.1
  have hs85 := h.s85
  have hsz := h.1.2.1
  rw [← WE.sum hT h t (gwo T th)] at H
  unfold w_X6_torqueWithout
  refine lp_cnt s (fun i u => u = (sm (fun j => c.1 30 j * gwo T th (Y j) (rtn c j t)) i, nI i, c)) ?_ _ rfl
  intro i u hi hu again hag
  subst hu
  unfold w_X6_torqueWithout_l6
  dsimp only
  rw [hsz]
  refine brc (fun e => ?_) fun e => ?_
  · have : i = s := by have := (nv_le (by omega) (by omega)).mp e; omega
    subst this; exact H
  · have hlt : i < s := by
      rcases Nat.lt_or_ge i s with w | w
      · exact w
      · exact absurd ((nv_le (by omega) (by omega)).mpr w) e
    obtain ⟨hYi, hYc, -⟩ := h.2.1 i hlt
    have hii : vp_in (nI i) 85 := nv_in (by omega) (by decide)
    have hin : (nI i).toNatClampNeg = i := nv_tn (by omega)
    have hP := hT.P4 hYi
    rw [hin, hYc]
    refine ⟨hii, brc (fun e => ?_) fun e => ?_⟩
    · rw [lit_1, nv_add]
      refine hag hlt _ ?_
      simp only [sm, gwo]
      rw [if_pos e]; simp
    · refine t6_turnBy rfl (by omega) (t7_fact (Y i) 4 (by omega) (by omega) rfl rfl ?_)
      obtain ⟨hf1, hf2⟩ := hc.2 _ hYi
      rw [hf1.2.2.2.2.1]
      have fin : ∀ v, v = gwo T th (Y i) (rtn c i t) → w_X6_torqueWithout_j80 again Q th t (sm (fun j => c.1 30 j * gwo T th (Y j) (rtn c j t)) i) (nI i) v c := by
        intro v hv
        unfold w_X6_torqueWithout_j80
        rw [hin, lit_1, nv_add, hv]
        exact ⟨hii, hag hlt _ rfl⟩
      refine brc (fun e4 => ?_) fun e4 => ?_
      · have h0 : yP T (Y i) = 0 := by rw [lit_0, nv_le (by omega) (by omega)] at e4; omega
        refine t7_fact (Y i) 2 (by omega) (by omega) rfl rfl (t7_fact (Y i) 1 (by omega) (by omega) rfl rfl (t8_fibrePull (fin _ ?_)))
        rw [hf1.2.2.1, hf1.2.1, fpl_pul (hT.thr hYi h0).2.2]
        unfold gwo
        rw [if_neg e, if_pos h0]
      · refine fin _ ?_
        have h0 : ¬ yP T (Y i) = 0 := fun w => e4 (by rw [w]; exact Int32.le_refl _)
        unfold gwo
        rw [if_neg e, if_neg h0]
/-- torque, were the twist of 'at' t -/
theorem t6_torqueBy (hT : okT T) (hc : CT T c) {y0 : Nat} {at_ t : Int32} (hy : y0 < yN T) (hw : WE T y0 at_ c) {Q : Int32 → zz_Hp → Prop} (H : Q (tq (Tat T at_ t) 5 y0 0) c) : w_X6_torqueBy t c Q := by
  have hn := hT.1
  unfold w_X6_torqueBy
  refine t6_torqueWithout hT hc hw ?_
  have key : ∀ (k y : Nat) (a : Int32), y < yN T → ts (yP T) (yQ T) (fun y a => gwo T (-1) y (a + twt T at_ t y)) (fun y a => a + twt T at_ t y) k y a = tq (Tat T at_ t) k y a := by
    intro k
    induction k with
    | zero => intros; rfl
    | succ k ih =>
      intro y a hy
      have hne : ¬ nI y = -1 := fun w => by
        have := iv_eq.mp w
        rw [nv_toInt (by omega), show (-1 : Int32).toInt = -1 by decide] at this
        omega
      simp only [ts, tq]
      congr 1
      · simp only [gwo, gq, if_neg hne]; rfl
      · refine sm_congr fun p hp => ?_
        exact ih _ _ (hT.part hy hp).2.1
  rw [key 5 y0 0 hy]; exact H
theorem Tat_none (hT : okT T) : ∀ (k y : Nat) (a t : Int32), y < yN T → tq (Tat T (-1) t) k y a = tq T k y a := by
  have hn := hT.1
  intro k
  induction k with
  | zero => intros; rfl
  | succ k ih =>
    intro y a t hy
    have hne : ¬ nI y = -1 := fun w => by
      have := iv_eq.mp w
      rw [nv_toInt (by omega), show (-1 : Int32).toInt = -1 by decide] at this
      omega
    have e : yT (Tat T (-1) t) y = yT T y := by show twt T (-1) t y = _; unfold twt; rw [if_neg hne]
    simp only [ts, tq]
    congr 1
    · simp only [gq, e]; rfl
    · refine sm_congr fun p hp => ?_
      simp only [nq, e]
      exact ih _ _ _ (hT.part hy hp).2.1
theorem t8_torqueOf (hT : okT T) (hc : CT T c) {y : Nat} {l : Int32} (e : l = nI y) (hy : y < yN T) {Q : Int32 → zz_Hp → Prop} (H : ∀ c', fW c c' → WE T y (-1) c' → Q (tq T 5 y 0) c') : w_X8_torqueOf l c Q := by
  refine t6_walk hT hc e hy fun c1 hf hw => t6_torqueBy hT (CT_fW hf hc) hy hw ?_
  rw [Tat_none hT 5 y 0 0 hy]
  exact H _ hf hw
/-- what one thread would pull -/
def gpo (th fb wt : Int32) (y : Nat) (r : Int32) : Int32 := if nI y = th then fpl fb wt r else 0
theorem t6_pullsOf (hT : okT T) (hc : CT T c) {y0 : Nat} {at_ th fb wt t : Int32} (hw : WE T y0 at_ c) {Q : Int32 → zz_Hp → Prop}
    (H : Q (ts (yP T) (yQ T) (fun y a => gpo th fb wt y (a + twt T at_ t y)) (fun y a => a + twt T at_ t y) 5 y0 0) c) : w_X6_pullsOf th fb wt t c Q := by
  obtain ⟨s, Y, R, h⟩ := hw
  have hn := hT.1
  have hs85 := h.s85
  have hsz := h.1.2.1
  rw [← WE.sum hT h t (gpo th fb wt)] at H
  unfold w_X6_pullsOf
  refine lp_cnt s (fun i u => u = (sm (fun j => c.1 30 j * gpo th fb wt (Y j) (rtn c j t)) i, nI i, c)) ?_ _ rfl
  intro i u hi hu again hag
  subst hu
  unfold w_X6_pullsOf_l6
  dsimp only
  rw [hsz]
  refine brc (fun e => ?_) fun e => ?_
  · have : i = s := by have := (nv_le (by omega) (by omega)).mp e; omega
    subst this; exact H
  · have hlt : i < s := by
      rcases Nat.lt_or_ge i s with w | w
      · exact w
      · exact absurd ((nv_le (by omega) (by omega)).mpr w) e
    obtain ⟨hYi, hYc, -⟩ := h.2.1 i hlt
    have hii : vp_in (nI i) 85 := nv_in (by omega) (by decide)
    have hin : (nI i).toNatClampNeg = i := nv_tn (by omega)
    rw [hin, hYc]
    refine ⟨hii, bnc (fun e => ?_) fun e => ?_⟩
    · rw [lit_1, nv_add]
      refine hag hlt _ ?_
      simp only [sm, gpo]
      rw [if_neg e]; simp
    · refine ⟨hii, t6_turnBy rfl (by omega) (t8_fibrePull ?_)⟩
      rw [lit_1, nv_add]
      refine hag hlt _ ?_
      simp only [sm, gpo]
      rw [if_pos e]
/-- the tallies -/
theorem t6_countFibres (hT : okT T) (hc : CT T c) {y0 : Nat} {at_ : Int32} (hw : WE T y0 at_ c) {Q : zz_Hp → Prop}
    (H : ∀ c', (∀ k, k ≠ 20 → c'.1 k = c.1 k) → (∀ f, f < 4 → c'.1 20 f = tly T f 5 y0) → Q c') : w_X6_countFibres c Q := by
  obtain ⟨s, Y, R, h⟩ := hw
  have hn := hT.1
  have hs85 := h.s85
  have hsz := h.1.2.1
  unfold w_X6_countFibres
  -- fill
  refine lp_cnt 4 (fun i u => u.1 = nI i ∧ (∀ k, k ≠ 20 → u.2.1 k = c.1 k) ∧ ∀ f, f < i → u.2.1 20 f = 0) ?_ _ ⟨rfl, fun _ _ => rfl, fun f hf => by omega⟩
  intro i u hi hu again hag
  obtain ⟨j, c1⟩ := u
  obtain ⟨hj, hf1, hz1⟩ := hu
  dsimp only at hj hf1 hz1
  subst hj
  unfold w_J7_fill_53178_20_l5
  dsimp only
  rw [lit_4]
  refine brc (fun e => ?_) fun e => ?_
  rotate_left
  · have hlt : i < 4 := by
      rcases Nat.lt_or_ge i 4 with w | w
      · exact w
      · exact absurd ((nv_le (by omega) (by omega)).mpr w) e
    rw [nv_tn (by omega), lit_1, nv_add]
    refine ⟨nv_in hlt (by decide), fun c2 e2 => hag hlt _ ⟨rfl, fun k hk => by dsimp only; rw [e2, zu_f hk]; exact hf1 k hk, fun f hf => ?_⟩⟩
    dsimp only
    rw [e2]
    by_cases w : f = i
    · rw [w, zu_eq ⟨rfl, rfl⟩]
    · rw [zu_ne (Or.inr w)]; exact hz1 f (by omega)
  · have hi4 : i = 4 := by have := (nv_le (by omega) (by omega)).mp e; omega
    subst hi4
    clear hag again
    have hfin : ∀ f, f < 4 → tly T f 5 y0 = sm (fun j => c.1 30 j * (if yP T (Y j) = 0 ∧ yF T (Y j) = nI f then 1 else 0)) s := by
      intro f _
      have := WE.sum hT h 0 (fun y _ => if yP T y = 0 ∧ yF T y = nI f then 1 else 0)
      rw [this]
      have key : ∀ (k y : Nat) (a : Int32) , ts (yP T) (yQ T) (gty T f) (fun _ u => u) k y () = ts (yP T) (yQ T) (fun y _ => if yP T y = 0 ∧ yF T y = nI f then 1 else 0) (fun y a => a + twt T at_ 0 y) k y a := by
        intro k
        induction k with
        | zero => intros; rfl
        | succ k ih =>
          intro y a
          simp only [ts]
          congr 1
          exact sm_congr fun p _ => ih _ _
      exact key 5 y0 0
    refine lp_cnt s (fun i u => u.1 = nI i ∧ (∀ k, k ≠ 20 → u.2.1 k = c.1 k) ∧ ∀ f, f < 4 → u.2.1 20 f = sm (fun j => c.1 30 j * (if yP T (Y j) = 0 ∧ yF T (Y j) = nI f then 1 else 0)) i) ?_ _ ⟨rfl, hf1, fun f hf => by dsimp only; rw [hz1 f hf]; rfl⟩
    intro i u hi hu again hag
    obtain ⟨j, c2⟩ := u
    obtain ⟨hj, hf2, hz2⟩ := hu
    dsimp only at hj hf2 hz2
    subst hj
    unfold w_X6_countFibres_l7
    dsimp only
    rw [hf2 27 (by decide), hsz]
    refine brc (fun e => ?_) fun e => ?_
    · have : i = s := by have := (nv_le (by omega) (by omega)).mp e; omega
      subst this
      exact H _ hf2 fun f hf => by rw [hfin f hf]; exact hz2 f hf
    · have hlt : i < s := by
        rcases Nat.lt_or_ge i s with w | w
        · exact w
        · exact absurd ((nv_le (by omega) (by omega)).mpr w) e
      obtain ⟨hYi, hYc, -⟩ := h.2.1 i hlt
      have hii : vp_in (nI i) 85 := nv_in (by omega) (by decide)
      have hin : (nI i).toNatClampNeg = i := nv_tn (by omega)
      have hP := hT.P4 hYi
      rw [hin, hf2 28 (by decide), hYc]
      refine ⟨hii, t7_fact (Y i) 2 (by omega) (by omega) rfl rfl ?_⟩
      rw [hf2 3 (by decide), (hc.2 _ hYi).1.2.2.1, lit_1, nv_add]
      obtain ⟨-, -, q0 | q0⟩ := hT.2 _ hYi
      · obtain ⟨f0, hf0, ef0⟩ := okV2 q0.2.2.2
        rw [ef0]
        refine brf (nv_lt0 (by omega)) (brf (by rw [lit_4, nv_le (by omega) (by omega)]; omega) ?_)
        rw [nv_tn (by omega), hf2 30 (by decide)]
        refine ⟨nv_in hf0 (by decide), hii, nv_in hf0 (by decide), fun c3 e3 => hag hlt _ ⟨rfl, fun k hk => by dsimp only; rw [e3, zu_f hk]; exact hf2 k hk, fun f hf => ?_⟩⟩
        dsimp only
        rw [e3]
        simp only [sm]
        by_cases w : f = f0
        · rw [w, zu_eq ⟨rfl, rfl⟩, hz2 f0 hf0, if_pos ⟨q0.1, ef0⟩]; simp
        · rw [zu_ne (Or.inr w), hz2 f hf, if_neg (fun z => w (nv_inj (by omega) (by omega) (ef0.symm.trans z.2)).symm)]; simp
      · refine brt ?_ (hag hlt _ ⟨rfl, hf2, fun f hf => ?_⟩)
        · rw [q0.2.2.2.2.2.2]; decide
        · dsimp only
          simp only [sm]
          rw [hz2 f hf, if_neg (fun z => by omega)]; simp
end
