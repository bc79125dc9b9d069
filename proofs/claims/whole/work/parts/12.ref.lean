/-! the reference's walks over a yarn -/
theorem lp_cnt {σ : Type} {body : σ → (σ → Prop) → Prop} (n : Nat) (I : Nat → σ → Prop) (hs : ∀ i s, i ≤ n → I i s → ∀ again : σ → Prop, (i < n → ∀ s', I (i + 1) s' → again s') → body s again) (s : σ) (h : I 0 s) : lp body s := by
  have key : ∀ m i s, i ≤ n → n - i < m → I i s → wh body m s := by
    intro m
    induction m with
    | zero => intro i s _ h; omega
    | succ m ih => intro i s hi hm hI; exact hs i s hi hI _ (fun hlt s' hI' => ih (i + 1) s' (by omega) (by omega) hI')
  exact ⟨n + 1, key _ 0 s (by omega) (by omega) h⟩
abbrev RT (T : Tb) (r : zz_Hp) : Prop := rtF T (r.1 0 0) (r.1 1) (r.1 2) (r.1 3) (r.1 4) (r.1 5) (r.1 6)
abbrev CT (T : Tb) (c : zz_Hp) : Prop := ctF T (c.1 2 0) (c.1 3) (c.1 4)
def mxd (f : Nat → Nat) : Nat → Nat
  | 0 => 0
  | k + 1 => if mxd f k < 1 + f k then 1 + f k else mxd f k
theorem mxd_le {f : Nat → Nat} {d : Nat} : ∀ {n : Nat}, (∀ p, p < n → f p < d) → mxd f n ≤ d
  | 0, _ => Nat.zero_le _
  | n + 1, h => by
    have h1 := mxd_le (f := f) (d := d) (n := n) (fun p hp => h p (by omega))
    have h2 := h n (by omega)
    simp only [mxd]; split <;> omega
theorem mxd_ge {f : Nat → Nat} : ∀ {n p : Nat}, p < n → f p + 1 ≤ mxd f n
  | 0, _, h => by omega
  | n + 1, p, h => by
    simp only [mxd]
    rcases Nat.lt_or_ge p n with q | q
    · have := mxd_ge (f := f) q
      split <;> omega
    · have : p = n := by omega
      subst this
      split <;> omega
theorem okT.mx {T : Tb} (hT : okT T) {y : Nat} (hy : y < yN T) : mxd (fun p => yD T (yQ T y p)) (yP T y) = yD T y := by
  obtain ⟨-, -, h | h⟩ := hT.2 y hy
  · rw [h.1, h.2.1]; rfl
  · obtain ⟨p, hp, hd⟩ := h.2.2.2.2.1
    have h1 : mxd (fun p => yD T (yQ T y p)) (yP T y) ≤ yD T y := mxd_le fun p hp => (h.2.2.2.1 p hp).2
    have h2 := mxd_ge (f := fun p => yD T (yQ T y p)) hp
    omega
section
variable {T : Tb} {r : zz_Hp}
theorem t9_depth (hT : okT T) (hr : RT T r) : ∀ (k y : Nat) {l : Int32} {Q : Int32 → zz_Hp → Prop}, l = nI y → y < yN T → yD T y < k → Q (nI (yD T y)) r → w_X9_depthOf k l r Q := by
  intro k
  have hn := hT.1
  induction k with
  | zero => intro y l Q _ _ h; omega
  | succ k ih =>
    intro y l Q e hy hd HQ
    subst e
    have hP := hT.P4 hy
    obtain ⟨hr1, hr2⟩ := hr.2 y hy
    have hDe := hT.mx hy
    unfold w_X9_depthOf w_X9_depthOf_b
    refine lp_cnt (yP T y) (fun i s => s = (nI (mxd (fun p => yD T (yQ T y p)) i), nI i, r)) ?_ _ rfl
    intro i s hi hs again hag
    subst hs
    refine ⟨nv_in (by omega) (by decide), ?_⟩
    dsimp only
    rw [nv_tn (by omega), hr1.1]
    refine brc (fun e => ?_) fun e => ?_
    · have : i = yP T y := by have := (nv_le (by omega) (by omega)).mp e; omega
      subst this
      rw [hDe]; exact HQ
    · have hlt : i < yP T y := by
        rcases Nat.lt_or_ge i (yP T y) with q | q
        · exact q
        · exact absurd ((nv_le (by omega) (by omega)).mpr q) e
      have hpt := hT.part hy hlt
      have hD3 := hT.D3 hpt.2.1
      rw [ix_4', nv_tn (by omega), hr2 i hlt]
      refine ⟨nv_in (by omega) (by decide), ih _ rfl hpt.2.1 (by omega) ?_⟩
      have hm : mxd (fun p => yD T (yQ T y p)) i ≤ 3 := mxd_le fun p hp => by have := hT.part hy (show p < yP T y by omega); have := hT.D3 hy; omega
      rw [lit_1, nv_add, nv_add]
      refine brc (fun e => hag hlt _ ?_) fun e => hag hlt _ ?_
      · rw [nv_le (by omega) (by omega)] at e
        simp only [mxd]
        rw [if_neg (by omega)]
      · rw [nv_le (by omega) (by omega)] at e
        simp only [mxd]
        rw [if_pos (by omega)]
theorem t9_bits (hT : okT T) (hr : RT T r) : ∀ (k y : Nat) {l : Int32} {Q : Int32 → zz_Hp → Prop}, l = nI y → y < yN T → yD T y < k → Q (bt (yP T) (yQ T) k y) r → w_X9_bitsOf k l r Q := by
  intro k
  have hn := hT.1
  induction k with
  | zero => intro y l Q _ _ h; omega
  | succ k ih =>
    intro y l Q e hy hd HQ
    subst e
    have hP := hT.P4 hy
    obtain ⟨hr1, hr2⟩ := hr.2 y hy
    unfold w_X9_bitsOf w_X9_bitsOf_b
    refine lp_cnt (yP T y) (fun i s => s = (orl (fun p => bt (yP T) (yQ T) k (yQ T y p)) (1 <<< (nI y &&& 31)) i, nI i, r)) ?_ _ rfl
    intro i s hi hs again hag
    subst hs
    refine ⟨nv_in (by omega) (by decide), ?_⟩
    dsimp only
    rw [nv_tn (by omega), hr1.1]
    refine brc (fun e => ?_) fun e => ?_
    · have : i = yP T y := by have := (nv_le (by omega) (by omega)).mp e; omega
      subst this
      exact HQ
    · have hlt : i < yP T y := by
        rcases Nat.lt_or_ge i (yP T y) with q | q
        · exact q
        · exact absurd ((nv_le (by omega) (by omega)).mpr q) e
      have hpt := hT.part hy hlt
      rw [ix_4', nv_tn (by omega), hr2 i hlt]
      refine ⟨nv_in (by omega) (by decide), ih _ rfl hpt.2.1 (by omega) ?_⟩
      rw [lit_1, nv_add]
      exact hag hlt _ rfl
/-- a thread's pull -/
def pul (f w t : Int32) : Int32 := if f = 0 then w * t else if f = 1 then 2 * (w * t) else if f = 2 then (w * t) / 2 else if t ≤ 20 then (if -20 ≤ t then w * t else w * t + w * (t + 20)) else w * t + w * (t - 20)
theorem t9_pull {f w t : Int32} {Q : Int32 → zz_Hp → Prop} (H : Q (pul f w t) r) : w_X9_pull f w t r Q := by
  unfold pul at H
  unfold w_X9_pull
  refine bnc (fun e0 => ?_) fun e0 => ?_
  · rw [if_neg e0] at H
    refine bnc (fun e1 => ?_) fun e1 => ?_
    · rw [if_neg e1] at H
      refine bnc (fun e2 => ?_) fun e2 => ?_
      · rw [if_neg e2] at H
        refine brc (fun e3 => ?_) fun e3 => ?_
        · rw [if_pos e3] at H
          refine brc (fun e4 => ?_) fun e4 => ?_
          · rwa [if_pos e4] at H
          · rwa [if_neg e4] at H
        · rwa [if_neg e3] at H
      · rwa [if_pos e2] at H
    · rwa [if_pos e1] at H
  · rwa [if_pos e0] at H
/-- what one of a yarn's places pulls, by the turn that comes to it -/
def gq (T : Tb) (y : Nat) (a : Int32) : Int32 := if yP T y = 0 then pul (yF T y) (yW T y) (a + yT T y) else (a + yT T y) * nI (yP T y)
def nq (T : Tb) (y : Nat) (a : Int32) : Int32 := a + yT T y
abbrev tq (T : Tb) (k y : Nat) (a : Int32) : Int32 := ts (yP T) (yQ T) (gq T) (nq T) k y a
theorem nI_ne0' {n : Nat} (h : 0 < n) (h2 : n < 2147483648) : ¬ nI n = 0 := fun e => by rw [lit_0] at e; have := nv_inj h2 (by omega) e; omega
theorem t9_torqueIn (hT : okT T) (hr : RT T r) : ∀ (k y : Nat) {l a : Int32} {Q : Int32 → zz_Hp → Prop}, l = nI y → y < yN T → yD T y < k → Q (tq T k y a) r → w_X9_torqueIn k l a r Q := by
  intro k
  have hn := hT.1
  induction k with
  | zero => intro y l a Q _ _ h; omega
  | succ k ih =>
    intro y l a Q e hy hd HQ
    subst e
    have hP := hT.P4 hy
    obtain ⟨hr1, hr2⟩ := hr.2 y hy
    have hin : vp_in (nI y) 16 := nv_in (by omega) (by decide)
    have htn : (nI y).toNatClampNeg = y := nv_tn (by omega)
    unfold w_X9_torqueIn w_X9_torqueIn_b
    rw [htn, hr1.1, hr1.2.1, hr1.2.2.1, hr1.2.2.2.1]
    refine ⟨hin, hin, bnc (fun e => ?_) fun e => ?_⟩
    · have h0 : ¬ yP T y = 0 := fun q => e (by rw [q]; rfl)
      refine ⟨hin, ?_⟩
      refine lp_cnt (yP T y) (fun i s => s = ((a + yT T y) * nI (yP T y) + sm (fun p => tq T k (yQ T y p) (a + yT T y)) i, nI i, r)) ?_ _ ?_
      · intro i s hi hs again hag
        subst hs
        refine ⟨hin, ?_⟩
        dsimp only
        rw [htn, hr1.1]
        refine brc (fun e => ?_) fun e => ?_
        · have : i = yP T y := by have := (nv_le (by omega) (by omega)).mp e; omega
          subst this
          have : tq T (k + 1) y a = (a + yT T y) * nI (yP T y) + sm (fun p => tq T k (yQ T y p) (a + yT T y)) (yP T y) := by
            simp only [tq, ts, gq, if_neg h0, nq]
          rw [this] at HQ; exact HQ
        · have hlt : i < yP T y := by
            rcases Nat.lt_or_ge i (yP T y) with q | q
            · exact q
            · exact absurd ((nv_le (by omega) (by omega)).mpr q) e
          have hpt := hT.part hy hlt
          rw [ix_4', nv_tn (by omega), hr2 i hlt]
          refine ⟨nv_in (by omega) (by decide), ih _ rfl hpt.2.1 (by omega) ?_⟩
          rw [lit_1, nv_add]
          refine hag hlt _ ?_
          simp only [sm]
          rw [Int32.add_assoc]
      · simp only [sm, Int32.add_zero]; rfl
    · have h0 : yP T y = 0 := nv_inj (by omega) (by decide) e
      refine ⟨hin, hin, t9_pull ?_⟩
      have : tq T (k + 1) y a = pul (yF T y) (yW T y) (a + yT T y) := by
        simp only [tq, ts, gq, if_pos h0]; rw [h0]; simp [sm]
      rw [this] at HQ; exact HQ
theorem t9_torqueOf (hT : okT T) (hr : RT T r) {y : Nat} {l : Int32} {Q : Int32 → zz_Hp → Prop} (e : l = nI y) (hy : y < yN T) (HQ : Q (tq T 5 y 0) r) : w_X9_torqueOf l r Q :=
  t9_torqueIn hT hr 5 y e hy (by have := hT.D3 hy; omega) HQ
end
