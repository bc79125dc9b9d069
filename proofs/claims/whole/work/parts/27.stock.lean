/-! stock: heavy, can -/
def sQ (r r' : zz_Hp) : Prop := (∀ k, 1 ≤ k → k ≤ 30 ∨ 39 < k → r'.1 k = r.1 k) ∧ ∀ j, j ≠ 40 → r'.1 0 j = r.1 0 j
theorem sQ.sR {r r' : zz_Hp} (h : sQ r r') : sR r r' := ⟨fun k a b => h.1 k a (Or.inl b), fun j hj => h.2 j (by omega)⟩
theorem sQ.rf {r : zz_Hp} : sQ r r := ⟨fun _ _ _ => rfl, fun _ _ => rfl⟩
theorem sQ.tr {a b c : zz_Hp} (h1 : sQ a b) (h2 : sQ b c) : sQ a c := ⟨fun k x y => (h2.1 k x y).trans (h1.1 k x y), fun j hj => (h2.2 j hj).trans (h1.2 j hj)⟩
theorem lfK.sQ {m : Nat} {r r' : zz_Hp} (h : lfK m r r') : sQ r r' := ⟨fun k h1 h2 => h.1 k h1 (by omega) (by omega) (by omega), fun j hj => h.2.1 j hj⟩
theorem RT_sQ {T : Tb} {r r' : zz_Hp} (h : sQ r r') (hr : RT T r) : RT T r' := by
  unfold RT
  rw [h.2 0 (by omega), h.1 1 (by omega) (by omega), h.1 2 (by omega) (by omega), h.1 3 (by omega) (by omega), h.1 4 (by omega) (by omega), h.1 5 (by omega) (by omega), h.1 6 (by omega) (by omega)]
  exact hr
/-- the leaf rows of the reference, by the list -/
theorem lfA_get {T : Tb} {r : zz_Hp} {l : List (Nat × Ps)} (h : lfA T r 0 l) {i : Nat} (hi : i < l.length) : ∃ v s, l[i]? = some (v, s) ∧ (v, s) ∈ l ∧ r.1 31 i = nI v ∧ r.1 33 i = s.2.1 := by
  have e : l[i]? = some (l[i]) := List.getElem?_eq_getElem hi
  generalize l[i] = q at e
  obtain ⟨v, s⟩ := q
  have := h i v s e
  rw [Nat.zero_add] at this
  exact ⟨v, s, e, List.mem_of_getElem? e, this.1, this.2.2.1⟩
theorem t9_heavyOf {T : Tb} (hT : okT T) {r : zz_Hp} (hr : RT T r) {y : Nat} {l L : Int32} (e : l = nI y) (hy : y < yN T) {Q : Int32 → zz_Hp → Prop} (H : ∀ r', sQ r r' → Q (lsm (fun u (s : Ps) => yW T u * s.2.1) (lf (yP T) (yQ T) (nl T) 5 y (0, L, 1, 1)) / 100) r') : w_X9_heavyOf l L r Q := by
  have hn := hT.1
  have h64 := ln_64 hT (k := 5) hy
  unfold w_X9_heavyOf
  refine t9_walkOver hT hr e hy fun r1 hk hm ha => ?_
  have hlen : (lf (yP T) (yQ T) (nl T) 5 y (0, L, 1, 1)).length = ln (yP T) (yQ T) 5 y := lf_len _ _ _
  have hr1 := RT_lfK hk hr
  have hsum : lsm (fun u (s : Ps) => yW T u * s.2.1) (lf (yP T) (yQ T) (nl T) 5 y (0, L, 1, 1)) = sm (fun i => r1.1 4 (r1.1 31 i).toNatClampNeg * r1.1 33 i) (ln (yP T) (yQ T) 5 y) := by
    rw [← hlen]
    refine lsm_sm fun i v s hi => ?_
    have hv := lf_mem hT 5 y _ hy _ (List.mem_of_getElem? hi)
    have := ha i v s hi
    rw [Nat.zero_add] at this
    have hv1 : v < yN T := hv.1
    rw [this.1, this.2.2.1, nv_tn (by omega), (hr1.2 v hv1).1.2.2.1]
  refine lp_cnt (ln (yP T) (yQ T) 5 y) (fun i u => u = (sm (fun i => r1.1 4 (r1.1 31 i).toNatClampNeg * r1.1 33 i) i, nI i, r1)) ?_ _ rfl
  intro i u hi hu again hag
  subst hu
  unfold w_X9_heavyOf_l11
  dsimp only
  rw [hm]
  refine brc (fun e => ?_) fun e => ?_
  · have := nv_end (by omega) (by omega) hi e
    subst this
    rw [← hsum]; exact H _ hk.sQ
  · have hlt := nv_nle (by omega) (by omega) e
    obtain ⟨v, s, h1, h2, h3, h4⟩ := lfA_get ha (show i < _ by rw [hlen]; exact hlt)
    have hv := (lf_mem hT 5 y _ hy _ h2).1
    have hi64 : vp_in (nI i) 64 := nv_in (by omega) (by decide)
    rw [nv_tn (show i < 2147483648 by omega), nv_1]
    refine ⟨hi64, ?_, hi64, hag hlt _ rfl⟩
    rw [h3]; exact nv_in (by have : v < yN T := hv; omega) (by decide)
/-- weights times needs, by threads or by leaves -/
theorem heavy_eq {T : Tb} (hT : okT T) {y : Nat} {L : Int32} (hy : y < yN T) : sm (fun k => nd T k y L * yW T k) (yN T) = lsm (fun u (s : Ps) => yW T u * s.2.1) (lf (yP T) (yQ T) (nl T) 5 y (0, L, 1, 1)) := by
  have key : ∀ l : List (Nat × Ps), (∀ q ∈ l, q.1 < yN T) → sm (fun k => lsm (fun u (s : Ps) => if u = k then s.2.1 else 0) l * yW T k) (yN T) = lsm (fun u (s : Ps) => yW T u * s.2.1) l := by
    intro l
    induction l with
    | nil => intro _; simp only [lsm]; rw [sm_congr (g := fun _ => 0) (fun i _ => Int32.zero_mul), sm_zero]
    | cons q l ih =>
      intro hq
      simp only [lsm]
      rw [← ih (fun q hq' => hq q (List.mem_cons_of_mem _ hq')), ← sm_one (x := yW T q.1 * q.2.2.1) (hq q List.mem_cons_self), ← sm_add]
      refine sm_congr fun k _ => ?_
      by_cases e : q.1 = k
      · rw [if_pos e, if_pos e, e]; grind
      · rw [if_neg e, if_neg e]; grind
  rw [← key _ fun q hq => (lf_mem hT 5 y _ hy q hq).1]
  exact sm_congr fun k _ => by rw [nd_lf hT hy]
theorem eq_heavy {c r : zz_Hp} (h : Sim c r) (l1 l2 : Int32) : w_X8_heavy l1 l2 c (fun a c' => w_X9_heavy l1 l2 r (fun b r' => a = b ∧ Sim c' r')) := by
  obtain ⟨T, h⟩ := h
  have hT := h.1; have hc : CT T c := h.2.1; have hr : RT T r := h.2.2.1; have hn := hT.1
  rcases ycase (yN T) (by omega) l1 with hl | ⟨y, hy, rfl⟩
  · exact t7_hasf (yN T) hc.1 hl (bq0 (t9_isYf (yN T) hr.1 hn hl (bq0 ⟨rfl, T, h⟩)))
  · refine t7_hast (yN T) y hc.1 hn hy rfl (bq1 ?_)
    by_cases h2 : 0 ≤ l2 ∧ l2 ≤ 9999
    · refine t8_inRt h2 (br1 (t6_walk hT hc rfl hy fun c1 hf hw => t6_draw hT (CT_fW hf hc) hw fun c2 hf2 hnd => ?_))
      have hc1 := CT_fW hf hc
      have hc2 : CT T c2 := by unfold CT; rw [hf2 2 (by decide) (by decide), hf2 3 (by decide) (by decide), hf2 4 (by decide) (by decide)]; exact hc1
      have hsC : sC c c2 := hf.sC.tr ⟨fun q hq => hf2 q (by omega) (by omega), by rw [hf2 24 (by decide) (by decide)]⟩
      unfold w_X6_heavyOf
      refine lp_cnt (yN T) (fun i u => u = (sm (fun k => nd T k y l2 * yW T k) i, nI i, c2)) ?_ _ rfl
      intro i u hi hu again hag
      subst hu
      unfold w_X6_heavyOf_l4
      dsimp only
      rw [hc2.1]
      refine brc (fun e => ?_) fun e => ?_
      · have := nv_end (by omega) (by omega) hi e
        subst this
        refine t9_isYt (yN T) y hr.1 hn hy rfl (bq1 (t9_int h2 (bq1 (t9_heavyOf hT hr rfl hy fun r1 hq => ⟨?_, h.both hsC hq.sR⟩))))
        rw [heavy_eq hT hy]
      · have hlt := nv_nle (by omega) (by omega) e
        refine ⟨nv_in (by omega) (by decide), t7_fact i 1 (by omega) (by omega) rfl rfl ?_⟩
        rw [(hc2.2 i hlt).1.2.1, nv_tn (by omega), hnd i (by omega), nv_1]
        exact hag hlt _ rfl
    · exact t8_inRf h2 (br0 (t9_isYt (yN T) y hr.1 hn hy rfl (bq1 (t9_inf h2 (bq0 ⟨rfl, T, h⟩)))))
/-- whether stock does -/
def stkP (T : Tb) (y : Nat) (L : Int32) : Prop := ∀ k, k < yN T → nd T k y L ≤ yS T k
theorem t6_isInStock {T : Tb} (hT : okT T) {c : zz_Hp} (hc : CT T c) {y : Nat} {L : Int32} (hnd : ∀ v, v < 16 → c.1 34 v = nd T v y L) {Q : Int32 → zz_Hp → Prop} (H1 : stkP T y L → Q 1 c) (H0 : ¬ stkP T y L → Q 0 c) : w_X6_isInStock c Q := by
  have hn := hT.1
  unfold w_X6_isInStock
  refine lp_cnt (yN T) (fun i u => u = (nI i, c) ∧ ∀ k, k < i → nd T k y L ≤ yS T k) ?_ _ ⟨rfl, fun k hk => by omega⟩
  rintro i u hi ⟨rfl, hall⟩ again hag
  unfold w_X6_isInStock_l2
  dsimp only
  rw [hc.1]
  refine brc (fun e => ?_) fun e => ?_
  · have := nv_end (by omega) (by omega) hi e
    subst this; exact H1 hall
  · have hlt := nv_nle (by omega) (by omega) e
    refine ⟨nv_in (by omega) (by decide), t7_fact i 3 (by omega) (by omega) rfl rfl ?_⟩
    rw [(hc.2 i hlt).1.2.2.2.1, nv_tn (by omega), hnd i (by omega), nv_1]
    refine brc (fun e => hag hlt _ ⟨rfl, fun k hk => ?_⟩) fun e => H0 fun w => e (w i hlt)
    by_cases z : k = i
    · rw [z]; exact e
    · exact hall k (by omega)
def lkP (T : Tb) (y : Nat) (L : Int32) : Prop := ¬ (yS T y + L ≤ 99999) ∨ ¬ stkP T y L
theorem t9_lacks {T : Tb} (hT : okT T) {r : zz_Hp} (hr : RT T r) {y : Nat} {l L : Int32} (e : l = nI y) (hy : y < yN T) {Q : Int32 → zz_Hp → Prop} (H1 : ∀ r', sQ r r' → lkP T y L → Q 1 r') (H0 : ∀ r', sQ r r' → (∀ k, k < yN T → r'.1 36 k = nd T k y L) → ¬ lkP T y L → Q 0 r') : w_X9_lacks l L r Q := by
  have hn := hT.1
  have h64 := ln_64 hT (k := 5) hy
  unfold w_X9_lacks
  refine t9_walkOver hT hr e hy fun r1 hk hm ha => ?_
  have hlen : (lf (yP T) (yQ T) (nl T) 5 y (0, L, 1, 1)).length = ln (yP T) (yQ T) 5 y := lf_len _ _ _
  subst e
  have hyi : vp_in (nI y) 16 := nv_in (by omega) (by decide)
  have hyn : (nI y).toNatClampNeg = y := nv_tn (by omega)
  -- zero
  refine lp_cnt (yN T) (fun i u => u.1 = nI i ∧ (∀ k, k ≠ 36 → u.2.1 k = r1.1 k) ∧ ∀ k, k < i → u.2.1 36 k = 0) ?_ _ ⟨rfl, fun _ _ => rfl, fun k hk => by omega⟩
  intro i u hi hu again hag
  obtain ⟨j, r2⟩ := u
  obtain ⟨hj, hf2, hz2⟩ := hu
  dsimp only at hj hf2 hz2
  subst hj
  have hr2 : sQ r r2 := hk.sQ.tr ⟨fun q a b => hf2 q (by omega), fun j _ => by rw [hf2 0 (by omega)]⟩
  unfold w_X9_lacks_l8
  dsimp only
  rw [(RT_sQ hr2 hr).1]
  refine brc (fun e => ?_) fun e => ?_
  rotate_left
  · have hlt := nv_nle (by omega) (by omega) e
    rw [nv_tn (by omega), nv_1]
    refine ⟨nv_in (by omega) (by decide), fun r3 e3 => hag hlt _ ⟨rfl, fun k hk => by dsimp only; rw [e3, zu_f hk]; exact hf2 k hk, fun k hk => ?_⟩⟩
    dsimp only; rw [e3]
    by_cases z : k = i
    · rw [zu_eq ⟨rfl, z⟩]
    · rw [zu_ne (Or.inr z)]; exact hz2 k (by omega)
  · have := nv_end (by omega) (by omega) hi e
    subst this
    clear hag again
    -- the leaves
    refine lp_cnt (ln (yP T) (yQ T) 5 y) (fun i u => u.1 = nI i ∧ (∀ k, k ≠ 36 → u.2.1 k = r1.1 k) ∧ ∀ k, k < yN T → u.2.1 36 k = sm (fun i => if r1.1 31 i = nI k then r1.1 33 i else 0) i) ?_ _ ⟨rfl, hf2, fun k hk => hz2 k hk⟩
    intro i u hi2 hu again hag
    obtain ⟨j, r3⟩ := u
    obtain ⟨hj, hf3, hz3⟩ := hu
    dsimp only at hj hf3 hz3
    subst hj
    have hr3 : sQ r r3 := hk.sQ.tr ⟨fun q a b => hf3 q (by omega), fun j _ => by rw [hf3 0 (by omega)]⟩
    have hrt3 := RT_sQ hr3 hr
    unfold w_X9_lacks_l31
    dsimp only
    rw [hf3 0 (by decide), hm]
    refine brc (fun e => ?_) fun e => ?_
    · have := nv_end (by omega) (by omega) hi2 e
      subst this
      have hnd : ∀ k, k < yN T → r3.1 36 k = nd T k y L := by
        intro k hk2
        rw [hz3 k hk2, nd_lf hT hy, ← hlen]
        refine (lsm_sm fun i v s hi => ?_).symm
        have hv := lf_mem hT 5 y _ hy _ (List.mem_of_getElem? hi)
        have := ha i v s hi
        rw [Nat.zero_add] at this
        have hv1 : v < yN T := hv.1
        rw [this.1, this.2.2.1]
        by_cases z : v = k
        · rw [if_pos z, if_pos (by rw [z])]
        · rw [if_neg z, if_neg (fun w => z (nv_inj (by omega) (by omega) w))]
      have fin : ∀ b : Int32, (b = 0 ∧ yS T y + L ≤ 99999) ∨ (b = 1 ∧ ¬ (yS T y + L ≤ 99999)) → lp (fun s ag => w_X9_lacks_l87 ag Q s.1 s.2.1 s.2.2) (b, 0, r3) := by
        intro b hb
        refine lp_cnt (yN T) (fun i u => u.2.1 = nI i ∧ u.2.2 = r3 ∧ ((u.1 = 0 ∧ (yS T y + L ≤ 99999) ∧ ∀ k, k < i → nd T k y L ≤ yS T k) ∨ (u.1 = 1 ∧ lkP T y L))) ?_ _ ⟨rfl, rfl, ?_⟩
        · intro i u hi hu again hag
          obtain ⟨u1, u2, r4⟩ := u
          obtain ⟨q2, q3, q4⟩ := hu
          dsimp only at q2 q3 q4
          subst q2; subst q3
          unfold w_X9_lacks_l87
          dsimp only
          rw [hrt3.1]
          refine brc (fun e => ?_) fun e => ?_
          · have := nv_end (by omega) (by omega) hi e
            subst this
            rcases q4 with ⟨w, a1, a2⟩ | ⟨w, a1⟩
            · rw [w]; exact ⟨Or.inl rfl, H0 _ hr3 hnd fun z => z.elim (fun z => z a1) fun z => z a2⟩
            · rw [w]; exact ⟨Or.inr rfl, H1 _ hr3 a1⟩
          · have hlt := nv_nle (by omega) (by omega) e
            rw [nv_tn (by omega), nv_1]
            have hii : vp_in (nI i) 16 := nv_in (by omega) (by decide)
            refine bnc (fun e0 => hag hlt _ ⟨rfl, rfl, Or.inr ⟨rfl, ?_⟩⟩) fun e0 => ⟨hii, hii, ?_⟩
            · rcases q4 with ⟨w, -⟩ | ⟨-, w⟩
              · exact absurd w e0
              · exact w
            · rcases q4 with ⟨_, a1, a2⟩ | ⟨w, -⟩
              · rw [hnd i hlt, (hrt3.2 i hlt).1.2.2.2.2]
                refine brc (fun e => hag hlt _ ⟨rfl, rfl, Or.inl ⟨rfl, a1, fun k hk => ?_⟩⟩) fun e => hag hlt _ ⟨rfl, rfl, Or.inr ⟨rfl, Or.inr fun w => e (w i hlt)⟩⟩
                by_cases z : k = i
                · rw [z]; exact e
                · exact a2 k (by omega)
              · rw [e0] at w; exact absurd w (by decide)
        · rcases hb with ⟨b1, b2⟩ | ⟨b1, b2⟩
          · exact Or.inl ⟨b1, b2, fun k hk => by omega⟩
          · exact Or.inr ⟨b1, Or.inl b2⟩
      rw [hyn, (hrt3.2 y hy).1.2.2.2.2]
      exact ⟨hyi, brc (fun e => fin 0 (Or.inl ⟨rfl, e⟩)) fun e => fin 1 (Or.inr ⟨rfl, e⟩)⟩
    · have hlt := nv_nle (by omega) (by omega) e
      obtain ⟨v, s, h1, h2, h3, h4⟩ := lfA_get ha (show i < _ by rw [hlen]; exact hlt)
      have hv : v < yN T := (lf_mem hT 5 y _ hy _ h2).1
      have hi64 : vp_in (nI i) 64 := nv_in (by omega) (by decide)
      have hvi : vp_in (nI v) 16 := nv_in (by omega) (by decide)
      rw [nv_tn (show i < 2147483648 by omega), hf3 31 (by decide), h3, nv_tn (show v < 2147483648 by omega), hf3 33 (by decide), nv_1]
      refine ⟨hi64, hvi, hi64, hvi, fun r4 e4 => hag hlt _ ⟨rfl, fun k hk => by dsimp only; rw [e4, zu_f hk]; exact hf3 k hk, fun k hk => ?_⟩⟩
      dsimp only; rw [e4]
      simp only [sm]
      by_cases z : k = v
      · rw [zu_eq ⟨rfl, z⟩, ← z, hz3 k hk, h3, if_pos (by rw [z])]
      · rw [zu_ne (Or.inr z), hz3 k hk, h3, if_neg (fun w => z (nv_inj (by omega) (by omega) w).symm)]; simp
/-- the most that can be made -/
theorem can_max (ok : Nat → Prop) (hmono : ∀ L L', 1 ≤ L → L ≤ L' → L' ≤ 9999 → ok L' → ok L) : ∃ M, M ≤ 9999 ∧ ∀ L, 1 ≤ L → L ≤ 9999 → (ok L ↔ L ≤ M) := by
  have : ∀ n, n ≤ 9999 → ∃ M, M ≤ n ∧ ∀ L, 1 ≤ L → L ≤ n → (ok L ↔ L ≤ M) := by
    intro n
    induction n with
    | zero => intro _; exact ⟨0, Nat.le_refl _, fun L h1 h2 => by omega⟩
    | succ n ih =>
      intro hn
      obtain ⟨M, hM, hM2⟩ := ih (by omega)
      by_cases h : ok (n + 1)
      · exact ⟨n + 1, Nat.le_refl _, fun L h1 h2 => ⟨fun _ => h2, fun _ => hmono L (n + 1) h1 h2 hn h⟩⟩
      · refine ⟨M, by omega, fun L h1 h2 => ?_⟩
        by_cases e : L = n + 1
        · subst e; exact ⟨fun w => absurd w h, fun w => by omega⟩
        · exact hM2 L h1 (by omega)
  exact this 9999 (Nat.le_refl _)
theorem okV3 {v : Int32} (h : okV 3 v) : ∃ n, n ≤ 99999 ∧ v = nI n := by
  obtain ⟨h1, h2⟩ := h
  obtain ⟨n, hn, e⟩ := nv_ex (n := 100000) (x := v) (by decide) (Int32.not_lt.mpr h1) (fun q => by
    have := iv_le.mp (Int32.le_trans q h2)
    revert this; decide)
  exact ⟨n, by omega, e⟩
theorem stk_mono {T : Tb} (hT : okT T) {y L L' : Nat} (hy : y < yN T) (h : L ≤ L') (hL : L' ≤ 9999) (hs : stkP T y (nI L')) : stkP T y (nI L) := by
  intro k hk
  obtain ⟨S, hS, eS⟩ := okV3 (hT.2 k hk).2.1
  have h1 := nd_num hT (v := k) hy (show L ≤ 9999 by omega)
  have h2 := nd_num hT (v := k) hy hL
  have h3 := hs k hk
  rw [h2.1, eS, nv_le h2.2 (by omega)] at h3
  rw [h1.1, eS, nv_le h1.2 (by omega)]
  exact Nat.le_trans (ndN_mono 5 y h) h3
theorem eq_can {c r : zz_Hp} (h : Sim c r) (l1 : Int32) : w_X8_can l1 c (fun a c' => w_X9_can l1 r (fun b r' => a = b ∧ Sim c' r')) := by
  obtain ⟨T, h⟩ := h
  have hT := h.1; have hc : CT T c := h.2.1; have hr : RT T r := h.2.2.1; have hn := hT.1
  rcases ycase (yN T) (by omega) l1 with hl | ⟨y, hy, rfl⟩
  · exact t7_hasf (yN T) hc.1 hl (br0 (t9_isYf (yN T) hr.1 hn hl (br0 ⟨rfl, T, h⟩)))
  · have hP := hT.P4 hy
    have hyi : vp_in (nI y) 16 := nv_in (by omega) (by decide)
    have hyn : (nI y).toNatClampNeg = y := nv_tn (by omega)
    refine t7_hast (yN T) y hc.1 hn hy rfl (br1 ?_)
    refine t7_isThread hT hc rfl hy (fun h0 => bq1 ?_) fun h0 => bq0 ?_
    · refine t9_isYt (yN T) y hr.1 hn hy rfl (br1 ⟨hyi, ?_⟩)
      rw [hyn, (hr.2 y hy).1.1, h0]
      exact bnf rfl ⟨rfl, T, h⟩
    · obtain ⟨S, hS, eS⟩ := okV3 (hT.2 y hy).2.1
      obtain ⟨M, hM, hM2⟩ := can_max (fun L => S + L ≤ 99999 ∧ stkP T y (nI L)) (fun L L' h1 h2 h3 h4 => ⟨by omega, stk_mono hT hy h2 h3 h4.2⟩)
      -- the reference finds M
      have ref : ∀ c', sC c c' → w_X9_can (nI y) r (fun b r' => nI M = b ∧ Sim c' r') := by
        intro c' hc'
        refine t9_isYt (yN T) y hr.1 hn hy rfl (br1 ⟨hyi, ?_⟩)
        rw [hyn, (hr.2 y hy).1.1]
        refine bnt (nI_ne0' (by omega) (by omega)) ?_
        refine lp_ind (I := fun s => ∃ lo hi, s.1 = nI lo ∧ s.2.1 = nI hi ∧ sQ r s.2.2 ∧ lo ≤ M ∧ M ≤ hi ∧ hi ≤ 9999) (μ := fun s => s.2.1.toNatClampNeg - s.1.toNatClampNeg) ?_ _ ⟨0, 9999, rfl, rfl, sQ.rf, by omega, hM, by omega⟩
        rintro ⟨u1, u2, r2⟩ ⟨lo, hi, e1, e2, hq, h1, h2, h3⟩ again hag
        dsimp only at e1 e2 hq
        subst e1; subst e2
        unfold w_X9_can_l28
        dsimp only
        refine brc (fun e => ?_) fun e => ?_
        · have := (nv_le (by omega) (by omega)).mp e
          have : lo = M := by omega
          subst this
          exact ⟨rfl, h.both hc' hq.sR⟩
        · have hlt : lo < hi := by
            rcases Nat.lt_or_ge lo hi with w | w
            · exact w
            · exact absurd ((nv_le (by omega) (by omega)).mpr w) e
          have em : ((nI lo + nI hi) + 1) / 2 = nI ((lo + hi + 1) / 2) := by
            rw [nv_add, nv_1, lit_2, nv_div (by omega) (by omega)]
          rw [em]
          have hok := hM2 ((lo + hi + 1) / 2) (by omega) (by omega)
          have hS2 : yS T y + nI ((lo + hi + 1) / 2) ≤ 99999 ↔ S + (lo + hi + 1) / 2 ≤ 99999 := by
            rw [eS, nv_add, show (99999 : Int32) = nI 99999 from rfl, nv_le (by omega) (by omega)]
          refine t9_lacks hT (RT_sQ hq hr) rfl hy (fun r3 hq3 hlk => bq1 (hag _ ⟨lo, (lo + hi + 1) / 2 - 1, rfl, ?_, hq.tr hq3, h1, ?_, by omega⟩ ?_)) fun r3 hq3 _ hlk => bq0 (hag _ ⟨(lo + hi + 1) / 2, hi, rfl, rfl, hq.tr hq3, ?_, h2, h3⟩ ?_)
          · dsimp only; rw [lit_1, nv_sub (by omega)]
          · have : ¬ (S + (lo + hi + 1) / 2 ≤ 99999 ∧ stkP T y (nI ((lo + hi + 1) / 2))) := fun w => hlk.elim (fun z => z (hS2.mpr w.1)) fun z => z w.2
            rw [hok] at this; omega
          · dsimp only
            rw [lit_1, nv_sub (by omega), nv_tn (by omega), nv_tn (by omega), nv_tn (by omega)]; omega
          · apply hok.mp
            refine ⟨hS2.mp ?_, ?_⟩
            · exact Classical.byContradiction fun z => hlk (Or.inl z)
            · exact Classical.byContradiction fun z => hlk (Or.inr z)
          · dsimp only
            rw [nv_tn (by omega), nv_tn (by omega), nv_tn (by omega)]; omega
      -- the component
      refine t6_walk hT hc rfl hy fun c1 hf hw => t7_fact y 3 (by omega) (by omega) rfl rfl ?_
      have hc1 := CT_fW hf hc
      rw [(hc1.2 y hy).1.2.2.2.1, eS]
      have ehi : (if ((99999 : Int32) - nI S) < (9999 : Int32) then ((99999 : Int32) - nI S) else (9999 : Int32)) = nI (if 99999 - S < 9999 then 99999 - S else 9999) := by
        rw [show (99999 : Int32) = nI 99999 from rfl, show (9999 : Int32) = nI 9999 from rfl, nv_sub hS]
        by_cases w : 99999 - S < 9999
        · rw [if_pos ((nv_lt (by omega) (by omega)).mpr w), if_pos w]
        · rw [if_neg (fun z => w ((nv_lt (by omega) (by omega)).mp z)), if_neg w]
      rw [ehi]
      have hMhi : M ≤ (if 99999 - S < 9999 then 99999 - S else 9999) := by
        by_cases w : 99999 - S < 9999
        · rw [if_pos w]
          rcases Nat.eq_zero_or_pos M with z | z
          · omega
          · have := ((hM2 M z hM).mpr (Nat.le_refl _)).1
            omega
        · rw [if_neg w]; exact hM
      have hhi : (if 99999 - S < 9999 then 99999 - S else 9999) ≤ 9999 ∧ S + (if 99999 - S < 9999 then 99999 - S else 9999) ≤ 99999 := by split <;> omega
      generalize (if 99999 - S < 9999 then 99999 - S else 9999) = H0 at hMhi hhi
      have h14 : H0 - 0 + 1 ≤ 2 ^ (14 - 0) := by
        have : 2 ^ (14 - 0) = 16384 := by decide
        omega
      refine lp_cnt 14 (fun j s => ∃ lo hi, s.1 = nI lo ∧ s.2.1 = nI hi ∧ s.2.2.1 = nI j ∧ (∀ k, k ≠ 33 → k ≠ 34 → s.2.2.2.1 k = c1.1 k) ∧ lo ≤ M ∧ M ≤ hi ∧ hi ≤ H0 ∧ hi - lo + 1 ≤ 2 ^ (14 - j)) ?_ _ ⟨0, H0, rfl, rfl, rfl, fun _ _ _ => rfl, by omega, hMhi, Nat.le_refl _, h14⟩
      intro j s hj hs again hag
      obtain ⟨u1, u2, u3, c2⟩ := s
      obtain ⟨lo, hi, e1, e2, e3, hf2, h1, h2, h3, h4⟩ := hs
      dsimp only at e1 e2 e3 hf2
      subst e1; subst e2; subst e3
      have hc2 : CT T c2 := by unfold CT; rw [hf2 2 (by decide) (by decide), hf2 3 (by decide) (by decide), hf2 4 (by decide) (by decide)]; exact hc1
      have hw2 : WE T y (-1) c2 := by
        obtain ⟨s, Y, R, hq⟩ := hw
        refine ⟨s, Y, R, ?_⟩
        unfold WQ rtn at hq ⊢
        rw [hf2 27 (by decide) (by decide), hf2 28 (by decide) (by decide), hf2 29 (by decide) (by decide), hf2 30 (by decide) (by decide), hf2 31 (by decide) (by decide), hf2 32 (by decide) (by decide)]
        exact hq
      have hsC : sC c c2 := hf.sC.tr ⟨fun q hq => hf2 q (by omega) (by omega), by rw [hf2 24 (by decide) (by decide)]⟩
      unfold w_X8_can_l76
      dsimp only
      refine brc (fun e => ?_) fun e => ?_
      · rw [show (14 : Int32) = nI 14 from rfl, nv_le (by omega) (by omega)] at e
        have : j = 14 := by omega
        subst this
        simp at h4
        have : lo = M := by omega
        rw [this]; exact ref _ hsC
      · rw [show (14 : Int32) = nI 14 from rfl, nv_le (by omega) (by omega)] at e
        refine brc (fun e => ?_) fun e => ?_
        · have := (nv_le (by omega) (by omega)).mp e
          have : lo = M := by omega
          rw [this]; exact ref _ hsC
        · have hlt : lo < hi := by
            rcases Nat.lt_or_ge lo hi with w | w
            · exact w
            · exact absurd ((nv_le (by omega) (by omega)).mpr w) e
          have em : ((nI lo + nI hi) + 1) / 2 = nI ((lo + hi + 1) / 2) := by
            rw [nv_add, nv_1, lit_2, nv_div (by omega) (by omega)]
          rw [em, nv_1]
          have hok := hM2 ((lo + hi + 1) / 2) (by omega) (by omega)
          have hpw : 2 ^ (14 - j) = 2 * 2 ^ (14 - (j + 1)) := by
            rw [show 14 - j = (14 - (j + 1)) + 1 by omega, Nat.pow_succ]; omega
          refine t6_draw hT hc2 hw2 fun c3 hf3 hnd => ?_
          have hc3 : CT T c3 := by unfold CT; rw [hf3 2 (by decide) (by decide), hf3 3 (by decide) (by decide), hf3 4 (by decide) (by decide)]; exact hc2
          have hf3' : ∀ k, k ≠ 33 → k ≠ 34 → c3.1 k = c1.1 k := fun k a b => (hf3 k a b).trans (hf2 k a b)
          refine t6_isInStock hT hc3 hnd (fun hst => bq1 (hag (by omega) _ ⟨(lo + hi + 1) / 2, hi, rfl, rfl, rfl, hf3', hok.mp ⟨by omega, hst⟩, h2, h3, by omega⟩)) fun hst => bq0 (hag (by omega) _ ⟨lo, (lo + hi + 1) / 2 - 1, rfl, ?_, rfl, hf3', h1, ?_, by omega, by omega⟩)
          · dsimp only; rw [lit_1, nv_sub (by omega)]
          · have : ¬ (S + (lo + hi + 1) / 2 ≤ 99999 ∧ stkP T y (nI ((lo + hi + 1) / 2))) := fun w => hst w.2
            rw [hok] at this; omega
