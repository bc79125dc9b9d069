/-! telling: set, back -/
def setY (T : Tb) (k y : Nat) (v : Int32) : Tb := (T.1, T.2.1, T.2.2.1, T.2.2.2.1, if k = 0 then up (yT T) y v else yT T, if k = 1 then up (yW T) y v else yW T, if k = 2 then up (yF T) y v else yF T, if k = 3 then up (yS T) y v else yS T)
def getY (T : Tb) (k y : Nat) : Int32 := if k = 0 then yT T y else if k = 1 then yW T y else if k = 2 then yF T y else yS T y
section
variable {T : Tb} {k y : Nat} {v : Int32}
theorem kcase (hk : k < 4) : k = 0 ∨ k = 1 ∨ k = 2 ∨ k = 3 := by omega
theorem okT_set (hT : okT T) (hk : k < 4) (hy : y < yN T) (hv : okV k v) (hp : k = 1 ∨ k = 2 → yP T y = 0) : okT (setY T k y v) := by
  refine ⟨hT.1, fun z hz => ?_⟩
  have hz : z < yN T := hz
  obtain ⟨a, b, d⟩ := hT.2 z hz
  by_cases e : z = y
  · subst e
    rcases kcase hk with rfl | rfl | rfl | rfl
    · refine ⟨?_, b, d⟩
      show okV 0 (up _ _ _ _); rw [up_eq rfl]; exact hv
    · refine ⟨a, b, ?_⟩
      have h0 := hp (Or.inl rfl)
      refine Or.inl ⟨h0, ?_⟩
      rcases d with d | d
      · refine ⟨d.2.1, ?_, d.2.2.2⟩
        show okV 1 (up _ _ _ _); rw [up_eq rfl]; exact hv
      · exact absurd d.1 (by omega)
    · refine ⟨a, b, ?_⟩
      have h0 := hp (Or.inr rfl)
      refine Or.inl ⟨h0, ?_⟩
      rcases d with d | d
      · refine ⟨d.2.1, d.2.2.1, ?_⟩
        show okV 2 (up _ _ _ _); rw [up_eq rfl]; exact hv
      · exact absurd d.1 (by omega)
    · refine ⟨a, ?_, d⟩
      show okV 3 (up _ _ _ _); rw [up_eq rfl]; exact hv
  · have e0 : yT (setY T k y v) z = yT T z := by show (if k = 0 then up (yT T) y v else yT T) z = _; split; exact up_ne e; rfl
    have e1 : yW (setY T k y v) z = yW T z := by show (if k = 1 then up (yW T) y v else yW T) z = _; split; exact up_ne e; rfl
    have e2 : yF (setY T k y v) z = yF T z := by show (if k = 2 then up (yF T) y v else yF T) z = _; split; exact up_ne e; rfl
    have e3 : yS (setY T k y v) z = yS T z := by show (if k = 3 then up (yS T) y v else yS T) z = _; split; exact up_ne e; rfl
    unfold okY
    rw [e0, e1, e2, e3]
    exact ⟨a, b, d⟩
theorem set_o0 {z : Nat} (h : ¬ (k = 0 ∧ z = y)) : yT (setY T k y v) z = yT T z := by
  show (if k = 0 then up (yT T) y v else yT T) z = _
  split
  · exact up_ne (by omega)
  · rfl
theorem set_o1 {z : Nat} (h : ¬ (k = 1 ∧ z = y)) : yW (setY T k y v) z = yW T z := by
  show (if k = 1 then up (yW T) y v else yW T) z = _
  split
  · exact up_ne (by omega)
  · rfl
theorem set_o2 {z : Nat} (h : ¬ (k = 2 ∧ z = y)) : yF (setY T k y v) z = yF T z := by
  show (if k = 2 then up (yF T) y v else yF T) z = _
  split
  · exact up_ne (by omega)
  · rfl
theorem set_o3 {z : Nat} (h : ¬ (k = 3 ∧ z = y)) : yS (setY T k y v) z = yS T z := by
  show (if k = 3 then up (yS T) y v else yS T) z = _
  split
  · exact up_ne (by omega)
  · rfl
theorem set_0 : yT (setY T 0 y v) y = v := up_eq rfl
theorem set_1 : yW (setY T 1 y v) y = v := up_eq rfl
theorem set_2 : yF (setY T 2 y v) y = v := up_eq rfl
theorem set_3 : yS (setY T 3 y v) y = v := up_eq rfl
theorem CT_set (hk : k < 4) (hy : y < yN T) {c c' : zz_Hp} (hc : CT T c) (h2 : c'.1 2 = c.1 2) (h4 : c'.1 4 = c.1 4) (h3 : ∀ q, q ≠ 8 * y + k → c'.1 3 q = c.1 3 q) (h3' : c'.1 3 (8 * y + k) = v) : CT (setY T k y v) c' := by
  unfold CT
  rw [h2, h4]
  refine ⟨hc.1, fun z hz => ?_⟩
  obtain ⟨⟨a0, a1, a2, a3, a4, a5, a6, a7⟩, b⟩ := hc.2 z hz
  refine ⟨⟨?_, ?_, ?_, ?_, ?_, ?_, ?_, ?_⟩, b⟩
  · by_cases e : k = 0 ∧ z = y
    · obtain ⟨rfl, rfl⟩ := e; rw [set_0]; exact h3'
    · rw [set_o0 e, h3 _ (by omega)]; exact a0
  · by_cases e : k = 1 ∧ z = y
    · obtain ⟨rfl, rfl⟩ := e; rw [set_1]; exact h3'
    · rw [set_o1 e, h3 _ (by omega)]; exact a1
  · by_cases e : k = 2 ∧ z = y
    · obtain ⟨rfl, rfl⟩ := e; rw [set_2]; exact h3'
    · rw [set_o2 e, h3 _ (by omega)]; exact a2
  · by_cases e : k = 3 ∧ z = y
    · obtain ⟨rfl, rfl⟩ := e; rw [set_3]; exact h3'
    · rw [set_o3 e, h3 _ (by omega)]; exact a3
  · rw [h3 _ (by omega)]; exact a4
  · rw [h3 _ (by omega)]; exact a5
  · rw [h3 _ (by omega)]; exact a6
  · rw [h3 _ (by omega)]; exact a7
theorem CT_get (hk : k < 4) (hy : y < yN T) {c : zz_Hp} (hc : CT T c) : c.1 3 (8 * y + k) = getY T k y := by
  obtain ⟨⟨a0, a1, a2, a3, _⟩, _⟩ := hc.2 y hy
  rcases kcase hk with rfl | rfl | rfl | rfl
  · exact a0
  · exact a1
  · exact a2
  · exact a3
theorem get_ok (hT : okT T) (hk : k < 4) (hy : y < yN T) (hp : k = 1 ∨ k = 2 → yP T y = 0) : okV k (getY T k y) := by
  obtain ⟨a, b, d⟩ := hT.2 y hy
  rcases kcase hk with rfl | rfl | rfl | rfl
  · exact a
  · exact (d.resolve_right fun z => by have := hp (Or.inl rfl); omega).2.2.1
  · exact (d.resolve_right fun z => by have := hp (Or.inr rfl); omega).2.2.2
  · exact b
theorem spF_set {a b : Int32} {A B C D : Nat → Int32} (h : spF T a A b B C D) : spF (setY T k y v) a A b B C D := h
theorem t9_toldOf (hT : okT T) (hk : k < 4) (hy : y < yN T) {r : zz_Hp} (hr : RT T r) {l1 l2 : Int32} (e1 : l1 = nI y) (e2 : l2 = nI k) {Q : Int32 → zz_Hp → Prop} (H : Q (getY T k y) r) : w_X9_toldOf l1 l2 r Q := by
  have hn := hT.1
  subst e1 e2
  unfold w_X9_toldOf
  obtain ⟨⟨a1, a2, a3, a4, a5⟩, _⟩ := hr.2 y hy
  have hi : vp_in (nI y) 16 := nv_in (by omega) (by decide)
  rw [nv_tn (by omega), a2, a3, a4, a5]
  rcases kcase hk with rfl | rfl | rfl | rfl
  · exact bnf rfl ⟨hi, H⟩
  · exact bnt (by decide) (bnf rfl ⟨hi, H⟩)
  · exact bnt (by decide) (bnt (by decide) (bnf rfl ⟨hi, H⟩))
  · exact bnt (by decide) (bnt (by decide) (bnt (by decide) ⟨hi, H⟩))
theorem RT_set (hk : k < 4) (hy : y < yN T) {r r' : zz_Hp} (hr : RT T r) (h0 : r'.1 0 0 = r.1 0 0) (h1 : r'.1 1 = r.1 1) (h2 : r'.1 2 = r.1 2) (h3 : ∀ z, r'.1 3 z = if k = 2 ∧ z = y then v else r.1 3 z) (h4 : ∀ z, r'.1 4 z = if k = 1 ∧ z = y then v else r.1 4 z) (h5 : ∀ z, r'.1 5 z = if k = 0 ∧ z = y then v else r.1 5 z) (h6 : ∀ z, r'.1 6 z = if k = 3 ∧ z = y then v else r.1 6 z) : RT (setY T k y v) r' := by
  unfold RT
  rw [h0, h1, h2]
  refine ⟨hr.1, fun z hz => ?_⟩
  obtain ⟨⟨a1, a2, a3, a4, a5⟩, b⟩ := hr.2 z hz
  refine ⟨⟨a1, ?_, ?_, ?_, ?_⟩, b⟩
  · rw [h3]
    by_cases e : k = 2 ∧ z = y
    · rw [if_pos e]; obtain ⟨rfl, rfl⟩ := e; exact set_2.symm
    · rw [if_neg e, set_o2 e]; exact a2
  · rw [h4]
    by_cases e : k = 1 ∧ z = y
    · rw [if_pos e]; obtain ⟨rfl, rfl⟩ := e; exact set_1.symm
    · rw [if_neg e, set_o1 e]; exact a3
  · rw [h5]
    by_cases e : k = 0 ∧ z = y
    · rw [if_pos e]; obtain ⟨rfl, rfl⟩ := e; exact set_0.symm
    · rw [if_neg e, set_o0 e]; exact a4
  · rw [h6]
    by_cases e : k = 3 ∧ z = y
    · rw [if_pos e]; obtain ⟨rfl, rfl⟩ := e; exact set_3.symm
    · rw [if_neg e, set_o3 e]; exact a5
theorem t9_become (hT : okT T) (hk : k < 4) (hy : y < yN T) {r : zz_Hp} (hr : RT T r) {l1 l2 : Int32} (e1 : l1 = nI y) (e2 : l2 = nI k) {Q : zz_Hp → Prop} (H : ∀ r', (∀ j, j < 3 ∨ 6 < j → r'.1 j = r.1 j) → RT (setY T k y v) r' → Q r') : w_X9_become l1 l2 v r Q := by
  have hn := hT.1
  subst e1 e2
  unfold w_X9_become
  have hi : vp_in (nI y) 16 := nv_in (by omega) (by decide)
  rw [nv_tn (by omega)]
  rcases kcase hk with rfl | rfl | rfl | rfl
  · refine bnf rfl ⟨hi, fun r1 q1 => H _ (fun j hj => by rw [q1, zu_f (by omega)]) (RT_set hk hy hr ?_ ?_ ?_ (fun z => ?_) (fun z => ?_) (fun z => ?_) fun z => ?_)⟩
    all_goals subst q1
    all_goals simp [zz_uI]
  · refine bnt (by decide) (bnf rfl ⟨hi, fun r1 q1 => H _ (fun j hj => by rw [q1, zu_f (by omega)]) (RT_set hk hy hr ?_ ?_ ?_ (fun z => ?_) (fun z => ?_) (fun z => ?_) fun z => ?_)⟩)
    all_goals subst q1
    all_goals simp [zz_uI]
  · refine bnt (by decide) (bnt (by decide) (bnf rfl ⟨hi, fun r1 q1 => H _ (fun j hj => by rw [q1, zu_f (by omega)]) (RT_set hk hy hr ?_ ?_ ?_ (fun z => ?_) (fun z => ?_) (fun z => ?_) fun z => ?_)⟩))
    all_goals subst q1
    all_goals simp [zz_uI]
  · refine bnt (by decide) (bnt (by decide) (bnt (by decide) ⟨hi, fun r1 q1 => H _ (fun j hj => by rw [q1, zu_f (by omega)]) (RT_set hk hy hr ?_ ?_ ?_ (fun z => ?_) (fun z => ?_) (fun z => ?_) fun z => ?_)⟩))
    all_goals subst q1
    all_goals simp [zz_uI]
theorem t7_tell (hT : okT T) (hk : k < 4) (hy : y < yN T) {c : zz_Hp} (hc : CT T c) {l1 l2 : Int32} (e1 : l1 = nI k) (e2 : l2 = nI y) {Q : Int32 → zz_Hp → Prop} (H0 : ¬ okV k v → Q (-2147483648) c) (H1 : okV k v → ¬ (k = 1 ∨ k = 2 → yP T y = 0) → Q (-10000) c)
    (H : okV k v → (k = 1 ∨ k = 2 → yP T y = 0) → ∀ c', (∀ j, j ≠ 3 → c'.1 j = c.1 j) → CT (setY T k y v) c' → Q (getY T k y) c') : w_X7_tell l1 l2 v c Q := by
  have hn := hT.1
  subst e1 e2
  unfold w_X7_tell
  refine t8_told rfl hk (fun q => bq0 (H0 q)) fun q => bq1 (t7_hast (yN T) y hc.1 hn hy rfl (br1 ?_))
  have J : (k = 1 ∨ k = 2 → yP T y = 0) → w_X7_tell_j41 Q (nI k) (nI y) v c := by
    intro hp
    unfold w_X7_tell_j41
    refine t7_fact y k (by omega) (by omega) rfl rfl (t7_write y k (by omega) (by omega) rfl rfl ?_)
    rw [CT_get hk hy hc]
    exact H q hp _ (fun j hj => zu_f hj) (CT_set hk hy hc (zu_f (by decide)) (zu_f (by decide)) (fun z hz => zu_ne (Or.inr hz)) (zu_eq ⟨rfl, rfl⟩))
  refine t7_isThread hT hc rfl hy (fun h0 => br1 (J fun _ => h0)) fun h0 => br0 ?_
  rcases kcase hk with rfl | rfl | rfl | rfl
  · exact brf (by decide) (bnt (by decide) (J fun w => by omega))
  · exact brt rfl (H1 q fun w => h0 (w (Or.inl rfl)))
  · exact brf (by decide) (bnf rfl (H1 q fun w => h0 (w (Or.inr rfl))))
  · exact brf (by decide) (bnt (by decide) (J fun w => by omega))
end
theorem t7_tell0 {T : Tb} (hT : okT T) {c : zz_Hp} (hc : CT T c) {l1 l2 v : Int32} (e : ¬ (0 ≤ l1 ∧ l1 ≤ 3) ∨ (l2 < 0 ∨ nI (yN T) ≤ l2)) {Q : Int32 → zz_Hp → Prop} (H0 : Q (-2147483648) c) : w_X7_tell l1 l2 v c Q := by
  have hn := hT.1
  unfold w_X7_tell
  by_cases h1 : 0 ≤ l1 ∧ l1 ≤ 3
  · obtain ⟨k, hk, rfl⟩ : ∃ k, k < 4 ∧ l1 = nI k := by
      refine nv_ex (by omega) (Int32.not_lt.mpr h1.1) fun q => ?_
      have := Int32.le_trans q h1.2
      exact absurd this (by decide)
    have hl := e.resolve_left fun z => z h1
    exact t8_told rfl hk (fun _ => bq0 H0) fun _ => bq1 (t7_hasf (yN T) hc.1 hl (br0 H0))
  · exact t8_toldo h1 (bq0 H0)
