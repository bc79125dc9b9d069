/-! pure rows: heaps, numbers, branches -/
theorem zu_ne {h : zz_Hp} {o j k i : Nat} {v : Int32} (e : k ≠ o ∨ i ≠ j) : (zz_uI h o j v).1 k i = h.1 k i := by
  show (if k = o ∧ i = j then v else h.1 k i) = _
  exact if_neg (by omega)
theorem zu_eq {h : zz_Hp} {o j k i : Nat} {v : Int32} (e : k = o ∧ i = j) : (zz_uI h o j v).1 k i = v := if_pos e
theorem zu_f {h : zz_Hp} {o j k : Nat} {v : Int32} (e : k ≠ o) : (zz_uI h o j v).1 k = h.1 k := funext fun _ => zu_ne (Or.inl e)
theorem zu_2 {h : zz_Hp} {o j : Nat} {v : Int32} : (zz_uI h o j v).2 = h.2 := rfl
theorem zl_1 {h : zz_Hp} {o j : Nat} {v : Int64} : (zz_uL h o j v).1 = h.1 := rfl
theorem zl_ne {h : zz_Hp} {o j k i : Nat} {v : Int64} (e : k ≠ o ∨ i ≠ j) : (zz_uL h o j v).2 k i = h.2 k i := by
  show (if k = o ∧ i = j then v else h.2 k i) = _
  exact if_neg (by omega)
theorem zl_eq {h : zz_Hp} {o j k i : Nat} {v : Int64} (e : k = o ∧ i = j) : (zz_uL h o j v).2 k i = v := if_pos e
theorem zc_f {h : zz_Hp} {a b sp dp n k : Nat} (e : k ≠ b) : (zz_uC h a b sp dp n).1 k = h.1 k := by
  funext i
  show (if k = b then _ else h.1 k i) = _
  exact if_neg e
theorem zc_b {h : zz_Hp} {a b sp dp n : Nat} : (zz_uC h a b sp dp n).1 b = va_cpy (h.1 a) (h.1 b) sp dp n := by
  funext i
  show (if b = b then _ else h.1 b i) = _
  exact if_pos rfl
theorem br1 {A B : Prop} (a : A) : (¬ (1 : Int32) = 0 → A) ∧ ((1 : Int32) = 0 → B) := ⟨fun _ => a, fun e => absurd e (by decide)⟩
theorem br0 {A B : Prop} (b : B) : (¬ (0 : Int32) = 0 → A) ∧ ((0 : Int32) = 0 → B) := ⟨fun e => absurd rfl e, fun _ => b⟩
theorem bq1 {A B : Prop} (b : B) : ((1 : Int32) = 0 → A) ∧ (¬ (1 : Int32) = 0 → B) := ⟨fun e => absurd e (by decide), fun _ => b⟩
theorem bq0 {A B : Prop} (a : A) : ((0 : Int32) = 0 → A) ∧ (¬ (0 : Int32) = 0 → B) := ⟨fun _ => a, fun e => absurd rfl e⟩
theorem brt {c : Prop} {A B : Prop} (h : c) (a : A) : (c → A) ∧ (¬ c → B) := ⟨fun _ => a, fun e => absurd h e⟩
theorem brf {c : Prop} {A B : Prop} (h : ¬ c) (b : B) : (c → A) ∧ (¬ c → B) := ⟨fun e => absurd e h, fun _ => b⟩
theorem bnt {c : Prop} {A B : Prop} (h : ¬ c) (a : A) : (¬ c → A) ∧ (c → B) := ⟨fun _ => a, fun e => absurd e h⟩
theorem bnf {c : Prop} {A B : Prop} (h : c) (b : B) : (¬ c → A) ∧ (c → B) := ⟨fun e => absurd h e, fun _ => b⟩
theorem brc {c : Prop} {A B : Prop} (a : c → A) (b : ¬ c → B) : (c → A) ∧ (¬ c → B) := ⟨a, b⟩
theorem bnc {c : Prop} {A B : Prop} (a : ¬ c → A) (b : c → B) : (¬ c → A) ∧ (c → B) := ⟨a, b⟩
-- numbers
theorem nv_toInt {n : Nat} (h : n < 2147483648) : (nI n).toInt = (n : Int) := nI_toInt (by simpa using h)
theorem nv_tn {n : Nat} (h : n < 2147483648) : (nI n).toNatClampNeg = n := nI_clamp (by simpa using h)
theorem nv_in {n N : Nat} (h : n < N) (hN : N < 2147483648) : vp_in (nI n) N := vp_in_nI h (by simpa using hN)
theorem nv_inj {a b : Nat} (ha : a < 2147483648) (hb : b < 2147483648) (e : nI a = nI b) : a = b := (nI_eq (by simpa using ha) (by simpa using hb)).mp e
theorem nv_lt {a b : Nat} (ha : a < 2147483648) (hb : b < 2147483648) : nI a < nI b ↔ a < b := nI_ltI (by simpa using ha) (by simpa using hb)
theorem nv_le {a b : Nat} (ha : a < 2147483648) (hb : b < 2147483648) : nI a ≤ nI b ↔ a ≤ b := nI_leI (by simpa using ha) (by simpa using hb)
theorem nv_add (a b : Nat) : nI a + nI b = nI (a + b) := nI_add a b
theorem nv_mul (a b : Nat) : nI a * nI b = nI (a * b) := by
  unfold nI
  exact (Int32.ofNat_mul a b).symm
theorem nv_sub {a b : Nat} (h : b ≤ a) : nI a - nI b = nI (a - b) := by
  have : nI a = nI (a - b) + nI b := by rw [nv_add]; congr 1; omega
  rw [this]; exact Int32.add_sub_cancel _ _
theorem nv_ex {x : Int32} {n : Nat} (hn : n < 2147483648) (h0 : ¬ x < 0) (h1 : ¬ nI n ≤ x) : ∃ a, a < n ∧ x = nI a := by
  have h2 : x.toInt < n := by
    have := Int32.not_le.mp h1
    have := Int32.lt_iff_toInt_lt.mp this
    rwa [nv_toInt hn] at this
  have h3 : 0 ≤ x.toInt := by
    have := Int32.le_iff_toInt_le.mp (Int32.not_lt.mp h0)
    simpa using this
  refine ⟨x.toInt.toNat, by omega, ?_⟩
  apply Int32.toInt_inj.mp
  rw [nv_toInt (by omega)]
  omega
theorem nv_lt0 {n : Nat} (h : n < 2147483648) : ¬ nI n < 0 := nI_pos (by simpa using h)
theorem lit_0 : (0 : Int32) = nI 0 := rfl
theorem lit_1 : (1 : Int32) = nI 1 := rfl
theorem lit_2 : (2 : Int32) = nI 2 := rfl
theorem lit_3 : (3 : Int32) = nI 3 := rfl
theorem lit_4 : (4 : Int32) = nI 4 := rfl
theorem lit_8 : (8 : Int32) = nI 8 := rfl
theorem lit_10 : (10 : Int32) = nI 10 := rfl
theorem lit_16 : (16 : Int32) = nI 16 := rfl
theorem lit_40 : (40 : Int32) = nI 40 := rfl
/-- an Int32 inequality in whole numbers -/
theorem iv_lt {a b : Int32} : a < b ↔ a.toInt < b.toInt := Int32.lt_iff_toInt_lt
theorem iv_le {a b : Int32} : a ≤ b ↔ a.toInt ≤ b.toInt := Int32.le_iff_toInt_le
theorem iv_eq {a b : Int32} : a = b ↔ a.toInt = b.toInt := Int32.toInt_inj.symm
-- small methods of the component
section
variable {h : zz_Hp} {Q : Int32 → zz_Hp → Prop}
theorem t8_inR {v a b : Int32} (H1 : a ≤ v → v ≤ b → Q 1 h) (H0 : ¬ (a ≤ v ∧ v ≤ b) → Q 0 h) : w_X8_inRange v a b h Q := by
  refine brc (fun e => H0 fun q => ?_) fun e => brc (fun e2 => H0 fun q => ?_) fun e2 => H1 (Int32.not_lt.mp e) (Int32.not_lt.mp e2)
  · exact absurd e (Int32.not_lt.mpr q.1)
  · exact absurd e2 (Int32.not_lt.mpr q.2)
theorem t8_inRt {v a b : Int32} (e : a ≤ v ∧ v ≤ b) (H1 : Q 1 h) : w_X8_inRange v a b h Q := t8_inR (fun _ _ => H1) fun q => absurd e q
theorem t8_inRf {v a b : Int32} (e : ¬ (a ≤ v ∧ v ≤ b)) (H0 : Q 0 h) : w_X8_inRange v a b h Q := t8_inR (fun q1 q2 => absurd ⟨q1, q2⟩ e) fun _ => H0
theorem t9_in {v a b : Int32} (H1 : a ≤ v → v ≤ b → Q 1 h) (H0 : ¬ (a ≤ v ∧ v ≤ b) → Q 0 h) : w_X9_in v a b h Q := by
  refine brc (fun e => H0 fun q => ?_) fun e => brc (fun e2 => H0 fun q => ?_) fun e2 => H1 (Int32.not_lt.mp e) (Int32.not_lt.mp e2)
  · exact absurd e (Int32.not_lt.mpr q.1)
  · exact absurd e2 (Int32.not_lt.mpr q.2)
theorem t9_int {v a b : Int32} (e : a ≤ v ∧ v ≤ b) (H1 : Q 1 h) : w_X9_in v a b h Q := t9_in (fun _ _ => H1) fun q => absurd e q
theorem t9_inf {v a b : Int32} (e : ¬ (a ≤ v ∧ v ≤ b)) (H0 : Q 0 h) : w_X9_in v a b h Q := t9_in (fun q1 q2 => absurd ⟨q1, q2⟩ e) fun _ => H0
theorem t7_hast {l : Int32} (n a : Nat) (hn : h.1 2 0 = nI n) (h16 : n ≤ 16) (ha : a < n) (e : l = nI a) (H : Q 1 h) : w_X7_has l h Q := by
  subst e
  refine brf (nv_lt0 (by omega)) (brf ?_ H)
  rw [hn, nv_le (by omega) (by omega)]
  omega
theorem t7_hasf {l : Int32} (n : Nat) (hn : h.1 2 0 = nI n) (e : l < 0 ∨ nI n ≤ l) (H : Q 0 h) : w_X7_has l h Q := by
  refine brc (fun _ => H) fun e0 => brt ?_ H
  rw [hn]; exact e.resolve_left e0
theorem t9_isYt {l : Int32} (n a : Nat) (hn : h.1 0 0 = nI n) (h16 : n ≤ 16) (ha : a < n) (e : l = nI a) (H : Q 1 h) : w_X9_isYarn l h Q := by
  subst e
  refine t9_int ⟨?_, ?_⟩ ⟨Or.inr rfl, H⟩
  · exact Int32.not_lt.mp (nv_lt0 (by omega))
  · rw [hn, lit_1, nv_sub (by omega), nv_le (by omega) (by omega)]
    omega
theorem t9_isYf {l : Int32} (n : Nat) (hn : h.1 0 0 = nI n) (h16 : n ≤ 16) (e : l < 0 ∨ nI n ≤ l) (H : Q 0 h) : w_X9_isYarn l h Q := by
  refine t9_inf (fun q => ?_) ⟨Or.inl rfl, H⟩
  rw [hn] at q
  rcases e with e | e
  · exact absurd e (Int32.not_lt.mpr q.1)
  · have h1 := iv_le.mp q.2
    have h2 := iv_le.mp e
    have h3 := iv_le.mp q.1
    rw [nv_toInt (by omega)] at h2
    rcases Nat.eq_zero_or_pos n with h0 | h0
    · subst h0
      have e1 : (nI 0 - 1).toInt = -1 := by decide
      rw [e1] at h1
      have e0 : (0 : Int32).toInt = 0 := by decide
      omega
    · rw [lit_1, nv_sub (by omega), nv_toInt (by omega)] at h1
      omega
theorem ix_8 {a w : Nat} (ha : a < 16) (hw : w < 8) : (nI a * 8) + nI w = nI (8 * a + w) := by
  rw [lit_8, nv_mul, nv_add]; congr 1; omega
theorem ix_4 {a w : Nat} : (nI a * 4) + nI w = nI (4 * a + w) := by
  rw [lit_4, nv_mul, nv_add]; congr 1; omega
theorem ix_4' {a w : Nat} : (4 * nI a) + nI w = nI (4 * a + w) := by
  rw [lit_4, nv_mul, nv_add]
theorem ix_3 {a w : Nat} : (nI a * 3) + nI w = nI (3 * a + w) := by
  rw [lit_3, nv_mul, nv_add]; congr 1; omega
theorem t7_fact {l w : Int32} (a k : Nat) (ha : a < 16) (hk : k < 8) (e : l = nI a) (ew : w = nI k) (H : Q (h.1 3 (8 * a + k)) h) : w_X7_fact l w h Q := by
  subst e; subst ew
  unfold w_X7_fact
  rw [ix_8 ha hk, nv_tn (by omega)]
  exact ⟨nv_in (by omega) (by decide), H⟩
theorem t7_partAt {l w : Int32} (a k : Nat) (ha : a < 16) (hk : k < 4) (e : l = nI a) (ew : w = nI k) (H : Q (h.1 4 (4 * a + k)) h) : w_X7_partAt l w h Q := by
  subst e; subst ew
  unfold w_X7_partAt
  rw [ix_4, nv_tn (by omega)]
  exact ⟨nv_in (by omega) (by decide), H⟩
theorem t7_write {l w v : Int32} (a k : Nat) (ha : a < 16) (hk : k < 8) (e : l = nI a) (ew : w = nI k) {Q : zz_Hp → Prop} (H : Q (zz_uI h 3 (8 * a + k) v)) : w_X7_write l w v h Q := by
  subst e; subst ew
  unfold w_X7_write
  rw [ix_8 ha hk, nv_tn (by omega)]
  exact ⟨nv_in (by omega) (by decide), fun _ e => e ▸ H⟩
/-- canBeTold: the ranges -/
def okV (w : Nat) (v : Int32) : Prop := zz_lt w ≤ v ∧ v ≤ zz_mt w
theorem t8_toldt {w v : Int32} (k : Nat) (hk : k < 4) (ew : w = nI k) (e : okV k v) (H : Q 1 h) : w_X8_canBeTold w v h Q := by
  subst ew
  refine t8_inRt ⟨Int32.not_lt.mp (nv_lt0 (by omega)), ?_⟩ (bq1 ⟨nv_in hk (by decide), nv_in hk (by decide), ?_⟩)
  · rw [lit_3, nv_le (by omega) (by omega)]; omega
  · rw [nv_tn (by omega)]; exact t8_inRt e (bq1 H)
theorem t8_toldf {w v : Int32} (k : Nat) (hk : k < 4) (ew : w = nI k) (e : ¬ okV k v) (H : Q 0 h) : w_X8_canBeTold w v h Q := by
  subst ew
  refine t8_inRt ⟨Int32.not_lt.mp (nv_lt0 (by omega)), ?_⟩ (bq1 ⟨nv_in hk (by decide), nv_in hk (by decide), ?_⟩)
  · rw [lit_3, nv_le (by omega) (by omega)]; omega
  · rw [nv_tn (by omega)]; exact t8_inRf e (bq0 H)
theorem t8_toldo {w v : Int32} (e : ¬ (0 ≤ w ∧ w ≤ 3)) (H : Q 0 h) : w_X8_canBeTold w v h Q := t8_inRf e (bq0 H)
end
