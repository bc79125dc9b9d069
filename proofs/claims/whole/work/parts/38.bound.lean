/-! how far a torque goes; order -/
theorem iv_add {a b : Int32} {A B : Int} (ha : -A ≤ a.toInt ∧ a.toInt ≤ A) (hb : -B ≤ b.toInt ∧ b.toInt ≤ B) (h : A + B ≤ 2147483647) : -(A + B) ≤ (a + b).toInt ∧ (a + b).toInt ≤ A + B := by
  rw [Int32.toInt_add, Int.bmod_eq_of_le (by omega) (by omega)]; omega
theorem iv_sub {a b : Int32} {A B : Int} (ha : -A ≤ a.toInt ∧ a.toInt ≤ A) (hb : -B ≤ b.toInt ∧ b.toInt ≤ B) (h : A + B ≤ 2147483647) : -(A + B) ≤ (a - b).toInt ∧ (a - b).toInt ≤ A + B := by
  rw [Int32.toInt_sub, Int.bmod_eq_of_le (by omega) (by omega)]; omega
theorem iv_mul {a b : Int32} {A B : Nat} (ha : -(A : Int) ≤ a.toInt ∧ a.toInt ≤ A) (hb : -(B : Int) ≤ b.toInt ∧ b.toInt ≤ B) (h : A * B ≤ 2147483647) : -((A * B : Nat) : Int) ≤ (a * b).toInt ∧ (a * b).toInt ≤ ((A * B : Nat) : Int) := by
  have h1 : a.toInt.natAbs ≤ A := by omega
  have h2 : b.toInt.natAbs ≤ B := by omega
  have h3 : (a.toInt * b.toInt).natAbs ≤ A * B := by rw [Int.natAbs_mul]; exact Nat.mul_le_mul h1 h2
  obtain ⟨x, hx⟩ : ∃ x, x = a.toInt * b.toInt := ⟨_, rfl⟩
  obtain ⟨C, hC⟩ : ∃ C, C = A * B := ⟨_, rfl⟩
  rw [← hx, ← hC] at h3
  rw [← hC] at h ⊢
  rw [Int32.toInt_mul, ← hx, Int.bmod_eq_of_le (by omega) (by omega)]; omega
theorem iv_neg {a : Int32} {A : Int} (ha : -A ≤ a.toInt ∧ a.toInt ≤ A) (h : A ≤ 2147483647) : -A ≤ (-a).toInt ∧ (-a).toInt ≤ A := by
  rw [Int32.toInt_neg, Int.bmod_eq_of_le (by omega) (by omega)]; omega
theorem iv_half {a : Int32} {A : Nat} (ha : -(A : Int) ≤ a.toInt ∧ a.toInt ≤ A) (h : A ≤ 2147483647) : -(A : Int) ≤ (a / 2).toInt ∧ (a / 2).toInt ≤ A := by
  have h1 : (a.toInt.tdiv 2).natAbs ≤ A := by
    rw [Int.natAbs_tdiv]
    have : a.toInt.natAbs ≤ A := by omega
    exact Nat.le_trans (Nat.div_le_self _ _) this
  rw [Int32.toInt_div, show (2 : Int32).toInt = 2 by decide, Int.bmod_eq_of_le (by omega) (by omega)]
  omega
theorem pul_bd {f w t : Int32} (hf : okV 2 f) (hw : okV 1 w) (ht : -396 ≤ t.toInt ∧ t.toInt ≤ 396) : -78408 ≤ (pul f w t).toInt ∧ (pul f w t).toInt ≤ 78408 := by
  have hw' : -((99 : Nat) : Int) ≤ w.toInt ∧ w.toInt ≤ ((99 : Nat) : Int) := by
    have h1 := iv_le.mp hw.1; have h2 := iv_le.mp hw.2
    rw [show (zz_lt 1).toInt = 1 by decide] at h1
    rw [show (zz_mt 1).toInt = 99 by decide] at h2
    omega
  have m1 : -((39204 : Nat) : Int) ≤ (w * t).toInt ∧ (w * t).toInt ≤ ((39204 : Nat) : Int) := iv_mul (A := 99) (B := 396) hw' ht (by decide)
  unfold pul
  have h2 : -((2 : Nat) : Int) ≤ (2 : Int32).toInt ∧ (2 : Int32).toInt ≤ ((2 : Nat) : Int) := by decide
  split
  · omega
  split
  · have := iv_mul h2 m1 (by decide); omega
  split
  · have := iv_half m1 (by decide); omega
  split
  · next h20 =>
    split
    · omega
    · next h21 =>
      rw [iv_le] at h21
      rw [show (-20 : Int32).toInt = -20 by decide] at h21
      have e : (t + 20).toInt = t.toInt + 20 := by rw [Int32.toInt_add, show (20 : Int32).toInt = 20 by decide, Int.bmod_eq_of_le (by omega) (by omega)]
      have m2 := iv_mul (a := w) (b := t + 20) (A := 99) (B := 396) hw' (by rw [e]; omega) (by decide)
      have := iv_add m1 m2 (by decide)
      omega
  · next h20 =>
    rw [iv_le] at h20
    rw [show (20 : Int32).toInt = 20 by decide] at h20
    have e : (t - 20).toInt = t.toInt - 20 := by rw [Int32.toInt_sub, show (20 : Int32).toInt = 20 by decide, Int.bmod_eq_of_le (by omega) (by omega)]
    have m2 := iv_mul (a := w) (b := t - 20) (A := 99) (B := 396) hw' (by rw [e]; omega) (by decide)
    have := iv_add m1 m2 (by decide)
    omega
def Bt : Nat → Nat
  | 0 => 78408
  | 1 => 314820
  | 2 => 1260072
  | _ => 5040684
theorem Bt_s {D : Nat} (h : D < 3) : Bt (D + 1) = 4 * (99 * (3 - D)) + 4 * Bt D ∧ 78408 ≤ Bt (D + 1) ∧ Bt (D + 1) ≤ 5040684 ∧ Bt D ≤ 1260072 := by
  rcases (by omega : D = 0 ∨ D = 1 ∨ D = 2) with rfl | rfl | rfl <;> decide
theorem sm_bd {f : Nat → Int32} {B : Nat} (hB : 4 * B ≤ 100000000) : ∀ {n : Nat}, n ≤ 4 → (∀ i, i < n → -(B : Int) ≤ (f i).toInt ∧ (f i).toInt ≤ B) → -((n * B : Nat) : Int) ≤ (sm f n).toInt ∧ (sm f n).toInt ≤ ((n * B : Nat) : Int)
  | 0, _, _ => by simp [sm]
  | n + 1, hn, h => by
    have h1 := sm_bd hB (n := n) (by omega) fun i hi => h i (by omega)
    have h2 := h n (by omega)
    have e : (n + 1) * B = n * B + B := Nat.succ_mul n B
    have hle : n * B ≤ 4 * B := Nat.mul_le_mul_right B (by omega)
    have := iv_add h1 h2 (by omega)
    simp only [sm]
    rw [e]; omega
theorem tq_bd {T : Tb} (hT : okT T) : ∀ (D k y : Nat) {a : Int32}, D ≤ 3 → y < yN T → yD T y ≤ D → D < k → -((99 * (3 - D) : Nat) : Int) ≤ a.toInt ∧ a.toInt ≤ ((99 * (3 - D) : Nat) : Int) → -(Bt D : Int) ≤ (tq T k y a).toInt ∧ (tq T k y a).toInt ≤ Bt D := by
  intro D
  induction D with
  | zero =>
    intro k y a hD hy hd hk ha
    cases k with
    | zero => omega
    | succ k =>
      have h0 : yP T y = 0 := by
        obtain ⟨-, -, d | d⟩ := hT.2 y hy
        · exact d.1
        · obtain ⟨p, hp, e⟩ := d.2.2.2.2.1; omega
      have e : tq T (k + 1) y a = pul (yF T y) (yW T y) (a + yT T y) := by
        simp only [tq, ts, gq, if_pos h0]; rw [h0]; simp [sm]
      rw [e]
      obtain ⟨ht, -, d | d⟩ := hT.2 y hy
      · have := iv_add (a := a) (b := yT T y) (A := 297) (B := 99) ha (okV0 ht) (by decide)
        exact pul_bd d.2.2.2 d.2.2.1 (by omega)
      · omega
  | succ D ih =>
    intro k y a hD hy hd hk ha
    obtain ⟨b1, b2, b3, b4⟩ := Bt_s (D := D) (by omega)
    cases k with
    | zero => omega
    | succ k =>
      obtain ⟨ht, -, d | d⟩ := hT.2 y hy
      · have h0 := d.1
        have e : tq T (k + 1) y a = pul (yF T y) (yW T y) (a + yT T y) := by
          simp only [tq, ts, gq, if_pos h0]; rw [h0]; simp [sm]
        rw [e]
        have := iv_add (a := a) (b := yT T y) ha (okV0 ht) (by omega)
        have := pul_bd d.2.2.2 d.2.2.1 (t := a + yT T y) (by omega)
        omega
      · have h0 : ¬ yP T y = 0 := by omega
        have e : tq T (k + 1) y a = (a + yT T y) * nI (yP T y) + sm (fun p => tq T k (yQ T y p) (a + yT T y)) (yP T y) := by
          simp only [tq, ts, gq, if_neg h0, nq]
        rw [e]
        have hA := iv_add (a := a) (b := yT T y) ha (okV0 ht) (by omega)
        have hA' : -((99 * (3 - D) : Nat) : Int) ≤ (a + yT T y).toInt ∧ (a + yT T y).toInt ≤ ((99 * (3 - D) : Nat) : Int) := by omega
        have m1 := iv_mul (b := nI (yP T y)) (B := 4) hA' (by rw [nv_toInt (by omega)]; omega) (by omega)
        have m2 := sm_bd (f := fun p => tq T k (yQ T y p) (a + yT T y)) (B := Bt D) (n := yP T y) (by omega) d.2.1 fun p hp => by
          have hq := hT.part hy hp
          exact ih k (yQ T y p) (by omega) hq.2.1 (by omega) (by omega) hA'
        have hle : yP T y * Bt D ≤ 4 * Bt D := Nat.mul_le_mul_right _ d.2.1
        have := iv_add m1 m2 (by omega)
        omega
theorem tq5_bd {T : Tb} (hT : okT T) {y : Nat} (hy : y < yN T) : -((5040684 : Nat) : Int) ≤ (tq T 5 y 0).toInt ∧ (tq T 5 y 0).toInt ≤ ((5040684 : Nat) : Int) :=
  tq_bd hT 3 5 y (Nat.le_refl 3) hy (hT.D3 hy) (by omega) (by decide)
theorem skw_bd {T : Tb} (hT : okT T) {m i : Nat} {a b w : Nat → Int32} (hl : LYy T m a) (hi : i < m) (hb : 1 ≤ b i ∧ b i ≤ 40) : -((201627360 : Nat) : Int) ≤ (skw T a b w i).toInt ∧ (skw T a b w i).toInt ≤ ((201627360 : Nat) : Int) := by
  obtain ⟨y, hy, e⟩ := hl.2 i hi
  have hn := hT.1
  have h1 := iv_le.mp hb.1; have h2 := iv_le.mp hb.2
  rw [show (1 : Int32).toInt = 1 by decide] at h1
  rw [show (40 : Int32).toInt = 40 by decide] at h2
  have := iv_mul (a := tq T 5 y 0) (b := b i) (A := 5040684) (B := 40) (tq5_bd hT hy) (by omega) (by decide)
  have e40 : 5040684 * 40 = 201627360 := by decide
  rw [e40] at this
  unfold skw
  rw [e, nv_tn (by omega)]
  split
  · exact iv_neg this (by omega)
  · exact this
theorem sB_bd {f : Nat → Int32} {M B : Nat} (hB : 8 * B ≤ 2000000000) : ∀ {j : Nat}, j ≤ 8 → (∀ i, i < j → -(B : Int) ≤ (f i).toInt ∧ (f i).toInt ≤ B) → -((j * B : Nat) : Int) ≤ (sB f M j).toInt ∧ (sB f M j).toInt ≤ ((j * B : Nat) : Int)
  | 0, _, _ => by simp [sB]
  | j + 1, hj, h => by
    have h1 := sB_bd (f := f) (M := M) hB (j := j) (by omega) fun i hi => h i (by omega)
    have h2 := h j (by omega)
    have e : (j + 1) * B = j * B + B := Nat.succ_mul j B
    have hle : j * B + B ≤ 8 * B := by rw [← e]; exact Nat.mul_le_mul_right B hj
    simp only [sB]
    rw [e]
    split
    · have := iv_add h1 h2 (by omega)
      omega
    · omega
theorem av_bd {x : Int32} {A : Int} (h : -A ≤ x.toInt ∧ x.toInt ≤ A) (hA : A ≤ 2147483646) : (av x).toInt ≤ A := by
  unfold av
  split
  · exact h.2
  · exact (iv_neg h (by omega)).2
theorem sB_congr {f g : Nat → Int32} {M : Nat} : ∀ {j : Nat}, (∀ i, i < j → f i = g i) → sB f M j = sB g M j
  | 0, _ => rfl
  | j + 1, h => by simp only [sB]; rw [sB_congr fun i hi => h i (by omega), h j (by omega)]
theorem PG_congr {R : Nat → Int} {m : Nat} {t : Int} : ∀ {k M at_ : Nat} {o o' : Nat → Int32}, (∀ p, at_ ≤ p → o' p = o p) → PG R m t k M at_ o → PG R m t k M at_ o'
  | 0, _, _, _, _, _, _ => trivial
  | k + 1, M, at_, o, o', h, hp => by
    obtain ⟨j, h1, h2, h3, h4, h5, h6⟩ := hp
    exact ⟨j, h1, h2, h3, h4, by rw [h at_ (Nat.le_refl _)]; exact h5, PG_congr (fun p hp => h p (by omega)) h6⟩
theorem PG_uniq {R : Nat → Int} {m : Nat} {t : Int} : ∀ {k M at_ : Nat} {o o' : Nat → Int32}, PG R m t k M at_ o → PG R m t k M at_ o' → ∀ p, at_ ≤ p → p < at_ + k → o p = o' p
  | 0, _, _, _, _, _, _ => fun p h1 h2 => by omega
  | k + 1, M, at_, o, o', h, h' => by
    intro p hp1 hp2
    obtain ⟨j, h1, h2, h3, h4, h5, h6⟩ := h
    obtain ⟨i, k1, k2, k3, k4, k5, k6⟩ := h'
    have e : j = i := by
      rcases Nat.lt_trichotomy j i with z | z | z
      · exact absurd h3 (k4 j z h2)
      · exact z
      · exact absurd k3 (h4 i z k2)
    subst e
    by_cases z : p = at_
    · rw [z, h5, k5]
    · exact PG_uniq h6 k6 p (by omega) (by omega)
theorem least {P : Nat → Prop} : ∀ (n : Nat), P n → ∃ j, j ≤ n ∧ P j ∧ ∀ i, i < j → ¬ P i := by
  intro n
  induction n using Nat.strongRecOn with
  | _ n ih =>
    intro h
    by_cases z : ∃ i, i < n ∧ P i
    · obtain ⟨i, h1, h2⟩ := z
      obtain ⟨j, k1, k2, k3⟩ := ih i h1 h2
      exact ⟨j, by omega, k2, k3⟩
    · exact ⟨n, Nat.le_refl n, h, fun i hi hp => z ⟨i, hi, hp⟩⟩
theorem PG_ex {f : Nat → Int32} {R : Nat → Int} {m : Nat} {t : Int} (hR : RP f R m) (ht : t < 2147483647) : ∀ (k M at_ : Nat), M < 2 ^ m → m - cB M m = k → R M ≤ t → ∃ o, PG R m t k M at_ o
  | 0, _, _, _, _, _ => ⟨fun _ => 0, trivial⟩
  | k + 1, M, at_, hM, hk, hle => by
    have e := RP_nf hR hM (by omega)
    rcases mB_ex (R := R) (M := M) (a := 2147483647) (j := m) with z | ⟨i, hi, hb, z⟩
    · omega
    · obtain ⟨j, j1, ⟨j2, j3, j4⟩, j5⟩ := least (P := fun j => j < m ∧ M.testBit j = false ∧ R (ins M j) ≤ t) i ⟨hi, hb, by omega⟩
      have eC := cB_ins j3 m
      rw [if_pos j2] at eC
      obtain ⟨o, ho⟩ := PG_ex hR ht k (ins M j) (at_ + 1) (ins_lt hM j2) (by omega) j4
      refine ⟨up o at_ (nI j), j, j2, j3, j4, fun i hi hbi hr => j5 i hi ⟨by omega, hbi, hr⟩, up_eq rfl, PG_congr (fun p hp => up_ne (by omega)) ho⟩
theorem eq_order {c r : zz_Hp} (h : Sim c r) (l1 : Int32) : w_X8_order l1 c (fun a c' => w_X9_order l1 r (fun b r' => a = b ∧ Sim c' r')) := by
  obtain ⟨T, h⟩ := h
  have hT := h.1; have hc : CT T c := h.2.1; have hr : RT T r := h.2.2.1; have hn := hT.1
  obtain ⟨m, h8, hm, hm', hly, hC, hbw⟩ := h.ly
  have hp := b_pow h8
  unfold w_X8_order w_X9_order
  rw [hm, hm']
  by_cases hk : -1 ≤ l1 ∧ l1 ≤ nI m - 1
  · refine t8_inRt hk (br1 (t8_weigh hT hc hm hly hC fun c1 hf h37 h38 => t4_find h37 h8 fun c2 f2 hRP => ?_))
    have hfv : fV c c2 := hf.tr fun k hk => f2 k (by omega)
    have c37 : c2.1 37 0 = nI m := by rw [f2 37 (by decide)]; exact h37
    obtain ⟨f, ef⟩ : ∃ f, f = skw T (r.1 8) (r.1 9) (r.1 10) := ⟨_, rfl⟩
    obtain ⟨R, eR⟩ : ∃ R : Nat → Int, R = fun M => (c2.1 39 M).toInt := ⟨_, rfl⟩
    have hRf : RP f R m := by
      intro M hM
      rw [eR]
      have := hRP M hM
      rw [sB_congr (g := f) (fun i hi => by rw [ef]; exact h38 i hi)] at this
      exact this
    have hbd : ∀ M, M < 2 ^ m → (av (sB f M m)).toInt < 2147483647 := by
      intro M hM
      have h1 := sB_bd (f := f) (M := M) (B := 201627360) (by decide) h8 fun i hi => by rw [ef]; exact skw_bd hT hly hi (hbw i hi).1
      have hle : m * 201627360 ≤ 8 * 201627360 := Nat.mul_le_mul_right _ h8
      have h88 : 8 * 201627360 = 1613018880 := by decide
      rw [h88] at hle
      have := av_bd h1 (by omega)
      omega
    have hlt : R 0 < 2147483647 := RP_lt hRf hbd _ 0 (by omega) rfl
    have h0 : 0 ≤ R 0 := by
      have := RP_ge hRf (M := 0) (by omega)
      rw [sB_0] at this
      exact this
    have RB : ∀ {a : Int32} {Q : Int32 → zz_Hp → Prop}, (∀ r', sR r r' → PG R m (R 0) m 0 0 (r'.1 39) → (r'.1 0 50).toInt = R 0 → Q (if l1 = -1 then r'.1 0 50 else r'.1 39 l1.toNatClampNeg) r') → (l1 ≠ -1 → vp_in l1 8) → w_X9_in l1 (-1) (nI m - 1) r (fun r2 h1 => ((¬ r2 = 0 → lp (fun s ag => w_X9_order_l18 ag Q l1 s.1 s.2) (0, h1)) ∧ (r2 = 0 → Q (-1) h1))) := by
      intro a Q HQ hv
      refine t9_int hk (br1 ?_)
      refine lp_cnt m (fun i s => s.1 = nI i ∧ (∀ k, k ≠ 37 → s.2.1 k = r.1 k) ∧ ∀ j, j < i → s.2.1 37 j = f j) ?_ _ ⟨rfl, fun _ _ => rfl, fun j hj => by omega⟩
      intro i s hi hs again hag
      obtain ⟨u, r1⟩ := s
      obtain ⟨hu, p1, p2⟩ := hs
      dsimp only at hu p1 p2
      subst hu
      unfold w_X9_order_l18
      dsimp only
      rw [p1 0 (by decide), hm']
      refine brc (fun e => ?_) fun e => ?_
      · have := nv_end (by omega) (by omega) hi e
        subst this
        intro r2 q2
        refine t9_arrange h8 hRf 10 0 0 rfl rfl (sB_0 _).symm (by omega) (cB_0 _) (by omega) ?_ (fun j hj => ?_) (by decide) (by rw [sB_0]; decide) fun r3 hA => ?_
        · rw [q2, zu_ne (by decide), p1 0 (by decide)]; exact hm'
        · rw [q2, zu_f (by decide)]; exact p2 j hj
        · obtain ⟨a1, a2, a3, a4, a5, a6⟩ := hA
          have e50 : (r2.1 0 50).toInt = 2147483647 := by rw [q2, zu_eq ⟨rfl, rfl⟩]; rfl
          have ez : max (0 : Int32).toInt (R 0) = R 0 := by rw [show (0 : Int32).toInt = 0 by decide]; omega
          rw [ez, e50] at a4 a5
          have hs : sR r r3 := ⟨fun k x y => by rw [a1 k (by omega) (by omega) (by omega), q2, zu_f (by omega)]; exact p1 k (by omega), fun j hj => by rw [a2 j (by omega), q2, zu_ne (Or.inr (by omega)), p1 0 (by decide)]⟩
          have := HQ r3 hs (a5 hlt).2 (by omega)
          refine bnc (fun e => ⟨hv e, ?_⟩) fun e => ?_
          · rw [if_neg e] at this; exact this
          · rw [if_pos e] at this; exact this
      · have hlti := nv_nle (by omega) (by omega) e
        have hr1 : RT T r1 := by
          unfold RT; rw [p1 0 (by decide), p1 1 (by decide), p1 2 (by decide), p1 3 (by decide), p1 4 (by decide), p1 5 (by decide), p1 6 (by decide)]; exact hr
        have hl1 : LYy T m (r1.1 8) := by rw [p1 8 (by decide)]; exact hly
        refine t9_skewOf hT hr1 hl1 hlti rfl ⟨nv_in (by omega) (by decide), fun r2 q2 => ?_⟩
        rw [p1 8 (by decide), p1 9 (by decide), p1 10 (by decide), nv_tn (by omega)] at q2
        rw [nv_1]
        refine hag hlti _ ⟨rfl, fun k hk => by dsimp only; rw [q2, zu_f hk]; exact p1 k hk, fun j hj => ?_⟩
        dsimp only
        by_cases z : j = i
        · rw [q2, zu_eq ⟨rfl, z⟩, z, ef]
        · rw [q2, zu_ne (Or.inr z)]; exact p2 j (by omega)
    refine brc (fun e => ?_) fun e => ?_
    · have hm0 : 1 ≤ m := by
        rcases Nat.eq_zero_or_pos m with z | z
        · have := Int32.le_trans e hk.2
          rw [z] at this; exact absurd this (by decide)
        · exact z
      obtain ⟨k, hk2, rfl⟩ : ∃ k, k < m ∧ l1 = nI k := by
        refine nv_ex (by omega) (Int32.not_lt.mpr e) fun q => ?_
        have q1 := Int32.le_trans q hk.2
        rw [lit_1, nv_sub hm0, nv_le (by omega) (by omega)] at q1
        omega
      have hne : nI k ≠ -1 := fun z => by rw [z] at e; exact absurd e (by decide)
      have hv : nI k ≠ -1 → vp_in (nI k) 8 := fun _ => nv_in (by omega) (by decide)
      obtain ⟨o, ho⟩ := PG_ex hRf hlt m 0 0 (by omega) (by rw [cB_0]; omega) (Int.le_refl _)
      refine t4_inBest (o := o) c37 h8 (by rw [eR] at ho; exact ho) hk2 rfl (RB (a := 0) (fun r' hs hpg _ => ⟨?_, h.both hfv.sC hs⟩) hv)
      rw [if_neg hne, nv_tn (by omega)]
      exact PG_uniq ho hpg k (by omega) (by omega)
    · have e1 : l1 = -1 := by
        have h1 := iv_le.mp hk.1
        rw [iv_le] at e
        rw [show (-1 : Int32).toInt = -1 by decide] at h1
        rw [show (0 : Int32).toInt = 0 by decide] at e
        rw [iv_eq, show (-1 : Int32).toInt = -1 by decide]; omega
      refine ⟨nv_in (n := 0) (by omega) (by decide), RB (a := 0) (fun r' hs _ h50 => ⟨?_, h.both hfv.sC hs⟩) fun z => absurd e1 z⟩
      rw [if_pos e1, show (0 : Int32).toNatClampNeg = 0 from rfl]
      apply Int32.toInt_inj.mp
      rw [h50, eR]
  · exact t8_inRf hk (br0 (t9_inf hk (br0 ⟨rfl, T, h⟩)))
