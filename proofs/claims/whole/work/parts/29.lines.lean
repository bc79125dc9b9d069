/-! lines: wipe, feed, lay, job, jobOf, part, clear -/
theorem eq_wipe {c r : zz_Hp} (h : Sim c r) : w_X8_wipe c (fun a c' => w_X9_wipe r (fun b r' => a = b ∧ Sim c' r')) := by
  obtain ⟨T, h⟩ := h
  obtain ⟨m, hm, e1, e2, _⟩ := h.2.2.2.2.2.2.2.1
  intro c1 ec r1 er
  subst ec er
  refine ⟨by rw [e1, e2], T, ?_⟩
  apply SimT.tape h
  case n_tp => exact ⟨0, by omega, by rw [zu_eq ⟨rfl, rfl⟩]; rfl, by rw [zu_eq ⟨rfl, rfl⟩]; rfl, fun i hi => by omega⟩
  all_goals first | (funext i; simp [zz_uI]; done) | simp [zz_uI]
theorem i8_id {v : Int32} (h : 32 ≤ v ∧ v ≤ 126) : v.toInt8.toInt32 = v := by
  have h1 := iv_le.mp h.1
  have h2 := iv_le.mp h.2
  rw [show (32 : Int32).toInt = 32 by decide] at h1
  rw [show (126 : Int32).toInt = 126 by decide] at h2
  apply Int32.toInt_inj.mp
  rw [Int8.toInt_toInt32, Int32.toInt_toInt8, Int.bmod_def]
  omega
theorem eq_feed {c r : zz_Hp} (h : Sim c r) (l : Int32) : w_X8_feed l c (fun a c' => w_X9_feed l r (fun b r' => a = b ∧ Sim c' r')) := by
  obtain ⟨T, h⟩ := h
  obtain ⟨m, hm, e1, e2, e3⟩ := h.2.2.2.2.2.2.2.1
  unfold w_X8_feed
  by_cases hl : 32 ≤ l ∧ l ≤ 126
  · refine t8_inRt hl (br1 ?_)
    unfold w_X5_add
    rw [e1]
    refine brc (fun e => ?_) fun e => bq0 (t9_int hl (br1 (bnf ?_ ⟨rfl, T, h⟩)))
    · rw [show (80 : Int32) = nI 80 from rfl, nv_lt (by omega) (by omega)] at e
      refine ⟨nv_in e (by decide), fun c1 ec c2 ec2 => bq1 (t9_int hl (br1 (bnt ?_ ?_)))⟩
      · rw [e2]; intro z; have := nv_inj (by omega) (by omega) (z.trans (show (80 : Int32) = nI 80 from rfl)); omega
      · rw [e2]
        refine ⟨nv_in e (by decide), fun r1 er r2 er2 => ?_⟩
        rw [nv_tn (by omega), i8_id hl, i8_id hl] at ec
        rw [nv_tn (by omega)] at er
        have f1 : c1.1 24 0 = nI m := by rw [ec, zu_f (by decide)]; exact e1
        have f2 : r1.1 0 20 = nI m := by rw [er, zu_f (by decide)]; exact e2
        rw [f1, nv_1] at ec2
        rw [f2, nv_1] at er2
        refine ⟨by rw [ec2, er2, zu_eq ⟨rfl, rfl⟩, zu_eq ⟨rfl, rfl⟩], T, ?_⟩
        subst ec2 er2 ec er
        apply SimT.tape h
        case n_tp =>
          refine ⟨m + 1, by omega, zu_eq ⟨rfl, rfl⟩, zu_eq ⟨rfl, rfl⟩, fun i hi => ?_⟩
          by_cases z : i = m
          · subst z; simp (disch := omega) only [zu_ne, zu_eq]; exact ⟨trivial, hl⟩
          · simp (disch := omega) only [zu_ne]; exact e3 i (by omega)
        all_goals first | (funext i; simp [zz_uI]; done) | simp [zz_uI]
    · rw [show (80 : Int32) = nI 80 from rfl, nv_lt (by omega) (by omega)] at e
      rw [e2, show m = 80 by omega]; rfl
  · exact t8_inRf hl (br0 (t9_inf hl (br0 ⟨rfl, T, h⟩)))
theorem t1_full5 {c : zz_Hp} {m : Nat} (e : c.1 5 0 = nI m) (hm : m ≤ 8) {Q : Int32 → zz_Hp → Prop} (H0 : m < 8 → Q 0 c) (H1 : m = 8 → Q 1 c) : w_X1_isFull_5 c Q := by
  unfold w_X1_isFull_5
  have : (((c.1 5 0) + 1) * 3 ≤ (24 : Int32)) ↔ m < 8 := by
    rw [e, nv_1, lit_3, nv_mul, show (24 : Int32) = nI 24 from rfl, nv_le (by omega) (by omega)]; omega
  rw [this]
  exact brc H0 fun q => H1 (by omega)
theorem t1_add5 {c : zz_Hp} {m : Nat} (e : c.1 5 0 = nI m) (hm : m < 8) {l1 l2 l3 : Int32} {Q : zz_Hp → Prop} (H : ∀ c', (∀ k, k ≠ 5 → k ≠ 6 → c'.1 k = c.1 k) → c'.1 5 0 = nI (m + 1) → (∀ q, q < 3 * m → c'.1 6 q = c.1 6 q) → c'.1 6 (3 * m + 0) = l1 → c'.1 6 (3 * m + 1) = l2 → c'.1 6 (3 * m + 2) = l3 → Q c') : w_X1_add_5 l1 l2 l3 c Q := by
  unfold w_X1_add_5
  refine t1_full5 e (by omega) (fun _ => br0 ?_) fun q => absurd q (by omega)
  have i0 : nI m * 3 = nI (3 * m + 0) := by rw [lit_3, nv_mul, show m * 3 = 3 * m + 0 by omega]
  have i1 : nI m * 3 + 1 = nI (3 * m + 1) := by rw [lit_3, nv_mul, nv_1, show m * 3 + 1 = 3 * m + 1 by omega]
  have i2 : nI m * 3 + 2 = nI (3 * m + 2) := by rw [lit_3, nv_mul, lit_2, nv_add, show m * 3 + 2 = 3 * m + 2 by omega]
  rw [e, i0, nv_tn (by omega)]
  refine ⟨nv_in (by omega) (by decide), fun c1 e1 => ?_⟩
  have f1 : c1.1 5 0 = nI m := by rw [e1, zu_f (by decide)]; exact e
  rw [f1, i1, nv_tn (by omega)]
  refine ⟨nv_in (by omega) (by decide), fun c2 e2 => ?_⟩
  have f2 : c2.1 5 0 = nI m := by rw [e2, zu_f (by decide)]; exact f1
  rw [f2, i2, nv_tn (by omega)]
  refine ⟨nv_in (by omega) (by decide), fun c3 e3 => ?_⟩
  have f3 : c3.1 5 0 = nI m := by rw [e3, zu_f (by decide)]; exact f2
  rw [f3, nv_1]
  intro c4 e4
  subst e4 e3 e2 e1
  refine H _ (fun k a b => ?_) (zu_eq ⟨rfl, rfl⟩) (fun q hq => ?_) ?_ ?_ ?_
  · rw [zu_f a, zu_f b, zu_f b, zu_f b]
  all_goals simp (disch := omega) only [zu_ne, zu_eq]
theorem t1_at5' {c : zz_Hp} {i k : Nat} {l w : Int32} (e : l = nI i) (ew : w = nI k) (hi : i < 8) (hk : k < 3) {Q : Int32 → zz_Hp → Prop} (H : Q (c.1 6 (3 * i + k)) c) : w_X1_at_5 l w c Q := by
  subst e; subst ew
  unfold w_X1_at_5
  rw [ix_3, nv_tn (by omega)]
  exact ⟨nv_in (by omega) (by decide), H⟩
theorem t1_full7 {c : zz_Hp} {m : Nat} (e : c.1 7 0 = nI m) (hm : m ≤ 8) {Q : Int32 → zz_Hp → Prop} (H0 : m < 8 → Q 0 c) (H1 : m = 8 → Q 1 c) : w_X1_isFull_7 c Q := by
  unfold w_X1_isFull_7
  have : (((c.1 7 0) + 1) * 3 ≤ (24 : Int32)) ↔ m < 8 := by
    rw [e, nv_1, lit_3, nv_mul, show (24 : Int32) = nI 24 from rfl, nv_le (by omega) (by omega)]; omega
  rw [this]
  exact brc H0 fun q => H1 (by omega)
theorem t1_add7 {c : zz_Hp} {m : Nat} (e : c.1 7 0 = nI m) (hm : m < 8) {l1 l2 l3 : Int32} {Q : zz_Hp → Prop} (H : ∀ c', (∀ k, k ≠ 7 → k ≠ 8 → c'.1 k = c.1 k) → c'.1 7 0 = nI (m + 1) → (∀ q, q < 3 * m → c'.1 8 q = c.1 8 q) → c'.1 8 (3 * m + 0) = l1 → c'.1 8 (3 * m + 1) = l2 → c'.1 8 (3 * m + 2) = l3 → Q c') : w_X1_add_7 l1 l2 l3 c Q := by
  unfold w_X1_add_7
  refine t1_full7 e (by omega) (fun _ => br0 ?_) fun q => absurd q (by omega)
  have i0 : nI m * 3 = nI (3 * m + 0) := by rw [lit_3, nv_mul, show m * 3 = 3 * m + 0 by omega]
  have i1 : nI m * 3 + 1 = nI (3 * m + 1) := by rw [lit_3, nv_mul, nv_1, show m * 3 + 1 = 3 * m + 1 by omega]
  have i2 : nI m * 3 + 2 = nI (3 * m + 2) := by rw [lit_3, nv_mul, lit_2, nv_add, show m * 3 + 2 = 3 * m + 2 by omega]
  rw [e, i0, nv_tn (by omega)]
  refine ⟨nv_in (by omega) (by decide), fun c1 e1 => ?_⟩
  have f1 : c1.1 7 0 = nI m := by rw [e1, zu_f (by decide)]; exact e
  rw [f1, i1, nv_tn (by omega)]
  refine ⟨nv_in (by omega) (by decide), fun c2 e2 => ?_⟩
  have f2 : c2.1 7 0 = nI m := by rw [e2, zu_f (by decide)]; exact f1
  rw [f2, i2, nv_tn (by omega)]
  refine ⟨nv_in (by omega) (by decide), fun c3 e3 => ?_⟩
  have f3 : c3.1 7 0 = nI m := by rw [e3, zu_f (by decide)]; exact f2
  rw [f3, nv_1]
  intro c4 e4
  subst e4 e3 e2 e1
  refine H _ (fun k a b => ?_) (zu_eq ⟨rfl, rfl⟩) (fun q hq => ?_) ?_ ?_ ?_
  · rw [zu_f a, zu_f b, zu_f b, zu_f b]
  all_goals simp (disch := omega) only [zu_ne, zu_eq]
theorem t1_at7' {c : zz_Hp} {i k : Nat} {l w : Int32} (e : l = nI i) (ew : w = nI k) (hi : i < 8) (hk : k < 3) {Q : Int32 → zz_Hp → Prop} (H : Q (c.1 8 (3 * i + k)) c) : w_X1_at_7 l w c Q := by
  subst e; subst ew
  unfold w_X1_at_7
  rw [ix_3, nv_tn (by omega)]
  exact ⟨nv_in (by omega) (by decide), H⟩
theorem t1_full18 {c : zz_Hp} {m : Nat} (e : c.1 18 0 = nI m) (hm : m ≤ 10) {Q : Int32 → zz_Hp → Prop} (H0 : m < 10 → Q 0 c) (H1 : m = 10 → Q 1 c) : w_X1_isFull_18 c Q := by
  unfold w_X1_isFull_18
  have : (((c.1 18 0) + 1) * 3 ≤ (30 : Int32)) ↔ m < 10 := by
    rw [e, nv_1, lit_3, nv_mul, show (30 : Int32) = nI 30 from rfl, nv_le (by omega) (by omega)]; omega
  rw [this]
  exact brc H0 fun q => H1 (by omega)
theorem t1_add18 {c : zz_Hp} {m : Nat} (e : c.1 18 0 = nI m) (hm : m < 10) {l1 l2 l3 : Int32} {Q : zz_Hp → Prop} (H : ∀ c', (∀ k, k ≠ 18 → k ≠ 19 → c'.1 k = c.1 k) → c'.1 18 0 = nI (m + 1) → (∀ q, q < 3 * m → c'.1 19 q = c.1 19 q) → c'.1 19 (3 * m + 0) = l1 → c'.1 19 (3 * m + 1) = l2 → c'.1 19 (3 * m + 2) = l3 → Q c') : w_X1_add_18 l1 l2 l3 c Q := by
  unfold w_X1_add_18
  refine t1_full18 e (by omega) (fun _ => br0 ?_) fun q => absurd q (by omega)
  have i0 : nI m * 3 = nI (3 * m + 0) := by rw [lit_3, nv_mul, show m * 3 = 3 * m + 0 by omega]
  have i1 : nI m * 3 + 1 = nI (3 * m + 1) := by rw [lit_3, nv_mul, nv_1, show m * 3 + 1 = 3 * m + 1 by omega]
  have i2 : nI m * 3 + 2 = nI (3 * m + 2) := by rw [lit_3, nv_mul, lit_2, nv_add, show m * 3 + 2 = 3 * m + 2 by omega]
  rw [e, i0, nv_tn (by omega)]
  refine ⟨nv_in (by omega) (by decide), fun c1 e1 => ?_⟩
  have f1 : c1.1 18 0 = nI m := by rw [e1, zu_f (by decide)]; exact e
  rw [f1, i1, nv_tn (by omega)]
  refine ⟨nv_in (by omega) (by decide), fun c2 e2 => ?_⟩
  have f2 : c2.1 18 0 = nI m := by rw [e2, zu_f (by decide)]; exact f1
  rw [f2, i2, nv_tn (by omega)]
  refine ⟨nv_in (by omega) (by decide), fun c3 e3 => ?_⟩
  have f3 : c3.1 18 0 = nI m := by rw [e3, zu_f (by decide)]; exact f2
  rw [f3, nv_1]
  intro c4 e4
  subst e4 e3 e2 e1
  refine H _ (fun k a b => ?_) (zu_eq ⟨rfl, rfl⟩) (fun q hq => ?_) ?_ ?_ ?_
  · rw [zu_f a, zu_f b, zu_f b, zu_f b]
  all_goals simp (disch := omega) only [zu_ne, zu_eq]
theorem t1_at18' {c : zz_Hp} {i k : Nat} {l w : Int32} (e : l = nI i) (ew : w = nI k) (hi : i < 10) (hk : k < 3) {Q : Int32 → zz_Hp → Prop} (H : Q (c.1 19 (3 * i + k)) c) : w_X1_at_18 l w c Q := by
  subst e; subst ew
  unfold w_X1_at_18
  rw [ix_3, nv_tn (by omega)]
  exact ⟨nv_in (by omega) (by decide), H⟩
theorem eq_lay {c r : zz_Hp} (h : Sim c r) (l1 l2 l3 : Int32) : w_X8_lay l1 l2 l3 c (fun a c' => w_X9_lay l1 l2 l3 r (fun b r' => a = b ∧ Sim c' r')) := by
  obtain ⟨T, h⟩ := h
  have hT := h.1; have hc : CT T c := h.2.1; have hr : RT T r := h.2.2.1; have hn := hT.1
  obtain ⟨m, hm, e1, e2, e3⟩ := h.2.2.2.2.1
  unfold w_X8_lay
  refine bnc (fun hl1 => ?_) fun hl1 => ?_
  · rcases ycase (yN T) (by omega) l1 with hl | ⟨y, hy, rfl⟩
    · exact t7_hasf (yN T) hc.1 hl (bq0 (bnt hl1 (t9_isYf (yN T) hr.1 hn hl (bq0 ⟨rfl, T, h⟩))))
    refine t7_hast (yN T) y hc.1 hn hy rfl (bq1 ?_)
    by_cases h2 : 1 ≤ l2 ∧ l2 ≤ 40
    · refine t8_inRt h2 (bq1 ?_)
      by_cases h3 : 0 ≤ l3 ∧ l3 ≤ 1
      · refine t8_inRt h3 (br1 ?_)
        have h3' : l3 = 0 ∨ l3 = 1 := by
          have h31 := iv_le.mp h3.1
          have h32 := iv_le.mp h3.2
          rw [show (0 : Int32).toInt = 0 by decide] at h31
          rw [show (1 : Int32).toInt = 1 by decide] at h32
          rw [iv_eq, iv_eq, show (0 : Int32).toInt = 0 by decide, show (1 : Int32).toInt = 1 by decide]
          omega
        refine t1_full5 e1 hm (fun e => bq0 (t1_add5 e1 e fun c1 hf h0 h1 h20 h21 h22 => ?_)) fun e => bq1 ?_
        · refine bnt hl1 (t9_isYt (yN T) y hr.1 hn hy rfl (bq1 (t9_int h2 (bq1 (t9_int h3 (br1 (bnt ?_ ?_)))))))
          · rw [e2]; intro z; have := nv_inj (by omega) (by omega) (z.trans lit_8); omega
          · rw [e2, nv_tn (by omega)]
            refine ⟨nv_in e (by decide), fun r1 k1 => ?_⟩
            have g1 : r1.1 0 9 = nI m := by rw [k1, zu_f (by decide)]; exact e2
            rw [g1, nv_tn (by omega)]
            refine ⟨nv_in e (by decide), fun r2 k2 => ?_⟩
            have g2 : r2.1 0 9 = nI m := by rw [k2, zu_f (by decide)]; exact g1
            rw [g2, nv_tn (by omega)]
            refine ⟨nv_in e (by decide), fun r3 k3 => ?_⟩
            have g3 : r3.1 0 9 = nI m := by rw [k3, zu_f (by decide)]; exact g2
            rw [g3, nv_1]
            intro r4 k4
            refine ⟨by rw [h0, k4, zu_eq ⟨rfl, rfl⟩], T, ?_⟩
            subst k4 k3 k2 k1
            apply SimT.lay h
            case n_ly =>
              refine ⟨m + 1, by omega, h0, zu_eq ⟨rfl, rfl⟩, fun i hi => ?_⟩
              by_cases z : i = m
              · subst z
                rw [h20, h21, h22]
                simp (disch := omega) only [zu_ne, zu_eq]
                exact ⟨trivial, trivial, trivial, ⟨y, hy, rfl⟩, h2, h3'⟩
              · rw [h1 _ (by omega), h1 _ (by omega), h1 _ (by omega)]
                simp (disch := omega) only [zu_ne]
                exact e3 i (by omega)
            all_goals first
              | exact hf _ (by decide) (by decide)
              | exact congrFun (hf _ (by decide) (by decide)) _
              | (funext i; simp [zz_uI]; done)
              | simp [zz_uI]
        · refine bnt hl1 (t9_isYt (yN T) y hr.1 hn hy rfl (bq1 (t9_int h2 (bq1 (t9_int h3 (br1 (bnf ?_ ⟨rfl, T, h⟩)))))))
          rw [e2, e]; rfl
      · exact t8_inRf h3 (br0 (bnt hl1 (t9_isYt (yN T) y hr.1 hn hy rfl (bq1 (t9_int h2 (bq1 (t9_inf h3 (br0 ⟨rfl, T, h⟩))))))))
    · exact t8_inRf h2 (bq0 (bnt hl1 (t9_isYt (yN T) y hr.1 hn hy rfl (bq1 (t9_inf h2 (bq0 ⟨rfl, T, h⟩))))))
  · intro c1 ec
    refine bnf hl1 fun r1 er => ⟨rfl, T, ?_⟩
    subst ec er
    apply SimT.lay h
    case n_ly => exact ⟨0, by omega, zu_eq ⟨rfl, rfl⟩, zu_eq ⟨rfl, rfl⟩, fun i hi => by omega⟩
    all_goals first | (funext i; simp [zz_uI]; done) | simp [zz_uI]
theorem eq_job {c r : zz_Hp} (h : Sim c r) (l1 l2 : Int32) : w_X8_job l1 l2 c (fun a c' => w_X9_job l1 l2 r (fun b r' => a = b ∧ Sim c' r')) := by
  obtain ⟨T, h⟩ := h
  have hT := h.1; have hc : CT T c := h.2.1; have hr : RT T r := h.2.2.1; have hn := hT.1
  obtain ⟨m, hm, e1, e2, e3⟩ := h.2.2.2.2.2.1
  unfold w_X8_job
  rcases ycase (yN T) (by omega) l1 with hl | ⟨y, hy, rfl⟩
  · exact t7_hasf (yN T) hc.1 hl (bq0 (t9_isYf (yN T) hr.1 hn hl (bq0 ⟨rfl, T, h⟩)))
  have hyi : vp_in (nI y) 16 := nv_in (by omega) (by decide)
  have hP := hT.P4 hy
  refine t7_hast (yN T) y hc.1 hn hy rfl (bq1 ?_)
  by_cases h2 : 1 ≤ l2 ∧ l2 ≤ 9999
  · refine t8_inRt h2 (br1 (t7_isThread hT hc rfl hy (fun h0 => bq1 ?_) fun h0 => bq0 ?_))
    · refine t9_isYt (yN T) y hr.1 hn hy rfl (bq1 (t9_int h2 (br1 ⟨hyi, bnf ?_ ⟨rfl, T, h⟩⟩)))
      rw [nv_tn (by omega), (hr.2 y hy).1.1, h0]; rfl
    · refine t1_full7 e1 hm (fun e => bq0 (t1_add7 e1 e fun c1 hf h0' h1 h20 h21 h22 => ?_)) fun e => bq1 ?_
      · refine t9_isYt (yN T) y hr.1 hn hy rfl (bq1 (t9_int h2 (br1 ⟨hyi, bnt ?_ (bnt ?_ ?_)⟩)))
        · rw [nv_tn (by omega), (hr.2 y hy).1.1]; exact nI_ne0' (by omega) (by omega)
        · rw [e2]; intro z; have := nv_inj (by omega) (by omega) (z.trans lit_8); omega
        · rw [e2, nv_tn (n := m) (by omega)]
          refine ⟨nv_in e (by decide), fun r1 k1 => ?_⟩
          have g1 : r1.1 0 13 = nI m := by rw [k1, zu_f (by decide)]; exact e2
          rw [g1, nv_tn (by omega)]
          refine ⟨nv_in e (by decide), fun r2 k2 => ?_⟩
          have g2 : r2.1 0 13 = nI m := by rw [k2, zu_f (by decide)]; exact g1
          rw [g2, nv_1]
          intro r3 k3
          refine ⟨by rw [h0', k3, zu_eq ⟨rfl, rfl⟩], T, ?_⟩
          subst k3 k2 k1
          apply SimT.job h
          case n_jb =>
            refine ⟨m + 1, by omega, h0', zu_eq ⟨rfl, rfl⟩, fun i hi => ?_⟩
            by_cases z : i = m
            · subst z
              rw [h20, h21]
              simp (disch := omega) only [zu_ne, zu_eq]
              refine ⟨trivial, trivial, ⟨y, hy, ?_, rfl⟩, h2⟩
              obtain ⟨-, -, w | w⟩ := hT.2 y hy
              · exact absurd w.1 h0
              · exact w.1
            · rw [h1 _ (by omega), h1 _ (by omega)]
              simp (disch := omega) only [zu_ne]
              exact e3 i (by omega)
          all_goals first
            | exact hf _ (by decide) (by decide)
            | exact congrFun (hf _ (by decide) (by decide)) _
            | (funext i; simp [zz_uI]; done)
            | simp [zz_uI]
      · refine t9_isYt (yN T) y hr.1 hn hy rfl (bq1 (t9_int h2 (br1 ⟨hyi, bnt ?_ (bnf ?_ ⟨rfl, T, h⟩)⟩)))
        · rw [nv_tn (by omega), (hr.2 y hy).1.1]; exact nI_ne0' (by omega) (by omega)
        · rw [e2, e]; rfl
  · exact t8_inRf h2 (br0 (t9_isYt (yN T) y hr.1 hn hy rfl (bq1 (t9_inf h2 (br0 ⟨rfl, T, h⟩)))))
theorem eq_jobOf {c r : zz_Hp} (h : Sim c r) (l1 l2 : Int32) : w_X8_jobOf l1 l2 c (fun a c' => w_X9_jobOf l1 l2 r (fun b r' => a = b ∧ Sim c' r')) := by
  obtain ⟨T, h⟩ := h
  obtain ⟨m, hm, e1, e2, e3⟩ := h.2.2.2.2.2.1
  unfold w_X8_jobOf
  by_cases h2 : 0 ≤ l2 ∧ l2 ≤ 1
  · refine t8_inRt h2 (br1 ?_)
    rw [e1]
    by_cases h1 : 0 ≤ l1 ∧ l1 ≤ nI m - 1
    · refine t8_inRt h1 (bq1 ?_)
      have a1 := iv_le.mp h1.1
      have a2 := iv_le.mp h1.2
      rw [show (0 : Int32).toInt = 0 by decide] at a1
      have hm0 : 1 ≤ m := by
        rcases Nat.eq_zero_or_pos m with z | z
        · rw [z, show (nI 0 - 1).toInt = -1 by decide] at a2; omega
        · exact z
      obtain ⟨i, hi, rfl⟩ : ∃ i, i < m ∧ l1 = nI i := by
        refine nv_ex (by omega) (Int32.not_lt.mpr h1.1) fun q => ?_
        have q1 := Int32.le_trans q h1.2
        rw [lit_1, nv_sub hm0, nv_le (by omega) (by omega)] at q1
        omega
      have hii : vp_in (nI i) 8 := nv_in (by omega) (by decide)
      have b1 := iv_le.mp h2.1
      have b2 := iv_le.mp h2.2
      rw [show (0 : Int32).toInt = 0 by decide] at b1
      rw [show (1 : Int32).toInt = 1 by decide] at b2
      rcases (by omega : l2.toInt = 0 ∨ l2.toInt = 1) with z | z
      · have : l2 = 0 := by rw [iv_eq, z]; rfl
        subst this
        refine t1_at7' rfl rfl (by omega) (by omega : 0 < 3) (t9_int h2 (br1 ?_))
        rw [e2]
        refine t9_int h1 (br1 (bnf rfl ⟨hii, ?_, T, h⟩))
        rw [nv_tn (by omega), (e3 i hi).1]
      · have : l2 = 1 := by rw [iv_eq, z]; rfl
        subst this
        refine t1_at7' rfl rfl (by omega) (by omega : 1 < 3) (t9_int h2 (br1 ?_))
        rw [e2]
        refine t9_int h1 (br1 (bnt (by decide) ⟨hii, ?_, T, h⟩))
        rw [nv_tn (by omega), (e3 i hi).2.1]
    · refine t8_inRf h1 (bq0 (t9_int h2 (br1 ?_)))
      rw [e2]
      exact t9_inf h1 (br0 ⟨rfl, T, h⟩)
  · exact t8_inRf h2 (br0 (t9_inf h2 (br0 ⟨rfl, T, h⟩)))
def T0 (T : Tb) : Tb := (0, T.2)
theorem okT_T0 {T : Tb} : okT (T0 T) := ⟨Nat.zero_le _, fun y hy => absurd hy (Nat.not_lt_zero y)⟩
theorem eq_clear {c r : zz_Hp} (h : Sim c r) : w_X8_clear c (fun a c' => w_X9_clear r (fun b r' => a = b ∧ Sim c' r')) := by
  obtain ⟨T, h⟩ := h
  have hc : CT T c := h.2.1; have hr : RT T r := h.2.2.1
  intro c1 e1 c2 e2 c3 e3 c4 e4 c5 e5 r1 k1 r2 k2 r3 k3 r4 k4 r5 k5
  refine ⟨by rw [hc.1, hr.1], T0 T, ?_⟩
  subst e5 e4 e3 e2 e1 k5 k4 k3 k2 k1
  apply SimT.clr h
  case n_ok => exact okT_T0
  case n_ct => exact ⟨by simp [zz_uI]; rfl, fun y hy => absurd hy (Nat.not_lt_zero y)⟩
  case n_rt => exact ⟨by simp [zz_uI]; rfl, fun y hy => absurd hy (Nat.not_lt_zero y)⟩
  case n_bn => exact ⟨0, by omega, by simp [zz_uI]; rfl, by simp [zz_uI]; rfl, fun i hi => by omega⟩
  case n_ly => exact ⟨0, by omega, by simp [zz_uI]; rfl, by simp [zz_uI]; rfl, fun i hi => by omega⟩
  case n_jb => exact ⟨0, by omega, by simp [zz_uI]; rfl, by simp [zz_uI]; rfl, fun i hi => by omega⟩
  case n_sp => exact ⟨0, by omega, by simp [zz_uI]; rfl, by simp [zz_uI]; rfl, fun i hi => by omega⟩
  all_goals first | (funext i; simp [zz_uI]; done) | simp [zz_uI]
theorem t7_canBePart {T : Tb} (hT : okT T) {c : zz_Hp} (hc : CT T c) {y : Nat} {l : Int32} (e : l = nI y) (hy : y < yN T) {Q : Int32 → zz_Hp → Prop} (H0 : yD T y = 3 → Q 0 c) (H1 : yD T y < 3 → Q 1 c) : w_X7_canBePart l c Q := by
  have hn := hT.1
  have hD := hT.D3 hy
  unfold w_X7_canBePart
  refine t7_hast (yN T) y hc.1 hn hy e (bq1 (t7_fact y 5 (by omega) (by omega) e rfl ?_))
  rw [(hc.2 y hy).1.2.2.2.2.2.1, lit_3, nv_le (by omega) (by omega)]
  exact brc (fun q => H0 (by omega)) fun q => H1 (by omega)
theorem eq_part {c r : zz_Hp} (h : Sim c r) (l1 : Int32) : w_X8_part l1 c (fun a c' => w_X9_part l1 r (fun b r' => a = b ∧ Sim c' r')) := by
  obtain ⟨T, h⟩ := h
  have hT := h.1; have hc : CT T c := h.2.1; have hr : RT T r := h.2.2.1; have hn := hT.1
  obtain ⟨m, hm, e1, e2, e3⟩ := h.2.2.2.1
  unfold w_X8_part
  rcases ycase (yN T) (by omega) l1 with hl | ⟨y, hy, rfl⟩
  · exact t7_hasf (yN T) hc.1 hl (br0 (t9_isYf (yN T) hr.1 hn hl (br0 ⟨rfl, T, h⟩)))
  have hD := hT.D3 hy
  refine t7_hast (yN T) y hc.1 hn hy rfl (br1 ?_)
  rw [e1]
  refine brc (fun e => ?_) fun e => ?_
  · rw [lit_4, nv_lt (by omega) (by omega)] at e
    have hne : ¬ r.1 0 7 = 4 := by
      rw [e2]; intro z; have := nv_inj (by omega) (by omega) (z.trans lit_4); omega
    refine t7_canBePart hT hc rfl hy (fun d => br0 ?_) fun d => br1 ?_
    · refine t9_isYt (yN T) y hr.1 hn hy rfl (br1 (bnt hne (t9_depth hT hr 5 y rfl hy (by omega) (bnf ?_ ⟨rfl, T, h⟩))))
      rw [d]; rfl
    · rw [e1, nv_tn (by omega)]
      refine ⟨nv_in e (by decide), fun c1 k1 c2 k2 => t9_isYt (yN T) y hr.1 hn hy rfl (br1 (bnt hne (t9_depth hT hr 5 y rfl hy (by omega) (bnt ?_ ?_))))⟩
      · intro z; have := nv_inj (by omega) (by omega) (z.trans lit_3); omega
      rw [e2, nv_tn (by omega)]
      refine ⟨nv_in e (by decide), fun r1 q1 r2 q2 => ?_⟩
      have g1 : c1.1 0 4 = nI m := by rw [k1, zu_f (by decide)]; exact e1
      have g2 : r1.1 0 7 = nI m := by rw [q1, zu_f (by decide)]; exact e2
      rw [g1, nv_1] at k2
      rw [g2, nv_1] at q2
      refine ⟨by rw [k2, q2, zu_eq ⟨rfl, rfl⟩, zu_eq ⟨rfl, rfl⟩], T, ?_⟩
      subst k2 k1 q2 q1
      apply SimT.bun h
      case n_bn =>
        refine ⟨m + 1, by omega, zu_eq ⟨rfl, rfl⟩, zu_eq ⟨rfl, rfl⟩, fun i hi => ?_⟩
        by_cases z : i = m
        · subst z
          simp (disch := omega) only [zu_ne, zu_eq]
          exact ⟨y, hy, d, rfl, rfl⟩
        · simp (disch := omega) only [zu_ne]
          exact e3 i (by omega)
      all_goals first | (funext i; simp [zz_uI]; done) | simp [zz_uI]
  · rw [lit_4, nv_lt (by omega) (by omega)] at e
    refine t9_isYt (yN T) y hr.1 hn hy rfl (br1 (bnf ?_ ⟨rfl, T, h⟩))
    rw [e2, show m = 4 by omega]; rfl
