def w_X7_write (l1 : Int32) (l2 : Int32) (l3 : Int32) (h : zz_Hp) (Q : zz_Hp → Prop) : Prop :=
  vp_in ((l1 * 8) + l2) 128 ∧ ∀ h1, h1 = zz_uI h 3 (Int32.toNatClampNeg ((l1 * 8) + l2)) l3 → Q h1
def w_X8_inRange (l0 : Int32) (l1 : Int32) (l2 : Int32) (h : zz_Hp) (Q : Int32 → zz_Hp → Prop) : Prop :=
  
  ((l0 < l1 → Q 0 h) ∧
  (¬ (l0 < l1) → 
    ((l2 < l0 → Q 0 h) ∧
    (¬ (l2 < l0) → Q 1 h))))
def w_X8_canBeTold (l0 : Int32) (l1 : Int32) (h : zz_Hp) (Q : Int32 → zz_Hp → Prop) : Prop :=
  w_X8_inRange l0 0 3 h (fun r2 h1 => 
  ((r2 = 0 → Q 0 h1) ∧
  (¬ (r2 = 0) → vp_in l0 4 ∧ vp_in l0 4 ∧ w_X8_inRange l1 (zz_lt (Int32.toNatClampNeg l0)) (zz_mt (Int32.toNatClampNeg l0)) h1 (fun r4 h3 => 
    ((r4 = 0 → Q 0 h3) ∧
    (¬ (r4 = 0) → Q 1 h3))))))
def w_X7_addThread (l1 : Int32) (l2 : Int32) (l3 : Int32) (h : zz_Hp) (Q : Int32 → zz_Hp → Prop) : Prop :=
  w_X8_canBeTold 2 l1 h (fun r2 h1 => 
  ((r2 = 0 → Q ((-1)) h1) ∧
  (¬ (r2 = 0) → w_X8_canBeTold 1 l2 h1 (fun r4 h3 => 
    ((r4 = 0 → Q ((-1)) h3) ∧
    (¬ (r4 = 0) → w_X8_canBeTold 0 l3 h3 (fun r6 h5 => 
      ((¬ r6 = 0 → 
        (((h5.1 2 0) < 16 → ∀ h7, h7 = zz_uI h5 2 0 ((h5.1 2 0) + 1) → w_X7_write (h5.1 2 0) 0 l3 h7 (fun h8 => w_X7_write (h5.1 2 0) 1 l2 h8 (fun h10 => w_X7_write (h5.1 2 0) 2 l1 h10 (fun h12 => w_X7_write (h5.1 2 0) 3 0 h12 (fun h14 => w_X7_write (h5.1 2 0) 4 0 h14 (fun h16 => w_X7_write (h5.1 2 0) 5 0 h16 (fun h18 => w_X7_write (h5.1 2 0) 6 1 h18 (fun h20 => w_X7_write (h5.1 2 0) 7 (1 <<< ((h5.1 2 0) &&& 31)) h20 (fun h22 => Q (h5.1 2 0) h22))))))))) ∧
        (¬ ((h5.1 2 0) < 16) → Q ((-3)) h5))) ∧
      (r6 = 0 → Q ((-1)) h5)))))))))
def w_X8_thread (l1 : Int32) (l2 : Int32) (l3 : Int32) (h : zz_Hp) (Q : Int32 → zz_Hp → Prop) : Prop :=
  w_X7_addThread l1 l2 l3 h (fun r2 h1 => Q r2 h1)
def w_X7_fact (l1 : Int32) (l2 : Int32) (h : zz_Hp) (Q : Int32 → zz_Hp → Prop) : Prop :=
  vp_in ((l1 * 8) + l2) 128 ∧ Q (h.1 3 (Int32.toNatClampNeg ((l1 * 8) + l2))) h
def w_X7_has (l1 : Int32) (h : zz_Hp) (Q : Int32 → zz_Hp → Prop) : Prop :=
  
  ((l1 < 0 → Q 0 h) ∧
  (¬ (l1 < 0) → 
    (((h.1 2 0) ≤ l1 → Q 0 h) ∧
    (¬ ((h.1 2 0) ≤ l1) → Q 1 h))))
def w_X7_canBePart (l1 : Int32) (h : zz_Hp) (Q : Int32 → zz_Hp → Prop) : Prop :=
  w_X7_has l1 h (fun r2 h1 => 
  ((r2 = 0 → Q 0 h1) ∧
  (¬ (r2 = 0) → w_X7_fact l1 5 h1 (fun r4 h3 => 
    ((3 ≤ r4 → Q 0 h3) ∧
    (¬ (3 ≤ r4) → Q 1 h3))))))
def w_X8_part (l1 : Int32) (h : zz_Hp) (Q : Int32 → zz_Hp → Prop) : Prop :=
  w_X7_has l1 h (fun r2 h1 => 
  ((¬ r2 = 0 → 
    (((h1.1 0 4) < 4 → w_X7_canBePart l1 h1 (fun r4 h3 => 
      ((¬ r4 = 0 → vp_in (h3.1 0 4) 4 ∧ ∀ h5, h5 = zz_uI h3 17 (Int32.toNatClampNeg (h3.1 0 4)) l1 → ∀ h6, h6 = zz_uI h5 0 4 ((h5.1 0 4) + 1) → Q (h6.1 0 4) h6) ∧
      (r4 = 0 → Q ((-5)) h3)))) ∧
    (¬ ((h1.1 0 4) < 4) → Q ((-3)) h1))) ∧
  (r2 = 0 → Q ((-1)) h1)))
def w_X7_join_2_17_l14 (ag14 : Int32 × Int32 × Int32 × Int32 × zz_Hp → Prop) (Q : zz_Hp → Prop) (l1 : Int32) (l3 : Int32) (l4 : Int32) (l5 : Int32) (l6 : Int32) (l7 : Int32) (h : zz_Hp) : Prop :=
  
    ((l3 ≤ l7 → w_X7_write l1 4 l3 h (fun h1 => w_X7_write l1 5 l4 h1 (fun h3 => w_X7_write l1 6 l5 h3 (fun h5 => w_X7_write l1 7 l6 h5 (fun h7 => Q h7))))) ∧
    (¬ (l3 ≤ l7) → vp_in l7 4 ∧ vp_in ((l1 * 4) + l7) 64 ∧ ∀ h9, h9 = zz_uI h 4 (Int32.toNatClampNeg ((l1 * 4) + l7)) (h.1 17 (Int32.toNatClampNeg l7)) → w_X7_fact (h.1 17 (Int32.toNatClampNeg l7)) 5 h9 (fun r11 h10 => w_X7_fact (h.1 17 (Int32.toNatClampNeg l7)) 6 h10 (fun r13 h12 => w_X7_fact (h.1 17 (Int32.toNatClampNeg l7)) 7 h12 (fun r15 h14 => ag14 (if l4 < (r11 + 1) then (r11 + 1) else l4, l5 + r13, l6 ||| r15, l7 + 1, h14))))))
def w_X7_join_2_17 (l1 : Int32) (l3 : Int32) (h : zz_Hp) (Q : zz_Hp → Prop) : Prop :=
  lp (fun s ag => w_X7_join_2_17_l14 ag Q l1 l3 s.1 s.2.1 s.2.2.1 s.2.2.2.1 s.2.2.2.2) (0, 0, 1 <<< (l1 &&& 31), 0, h)
def w_X7_addPlied_2_17_l31 (ag31 : Int32 × zz_Hp → Prop) (Q : Int32 → zz_Hp → Prop) (l2 : Int32) (l3 : Int32) (l4 : Int32) (h : zz_Hp) : Prop :=
  
    ((l2 ≤ l4 → 
      (((h.1 2 0) < 16 → ∀ h5, h5 = zz_uI h 2 0 ((h.1 2 0) + 1) → w_X7_write (h.1 2 0) 0 l3 h5 (fun h6 => w_X7_write (h.1 2 0) 1 ((-1)) h6 (fun h8 => w_X7_write (h.1 2 0) 2 ((-1)) h8 (fun h10 => w_X7_write (h.1 2 0) 3 0 h10 (fun h12 => w_X7_join_2_17 (h.1 2 0) l2 h12 (fun h14 => Q (h.1 2 0) h14)))))) ∧
      (¬ ((h.1 2 0) < 16) → Q ((-3)) h))) ∧
    (¬ (l2 ≤ l4) → vp_in l4 4 ∧ w_X7_canBePart (h.1 17 (Int32.toNatClampNeg l4)) h (fun r17 h16 => 
      ((¬ r17 = 0 → ag31 (l4 + 1, h16)) ∧
      (r17 = 0 → Q ((-5)) h16)))))
def w_X7_addPlied_2_17 (l2 : Int32) (l3 : Int32) (h : zz_Hp) (Q : Int32 → zz_Hp → Prop) : Prop :=
  w_X8_canBeTold 0 l3 h (fun r2 h1 => 
  ((¬ r2 = 0 → w_X8_inRange l2 2 4 h1 (fun r4 h3 => 
    ((r4 = 0 → Q ((-5)) h3) ∧
    (¬ (r4 = 0) → 
      ((l2 ≤ 4 → lp (fun s ag => w_X7_addPlied_2_17_l31 ag Q l2 l3 s.1 s.2) (0, h3)) ∧
      (¬ (l2 ≤ 4) → Q ((-5)) h3)))))) ∧
  (r2 = 0 → Q ((-1)) h1)))
def w_X8_ply (l1 : Int32) (h : zz_Hp) (Q : Int32 → zz_Hp → Prop) : Prop :=
  w_X7_addPlied_2_17 (h.1 0 4) l1 h (fun r2 h1 => 
  ((r2 < 0 → Q r2 h1) ∧
  (¬ (r2 < 0) → ∀ h3, h3 = zz_uI h1 0 4 0 → Q r2 h3)))
def w_X1_empty_5  (h : zz_Hp) (Q : zz_Hp → Prop) : Prop :=
  ∀ h1, h1 = zz_uI h 5 0 0 → Q h1
def w_X1_empty_7  (h : zz_Hp) (Q : zz_Hp → Prop) : Prop :=
  ∀ h1, h1 = zz_uI h 7 0 0 → Q h1
def w_X0_empty  (h : zz_Hp) (Q : zz_Hp → Prop) : Prop :=
  ∀ h1, h1 = zz_uI h 2 0 0 → w_X1_empty_5  h1 (fun h2 => w_X1_empty_7  h2 (fun h4 => Q h4))
def w_X1_empty_18  (h : zz_Hp) (Q : zz_Hp → Prop) : Prop :=
  ∀ h1, h1 = zz_uI h 18 0 0 → Q h1
def w_X8_clear  (h : zz_Hp) (Q : Int32 → zz_Hp → Prop) : Prop :=
  w_X0_empty  h (fun h1 => ∀ h3, h3 = zz_uI h1 0 4 0 → w_X1_empty_18  h3 (fun h4 => Q (h.1 2 0) h4))
def w_X1_isFull_18  (h : zz_Hp) (Q : Int32 → zz_Hp → Prop) : Prop :=
  
  (((((h.1 18 0) + 1) * 3) ≤ 30 → Q 0 h) ∧
  (¬ ((((h.1 18 0) + 1) * 3) ≤ 30) → Q 1 h))
def w_X1_add_18 (l1 : Int32) (l2 : Int32) (l3 : Int32) (h : zz_Hp) (Q : zz_Hp → Prop) : Prop :=
  w_X1_isFull_18  h (fun r2 h1 => 
  ((¬ r2 = 0 → Q h1) ∧
  (r2 = 0 → vp_in ((h1.1 18 0) * 3) 30 ∧ ∀ h3, h3 = zz_uI h1 19 (Int32.toNatClampNeg ((h1.1 18 0) * 3)) l1 → vp_in (((h3.1 18 0) * 3) + 1) 30 ∧ ∀ h4, h4 = zz_uI h3 19 (Int32.toNatClampNeg (((h3.1 18 0) * 3) + 1)) l2 → vp_in (((h4.1 18 0) * 3) + 2) 30 ∧ ∀ h5, h5 = zz_uI h4 19 (Int32.toNatClampNeg (((h4.1 18 0) * 3) + 2)) l3 → ∀ h6, h6 = zz_uI h5 18 0 ((h5.1 18 0) + 1) → Q h6)))
def w_X1_drop_18 (l1 : Int32) (h : zz_Hp) (Q : zz_Hp → Prop) : Prop :=
  
  ((l1 < 0 → Q h) ∧
  (¬ (l1 < 0) → 
    (((h.1 18 0) ≤ l1 → Q h) ∧
    (¬ ((h.1 18 0) ≤ l1) → ¬ ((l1 + 1) * 3) < 0 ∧ ¬ (l1 * 3) < 0 ∧ ¬ ((((h.1 18 0) - l1) - 1) * 3) < 0 ∧ Int32.toNatClampNeg ((l1 + 1) * 3) + Int32.toNatClampNeg ((((h.1 18 0) - l1) - 1) * 3) ≤ 30 ∧ Int32.toNatClampNeg (l1 * 3) + Int32.toNatClampNeg ((((h.1 18 0) - l1) - 1) * 3) ≤ 30 ∧ ∀ h1, h1 = zz_uC h 19 19 (Int32.toNatClampNeg ((l1 + 1) * 3)) (Int32.toNatClampNeg (l1 * 3)) (Int32.toNatClampNeg ((((h.1 18 0) - l1) - 1) * 3)) → ∀ h2, h2 = zz_uI h1 18 0 ((h1.1 18 0) - 1) → Q h2))))
def w_X7_isThread (l1 : Int32) (h : zz_Hp) (Q : Int32 → zz_Hp → Prop) : Prop :=
  w_X7_has l1 h (fun r2 h1 => 
  ((r2 = 0 → Q 0 h1) ∧
  (¬ (r2 = 0) → w_X7_fact l1 4 h1 (fun r4 h3 => 
    ((¬ r4 = 0 → Q 0 h3) ∧
    (r4 = 0 → Q 1 h3))))))
def w_X7_tell_j41 (Q : Int32 → zz_Hp → Prop) (l1 : Int32) (l2 : Int32) (l3 : Int32)  (h : zz_Hp) : Prop :=
  w_X7_fact l2 l1 h (fun r8 h7 => w_X7_write l2 l1 l3 h7 (fun h9 => Q r8 h9))
def w_X7_tell (l1 : Int32) (l2 : Int32) (l3 : Int32) (h : zz_Hp) (Q : Int32 → zz_Hp → Prop) : Prop :=
  w_X8_canBeTold l1 l3 h (fun r2 h1 => 
  ((r2 = 0 → Q ((-2147483648)) h1) ∧
  (¬ (r2 = 0) → w_X7_has l2 h1 (fun r4 h3 => 
    ((¬ r4 = 0 → w_X7_isThread l2 h3 (fun r6 h5 => 
      ((¬ r6 = 0 → w_X7_tell_j41 Q l1 l2 l3  h5) ∧
      (r6 = 0 → 
        ((l1 = 1 → Q ((-10000)) h5) ∧
        (¬ (l1 = 1) → 
          ((¬ l1 = 2 → w_X7_tell_j41 Q l1 l2 l3  h5) ∧
          (l1 = 2 → Q ((-10000)) h5)))))))) ∧
    (r4 = 0 → Q ((-2147483648)) h3))))))
def w_X8_set_j47 (Q : Int32 → zz_Hp → Prop) (l1 : Int32) (l2 : Int32) (l4 : Int32)  (h : zz_Hp) : Prop :=
  w_X1_add_18 l1 l2 l4 h (fun h5 => Q l4 h5)
def w_X8_set (l1 : Int32) (l2 : Int32) (l3 : Int32) (h : zz_Hp) (Q : Int32 → zz_Hp → Prop) : Prop :=
  w_X7_tell l1 l2 l3 h (fun r2 h1 => 
  ((r2 ≤ ((-10000)) → Q r2 h1) ∧
  (¬ (r2 ≤ ((-10000))) → 
    ((r2 = l3 → Q r2 h1) ∧
    (¬ (r2 = l3) → w_X1_isFull_18  h1 (fun r4 h3 => 
      ((r4 = 0 → w_X8_set_j47 Q l1 l2 r2  h3) ∧
      (¬ (r4 = 0) → w_X1_drop_18 0 h3 (fun h7 => w_X8_set_j47 Q l1 l2 r2  h7)))))))))
def w_X8_byOfPlied (l0 : Int32) (l1 : Int32) (h : zz_Hp) (Q : Int32 → zz_Hp → Prop) : Prop :=
  Q (1000 - ((if 0 ≤ l0 then l0 else 0 - l0) * l1)) h
def w_X7_by (l1 : Int32) (h : zz_Hp) (Q : Int32 → zz_Hp → Prop) : Prop :=
  w_X7_fact l1 0 h (fun r2 h1 => w_X7_fact l1 4 h1 (fun r4 h3 => w_X8_byOfPlied r2 r4 h3 (fun r6 h5 => Q r6 h5)))
def w_X8_of (l1 : Int32) (l2 : Int32) (h : zz_Hp) (Q : Int32 → zz_Hp → Prop) : Prop :=
  w_X7_has l1 h (fun r2 h1 => 
  ((r2 = 0 → Q ((-2147483648)) h1) ∧
  (¬ (r2 = 0) → w_X8_inRange l2 0 7 h1 (fun r4 h3 => 
    ((¬ r4 = 0 → 
      ((¬ l2 = 7 → w_X7_fact l1 l2 h3 (fun r6 h5 => Q r6 h5)) ∧
      (l2 = 7 → w_X7_by l1 h3 (fun r8 h7 => Q r8 h7)))) ∧
    (r4 = 0 → Q ((-2147483648)) h3))))))
def w_X7_partAt (l1 : Int32) (l2 : Int32) (h : zz_Hp) (Q : Int32 → zz_Hp → Prop) : Prop :=
  vp_in ((l1 * 4) + l2) 64 ∧ Q (h.1 4 (Int32.toNatClampNeg ((l1 * 4) + l2))) h
def w_X8_partOf (l1 : Int32) (l2 : Int32) (h : zz_Hp) (Q : Int32 → zz_Hp → Prop) : Prop :=
  w_X7_has l1 h (fun r2 h1 => 
  ((r2 = 0 → Q ((-1)) h1) ∧
  (¬ (r2 = 0) → 
    ((0 ≤ l2 → w_X7_fact l1 4 h1 (fun r4 h3 => 
      ((r4 ≤ l2 → Q ((-2)) h3) ∧
      (¬ (r4 ≤ l2) → w_X7_partAt l1 l2 h3 (fun r6 h5 => Q r6 h5))))) ∧
    (¬ (0 ≤ l2) → Q ((-1)) h1)))))
def w_X2_lead_l99 (ag38 : Int32 × zz_Hp → Prop) (ag99 : Int32 × Int32 × zz_Hp → Prop) (Q : Int32 → zz_Hp → Prop) (l5 : Int32) (l4 : Int32) (l6 : Int32) (h : zz_Hp) : Prop :=
  w_X7_fact l5 4 h (fun r15 h14 => 
    ((r15 ≤ (l6 + 1) → ag38 (l4, h14)) ∧
    (¬ (r15 ≤ (l6 + 1)) → w_X7_fact (h14.1 35 0) 6 h14 (fun r17 h16 => 
      ((l4 < r17 → ag38 (l4, h16)) ∧
      (¬ (l4 < r17) → w_X7_fact (h16.1 35 0) 6 h16 (fun r19 h18 => w_X7_partAt l5 (l6 + 1) h18 (fun r21 h20 => ∀ h22, h22 = zz_uI h20 35 0 r21 → ag99 (l4 - r19, l6 + 1, h22)))))))))
def w_X2_lead_l38 (ag38 : Int32 × zz_Hp → Prop) (Q : Int32 → zz_Hp → Prop)  (l4 : Int32) (h : zz_Hp) : Prop :=
  
    ((3 ≤ (h.1 35 1) → Q 1 h) ∧
    (¬ (3 ≤ (h.1 35 1)) → w_X7_isThread (h.1 35 0) h (fun r8 h7 => 
      ((¬ r8 = 0 → Q 1 h7) ∧
      (r8 = 0 → vp_in (h7.1 35 1) 3 ∧ ∀ h9, h9 = zz_uI h7 36 (Int32.toNatClampNeg (h7.1 35 1)) (h7.1 35 0) → ∀ h10, h10 = zz_uI h9 35 1 ((h9.1 35 1) + 1) → w_X7_partAt (h7.1 35 0) 0 h10 (fun r12 h11 => ∀ h13, h13 = zz_uI h11 35 0 r12 → lp (fun s ag => w_X2_lead_l99 ag38 ag Q (h7.1 35 0) s.1 s.2.1 s.2.2) (l4, 0, h13)))))))
def w_X2_lead (l2 : Int32) (l3 : Int32) (h : zz_Hp) (Q : Int32 → zz_Hp → Prop) : Prop :=
  w_X7_has l2 h (fun r2 h1 => 
  ((r2 = 0 → Q 0 h1) ∧
  (¬ (r2 = 0) → 
    ((l3 < 0 → Q 0 h1) ∧
    (¬ (l3 < 0) → w_X7_fact l2 6 h1 (fun r4 h3 => 
      ((l3 < r4 → ∀ h5, h5 = zz_uI h3 35 0 l2 → ∀ h6, h6 = zz_uI h5 35 1 0 → lp (fun s ag => w_X2_lead_l38 ag Q  s.1 s.2) (l3, h6)) ∧
      (¬ (l3 < r4) → Q 0 h3))))))))
def w_X2_turnOf_l12 (ag12 : Int32 × Int32 × zz_Hp → Prop) (Q : Int32 → zz_Hp → Prop)  (l2 : Int32) (l3 : Int32) (h : zz_Hp) : Prop :=
  
    (((h.1 35 1) ≤ l3 → Q l2 h) ∧
    (¬ ((h.1 35 1) ≤ l3) → vp_in l3 3 ∧ w_X7_fact (h.1 36 (Int32.toNatClampNeg l3)) 0 h (fun r4 h3 => ag12 (l2 + r4, l3 + 1, h3))))
def w_X2_turnOf  (h : zz_Hp) (Q : Int32 → zz_Hp → Prop) : Prop :=
  w_X7_fact (h.1 35 0) 0 h (fun r2 h1 => lp (fun s ag => w_X2_turnOf_l12 ag Q  s.1 s.2.1 s.2.2) (r2, 0, h1))
def w_X8_leaf (l1 : Int32) (l2 : Int32) (l3 : Int32) (h : zz_Hp) (Q : Int32 → zz_Hp → Prop) : Prop :=
  w_X8_inRange l3 0 1 h (fun r2 h1 => 
  ((r2 = 0 → Q ((-2147483648)) h1) ∧
  (¬ (r2 = 0) → w_X2_lead l1 l2 h1 (fun r4 h3 => 
    ((¬ r4 = 0 → 
      ((¬ l3 = 0 → w_X2_turnOf  h3 (fun r6 h5 => Q r6 h5)) ∧
      (l3 = 0 → Q (h3.1 35 0) h3))) ∧
    (r4 = 0 → Q ((-2147483648)) h3))))))
def w_J7_fill_53178_20_l5 (ag5 : Int32 × zz_Hp → Prop) (Q : zz_Hp → Prop) (l1 : Int32) (l3 : Int32) (l2 : Int32) (h : zz_Hp) : Prop :=
  
    ((l3 ≤ l2 → Q h) ∧
    (¬ (l3 ≤ l2) → vp_in l2 4 ∧ ∀ h1, h1 = zz_uI h 20 (Int32.toNatClampNeg l2) l1 → ag5 (l2 + 1, h1)))
def w_J7_fill_53178_20 (l1 : Int32) (h : zz_Hp) (Q : zz_Hp → Prop) : Prop :=
  lp (fun s ag => w_J7_fill_53178_20_l5 ag Q l1 4 s.1 s.2) (0, h)
def w_X6_countFibres_l7 (ag7 : Int32 × zz_Hp → Prop) (Q : zz_Hp → Prop)  (l3 : Int32) (h : zz_Hp) : Prop :=
  
    (((h.1 27 0) ≤ l3 → Q h) ∧
    (¬ ((h.1 27 0) ≤ l3) → vp_in l3 85 ∧ w_X7_fact (h.1 28 (Int32.toNatClampNeg l3)) 2 h (fun r4 h3 => 
      ((r4 < 0 → ag7 (l3 + 1, h3)) ∧
      (¬ (r4 < 0) → 
        ((4 ≤ r4 → ag7 (l3 + 1, h3)) ∧
        (¬ (4 ≤ r4) → vp_in r4 4 ∧ vp_in l3 85 ∧ vp_in r4 4 ∧ ∀ h5, h5 = zz_uI h3 20 (Int32.toNatClampNeg r4) ((h3.1 20 (Int32.toNatClampNeg r4)) + (h3.1 30 (Int32.toNatClampNeg l3))) → ag7 (l3 + 1, h5))))))))
def w_X6_countFibres  (h : zz_Hp) (Q : zz_Hp → Prop) : Prop :=
  w_J7_fill_53178_20 0 h (fun h1 => lp (fun s ag => w_X6_countFibres_l7 ag Q  s.1 s.2) (0, h1))
def w_X6_turnBy (l1 : Int32) (l2 : Int32) (h : zz_Hp) (Q : Int32 → zz_Hp → Prop) : Prop :=
  vp_in l1 85 ∧ 
  (((h.1 32 (Int32.toNatClampNeg l1)) = 0 → vp_in l1 85 ∧ Q (h.1 29 (Int32.toNatClampNeg l1)) h) ∧
  (¬ ((h.1 32 (Int32.toNatClampNeg l1)) = 0) → vp_in l1 85 ∧ Q ((h.1 29 (Int32.toNatClampNeg l1)) + l2) h))
def w_X8_beyondEase (l0 : Int32) (h : zz_Hp) (Q : Int32 → zz_Hp → Prop) : Prop :=
  
  ((l0 ≤ 20 → 
    ((((-20)) ≤ l0 → Q 0 h) ∧
    (¬ (((-20)) ≤ l0) → Q (l0 + 20) h))) ∧
  (¬ (l0 ≤ 20) → Q (l0 - 20) h))
def w_X8_fibrePull (l0 : Int32) (l1 : Int32) (l2 : Int32) (h : zz_Hp) (Q : Int32 → zz_Hp → Prop) : Prop :=
  
  (((Int32.toInt l0) = 1 → Q ((2 * l1) * l2) h) ∧
  ((Int32.toInt l0) = 2 → Q ((l1 * l2) / 2) h) ∧
  ((Int32.toInt l0) = 3 → w_X8_beyondEase l2 h (fun r2 h1 => Q ((l1 * l2) + (l1 * r2)) h1)) ∧
  (((Int32.toInt l0) < 1 ∨ 3 < (Int32.toInt l0)) → Q (l1 * l2) h))
def w_X6_torqueWithout_j80 (ag6 : Int32 × Int32 × zz_Hp → Prop) (Q : Int32 → zz_Hp → Prop) (l2 : Int32) (l3 : Int32) (l4 : Int32) (l5 : Int32) (s0 : Int32) (h : zz_Hp) : Prop :=
  vp_in l5 85 ∧ ag6 (l4 + ((h.1 30 (Int32.toNatClampNeg l5)) * s0), l5 + 1, h)
def w_X6_torqueWithout_l6 (ag6 : Int32 × Int32 × zz_Hp → Prop) (Q : Int32 → zz_Hp → Prop) (l2 : Int32) (l3 : Int32) (l4 : Int32) (l5 : Int32) (h : zz_Hp) : Prop :=
  
    (((h.1 27 0) ≤ l5 → Q l4 h) ∧
    (¬ ((h.1 27 0) ≤ l5) → vp_in l5 85 ∧ 
      (((h.1 28 (Int32.toNatClampNeg l5)) = l2 → ag6 (l4, l5 + 1, h)) ∧
      (¬ ((h.1 28 (Int32.toNatClampNeg l5)) = l2) → w_X6_turnBy l5 l3 h (fun r2 h1 => w_X7_fact (h.1 28 (Int32.toNatClampNeg l5)) 4 h1 (fun r4 h3 => 
        ((r4 ≤ 0 → w_X7_fact (h.1 28 (Int32.toNatClampNeg l5)) 2 h3 (fun r6 h5 => w_X7_fact (h.1 28 (Int32.toNatClampNeg l5)) 1 h5 (fun r8 h7 => w_X8_fibrePull r6 r8 r2 h7 (fun r10 h9 => w_X6_torqueWithout_j80 ag6 Q l2 l3 l4 l5 r10 h9)))) ∧
        (¬ (r4 ≤ 0) → w_X6_torqueWithout_j80 ag6 Q l2 l3 l4 l5 (r2 * r4) h3))))))))
def w_X6_torqueWithout (l2 : Int32) (l3 : Int32) (h : zz_Hp) (Q : Int32 → zz_Hp → Prop) : Prop :=
  lp (fun s ag => w_X6_torqueWithout_l6 ag Q l2 l3 s.1 s.2.1 s.2.2) (0, 0, h)
def w_X6_torqueBy (l2 : Int32) (h : zz_Hp) (Q : Int32 → zz_Hp → Prop) : Prop :=
  w_X6_torqueWithout ((-1)) l2 h (fun r2 h1 => Q r2 h1)
def w_X6_addPlace_j135 (Q : zz_Hp → Prop)   (h : zz_Hp) : Prop :=
  ∀ h8, h8 = zz_uI h 27 0 ((h.1 27 0) + 1) → Q h8
def w_X6_addPlace_j87 (Q : zz_Hp → Prop) (l3 : Int32) (s0 : Int32) (s1 : Int32) (h : zz_Hp) : Prop :=
  vp_in s1 85 ∧ (s0 = 0 ∨ s0 = 1) ∧ ∀ h6, h6 = zz_uI h 32 (Int32.toNatClampNeg s1) s0 → vp_in (h6.1 27 0) 85 ∧ ∀ h7, h7 = zz_uI h6 30 (Int32.toNatClampNeg (h6.1 27 0)) 1 → 
  ((l3 < 0 → w_X6_addPlace_j135 Q   h7) ∧
  (¬ (l3 < 0) → vp_in (h7.1 27 0) 85 ∧ vp_in l3 85 ∧ vp_in (h7.1 27 0) 85 ∧ ∀ h9, h9 = zz_uI h7 29 (Int32.toNatClampNeg (h7.1 27 0)) ((h7.1 29 (Int32.toNatClampNeg (h7.1 27 0))) + (h7.1 29 (Int32.toNatClampNeg l3))) → vp_in l3 85 ∧ vp_in (h9.1 27 0) 85 ∧ ∀ h10, h10 = zz_uI h9 30 (Int32.toNatClampNeg (h9.1 27 0)) (h9.1 30 (Int32.toNatClampNeg l3)) → w_X6_addPlace_j135 Q   h10))
def w_X6_addPlace_j82 (Q : zz_Hp → Prop) (l3 : Int32) (s0 : Int32) (h : zz_Hp) : Prop :=
  w_X6_addPlace_j87 Q l3 1 s0 h
def w_X6_addPlace_j86 (Q : zz_Hp → Prop) (l3 : Int32) (s0 : Int32) (h : zz_Hp) : Prop :=
  w_X6_addPlace_j87 Q l3 0 s0 h
def w_X6_addPlace_j54 (Q : zz_Hp → Prop) (l2 : Int32) (l3 : Int32) (l4 : Int32) (s0 : Int32) (s1 : Int32) (h : zz_Hp) : Prop :=
  vp_in s1 85 ∧ ∀ h5, h5 = zz_uI h 29 (Int32.toNatClampNeg s1) s0 → 
  ((l2 = l4 → w_X6_addPlace_j82 Q l3 (h5.1 27 0) h5) ∧
  (¬ (l2 = l4) → 
    ((l3 < 0 → w_X6_addPlace_j86 Q l3 (h5.1 27 0) h5) ∧
    (¬ (l3 < 0) → vp_in l3 85 ∧ 
      (((h5.1 32 (Int32.toNatClampNeg l3)) = 0 → w_X6_addPlace_j86 Q l3 (h5.1 27 0) h5) ∧
      (¬ ((h5.1 32 (Int32.toNatClampNeg l3)) = 0) → w_X6_addPlace_j82 Q l3 (h5.1 27 0) h5))))))
def w_X6_addPlace (l2 : Int32) (l3 : Int32) (l4 : Int32) (h : zz_Hp) (Q : zz_Hp → Prop) : Prop :=
  
  (((h.1 27 0) < 85 → vp_in (h.1 27 0) 85 ∧ ∀ h1, h1 = zz_uI h 28 (Int32.toNatClampNeg (h.1 27 0)) l2 → vp_in (h1.1 27 0) 85 ∧ ∀ h2, h2 = zz_uI h1 31 (Int32.toNatClampNeg (h1.1 27 0)) l3 → 
    ((¬ l2 = l4 → w_X7_fact l2 0 h2 (fun r4 h3 => w_X6_addPlace_j54 Q l2 l3 l4 r4 (h2.1 27 0) h3)) ∧
    (l2 = l4 → w_X6_addPlace_j54 Q l2 l3 l4 0 (h2.1 27 0) h2))) ∧
  (¬ ((h.1 27 0) < 85) → Q h))
def w_X6_addParts_j74 (ag22 : Int32 × zz_Hp → Prop) (Q : zz_Hp → Prop) (l2 : Int32) (l3 : Int32) (l4 : Int32) (l5 : Int32) (l6 : Int32) (l7 : Int32) (l8 : Int32)  (h : zz_Hp) : Prop :=
  
  (((h.1 27 0) ≤ l8 → w_X6_addPlace l7 l2 l3 h (fun h5 => ag22 (l6 + 1, h5))) ∧
  (¬ ((h.1 27 0) ≤ l8) → vp_in l8 85 ∧ vp_in l2 85 ∧ vp_in l8 85 ∧ ∀ h7, h7 = zz_uI h 30 (Int32.toNatClampNeg l8) ((h.1 30 (Int32.toNatClampNeg l8)) + (h.1 30 (Int32.toNatClampNeg l2))) → ag22 (l6 + 1, h7)))
def w_X6_addParts_l47 (ag22 : Int32 × zz_Hp → Prop) (ag47 : Int32 × zz_Hp → Prop) (Q : zz_Hp → Prop) (l2 : Int32) (l3 : Int32) (l4 : Int32) (l5 : Int32) (l6 : Int32) (l7 : Int32) (l8 : Int32) (h : zz_Hp) : Prop :=
  
    (((h.1 27 0) ≤ l8 → w_X6_addParts_j74 ag22 Q l2 l3 l4 l5 l6 l7 l8  h) ∧
    (¬ ((h.1 27 0) ≤ l8) → vp_in l8 85 ∧ 
      (((h.1 28 (Int32.toNatClampNeg l8)) = l7 → w_X6_addParts_j74 ag22 Q l2 l3 l4 l5 l6 l7 l8  h) ∧
      (¬ ((h.1 28 (Int32.toNatClampNeg l8)) = l7) → ag47 (l8 + 1, h)))))
def w_X6_addParts_l22 (ag22 : Int32 × zz_Hp → Prop) (Q : zz_Hp → Prop) (l2 : Int32) (l3 : Int32) (l4 : Int32) (l5 : Int32) (l6 : Int32) (h : zz_Hp) : Prop :=
  
    ((l5 ≤ l6 → Q h) ∧
    (¬ (l5 ≤ l6) → vp_in l2 85 ∧ w_X7_partAt (h.1 28 (Int32.toNatClampNeg l2)) l6 h (fun r4 h3 => lp (fun s ag => w_X6_addParts_l47 ag22 ag Q l2 l3 l4 l5 l6 r4 s.1 s.2) (l4, h3))))
def w_X6_addParts (l2 : Int32) (l3 : Int32) (h : zz_Hp) (Q : zz_Hp → Prop) : Prop :=
  vp_in l2 85 ∧ w_X7_fact (h.1 28 (Int32.toNatClampNeg l2)) 4 h (fun r2 h1 => lp (fun s ag => w_X6_addParts_l22 ag Q l2 l3 (h.1 27 0) r2 s.1 s.2) (0, h1))
def w_X6_walk_l16 (ag16 : Int32 × zz_Hp → Prop) (Q : zz_Hp → Prop) (l3 : Int32) (l4 : Int32) (h : zz_Hp) : Prop :=
  
    (((h.1 27 0) ≤ l4 → Q h) ∧
    (¬ ((h.1 27 0) ≤ l4) → 
      ((85 ≤ l4 → Q h) ∧
      (¬ (85 ≤ l4) → w_X6_addParts l4 l3 h (fun h4 => ag16 (l4 + 1, h4))))))
def w_X6_walk (l2 : Int32) (l3 : Int32) (h : zz_Hp) (Q : zz_Hp → Prop) : Prop :=
  ∀ h1, h1 = zz_uI h 27 0 0 → w_X6_addPlace l2 ((-1)) l3 h1 (fun h2 => lp (fun s ag => w_X6_walk_l16 ag Q l3 s.1 s.2) (0, h2))
def w_X8_torqueOf (l1 : Int32) (h : zz_Hp) (Q : Int32 → zz_Hp → Prop) : Prop :=
  w_X6_walk l1 ((-1)) h (fun h1 => w_X6_torqueBy 0 h1 (fun r4 h3 => Q r4 h3))
def w_X8_torque (l1 : Int32) (h : zz_Hp) (Q : Int32 → zz_Hp → Prop) : Prop :=
  w_X7_has l1 h (fun r2 h1 => 
  ((¬ r2 = 0 → w_X8_torqueOf l1 h1 (fun r4 h3 => w_X6_countFibres  h3 (fun h5 => Q r4 h5))) ∧
  (r2 = 0 → Q ((-2147483648)) h1)))
def w_X8_tally (l1 : Int32) (h : zz_Hp) (Q : Int32 → zz_Hp → Prop) : Prop :=
  w_X8_inRange l1 0 3 h (fun r2 h1 => 
  ((r2 = 0 → Q ((-1)) h1) ∧
  (¬ (r2 = 0) → vp_in l1 4 ∧ Q (h1.1 20 (Int32.toNatClampNeg l1)) h1)))
def w_X2_byOf_l5 (ag5 : Int64 × Int32 × zz_Hp → Prop) (Q : Int64 → zz_Hp → Prop)  (l2 : Int64) (l4 : Int32) (h : zz_Hp) : Prop :=
  
    (((h.1 35 1) ≤ l4 → Q l2 h) ∧
    (¬ ((h.1 35 1) ≤ l4) → vp_in l4 3 ∧ w_X7_by (h.1 36 (Int32.toNatClampNeg l4)) h (fun r2 h1 => ag5 (l2 * (Int32.toInt64 r2), l4 + 1, h1))))
def w_X2_byOf  (h : zz_Hp) (Q : Int64 → zz_Hp → Prop) : Prop :=
  lp (fun s ag => w_X2_byOf_l5 ag Q  s.1 s.2.1 s.2.2) (1, 0, h)
def w_X2_wholeOf_l4 (ag4 : Int64 × Int32 × zz_Hp → Prop) (Q : Int64 → zz_Hp → Prop)  (l1 : Int64) (l3 : Int32) (h : zz_Hp) : Prop :=
  
    (((h.1 35 1) ≤ l3 → Q l1 h) ∧
    (¬ ((h.1 35 1) ≤ l3) → ag4 (l1 * 1000, l3 + 1, h)))
def w_X2_wholeOf  (h : zz_Hp) (Q : Int64 → zz_Hp → Prop) : Prop :=
  lp (fun s ag => w_X2_wholeOf_l4 ag Q  s.1 s.2.1 s.2.2) (1, 0, h)
def w_X8_commonDivisor_l9 (ag9 : Int64 × Int64 × Int32 × zz_Hp → Prop) (Q : Int64 → zz_Hp → Prop)  (l4 : Int64) (l6 : Int64) (l8 : Int32) (h : zz_Hp) : Prop :=
  
    ((128 ≤ l8 → Q l4 h) ∧
    (¬ (128 ≤ l8) → 
      (((lg_cmp l6 0) = 0 → Q l4 h) ∧
      (¬ ((lg_cmp l6 0) = 0) → ¬ l6 = 0 ∧ ag9 (l6, l4 - l4 / l6 * l6, l8 + 1, h)))))
def w_X8_commonDivisor (l0 : Int64) (l2 : Int64) (h : zz_Hp) (Q : Int64 → zz_Hp → Prop) : Prop :=
  lp (fun s ag => w_X8_commonDivisor_l9 ag Q  s.1 s.2.1 s.2.2.1 s.2.2.2) (l0, l2, 0, h)
def w_X8_kept (l1 : Int32) (l2 : Int32) (l3 : Int32) (h : zz_Hp) (Q : Int64 → zz_Hp → Prop) : Prop :=
  w_X8_inRange l3 0 1 h (fun r2 h1 => 
  ((r2 = 0 → Q ((-2147483648)) h1) ∧
  (¬ (r2 = 0) → w_X2_lead l1 l2 h1 (fun r4 h3 => 
    ((¬ r4 = 0 → w_X2_byOf  h3 (fun r6 h5 => w_X2_wholeOf  h5 (fun r8 h7 => w_X8_commonDivisor r6 r8 h7 (fun r10 h9 => 
      ((0 < (lg_cmp r10 0) → 
        ((¬ l3 = 0 → ¬ r10 = 0 ∧ Q (r8 / r10) h9) ∧
        (l3 = 0 → ¬ r10 = 0 ∧ Q (r6 / r10) h9))) ∧
      (¬ (0 < (lg_cmp r10 0)) → Q ((-2147483648)) h9)))))) ∧
    (r4 = 0 → Q ((-2147483648)) h3))))))
def w_X8_cutUp (l0 : Int32) (l1 : Int32) (h : zz_Hp) (Q : Int32 → zz_Hp → Prop) : Prop :=
  
  ((0 < l1 → ¬ l1 = 0 ∧ Q (((l0 + l1) - 1) / l1) h) ∧
  (¬ (0 < l1) → Q 0 h))
def w_X2_needsFor_l5 (ag5 : Int32 × Int32 × zz_Hp → Prop) (Q : Int32 → zz_Hp → Prop)  (l3 : Int32) (l4 : Int32) (h : zz_Hp) : Prop :=
  
    (((h.1 35 1) ≤ l4 → Q l3 h) ∧
    (¬ ((h.1 35 1) ≤ l4) → vp_in l4 3 ∧ w_X7_by (h.1 36 (Int32.toNatClampNeg l4)) h (fun r2 h1 => w_X8_cutUp (l3 * 1000) r2 h1 (fun r4 h3 => ag5 (r4, l4 + 1, h3)))))
def w_X2_needsFor (l2 : Int32) (h : zz_Hp) (Q : Int32 → zz_Hp → Prop) : Prop :=
  lp (fun s ag => w_X2_needsFor_l5 ag Q  s.1 s.2.1 s.2.2) (l2, 0, h)
def w_X8_needs (l1 : Int32) (l2 : Int32) (l3 : Int32) (h : zz_Hp) (Q : Int32 → zz_Hp → Prop) : Prop :=
  w_X8_inRange l3 0 9999 h (fun r2 h1 => 
  ((r2 = 0 → Q ((-1)) h1) ∧
  (¬ (r2 = 0) → w_X2_lead l1 l2 h1 (fun r4 h3 => 
    ((¬ r4 = 0 → w_X2_needsFor l3 h3 (fun r6 h5 => Q r6 h5)) ∧
    (r4 = 0 → Q ((-1)) h3))))))
def w_J7_fill_53178_34_l5 (ag5 : Int32 × zz_Hp → Prop) (Q : zz_Hp → Prop) (l1 : Int32) (l3 : Int32) (l2 : Int32) (h : zz_Hp) : Prop :=
  
    ((l3 ≤ l2 → Q h) ∧
    (¬ (l3 ≤ l2) → vp_in l2 16 ∧ ∀ h1, h1 = zz_uI h 34 (Int32.toNatClampNeg l2) l1 → ag5 (l2 + 1, h1)))
def w_J7_fill_53178_34 (l1 : Int32) (h : zz_Hp) (Q : zz_Hp → Prop) : Prop :=
  lp (fun s ag => w_J7_fill_53178_34_l5 ag Q l1 16 s.1 s.2) (0, h)
def w_X6_draw_j65 (ag10 : Int32 × zz_Hp → Prop) (Q : zz_Hp → Prop) (l2 : Int32) (l3 : Int32) (s0 : Int32) (s1 : Int32) (h : zz_Hp) : Prop :=
  vp_in s1 85 ∧ ∀ h7, h7 = zz_uI h 33 (Int32.toNatClampNeg s1) s0 → vp_in l3 85 ∧ w_X7_isThread (h7.1 28 (Int32.toNatClampNeg l3)) h7 (fun r9 h8 => 
  ((r9 = 0 → ag10 (l3 + 1, h8)) ∧
  (¬ (r9 = 0) → vp_in l3 85 ∧ vp_in (h8.1 28 (Int32.toNatClampNeg l3)) 16 ∧ vp_in l3 85 ∧ vp_in l3 85 ∧ vp_in (h8.1 28 (Int32.toNatClampNeg l3)) 16 ∧ ∀ h10, h10 = zz_uI h8 34 (Int32.toNatClampNeg (h8.1 28 (Int32.toNatClampNeg l3))) ((h8.1 34 (Int32.toNatClampNeg (h8.1 28 (Int32.toNatClampNeg l3)))) + ((h8.1 30 (Int32.toNatClampNeg l3)) * (h8.1 33 (Int32.toNatClampNeg l3)))) → ag10 (l3 + 1, h10))))
def w_X6_draw_l10 (ag10 : Int32 × zz_Hp → Prop) (Q : zz_Hp → Prop) (l2 : Int32) (l3 : Int32) (h : zz_Hp) : Prop :=
  
    (((h.1 27 0) ≤ l3 → Q h) ∧
    (¬ ((h.1 27 0) ≤ l3) → vp_in l3 85 ∧ 
      ((0 ≤ (h.1 31 (Int32.toNatClampNeg l3)) → vp_in (h.1 31 (Int32.toNatClampNeg l3)) 85 ∧ vp_in (h.1 31 (Int32.toNatClampNeg l3)) 85 ∧ w_X7_by (h.1 28 (Int32.toNatClampNeg (h.1 31 (Int32.toNatClampNeg l3)))) h (fun r4 h3 => w_X8_cutUp ((h.1 33 (Int32.toNatClampNeg (h.1 31 (Int32.toNatClampNeg l3)))) * 1000) r4 h3 (fun r6 h5 => w_X6_draw_j65 ag10 Q l2 l3 r6 l3 h5))) ∧
      (¬ (0 ≤ (h.1 31 (Int32.toNatClampNeg l3))) → w_X6_draw_j65 ag10 Q l2 l3 l2 l3 h))))
def w_X6_draw (l2 : Int32) (h : zz_Hp) (Q : zz_Hp → Prop) : Prop :=
  w_J7_fill_53178_34 0 h (fun h1 => lp (fun s ag => w_X6_draw_l10 ag Q l2 s.1 s.2) (0, h1))
def w_X6_heavyOf_l4 (ag4 : Int32 × Int32 × zz_Hp → Prop) (Q : Int32 → zz_Hp → Prop)  (l2 : Int32) (l3 : Int32) (h : zz_Hp) : Prop :=
  
    (((h.1 2 0) ≤ l3 → Q (l2 / 100) h) ∧
    (¬ ((h.1 2 0) ≤ l3) → vp_in l3 16 ∧ w_X7_fact l3 1 h (fun r2 h1 => ag4 (l2 + ((h.1 34 (Int32.toNatClampNeg l3)) * r2), l3 + 1, h1))))
def w_X6_heavyOf  (h : zz_Hp) (Q : Int32 → zz_Hp → Prop) : Prop :=
  lp (fun s ag => w_X6_heavyOf_l4 ag Q  s.1 s.2.1 s.2.2) (0, 0, h)
def w_X8_heavy (l1 : Int32) (l2 : Int32) (h : zz_Hp) (Q : Int32 → zz_Hp → Prop) : Prop :=
  w_X7_has l1 h (fun r2 h1 => 
  ((r2 = 0 → Q ((-1)) h1) ∧
  (¬ (r2 = 0) → w_X8_inRange l2 0 9999 h1 (fun r4 h3 => 
    ((¬ r4 = 0 → w_X6_walk l1 ((-1)) h3 (fun h5 => w_X6_draw l2 h5 (fun h7 => w_X6_heavyOf  h7 (fun r10 h9 => Q r10 h9)))) ∧
    (r4 = 0 → Q ((-1)) h3))))))
def w_X7_isInside (l1 : Int32) (l2 : Int32) (h : zz_Hp) (Q : Int32 → zz_Hp → Prop) : Prop :=
  w_X7_fact l2 7 h (fun r2 h1 => 
  ((¬ ((r2 >>> (l1 &&& 31)) &&& 1) = 1 → Q 0 h1) ∧
  (((r2 >>> (l1 &&& 31)) &&& 1) = 1 → Q 1 h1)))
def w_X8_balance_l107 (ag97 : Int32 × Int32 × Int32 × zz_Hp → Prop) (ag107 : Int32 × Int32 × Int32 × zz_Hp → Prop) (Q : Int32 → zz_Hp → Prop) (l3 : Int32) (l6 : Int32) (l4 : Int32) (l5 : Int32) (l7 : Int32) (h : zz_Hp) : Prop :=
  
    ((1 < l7 → ag97 (l4, l5, l6 + 1, h)) ∧
    (¬ (1 < l7) → w_X6_torqueBy (l7 * l6) h (fun r14 h13 => 
      (((if 0 ≤ l5 then l5 else 0 - l5) ≤ (if 0 ≤ r14 then r14 else 0 - r14) → ag107 (l4, l5, l7 + 2, h13)) ∧
      (¬ ((if 0 ≤ l5 then l5 else 0 - l5) ≤ (if 0 ≤ r14 then r14 else 0 - r14)) → ag107 (l7 * l6, r14, l7 + 2, h13))))))
def w_X8_balance_l97 (ag97 : Int32 × Int32 × Int32 × zz_Hp → Prop) (Q : Int32 → zz_Hp → Prop) (l3 : Int32) (l4 : Int32) (l5 : Int32) (l6 : Int32) (h : zz_Hp) : Prop :=
  
    ((99 < l6 → 
      ((¬ l3 = 0 → Q l5 h) ∧
      (l3 = 0 → Q l4 h))) ∧
    (¬ (99 < l6) → lp (fun s ag => w_X8_balance_l107 ag97 ag Q l3 l6 s.1 s.2.1 s.2.2.1 s.2.2.2) (l4, l5, (-1), h)))
def w_X8_balance (l1 : Int32) (l2 : Int32) (l3 : Int32) (h : zz_Hp) (Q : Int32 → zz_Hp → Prop) : Prop :=
  w_X7_has l1 h (fun r2 h1 => 
  ((r2 = 0 → Q ((-2147483648)) h1) ∧
  (¬ (r2 = 0) → w_X7_has l2 h1 (fun r4 h3 => 
    ((r4 = 0 → Q ((-2147483648)) h3) ∧
    (¬ (r4 = 0) → w_X8_inRange l3 0 1 h3 (fun r6 h5 => 
      ((¬ r6 = 0 → w_X7_isInside l2 l1 h5 (fun r8 h7 => 
        ((¬ r8 = 0 → w_X6_walk l1 l2 h7 (fun h9 => w_X6_torqueBy 0 h9 (fun r12 h11 => lp (fun s ag => w_X8_balance_l97 ag Q l3 s.1 s.2.1 s.2.2.1 s.2.2.2) (0, r12, 1, h11)))) ∧
        (r8 = 0 → Q ((-10000000)) h7)))) ∧
      (r6 = 0 → Q ((-2147483648)) h5)))))))))
def w_X8_plannedHeavy (l0 : Int32) (l1 : Int32) (l2 : Int32) (h : zz_Hp) (Q : Int32 → zz_Hp → Prop) : Prop :=
  w_X8_byOfPlied l1 l2 h (fun r2 h1 => w_X8_cutUp 100000 r2 h1 (fun r4 h3 => Q (((l2 * l0) * r4) / 100) h3))
def w_X8_plan_l65 (ag65 : Int32 × Int32 × zz_Hp → Prop) (Q : Int32 → zz_Hp → Prop) (l2 : Int32) (l3 : Int32) (l4 : Int32) (l5 : Int32) (l6 : Int32) (l7 : Int32) (h : zz_Hp) : Prop :=
  
    ((4 < l7 → 
      ((¬ l4 = 0 → w_X8_plannedHeavy l5 l2 l6 h (fun r12 h11 => Q r12 h11)) ∧
      (l4 = 0 → Q l6 h))) ∧
    (¬ (4 < l7) → w_X8_plannedHeavy l5 l2 l7 h (fun r14 h13 => w_X8_plannedHeavy l5 l2 l6 h13 (fun r16 h15 => 
      (((if 0 ≤ (r16 - l3) then (r16 - l3) else 0 - (r16 - l3)) ≤ (if 0 ≤ (r14 - l3) then (r14 - l3) else 0 - (r14 - l3)) → ag65 (l6, l7 + 1, h15)) ∧
      (¬ ((if 0 ≤ (r16 - l3) then (r16 - l3) else 0 - (r16 - l3)) ≤ (if 0 ≤ (r14 - l3) then (r14 - l3) else 0 - (r14 - l3))) → ag65 (l7, l7 + 1, h15)))))))
def w_X8_plan (l1 : Int32) (l2 : Int32) (l3 : Int32) (l4 : Int32) (h : zz_Hp) (Q : Int32 → zz_Hp → Prop) : Prop :=
  w_X7_isThread l1 h (fun r2 h1 => 
  ((r2 = 0 → Q ((-1)) h1) ∧
  (¬ (r2 = 0) → w_X8_canBeTold 0 l2 h1 (fun r4 h3 => 
    ((r4 = 0 → Q ((-1)) h3) ∧
    (¬ (r4 = 0) → w_X8_inRange l3 0 9999 h3 (fun r6 h5 => 
      ((r6 = 0 → Q ((-1)) h5) ∧
      (¬ (r6 = 0) → w_X8_inRange l4 0 1 h5 (fun r8 h7 => 
        ((¬ r8 = 0 → w_X7_fact l1 1 h7 (fun r10 h9 => lp (fun s ag => w_X8_plan_l65 ag Q l2 l3 l4 r10 s.1 s.2.1 s.2.2) (2, 3, h9))) ∧
        (r8 = 0 → Q ((-1)) h7))))))))))))
def w_X6_isInStock_l2 (ag2 : Int32 × zz_Hp → Prop) (Q : Int32 → zz_Hp → Prop)  (l2 : Int32) (h : zz_Hp) : Prop :=
  
    (((h.1 2 0) ≤ l2 → Q 1 h) ∧
    (¬ ((h.1 2 0) ≤ l2) → vp_in l2 16 ∧ w_X7_fact l2 3 h (fun r2 h1 => 
      (((h.1 34 (Int32.toNatClampNeg l2)) ≤ r2 → ag2 (l2 + 1, h1)) ∧
      (¬ ((h.1 34 (Int32.toNatClampNeg l2)) ≤ r2) → Q 0 h1)))))
def w_X6_isInStock  (h : zz_Hp) (Q : Int32 → zz_Hp → Prop) : Prop :=
  lp (fun s ag => w_X6_isInStock_l2 ag Q  s.1 s.2) (0, h)
def w_X8_can_l76 (ag76 : Int32 × Int32 × Int32 × zz_Hp → Prop) (Q : Int32 → zz_Hp → Prop)  (l2 : Int32) (l3 : Int32) (l4 : Int32) (h : zz_Hp) : Prop :=
  
    ((14 ≤ l4 → Q l2 h) ∧
    (¬ (14 ≤ l4) → 
      ((l3 ≤ l2 → Q l2 h) ∧
      (¬ (l3 ≤ l2) → w_X6_draw (((l2 + l3) + 1) / 2) h (fun h9 => w_X6_isInStock  h9 (fun r12 h11 => 
        ((r12 = 0 → ag76 (l2, (((l2 + l3) + 1) / 2) - 1, l4 + 1, h11)) ∧
        (¬ (r12 = 0) → ag76 (((l2 + l3) + 1) / 2, l3, l4 + 1, h11)))))))))
def w_X8_can (l1 : Int32) (h : zz_Hp) (Q : Int32 → zz_Hp → Prop) : Prop :=
  w_X7_has l1 h (fun r2 h1 => 
  ((¬ r2 = 0 → w_X7_isThread l1 h1 (fun r4 h3 => 
    ((r4 = 0 → w_X6_walk l1 ((-1)) h3 (fun h5 => w_X7_fact l1 3 h5 (fun r8 h7 => lp (fun s ag => w_X8_can_l76 ag Q  s.1 s.2.1 s.2.2.1 s.2.2.2) (0, if (99999 - r8) < (9999 : Int32) then (99999 - r8) else (9999 : Int32), 0, h7)))) ∧
    (¬ (r4 = 0) → Q ((-5)) h3)))) ∧
  (r2 = 0 → Q ((-1)) h1)))
def w_X8_areAlike_l77 (rc : Int32 → Int32 → Int32 → Int32 → zz_Hp → (Int32 → zz_Hp → Prop) → Prop) (ag77 : Int32 × zz_Hp → Prop) (Q : Int32 → zz_Hp → Prop) (l1 : Int32) (l2 : Int32) (l3 : Int32) (l4 : Int32) (l5 : Int32) (l6 : Int32) (h : zz_Hp) : Prop :=
  
    ((l5 ≤ l6 → Q 1 h) ∧
    (¬ (l5 ≤ l6) → w_X7_partAt l1 l6 h (fun r18 h17 => w_X7_partAt l2 l6 h17 (fun r20 h19 => rc r18 r20 l3 (l4 + 1) h19 (fun r22 h21 => 
      ((¬ r22 = 0 → ag77 (l6 + 1, h21)) ∧
      (r22 = 0 → Q 0 h21)))))))
def w_X8_areAlike_b (rc : Int32 → Int32 → Int32 → Int32 → zz_Hp → (Int32 → zz_Hp → Prop) → Prop) (l1 : Int32) (l2 : Int32) (l3 : Int32) (l4 : Int32) (h : zz_Hp) (Q : Int32 → zz_Hp → Prop) : Prop :=
  w_X7_fact l1 4 h (fun r2 h1 => 
  ((3 < l4 → Q 0 h1) ∧
  (¬ (3 < l4) → w_X7_fact l2 4 h1 (fun r4 h3 => 
    ((¬ r2 = r4 → Q 0 h3) ∧
    (r2 = r4 → w_X7_fact l1 0 h3 (fun r6 h5 => w_X7_fact l2 0 h5 (fun r8 h7 => 
      ((¬ r6 = (l3 * r8) → Q 0 h7) ∧
      (r6 = (l3 * r8) → w_X7_fact l1 2 h7 (fun r10 h9 => w_X7_fact l2 2 h9 (fun r12 h11 => 
        ((¬ r10 = r12 → Q 0 h11) ∧
        (r10 = r12 → w_X7_fact l1 1 h11 (fun r14 h13 => w_X7_fact l2 1 h13 (fun r16 h15 => 
          ((r14 = r16 → lp (fun s ag => w_X8_areAlike_l77 rc ag Q l1 l2 l3 l4 r2 s.1 s.2) (0, h15)) ∧
          (¬ (r14 = r16) → Q 0 h15))))))))))))))))))
def w_X8_areAlike : Nat → Int32 → Int32 → Int32 → Int32 → zz_Hp → (Int32 → zz_Hp → Prop) → Prop
  | 0 => fun _ _ _ _ _ _ => False
  | n + 1 => w_X8_areAlike_b (w_X8_areAlike n)
def w_X8_alike_j57 (Q : Int32 → zz_Hp → Prop)  (s0 : Int32) (s1 : Int32) (s2 : Int32) (h : zz_Hp) : Prop :=
  w_X8_areAlike 5 s2 s1 s0 0 h (fun r8 h7 => 
  ((r8 = 0 → Q 0 h7) ∧
  (¬ (r8 = 0) → Q 1 h7)))
def w_X8_alike (l1 : Int32) (l2 : Int32) (l3 : Int32) (h : zz_Hp) (Q : Int32 → zz_Hp → Prop) : Prop :=
  w_X7_has l1 h (fun r2 h1 => 
  ((r2 = 0 → Q ((-1)) h1) ∧
  (¬ (r2 = 0) → w_X7_has l2 h1 (fun r4 h3 => 
    ((r4 = 0 → Q ((-1)) h3) ∧
    (¬ (r4 = 0) → w_X8_inRange l3 0 1 h3 (fun r6 h5 => 
      ((¬ r6 = 0 → 
        ((¬ l3 = 0 → w_X8_alike_j57 Q  ((-1)) l2 l1 h5) ∧
        (l3 = 0 → w_X8_alike_j57 Q  1 l2 l1 h5))) ∧
      (r6 = 0 → Q ((-1)) h5)))))))))
def w_X8_inside (l1 : Int32) (h : zz_Hp) (Q : Int32 → zz_Hp → Prop) : Prop :=
  w_X7_has l1 h (fun r2 h1 => 
  ((r2 = 0 → Q ((-1)) h1) ∧
  (¬ (r2 = 0) → w_X7_fact l1 7 h1 (fun r4 h3 => Q r4 h3))))
def w_X6_takeFromStock_l2 (ag2 : Int32 × zz_Hp → Prop) (Q : zz_Hp → Prop)  (l2 : Int32) (h : zz_Hp) : Prop :=
  
    (((h.1 2 0) ≤ l2 → Q h) ∧
    (¬ ((h.1 2 0) ≤ l2) → w_X7_fact l2 3 h (fun r2 h1 => vp_in l2 16 ∧ w_X7_write l2 3 (r2 - (h1.1 34 (Int32.toNatClampNeg l2))) h1 (fun h3 => ag2 (l2 + 1, h3)))))
def w_X6_takeFromStock  (h : zz_Hp) (Q : zz_Hp → Prop) : Prop :=
  lp (fun s ag => w_X6_takeFromStock_l2 ag Q  s.1 s.2) (0, h)
def w_X8_makeYards (l1 : Int32) (l2 : Int32) (h : zz_Hp) (Q : Int32 → zz_Hp → Prop) : Prop :=
  w_X7_has l1 h (fun r2 h1 => 
  ((r2 = 0 → Q ((-1)) h1) ∧
  (¬ (r2 = 0) → w_X8_inRange l2 1 9999 h1 (fun r4 h3 => 
    ((¬ r4 = 0 → w_X7_isThread l1 h3 (fun r6 h5 => 
      ((¬ r6 = 0 → Q ((-5)) h5) ∧
      (r6 = 0 → w_X7_fact l1 3 h5 (fun r8 h7 => 
        (((r8 + l2) ≤ 99999 → w_X6_walk l1 ((-1)) h7 (fun h9 => w_X6_draw l2 h9 (fun h11 => w_X6_isInStock  h11 (fun r14 h13 => 
          ((¬ r14 = 0 → w_X6_takeFromStock  h13 (fun h15 => w_X7_fact l1 3 h15 (fun r18 h17 => w_X7_write l1 3 (r18 + l2) h17 (fun h19 => w_X7_fact l1 3 h19 (fun r22 h21 => Q r22 h21))))) ∧
          (r14 = 0 → Q ((-5)) h13)))))) ∧
        (¬ ((r8 + l2) ≤ 99999) → Q ((-5)) h7))))))) ∧
    (r4 = 0 → Q ((-1)) h3))))))
def w_X8_make (l1 : Int32) (l2 : Int32) (h : zz_Hp) (Q : Int32 → zz_Hp → Prop) : Prop :=
  w_X8_makeYards l1 l2 h (fun r2 h1 => 
  ((r2 < 0 → Q r2 h1) ∧
  (¬ (r2 < 0) → w_X1_empty_18  h1 (fun h3 => Q r2 h3))))
def w_X1_isFull_5  (h : zz_Hp) (Q : Int32 → zz_Hp → Prop) : Prop :=
  
  (((((h.1 5 0) + 1) * 3) ≤ 24 → Q 0 h) ∧
  (¬ ((((h.1 5 0) + 1) * 3) ≤ 24) → Q 1 h))
def w_X1_add_5 (l1 : Int32) (l2 : Int32) (l3 : Int32) (h : zz_Hp) (Q : zz_Hp → Prop) : Prop :=
  w_X1_isFull_5  h (fun r2 h1 => 
  ((¬ r2 = 0 → Q h1) ∧
  (r2 = 0 → vp_in ((h1.1 5 0) * 3) 24 ∧ ∀ h3, h3 = zz_uI h1 6 (Int32.toNatClampNeg ((h1.1 5 0) * 3)) l1 → vp_in (((h3.1 5 0) * 3) + 1) 24 ∧ ∀ h4, h4 = zz_uI h3 6 (Int32.toNatClampNeg (((h3.1 5 0) * 3) + 1)) l2 → vp_in (((h4.1 5 0) * 3) + 2) 24 ∧ ∀ h5, h5 = zz_uI h4 6 (Int32.toNatClampNeg (((h4.1 5 0) * 3) + 2)) l3 → ∀ h6, h6 = zz_uI h5 5 0 ((h5.1 5 0) + 1) → Q h6)))
def w_X8_lay (l1 : Int32) (l2 : Int32) (l3 : Int32) (h : zz_Hp) (Q : Int32 → zz_Hp → Prop) : Prop :=
  
  ((¬ l1 = ((-1)) → w_X7_has l1 h (fun r2 h1 => 
    ((r2 = 0 → Q ((-1)) h1) ∧
    (¬ (r2 = 0) → w_X8_inRange l2 1 40 h1 (fun r4 h3 => 
      ((r4 = 0 → Q ((-1)) h3) ∧
      (¬ (r4 = 0) → w_X8_inRange l3 0 1 h3 (fun r6 h5 => 
        ((¬ r6 = 0 → w_X1_isFull_5  h5 (fun r8 h7 => 
          ((r8 = 0 → w_X1_add_5 l1 l2 l3 h7 (fun h9 => Q (h9.1 5 0) h9)) ∧
          (¬ (r8 = 0) → Q ((-3)) h7)))) ∧
        (r6 = 0 → Q ((-1)) h5)))))))))) ∧
  (l1 = ((-1)) → w_X1_empty_5  h (fun h11 => Q 0 h11)))
def w_X4_behind_l4 (ag4 : Int32 × Int32 × zz_Hp → Prop) (Q : Int32 → zz_Hp → Prop) (l1 : Int32) (l2 : Int32) (l3 : Int32) (h : zz_Hp) : Prop :=
  
    ((l1 ≤ l3 → Q l2 h) ∧
    (¬ (l1 ≤ l3) → 
      (((h.1 37 0) ≤ l3 → Q l2 h) ∧
      (¬ ((h.1 37 0) ≤ l3) → vp_in l3 8 ∧ ag4 (l2 + (h.1 38 (Int32.toNatClampNeg l3)), l3 + 1, h)))))
def w_X4_behind (l1 : Int32) (h : zz_Hp) (Q : Int32 → zz_Hp → Prop) : Prop :=
  lp (fun s ag => w_X4_behind_l4 ag Q l1 s.1 s.2.1 s.2.2) (0, 0, h)
def w_X1_at_5 (l1 : Int32) (l2 : Int32) (h : zz_Hp) (Q : Int32 → zz_Hp → Prop) : Prop :=
  vp_in ((l1 * 3) + l2) 24 ∧ Q (h.1 6 (Int32.toNatClampNeg ((l1 * 3) + l2))) h
def w_X8_weighLayers_l21 (ag21 : Int32 × zz_Hp → Prop) (Q : zz_Hp → Prop)  (l2 : Int32) (h : zz_Hp) : Prop :=
  
    (((h.1 5 0) ≤ l2 → Q h) ∧
    (¬ ((h.1 5 0) ≤ l2) → w_X1_at_5 l2 0 h (fun r3 h2 => w_X8_torqueOf r3 h2 (fun r5 h4 => w_X1_at_5 l2 1 h4 (fun r7 h6 => w_X1_at_5 l2 2 h6 (fun r9 h8 => 
      ((¬ r9 = 1 → vp_in l2 8 ∧ ∀ h10, h10 = zz_uI h8 38 (Int32.toNatClampNeg l2) (r5 * r7) → ag21 (l2 + 1, h10)) ∧
      (r9 = 1 → vp_in l2 8 ∧ ∀ h11, h11 = zz_uI h8 38 (Int32.toNatClampNeg l2) (-(r5 * r7)) → ag21 (l2 + 1, h11)))))))))
def w_X8_weighLayers  (h : zz_Hp) (Q : zz_Hp → Prop) : Prop :=
  ∀ h1, h1 = zz_uI h 37 0 (h.1 5 0) → lp (fun s ag => w_X8_weighLayers_l21 ag Q  s.1 s.2) (0, h1)
def w_X8_skew (l1 : Int32) (h : zz_Hp) (Q : Int32 → zz_Hp → Prop) : Prop :=
  w_X8_inRange l1 0 (h.1 5 0) h (fun r2 h1 => 
  ((¬ r2 = 0 → w_X8_weighLayers  h1 (fun h3 => w_X4_behind l1 h3 (fun r6 h5 => Q r6 h5))) ∧
  (r2 = 0 → Q ((-2147483648)) h1)))
def w_X4_worstBehind_l6 (ag6 : Int32 × Int32 × Int32 × zz_Hp → Prop) (Q : Int32 → zz_Hp → Prop)  (l1 : Int32) (l2 : Int32) (l3 : Int32) (h : zz_Hp) : Prop :=
  
    (((h.1 37 0) ≤ l3 → Q l2 h) ∧
    (¬ ((h.1 37 0) ≤ l3) → vp_in l3 8 ∧ ag6 (l1 + (h.1 38 (Int32.toNatClampNeg l3)), if l2 < (if 0 ≤ (l1 + (h.1 38 (Int32.toNatClampNeg l3))) then (l1 + (h.1 38 (Int32.toNatClampNeg l3))) else 0 - (l1 + (h.1 38 (Int32.toNatClampNeg l3)))) then (if 0 ≤ (l1 + (h.1 38 (Int32.toNatClampNeg l3))) then (l1 + (h.1 38 (Int32.toNatClampNeg l3))) else 0 - (l1 + (h.1 38 (Int32.toNatClampNeg l3)))) else l2, l3 + 1, h)))
def w_X4_worstBehind  (h : zz_Hp) (Q : Int32 → zz_Hp → Prop) : Prop :=
  lp (fun s ag => w_X4_worstBehind_l6 ag Q  s.1 s.2.1 s.2.2.1 s.2.2.2) (0, 0, 0, h)
def w_X8_worst  (h : zz_Hp) (Q : Int32 → zz_Hp → Prop) : Prop :=
  w_X8_weighLayers  h (fun h1 => w_X4_worstBehind  h1 (fun r4 h3 => Q r4 h3))
def w_X4_findReaches_l33 (ag11 : Int32 × zz_Hp → Prop) (ag33 : Int32 × Int32 × Int32 × zz_Hp → Prop) (Q : zz_Hp → Prop) (l1 : Int32) (l2 : Int32) (l3 : Int32) (l4 : Int32) (l5 : Int32) (h : zz_Hp) : Prop :=
  
    (((h.1 37 0) ≤ l5 → vp_in l2 256 ∧ ∀ h1, h1 = zz_uI h 39 (Int32.toNatClampNeg l2) (if l4 < (if 0 ≤ l3 then l3 else 0 - l3) then (if 0 ≤ l3 then l3 else 0 - l3) else l4) → ag11 (l2 + (-1), h1)) ∧
    (¬ ((h.1 37 0) ≤ l5) → 
      ((¬ ((l2 >>> (l5 &&& 31)) &&& 1) = 1 → vp_in (l2 ||| (1 <<< (l5 &&& 31))) 256 ∧ ag33 (l3, if (h.1 39 (Int32.toNatClampNeg (l2 ||| (1 <<< (l5 &&& 31))))) < l4 then (h.1 39 (Int32.toNatClampNeg (l2 ||| (1 <<< (l5 &&& 31))))) else l4, l5 + 1, h)) ∧
      (((l2 >>> (l5 &&& 31)) &&& 1) = 1 → vp_in l5 8 ∧ ag33 (l3 + (h.1 38 (Int32.toNatClampNeg l5)), l4, l5 + 1, h)))))
def w_X4_findReaches_l11 (ag11 : Int32 × zz_Hp → Prop) (Q : zz_Hp → Prop) (l1 : Int32) (l2 : Int32) (h : zz_Hp) : Prop :=
  
    ((l2 < 0 → Q h) ∧
    (¬ (l2 < 0) → 
      ((¬ l2 = l1 → lp (fun s ag => w_X4_findReaches_l33 ag11 ag Q l1 l2 s.1 s.2.1 s.2.2.1 s.2.2.2) (0, 2147483647, 0, h)) ∧
      (l2 = l1 → lp (fun s ag => w_X4_findReaches_l33 ag11 ag Q l1 l2 s.1 s.2.1 s.2.2.1 s.2.2.2) (0, 0, 0, h)))))
def w_X4_findReaches  (h : zz_Hp) (Q : zz_Hp → Prop) : Prop :=
  lp (fun s ag => w_X4_findReaches_l11 ag Q ((1 <<< ((h.1 37 0) &&& 31)) - 1) s.1 s.2) ((1 <<< ((h.1 37 0) &&& 31)) - 1, h)
def w_X4_isBest (l1 : Int32) (l2 : Int32) (h : zz_Hp) (Q : Int32 → zz_Hp → Prop) : Prop :=
  
  ((¬ ((l1 >>> (l2 &&& 31)) &&& 1) = 0 → Q 0 h) ∧
  (((l1 >>> (l2 &&& 31)) &&& 1) = 0 → vp_in (l1 ||| (1 <<< (l2 &&& 31))) 256 ∧ vp_in 0 256 ∧ 
    (((h.1 39 (Int32.toNatClampNeg 0)) < (h.1 39 (Int32.toNatClampNeg (l1 ||| (1 <<< (l2 &&& 31))))) → Q 0 h) ∧
    (¬ ((h.1 39 (Int32.toNatClampNeg 0)) < (h.1 39 (Int32.toNatClampNeg (l1 ||| (1 <<< (l2 &&& 31)))))) → Q 1 h))))
def w_X4_inBestOrder_j50 (ag8 : Int32 × Int32 × Int32 × zz_Hp → Prop) (Q : Int32 → zz_Hp → Prop) (l1 : Int32) (l2 : Int32) (l3 : Int32) (l4 : Int32)  (h : zz_Hp) : Prop :=
  ag8 (l2 ||| (1 <<< (l3 &&& 31)), l3, l4 + 1, h)
def w_X4_inBestOrder_l25 (ag8 : Int32 × Int32 × Int32 × zz_Hp → Prop) (ag25 : Int32 × zz_Hp → Prop) (Q : Int32 → zz_Hp → Prop) (l1 : Int32) (l2 : Int32) (l4 : Int32) (l3 : Int32) (h : zz_Hp) : Prop :=
  
    (((h.1 37 0) ≤ (l3 + 1) → w_X4_inBestOrder_j50 ag8 Q l1 l2 l3 l4  h) ∧
    (¬ ((h.1 37 0) ≤ (l3 + 1)) → w_X4_isBest l2 l3 h (fun r2 h1 => 
      ((¬ r2 = 0 → w_X4_inBestOrder_j50 ag8 Q l1 l2 l3 l4  h1) ∧
      (r2 = 0 → ag25 (l3 + 1, h1))))))
def w_X4_inBestOrder_l8 (ag8 : Int32 × Int32 × Int32 × zz_Hp → Prop) (Q : Int32 → zz_Hp → Prop) (l1 : Int32) (l2 : Int32) (l3 : Int32) (l4 : Int32) (h : zz_Hp) : Prop :=
  
    ((l1 < l4 → Q l3 h) ∧
    (¬ (l1 < l4) → 
      (((h.1 37 0) ≤ l4 → Q l3 h) ∧
      (¬ ((h.1 37 0) ≤ l4) → lp (fun s ag => w_X4_inBestOrder_l25 ag8 ag Q l1 l2 l4 s.1 s.2) (0, h)))))
def w_X4_inBestOrder (l1 : Int32) (h : zz_Hp) (Q : Int32 → zz_Hp → Prop) : Prop :=
  lp (fun s ag => w_X4_inBestOrder_l8 ag Q l1 s.1 s.2.1 s.2.2.1 s.2.2.2) (0, (-2), 0, h)
def w_X4_leastWorst  (h : zz_Hp) (Q : Int32 → zz_Hp → Prop) : Prop :=
  vp_in 0 256 ∧ Q (h.1 39 (Int32.toNatClampNeg 0)) h
def w_X8_order (l1 : Int32) (h : zz_Hp) (Q : Int32 → zz_Hp → Prop) : Prop :=
  w_X8_inRange l1 ((-1)) ((h.1 5 0) - 1) h (fun r2 h1 => 
  ((¬ r2 = 0 → w_X8_weighLayers  h1 (fun h3 => w_X4_findReaches  h3 (fun h5 => 
    ((0 ≤ l1 → w_X4_inBestOrder l1 h5 (fun r8 h7 => Q r8 h7)) ∧
    (¬ (0 ≤ l1) → w_X4_leastWorst  h5 (fun r10 h9 => Q r10 h9)))))) ∧
  (r2 = 0 → Q ((-1)) h1)))
def w_X4_bestToTurn_l10 (ag10 : Int32 × Int32 × Int32 × zz_Hp → Prop) (Q : Int32 → zz_Hp → Prop)  (l1 : Int32) (l2 : Int32) (l3 : Int32) (h : zz_Hp) : Prop :=
  
    (((h.1 37 0) ≤ l3 → Q l2 h) ∧
    (¬ ((h.1 37 0) ≤ l3) → vp_in l3 8 ∧ vp_in l3 8 ∧ ∀ h3, h3 = zz_uI h 38 (Int32.toNatClampNeg l3) (-(h.1 38 (Int32.toNatClampNeg l3))) → w_X4_worstBehind  h3 (fun r5 h4 => vp_in l3 8 ∧ vp_in l3 8 ∧ ∀ h6, h6 = zz_uI h4 38 (Int32.toNatClampNeg l3) (-(h4.1 38 (Int32.toNatClampNeg l3))) → 
      ((l1 ≤ r5 → ag10 (l1, l2, l3 + 1, h6)) ∧
      (¬ (l1 ≤ r5) → ag10 (r5, l3, l3 + 1, h6))))))
def w_X4_bestToTurn  (h : zz_Hp) (Q : Int32 → zz_Hp → Prop) : Prop :=
  w_X4_worstBehind  h (fun r2 h1 => lp (fun s ag => w_X4_bestToTurn_l10 ag Q  s.1 s.2.1 s.2.2.1 s.2.2.2) (r2, (-2), 0, h1))
def w_X8_turned  (h : zz_Hp) (Q : Int32 → zz_Hp → Prop) : Prop :=
  w_X8_weighLayers  h (fun h1 => w_X4_bestToTurn  h1 (fun r4 h3 => Q r4 h3))
def w_X3_has (l1 : Int32) (h : zz_Hp) (Q : Int32 → zz_Hp → Prop) : Prop :=
  
  ((l1 < 0 → Q 0 h) ∧
  (¬ (l1 < 0) → 
    ((3 ≤ l1 → Q 0 h) ∧
    (¬ (3 ≤ l1) → Q 1 h))))
def w_X3_isMissing (l1 : Int32) (h : zz_Hp) (Q : Int32 → zz_Hp → Prop) : Prop :=
  vp_in l1 3 ∧ 
  ((0 ≤ (h.1 22 (Int32.toNatClampNeg l1)) → Q 0 h) ∧
  (¬ (0 ≤ (h.1 22 (Int32.toNatClampNeg l1))) → Q 1 h))
def w_X3_placeAt (l1 : Int32) (l2 : Int32) (h : zz_Hp) (Q : Int32 → zz_Hp → Prop) : Prop :=
  vp_in ((l1 * 40) + l2) 120 ∧ Q (h.1 23 (Int32.toNatClampNeg ((l1 * 40) + l2))) h
def w_X3_sizeOf (l1 : Int32) (h : zz_Hp) (Q : Int32 → zz_Hp → Prop) : Prop :=
  vp_in l1 3 ∧ Q (h.1 22 (Int32.toNatClampNeg l1)) h
def w_X6_pullsOf_l6 (ag6 : Int32 × Int32 × zz_Hp → Prop) (Q : Int32 → zz_Hp → Prop) (l1 : Int32) (l2 : Int32) (l3 : Int32) (l4 : Int32) (l5 : Int32) (l6 : Int32) (h : zz_Hp) : Prop :=
  
    (((h.1 27 0) ≤ l6 → Q l5 h) ∧
    (¬ ((h.1 27 0) ≤ l6) → vp_in l6 85 ∧ 
      ((¬ (h.1 28 (Int32.toNatClampNeg l6)) = l1 → ag6 (l5, l6 + 1, h)) ∧
      ((h.1 28 (Int32.toNatClampNeg l6)) = l1 → vp_in l6 85 ∧ w_X6_turnBy l6 l4 h (fun r2 h1 => w_X8_fibrePull l2 l3 r2 h1 (fun r4 h3 => ag6 (l5 + ((h.1 30 (Int32.toNatClampNeg l6)) * r4), l6 + 1, h3)))))))
def w_X6_pullsOf (l1 : Int32) (l2 : Int32) (l3 : Int32) (l4 : Int32) (h : zz_Hp) (Q : Int32 → zz_Hp → Prop) : Prop :=
  lp (fun s ag => w_X6_pullsOf_l6 ag Q l1 l2 l3 l4 s.1 s.2.1 s.2.2) (0, 0, h)
def w_X8_isFitting_l3 (ag3 : Int32 × zz_Hp → Prop) (Q : Int32 → zz_Hp → Prop) (l1 : Int32) (l2 : Int32) (l3 : Int32) (l4 : Int32) (l5 : Int32) (h : zz_Hp) : Prop :=
  
    ((l4 ≤ l5 → Q 1 h) ∧
    (¬ (l4 ≤ l5) → w_X6_pullsOf l1 l2 l3 l5 h (fun r2 h1 => vp_in l5 40 ∧ 
      ((r2 = (h1.1 40 (Int32.toNatClampNeg l5)) → ag3 (l5 + 1, h1)) ∧
      (¬ (r2 = (h1.1 40 (Int32.toNatClampNeg l5))) → Q 0 h1)))))
def w_X8_isFitting (l1 : Int32) (l2 : Int32) (l3 : Int32) (l4 : Int32) (h : zz_Hp) (Q : Int32 → zz_Hp → Prop) : Prop :=
  lp (fun s ag => w_X8_isFitting_l3 ag Q l1 l2 l3 l4 s.1 s.2) (0, h)
def w_X8_fittingFibres_l5 (ag5 : Int32 × Int32 × zz_Hp → Prop) (Q : Int32 → zz_Hp → Prop) (l1 : Int32) (l2 : Int32) (l3 : Int32) (l4 : Int32) (h : zz_Hp) : Prop :=
  
    ((4 ≤ l4 → Q l3 h) ∧
    (¬ (4 ≤ l4) → w_X7_fact l1 1 h (fun r2 h1 => w_X8_isFitting l1 l4 r2 l2 h1 (fun r4 h3 => 
      ((r4 = 0 → ag5 (l3, l4 + 1, h3)) ∧
      (¬ (r4 = 0) → ag5 (l3 ||| (1 <<< (l4 &&& 31)), l4 + 1, h3)))))))
def w_X8_fittingFibres (l1 : Int32) (l2 : Int32) (h : zz_Hp) (Q : Int32 → zz_Hp → Prop) : Prop :=
  lp (fun s ag => w_X8_fittingFibres_l5 ag Q l1 l2 s.1 s.2.1 s.2.2) (0, 0, h)
def w_X8_fittingWeights_l11 (ag11 : Int32 × Int32 × Int32 × zz_Hp → Prop) (Q : Int32 → zz_Hp → Prop) (l1 : Int32) (l2 : Int32) (l3 : Int32) (l4 : Int32) (l5 : Int32) (l6 : Int32) (h : zz_Hp) : Prop :=
  
    ((l6 < 1 → 
      ((¬ l3 = 1 → Q l5 h) ∧
      (l3 = 1 → Q l4 h))) ∧
    (¬ (l6 < 1) → w_X7_fact l1 2 h (fun r2 h1 => w_X8_isFitting l1 r2 l6 l2 h1 (fun r4 h3 => 
      ((r4 = 0 → ag11 (l4, l5, l6 + (-1), h3)) ∧
      (¬ (r4 = 0) → ag11 (l4 + 1, l6, l6 + (-1), h3)))))))
def w_X8_fittingWeights (l1 : Int32) (l2 : Int32) (l3 : Int32) (h : zz_Hp) (Q : Int32 → zz_Hp → Prop) : Prop :=
  lp (fun s ag => w_X8_fittingWeights_l11 ag Q l1 l2 l3 s.1 s.2.1 s.2.2.1 s.2.2.2) (0, (-2), 99, h)
def w_X8_fits_l154 (ag154 : Int32 × zz_Hp → Prop) (Q : Int32 → zz_Hp → Prop) (l1 : Int32) (l2 : Int32) (l5 : Int32) (l7 : Int32) (l9 : Int32) (h : zz_Hp) : Prop :=
  
    ((l2 ≤ l9 → 
      ((¬ l5 = 0 → w_X8_fittingWeights l7 l2 l5 h (fun r22 h21 => Q r22 h21)) ∧
      (l5 = 0 → w_X8_fittingFibres l7 l2 h (fun r24 h23 => Q r24 h23)))) ∧
    (¬ (l2 ≤ l9) → w_X3_placeAt l1 l9 h (fun r26 h25 => w_X6_torqueWithout l7 l9 h25 (fun r28 h27 => vp_in l9 40 ∧ ∀ h29, h29 = zz_uI h27 40 (Int32.toNatClampNeg l9) (r26 - r28) → ag154 (l9 + 1, h29)))))
def w_X8_fits (l1 : Int32) (l2 : Int32) (l3 : Int32) (l4 : Int32) (l5 : Int32) (h : zz_Hp) (Q : Int32 → zz_Hp → Prop) : Prop :=
  w_X3_has l1 h (fun r2 h1 => 
  ((r2 = 0 → Q ((-1)) h1) ∧
  (¬ (r2 = 0) → w_X8_inRange l2 0 40 h1 (fun r4 h3 => 
    ((r4 = 0 → Q ((-1)) h3) ∧
    (¬ (r4 = 0) → w_X7_has l3 h3 (fun r6 h5 => 
      ((r6 = 0 → Q ((-1)) h5) ∧
      (¬ (r6 = 0) → 
        ((l4 < 0 → Q ((-1)) h5) ∧
        (¬ (l4 < 0) → w_X7_isThread (l4 / 16) h5 (fun r8 h7 => 
          ((r8 = 0 → Q ((-1)) h7) ∧
          (¬ (r8 = 0) → w_X7_has (l4 - l4 / 16 * 16) h7 (fun r10 h9 => 
            ((r10 = 0 → Q ((-1)) h9) ∧
            (¬ (r10 = 0) → w_X8_inRange l5 0 2 h9 (fun r12 h11 => 
              ((¬ r12 = 0 → w_X7_isInside (l4 - l4 / 16 * 16) l3 h11 (fun r14 h13 => 
                ((¬ r14 = 0 → w_X3_isMissing l1 h13 (fun r16 h15 => 
                  ((r16 = 0 → w_X3_sizeOf l1 h15 (fun r18 h17 => 
                    ((l2 ≤ r18 → w_X6_walk l3 (l4 - l4 / 16 * 16) h17 (fun h19 => lp (fun s ag => w_X8_fits_l154 ag Q l1 l2 l5 (l4 / 16) s.1 s.2) (0, h19))) ∧
                    (¬ (l2 ≤ r18) → Q ((-13)) h17)))) ∧
                  (¬ (r16 = 0) → Q ((-11)) h15)))) ∧
                (r14 = 0 → Q ((-5)) h13)))) ∧
              (r12 = 0 → Q ((-1)) h11))))))))))))))))))))
def w_X1_isFull_7  (h : zz_Hp) (Q : Int32 → zz_Hp → Prop) : Prop :=
  
  (((((h.1 7 0) + 1) * 3) ≤ 24 → Q 0 h) ∧
  (¬ ((((h.1 7 0) + 1) * 3) ≤ 24) → Q 1 h))
def w_X1_add_7 (l1 : Int32) (l2 : Int32) (l3 : Int32) (h : zz_Hp) (Q : zz_Hp → Prop) : Prop :=
  w_X1_isFull_7  h (fun r2 h1 => 
  ((¬ r2 = 0 → Q h1) ∧
  (r2 = 0 → vp_in ((h1.1 7 0) * 3) 24 ∧ ∀ h3, h3 = zz_uI h1 8 (Int32.toNatClampNeg ((h1.1 7 0) * 3)) l1 → vp_in (((h3.1 7 0) * 3) + 1) 24 ∧ ∀ h4, h4 = zz_uI h3 8 (Int32.toNatClampNeg (((h3.1 7 0) * 3) + 1)) l2 → vp_in (((h4.1 7 0) * 3) + 2) 24 ∧ ∀ h5, h5 = zz_uI h4 8 (Int32.toNatClampNeg (((h4.1 7 0) * 3) + 2)) l3 → ∀ h6, h6 = zz_uI h5 7 0 ((h5.1 7 0) + 1) → Q h6)))
def w_X8_job (l1 : Int32) (l2 : Int32) (h : zz_Hp) (Q : Int32 → zz_Hp → Prop) : Prop :=
  w_X7_has l1 h (fun r2 h1 => 
  ((r2 = 0 → Q ((-1)) h1) ∧
  (¬ (r2 = 0) → w_X8_inRange l2 1 9999 h1 (fun r4 h3 => 
    ((¬ r4 = 0 → w_X7_isThread l1 h3 (fun r6 h5 => 
      ((r6 = 0 → w_X1_isFull_7  h5 (fun r8 h7 => 
        ((r8 = 0 → w_X1_add_7 l1 l2 0 h7 (fun h9 => Q (h9.1 7 0) h9)) ∧
        (¬ (r8 = 0) → Q ((-3)) h7)))) ∧
      (¬ (r6 = 0) → Q ((-5)) h5)))) ∧
    (r4 = 0 → Q ((-1)) h3))))))
def w_X1_at_7 (l1 : Int32) (l2 : Int32) (h : zz_Hp) (Q : Int32 → zz_Hp → Prop) : Prop :=
  vp_in ((l1 * 3) + l2) 24 ∧ Q (h.1 8 (Int32.toNatClampNeg ((l1 * 3) + l2))) h
def w_X1_drop_7 (l1 : Int32) (h : zz_Hp) (Q : zz_Hp → Prop) : Prop :=
  
  ((l1 < 0 → Q h) ∧
  (¬ (l1 < 0) → 
    (((h.1 7 0) ≤ l1 → Q h) ∧
    (¬ ((h.1 7 0) ≤ l1) → ¬ ((l1 + 1) * 3) < 0 ∧ ¬ (l1 * 3) < 0 ∧ ¬ ((((h.1 7 0) - l1) - 1) * 3) < 0 ∧ Int32.toNatClampNeg ((l1 + 1) * 3) + Int32.toNatClampNeg ((((h.1 7 0) - l1) - 1) * 3) ≤ 24 ∧ Int32.toNatClampNeg (l1 * 3) + Int32.toNatClampNeg ((((h.1 7 0) - l1) - 1) * 3) ≤ 24 ∧ ∀ h1, h1 = zz_uC h 8 8 (Int32.toNatClampNeg ((l1 + 1) * 3)) (Int32.toNatClampNeg (l1 * 3)) (Int32.toNatClampNeg ((((h.1 7 0) - l1) - 1) * 3)) → ∀ h2, h2 = zz_uI h1 7 0 ((h1.1 7 0) - 1) → Q h2))))
def w_X8_do1  (h : zz_Hp) (Q : Int32 → zz_Hp → Prop) : Prop :=
  
  ((¬ (h.1 7 0) = 0 → w_X1_at_7 0 0 h (fun r2 h1 => w_X1_at_7 0 1 h1 (fun r4 h3 => w_X8_makeYards r2 r4 h3 (fun r6 h5 => 
    ((0 ≤ r6 → w_X1_drop_7 0 h5 (fun h7 => w_X1_empty_18  h7 (fun h9 => Q (h9.1 7 0) h9))) ∧
    (¬ (0 ≤ r6) → Q ((-5)) h5)))))) ∧
  ((h.1 7 0) = 0 → Q ((-2)) h))
def w_X8_strike_l31 (ag31 : Int32 × zz_Hp → Prop) (Q : Int32 → zz_Hp → Prop) (l1 : Int32) (l2 : Int32) (l3 : Int32) (h : zz_Hp) : Prop :=
  
    ((l3 < 0 → Q (l2 - (h.1 7 0)) h) ∧
    (¬ (l3 < 0) → w_X1_at_7 l3 0 h (fun r4 h3 => 
      ((¬ r4 = l1 → ag31 (l3 + (-1), h3)) ∧
      (r4 = l1 → w_X1_drop_7 l3 h3 (fun h5 => ag31 (l3 + (-1), h5)))))))
def w_X8_strike (l1 : Int32) (h : zz_Hp) (Q : Int32 → zz_Hp → Prop) : Prop :=
  w_X7_has l1 h (fun r2 h1 => 
  ((¬ r2 = 0 → lp (fun s ag => w_X8_strike_l31 ag Q l1 (h1.1 7 0) s.1 s.2) ((h1.1 7 0) - 1, h1)) ∧
  (r2 = 0 → Q ((-1)) h1)))
def w_X1_reverse_l16 (ag9 : Int32 × Int32 × zz_Hp → Prop) (ag16 : Int32 × zz_Hp → Prop) (Q : zz_Hp → Prop) (l1 : Int32) (l2 : Int32) (l3 : Int32) (h : zz_Hp) : Prop :=
  
    ((3 ≤ l3 → ag9 (l1 + 1, l2 + (-1), h)) ∧
    (¬ (3 ≤ l3) → vp_in ((l1 * 3) + l3) 24 ∧ vp_in ((l2 * 3) + l3) 24 ∧ vp_in ((l1 * 3) + l3) 24 ∧ ∀ h1, h1 = zz_uI h 8 (Int32.toNatClampNeg ((l1 * 3) + l3)) (h.1 8 (Int32.toNatClampNeg ((l2 * 3) + l3))) → vp_in ((l2 * 3) + l3) 24 ∧ ∀ h2, h2 = zz_uI h1 8 (Int32.toNatClampNeg ((l2 * 3) + l3)) (h.1 8 (Int32.toNatClampNeg ((l1 * 3) + l3))) → ag16 (l3 + 1, h2)))
def w_X1_reverse_l9 (ag9 : Int32 × Int32 × zz_Hp → Prop) (Q : zz_Hp → Prop)  (l1 : Int32) (l2 : Int32) (h : zz_Hp) : Prop :=
  
    ((l2 ≤ l1 → Q h) ∧
    (¬ (l2 ≤ l1) → lp (fun s ag => w_X1_reverse_l16 ag9 ag Q l1 l2 s.1 s.2) (0, h)))
def w_X1_reverse  (h : zz_Hp) (Q : zz_Hp → Prop) : Prop :=
  lp (fun s ag => w_X1_reverse_l9 ag Q  s.1 s.2.1 s.2.2) (0, (h.1 7 0) - 1, h)
def w_X8_about  (h : zz_Hp) (Q : Int32 → zz_Hp → Prop) : Prop :=
  w_X1_reverse  h (fun h1 => Q (h1.1 7 0) h1)
def w_X8_jobOf (l1 : Int32) (l2 : Int32) (h : zz_Hp) (Q : Int32 → zz_Hp → Prop) : Prop :=
  w_X8_inRange l2 0 1 h (fun r2 h1 => 
  ((¬ r2 = 0 → w_X8_inRange l1 0 ((h1.1 7 0) - 1) h1 (fun r4 h3 => 
    ((r4 = 0 → Q ((-2)) h3) ∧
    (¬ (r4 = 0) → w_X1_at_7 l1 l2 h3 (fun r6 h5 => Q r6 h5))))) ∧
  (r2 = 0 → Q ((-1)) h1)))
def w_X1_at_18 (l1 : Int32) (l2 : Int32) (h : zz_Hp) (Q : Int32 → zz_Hp → Prop) : Prop :=
  vp_in ((l1 * 3) + l2) 30 ∧ Q (h.1 19 (Int32.toNatClampNeg ((l1 * 3) + l2))) h
def w_X8_back  (h : zz_Hp) (Q : Int32 → zz_Hp → Prop) : Prop :=
  
  ((¬ (h.1 18 0) = 0 → w_X1_at_18 ((h.1 18 0) - 1) 0 h (fun r2 h1 => w_X1_at_18 ((h.1 18 0) - 1) 1 h1 (fun r4 h3 => w_X1_at_18 ((h.1 18 0) - 1) 2 h3 (fun r6 h5 => w_X7_tell r2 r4 r6 h5 (fun r8 h7 => w_X1_drop_18 ((h.1 18 0) - 1) h7 (fun h9 => Q (h9.1 18 0) h9)))))) ∧
  ((h.1 18 0) = 0 → Q ((-5)) h))
def w_X5_add (l1 : Int32) (h : zz_Hp) (Q : Int32 → zz_Hp → Prop) : Prop :=
  
  (((h.1 24 0) < 80 → vp_in (h.1 24 0) 80 ∧ ∀ h1, h1 = zz_uI h 26 (Int32.toNatClampNeg (h.1 24 0)) (Int8.toInt32 (Int32.toInt8 (Int8.toInt32 (Int32.toInt8 l1)))) → ∀ h2, h2 = zz_uI h1 24 0 ((h1.1 24 0) + 1) → Q 1 h2) ∧
  (¬ ((h.1 24 0) < 80) → Q 0 h))
def w_X8_feed (l1 : Int32) (h : zz_Hp) (Q : Int32 → zz_Hp → Prop) : Prop :=
  w_X8_inRange l1 32 126 h (fun r2 h1 => 
  ((¬ r2 = 0 → w_X5_add l1 h1 (fun r4 h3 => 
    ((r4 = 0 → Q ((-3)) h3) ∧
    (¬ (r4 = 0) → Q (h3.1 24 0) h3)))) ∧
  (r2 = 0 → Q ((-1)) h1)))
def w_X8_wipe  (h : zz_Hp) (Q : Int32 → zz_Hp → Prop) : Prop :=
  ∀ h1, h1 = zz_uI h 24 0 0 → Q (h.1 24 0) h1
def w_X5_rewind  (h : zz_Hp) (Q : zz_Hp → Prop) : Prop :=
  ∀ h1, h1 = zz_uI h 24 4 0 → Q h1
def w_X5_takeNumber_j82 (Q : Int32 → zz_Hp → Prop) (l1 : Int32) (l2 : Int32)  (h : zz_Hp) : Prop :=
  
  ((l2 = 0 → Q 0 h) ∧
  (¬ (l2 = 0) → 
    (((h.1 24 2) < 5 → vp_in (h.1 24 2) 5 ∧ ∀ h1, h1 = zz_uI h 25 (Int32.toNatClampNeg (h.1 24 2)) l1 → ∀ h2, h2 = zz_uI h1 24 2 ((h1.1 24 2) + 1) → Q 1 h2) ∧
    (¬ ((h.1 24 2) < 5) → Q 0 h))))
def w_X5_takeNumber_l4 (ag4 : Int32 × Int32 × zz_Hp → Prop) (Q : Int32 → zz_Hp → Prop)  (l1 : Int32) (l2 : Int32) (h : zz_Hp) : Prop :=
  
    ((5 ≤ l2 → w_X5_takeNumber_j82 Q l1 l2  h) ∧
    (¬ (5 ≤ l2) → 
      (((h.1 24 0) ≤ (h.1 24 4) → w_X5_takeNumber_j82 Q l1 l2  h) ∧
      (¬ ((h.1 24 0) ≤ (h.1 24 4)) → vp_in (h.1 24 4) 80 ∧ 
        (((h.1 26 (Int32.toNatClampNeg (h.1 24 4))) < 48 → w_X5_takeNumber_j82 Q l1 l2  h) ∧
        (¬ ((h.1 26 (Int32.toNatClampNeg (h.1 24 4))) < 48) → vp_in (h.1 24 4) 80 ∧ 
          ((57 < (h.1 26 (Int32.toNatClampNeg (h.1 24 4))) → w_X5_takeNumber_j82 Q l1 l2  h) ∧
          (¬ (57 < (h.1 26 (Int32.toNatClampNeg (h.1 24 4)))) → vp_in (h.1 24 4) 80 ∧ ∀ h3, h3 = zz_uI h 24 4 ((h.1 24 4) + 1) → ag4 (((l1 * 10) + (h.1 26 (Int32.toNatClampNeg (h.1 24 4)))) - 48, l2 + 1, h3)))))))))
def w_X5_takeNumber  (h : zz_Hp) (Q : Int32 → zz_Hp → Prop) : Prop :=
  lp (fun s ag => w_X5_takeNumber_l4 ag Q  s.1 s.2.1 s.2.2) (0, 0, h)
def w_X5_takeSign (l1 : Int32) (h : zz_Hp) (Q : Int32 → zz_Hp → Prop) : Prop :=
  
  (((h.1 24 0) ≤ (h.1 24 4) → Q 0 h) ∧
  (¬ ((h.1 24 0) ≤ (h.1 24 4)) → vp_in (h.1 24 4) 80 ∧ 
    (((h.1 26 (Int32.toNatClampNeg (h.1 24 4))) = l1 → ∀ h1, h1 = zz_uI h 24 4 ((h.1 24 4) + 1) → Q 1 h1) ∧
    (¬ ((h.1 26 (Int32.toNatClampNeg (h.1 24 4))) = l1) → Q 0 h))))
def w_X5_takeParts_j32 (ag2 : Int32 × zz_Hp → Prop) (Q : Int32 → zz_Hp → Prop) (l1 : Int32)  (h : zz_Hp) : Prop :=
  
  ((l1 = 4 → Q 0 h) ∧
  (¬ (l1 = 4) → w_X5_takeSign 44 h (fun r4 h3 => 
    ((¬ r4 = 0 → ag2 (l1 + 1, h3)) ∧
    (r4 = 0 → Q 0 h3)))))
def w_X5_takeParts_l2 (ag2 : Int32 × zz_Hp → Prop) (Q : Int32 → zz_Hp → Prop)  (l1 : Int32) (h : zz_Hp) : Prop :=
  
    ((4 < l1 → Q 0 h) ∧
    (¬ (4 < l1) → w_X5_takeNumber  h (fun r2 h1 => 
      ((¬ r2 = 0 → 
        ((l1 < 2 → w_X5_takeParts_j32 ag2 Q l1  h1) ∧
        (¬ (l1 < 2) → w_X5_takeSign 58 h1 (fun r6 h5 => 
          ((r6 = 0 → w_X5_takeParts_j32 ag2 Q l1  h5) ∧
          (¬ (r6 = 0) → Q 1 h5)))))) ∧
      (r2 = 0 → Q 0 h1)))))
def w_X5_takeParts  (h : zz_Hp) (Q : Int32 → zz_Hp → Prop) : Prop :=
  lp (fun s ag => w_X5_takeParts_l2 ag Q  s.1 s.2) (1, h)
def w_X5_takeTwist  (h : zz_Hp) (Q : Int32 → zz_Hp → Prop) : Prop :=
  w_X5_takeSign 45 h (fun r2 h1 => w_X5_takeNumber  h1 (fun r4 h3 => 
  ((¬ r4 = 0 → 
    ((r2 = 0 → Q 1 h3) ∧
    (¬ (r2 = 0) → vp_in ((h3.1 24 2) - 1) 5 ∧ vp_in ((h3.1 24 2) - 1) 5 ∧ ∀ h5, h5 = zz_uI h3 25 (Int32.toNatClampNeg ((h3.1 24 2) - 1)) (-(h3.1 25 (Int32.toNatClampNeg ((h3.1 24 2) - 1)))) → Q 1 h5))) ∧
  (r4 = 0 → Q 0 h3))))
def w_X5_takeAct  (h : zz_Hp) (Q : Int32 → zz_Hp → Prop) : Prop :=
  ∀ h1, h1 = zz_uI h 24 2 0 → 
  (((h1.1 24 4) < (h1.1 24 0) → vp_in (h1.1 24 4) 80 ∧ ∀ h2, h2 = zz_uI h1 24 1 (h1.1 26 (Int32.toNatClampNeg (h1.1 24 4))) → 
    (((Int32.toInt (h2.1 24 1)) = 109 → ∀ h3, h3 = zz_uI h2 24 4 ((h2.1 24 4) + 1) → w_X5_takeNumber  h3 (fun r5 h4 => 
        ((r5 = 0 → Q 0 h4) ∧
        (¬ (r5 = 0) → w_X5_takeSign 44 h4 (fun r7 h6 => 
          ((r7 = 0 → Q 0 h6) ∧
          (¬ (r7 = 0) → w_X5_takeNumber  h6 (fun r9 h8 => 
            ((r9 = 0 → Q 0 h8) ∧
            (¬ (r9 = 0) → Q 1 h8)))))))))) ∧
    ((Int32.toInt (h2.1 24 1)) = 110 → Q 0 h2) ∧
    ((Int32.toInt (h2.1 24 1)) = 111 → Q 0 h2) ∧
    ((Int32.toInt (h2.1 24 1)) = 112 → ∀ h10, h10 = zz_uI h2 24 4 ((h2.1 24 4) + 1) → w_X5_takeParts  h10 (fun r12 h11 => 
        ((r12 = 0 → Q 0 h11) ∧
        (¬ (r12 = 0) → w_X5_takeTwist  h11 (fun r14 h13 => 
          ((r14 = 0 → Q 0 h13) ∧
          (¬ (r14 = 0) → Q 1 h13))))))) ∧
    ((Int32.toInt (h2.1 24 1)) = 113 → Q 0 h2) ∧
    ((Int32.toInt (h2.1 24 1)) = 114 → Q 0 h2) ∧
    ((Int32.toInt (h2.1 24 1)) = 115 → ∀ h15, h15 = zz_uI h2 24 4 ((h2.1 24 4) + 1) → w_X5_takeNumber  h15 (fun r17 h16 => 
        ((r17 = 0 → Q 0 h16) ∧
        (¬ (r17 = 0) → w_X5_takeSign 44 h16 (fun r19 h18 => 
          ((r19 = 0 → Q 0 h18) ∧
          (¬ (r19 = 0) → w_X5_takeNumber  h18 (fun r21 h20 => 
            ((r21 = 0 → Q 0 h20) ∧
            (¬ (r21 = 0) → Q 1 h20)))))))))) ∧
    ((Int32.toInt (h2.1 24 1)) = 116 → ∀ h22, h22 = zz_uI h2 24 4 ((h2.1 24 4) + 1) → w_X5_takeNumber  h22 (fun r24 h23 => 
        ((r24 = 0 → Q 0 h23) ∧
        (¬ (r24 = 0) → w_X5_takeSign 44 h23 (fun r26 h25 => 
          ((r26 = 0 → Q 0 h25) ∧
          (¬ (r26 = 0) → w_X5_takeNumber  h25 (fun r28 h27 => 
            ((r28 = 0 → Q 0 h27) ∧
            (¬ (r28 = 0) → w_X5_takeSign 44 h27 (fun r30 h29 => 
              ((r30 = 0 → Q 0 h29) ∧
              (¬ (r30 = 0) → w_X5_takeTwist  h29 (fun r32 h31 => 
                ((r32 = 0 → Q 0 h31) ∧
                (¬ (r32 = 0) → Q 1 h31)))))))))))))))) ∧
    (((Int32.toInt (h2.1 24 1)) < 109 ∨ 116 < (Int32.toInt (h2.1 24 1))) → Q 0 h2))) ∧
  (¬ ((h1.1 24 4) < (h1.1 24 0)) → Q 0 h1))
def w_X5_firstFault_l6 (ag6 : Int32 × zz_Hp → Prop) (Q : Int32 → zz_Hp → Prop)  (l1 : Int32) (h : zz_Hp) : Prop :=
  
    ((80 ≤ l1 → Q (h.1 24 4) h) ∧
    (¬ (80 ≤ l1) → w_X5_takeAct  h (fun r4 h3 => 
      ((¬ r4 = 0 → 
        (((h3.1 24 4) < (h3.1 24 0) → w_X5_takeSign 59 h3 (fun r6 h5 => 
          ((¬ r6 = 0 → ag6 (l1 + 1, h5)) ∧
          (r6 = 0 → Q (h5.1 24 4) h5)))) ∧
        (¬ ((h3.1 24 4) < (h3.1 24 0)) → Q ((-1)) h3))) ∧
      (r4 = 0 → Q (h3.1 24 4) h3)))))
def w_X5_firstFault  (h : zz_Hp) (Q : Int32 → zz_Hp → Prop) : Prop :=
  w_X5_rewind  h (fun h1 => lp (fun s ag => w_X5_firstFault_l6 ag Q  s.1 s.2) (0, h1))
def w_X5_lastNumber  (h : zz_Hp) (Q : Int32 → zz_Hp → Prop) : Prop :=
  
  (((h.1 24 2) ≤ 0 → Q 0 h) ∧
  (¬ ((h.1 24 2) ≤ 0) → vp_in ((h.1 24 2) - 1) 5 ∧ Q (h.1 25 (Int32.toNatClampNeg ((h.1 24 2) - 1))) h))
def w_X7_join_2_25_l14 (ag14 : Int32 × Int32 × Int32 × Int32 × zz_Hp → Prop) (Q : zz_Hp → Prop) (l1 : Int32) (l3 : Int32) (l4 : Int32) (l5 : Int32) (l6 : Int32) (l7 : Int32) (h : zz_Hp) : Prop :=
  
    ((l3 ≤ l7 → w_X7_write l1 4 l3 h (fun h1 => w_X7_write l1 5 l4 h1 (fun h3 => w_X7_write l1 6 l5 h3 (fun h5 => w_X7_write l1 7 l6 h5 (fun h7 => Q h7))))) ∧
    (¬ (l3 ≤ l7) → vp_in l7 5 ∧ vp_in ((l1 * 4) + l7) 64 ∧ ∀ h9, h9 = zz_uI h 4 (Int32.toNatClampNeg ((l1 * 4) + l7)) (h.1 25 (Int32.toNatClampNeg l7)) → w_X7_fact (h.1 25 (Int32.toNatClampNeg l7)) 5 h9 (fun r11 h10 => w_X7_fact (h.1 25 (Int32.toNatClampNeg l7)) 6 h10 (fun r13 h12 => w_X7_fact (h.1 25 (Int32.toNatClampNeg l7)) 7 h12 (fun r15 h14 => ag14 (if l4 < (r11 + 1) then (r11 + 1) else l4, l5 + r13, l6 ||| r15, l7 + 1, h14))))))
def w_X7_join_2_25 (l1 : Int32) (l3 : Int32) (h : zz_Hp) (Q : zz_Hp → Prop) : Prop :=
  lp (fun s ag => w_X7_join_2_25_l14 ag Q l1 l3 s.1 s.2.1 s.2.2.1 s.2.2.2.1 s.2.2.2.2) (0, 0, 1 <<< (l1 &&& 31), 0, h)
def w_X7_addPlied_2_25_l31 (ag31 : Int32 × zz_Hp → Prop) (Q : Int32 → zz_Hp → Prop) (l2 : Int32) (l3 : Int32) (l4 : Int32) (h : zz_Hp) : Prop :=
  
    ((l2 ≤ l4 → 
      (((h.1 2 0) < 16 → ∀ h5, h5 = zz_uI h 2 0 ((h.1 2 0) + 1) → w_X7_write (h.1 2 0) 0 l3 h5 (fun h6 => w_X7_write (h.1 2 0) 1 ((-1)) h6 (fun h8 => w_X7_write (h.1 2 0) 2 ((-1)) h8 (fun h10 => w_X7_write (h.1 2 0) 3 0 h10 (fun h12 => w_X7_join_2_25 (h.1 2 0) l2 h12 (fun h14 => Q (h.1 2 0) h14)))))) ∧
      (¬ ((h.1 2 0) < 16) → Q ((-3)) h))) ∧
    (¬ (l2 ≤ l4) → vp_in l4 5 ∧ w_X7_canBePart (h.1 25 (Int32.toNatClampNeg l4)) h (fun r17 h16 => 
      ((¬ r17 = 0 → ag31 (l4 + 1, h16)) ∧
      (r17 = 0 → Q ((-5)) h16)))))
def w_X7_addPlied_2_25 (l2 : Int32) (l3 : Int32) (h : zz_Hp) (Q : Int32 → zz_Hp → Prop) : Prop :=
  w_X8_canBeTold 0 l3 h (fun r2 h1 => 
  ((¬ r2 = 0 → w_X8_inRange l2 2 4 h1 (fun r4 h3 => 
    ((r4 = 0 → Q ((-5)) h3) ∧
    (¬ (r4 = 0) → 
      ((l2 ≤ 5 → lp (fun s ag => w_X7_addPlied_2_25_l31 ag Q l2 l3 s.1 s.2) (0, h3)) ∧
      (¬ (l2 ≤ 5) → Q ((-5)) h3)))))) ∧
  (r2 = 0 → Q ((-1)) h1)))
def w_X8_doAct  (h : zz_Hp) (Q : Int32 → zz_Hp → Prop) : Prop :=
  
  (((Int32.toInt (h.1 24 1)) = 109 → vp_in 0 5 ∧ vp_in 1 5 ∧ w_X8_makeYards (h.1 25 (Int32.toNatClampNeg 0)) (h.1 25 (Int32.toNatClampNeg 1)) h (fun r2 h1 => 
      ((r2 < 0 → Q 0 h1) ∧
      (¬ (r2 < 0) → Q 1 h1)))) ∧
  ((Int32.toInt (h.1 24 1)) = 110 → Q 0 h) ∧
  ((Int32.toInt (h.1 24 1)) = 111 → Q 0 h) ∧
  ((Int32.toInt (h.1 24 1)) = 112 → w_X5_lastNumber  h (fun r4 h3 => w_X7_addPlied_2_25 ((h.1 24 2) - 1) r4 h3 (fun r6 h5 => 
      ((r6 < 0 → Q 0 h5) ∧
      (¬ (r6 < 0) → Q 1 h5))))) ∧
  ((Int32.toInt (h.1 24 1)) = 113 → Q 0 h) ∧
  ((Int32.toInt (h.1 24 1)) = 114 → Q 0 h) ∧
  ((Int32.toInt (h.1 24 1)) = 115 → vp_in 0 5 ∧ vp_in 1 5 ∧ w_X7_tell 3 (h.1 25 (Int32.toNatClampNeg 0)) (h.1 25 (Int32.toNatClampNeg 1)) h (fun r8 h7 => 
      ((r8 < 0 → Q 0 h7) ∧
      (¬ (r8 < 0) → Q 1 h7)))) ∧
  ((Int32.toInt (h.1 24 1)) = 116 → vp_in 0 5 ∧ vp_in 1 5 ∧ vp_in 2 5 ∧ w_X7_addThread (h.1 25 (Int32.toNatClampNeg 0)) (h.1 25 (Int32.toNatClampNeg 1)) (h.1 25 (Int32.toNatClampNeg 2)) h (fun r10 h9 => 
      ((r10 < 0 → Q 0 h9) ∧
      (¬ (r10 < 0) → Q 1 h9)))) ∧
  (((Int32.toInt (h.1 24 1)) < 109 ∨ 116 < (Int32.toInt (h.1 24 1))) → Q 0 h))
def w_X8_read_j104 (Q : Int32 → zz_Hp → Prop) (l2 : Int32) (l3 : Int32)  (h : zz_Hp) : Prop :=
  
  ((l3 = 0 → Q l2 h) ∧
  (¬ (l3 = 0) → Q (((-200)) - l2) h))
def w_X8_read_j85 (Q : Int32 → zz_Hp → Prop) (l2 : Int32) (l3 : Int32)  (h : zz_Hp) : Prop :=
  ∀ h5, h5 = zz_uI h 24 0 0 → 
  ((l2 ≤ 0 → w_X8_read_j104 Q l2 l3  h5) ∧
  (¬ (l2 ≤ 0) → w_X1_empty_18  h5 (fun h6 => w_X8_read_j104 Q l2 l3  h6)))
def w_X8_read_l37 (ag37 : Int32 × Int32 × zz_Hp → Prop) (Q : Int32 → zz_Hp → Prop)  (l2 : Int32) (l3 : Int32) (h : zz_Hp) : Prop :=
  
    ((80 ≤ l2 → w_X8_read_j85 Q l2 l3  h) ∧
    (¬ (80 ≤ l2) → 
      ((¬ l3 = 0 → w_X8_read_j85 Q l2 l3  h) ∧
      (l3 = 0 → w_X5_takeAct  h (fun r9 h8 => 
        ((r9 = 0 → w_X8_read_j85 Q l2 l3  h8) ∧
        (¬ (r9 = 0) → w_X8_doAct  h8 (fun r11 h10 => 
          ((r11 = 0 → ag37 (l2, 1, h10)) ∧
          (¬ (r11 = 0) → w_X5_takeSign 59 h10 (fun r13 h12 => ag37 (l2 + 1, l3, h12))))))))))))
def w_X8_read  (h : zz_Hp) (Q : Int32 → zz_Hp → Prop) : Prop :=
  w_X5_firstFault  h (fun r2 h1 => 
  ((r2 = ((-1)) → w_X5_rewind  h1 (fun h3 => lp (fun s ag => w_X8_read_l37 ag Q  s.1 s.2.1 s.2.2) (0, 0, h3))) ∧
  (¬ (r2 = ((-1))) → ∀ h14, h14 = zz_uI h1 24 0 0 → Q (((-100)) - r2) h14)))
def w_X3_write (l1 : Int32) (l2 : Int32) (l3 : Int32) (h : zz_Hp) (Q : zz_Hp → Prop) : Prop :=
  vp_in ((l1 * 40) + l2) 120 ∧ ∀ h1, h1 = zz_uI h 23 (Int32.toNatClampNeg ((l1 * 40) + l2)) l3 → Q h1
def w_X3_renew_l9 (ag9 : Int32 × zz_Hp → Prop) (Q : zz_Hp → Prop) (l1 : Int32) (l2 : Int32) (l3 : Int32) (h : zz_Hp) : Prop :=
  
    ((l2 ≤ l3 → Q h) ∧
    (¬ (l2 ≤ l3) → w_X3_write l1 l3 0 h (fun h2 => ag9 (l3 + 1, h2))))
def w_X3_renew (l1 : Int32) (l2 : Int32) (h : zz_Hp) (Q : zz_Hp → Prop) : Prop :=
  vp_in l1 3 ∧ ∀ h1, h1 = zz_uI h 22 (Int32.toNatClampNeg l1) l2 → lp (fun s ag => w_X3_renew_l9 ag Q l1 l2 s.1 s.2) (0, h1)
def w_X8_row (l1 : Int32) (l2 : Int32) (h : zz_Hp) (Q : Int32 → zz_Hp → Prop) : Prop :=
  w_X3_has l1 h (fun r2 h1 => 
  ((r2 = 0 → Q ((-1)) h1) ∧
  (¬ (r2 = 0) → 
    ((l2 ≤ 40 → 
      ((((-1)) ≤ l2 → w_X3_renew l1 l2 h1 (fun h3 => Q 1 h3)) ∧
      (¬ (((-1)) ≤ l2) → Q ((-14)) h1))) ∧
    (¬ (l2 ≤ 40) → Q ((-1)) h1)))))
def w_X3_hasPlace (l1 : Int32) (l2 : Int32) (h : zz_Hp) (Q : Int32 → zz_Hp → Prop) : Prop :=
  
  ((l2 < 0 → Q 0 h) ∧
  (¬ (l2 < 0) → vp_in l1 3 ∧ 
    (((h.1 22 (Int32.toNatClampNeg l1)) ≤ l2 → Q 0 h) ∧
    (¬ ((h.1 22 (Int32.toNatClampNeg l1)) ≤ l2) → Q 1 h))))
def w_X8_put (l1 : Int32) (l2 : Int32) (l3 : Int32) (h : zz_Hp) (Q : Int32 → zz_Hp → Prop) : Prop :=
  w_X3_has l1 h (fun r2 h1 => 
  ((¬ r2 = 0 → w_X3_isMissing l1 h1 (fun r4 h3 => 
    ((r4 = 0 → w_X3_hasPlace l1 l2 h3 (fun r6 h5 => 
      ((¬ r6 = 0 → w_X3_write l1 l2 l3 h5 (fun h7 => Q 1 h7)) ∧
      (r6 = 0 → Q ((-13)) h5)))) ∧
    (¬ (r4 = 0) → Q ((-11)) h3)))) ∧
  (r2 = 0 → Q ((-1)) h1)))
def w_X8_get (l1 : Int32) (l2 : Int32) (h : zz_Hp) (Q : Int32 → zz_Hp → Prop) : Prop :=
  w_X3_has l1 h (fun r2 h1 => 
  ((r2 = 0 → Q ((-2147483648)) h1) ∧
  (¬ (r2 = 0) → w_X3_hasPlace l1 l2 h1 (fun r4 h3 => 
    ((r4 = 0 → Q ((-2147483648)) h3) ∧
    (¬ (r4 = 0) → w_X3_placeAt l1 l2 h3 (fun r6 h5 => Q r6 h5)))))))
def w_X8_film_l100 (ag100 : Int32 × zz_Hp → Prop) (Q : Int32 → zz_Hp → Prop) (l1 : Int32) (l2 : Int32) (l5 : Int32) (h : zz_Hp) : Prop :=
  
    ((l2 ≤ l5 → Q l2 h) ∧
    (¬ (l2 ≤ l5) → w_X6_torqueBy l5 h (fun r16 h15 => w_X3_write l1 l5 r16 h15 (fun h17 => ag100 (l5 + 1, h17)))))
def w_X8_film (l1 : Int32) (l2 : Int32) (l3 : Int32) (l4 : Int32) (h : zz_Hp) (Q : Int32 → zz_Hp → Prop) : Prop :=
  w_X3_has l1 h (fun r2 h1 => 
  ((r2 = 0 → Q ((-1)) h1) ∧
  (¬ (r2 = 0) → w_X8_inRange l2 0 40 h1 (fun r4 h3 => 
    ((r4 = 0 → Q ((-1)) h3) ∧
    (¬ (r4 = 0) → w_X7_has l3 h3 (fun r6 h5 => 
      ((r6 = 0 → Q ((-1)) h5) ∧
      (¬ (r6 = 0) → w_X7_has l4 h5 (fun r8 h7 => 
        ((¬ r8 = 0 → w_X7_isInside l4 l3 h7 (fun r10 h9 => 
          ((¬ r10 = 0 → w_X6_walk l3 l4 h9 (fun h11 => w_X3_renew l1 l2 h11 (fun h13 => lp (fun s ag => w_X8_film_l100 ag Q l1 l2 s.1 s.2) (0, h13)))) ∧
          (r10 = 0 → Q ((-5)) h9)))) ∧
        (r8 = 0 → Q ((-1)) h7))))))))))))
def w_X1_copy_13_5  (h : zz_Hp) (Q : zz_Hp → Prop) : Prop :=
  ∀ h1, h1 = zz_uI h 13 0 (h.1 5 0) → ¬ (0 : Int32) < 0 ∧ ¬ (0 : Int32) < 0 ∧ ¬ (if 24 < (24 : Int32) then 24 else (24 : Int32)) < 0 ∧ Int32.toNatClampNeg 0 + Int32.toNatClampNeg (if 24 < (24 : Int32) then 24 else (24 : Int32)) ≤ 24 ∧ Int32.toNatClampNeg 0 + Int32.toNatClampNeg (if 24 < (24 : Int32) then 24 else (24 : Int32)) ≤ 24 ∧ ∀ h2, h2 = zz_uC h1 6 14 (Int32.toNatClampNeg 0) (Int32.toNatClampNeg 0) (Int32.toNatClampNeg (if 24 < (24 : Int32) then 24 else (24 : Int32))) → Q h2
def w_X1_copy_15_7  (h : zz_Hp) (Q : zz_Hp → Prop) : Prop :=
  ∀ h1, h1 = zz_uI h 15 0 (h.1 7 0) → ¬ (0 : Int32) < 0 ∧ ¬ (0 : Int32) < 0 ∧ ¬ (if 24 < (24 : Int32) then 24 else (24 : Int32)) < 0 ∧ Int32.toNatClampNeg 0 + Int32.toNatClampNeg (if 24 < (24 : Int32) then 24 else (24 : Int32)) ≤ 24 ∧ Int32.toNatClampNeg 0 + Int32.toNatClampNeg (if 24 < (24 : Int32) then 24 else (24 : Int32)) ≤ 24 ∧ ∀ h2, h2 = zz_uC h1 8 16 (Int32.toNatClampNeg 0) (Int32.toNatClampNeg 0) (Int32.toNatClampNeg (if 24 < (24 : Int32) then 24 else (24 : Int32))) → Q h2
def w_X7_copy_10_2  (h : zz_Hp) (Q : zz_Hp → Prop) : Prop :=
  ∀ h1, h1 = zz_uI h 10 0 (h.1 2 0) → ¬ (0 : Int32) < 0 ∧ ¬ (0 : Int32) < 0 ∧ ¬ (128 : Int32) < 0 ∧ Int32.toNatClampNeg 0 + Int32.toNatClampNeg 128 ≤ 128 ∧ Int32.toNatClampNeg 0 + Int32.toNatClampNeg 128 ≤ 128 ∧ ∀ h2, h2 = zz_uC h1 3 11 (Int32.toNatClampNeg 0) (Int32.toNatClampNeg 0) (Int32.toNatClampNeg 128) → ¬ (0 : Int32) < 0 ∧ ¬ (0 : Int32) < 0 ∧ ¬ (64 : Int32) < 0 ∧ Int32.toNatClampNeg 0 + Int32.toNatClampNeg 64 ≤ 64 ∧ Int32.toNatClampNeg 0 + Int32.toNatClampNeg 64 ≤ 64 ∧ ∀ h3, h3 = zz_uC h2 4 12 (Int32.toNatClampNeg 0) (Int32.toNatClampNeg 0) (Int32.toNatClampNeg 64) → Q h3
def w_X0_copy_9_1  (h : zz_Hp) (Q : zz_Hp → Prop) : Prop :=
  w_X7_copy_10_2  h (fun h1 => w_X1_copy_13_5  h1 (fun h3 => w_X1_copy_15_7  h3 (fun h5 => Q h5)))
def w_X8_image  (h : zz_Hp) (Q : Int32 → zz_Hp → Prop) : Prop :=
  w_X0_copy_9_1  h (fun h1 => ∀ h3, h3 = zz_uI h1 0 2 1 → Q (h3.1 2 0) h3)
def w_X1_copy_5_13  (h : zz_Hp) (Q : zz_Hp → Prop) : Prop :=
  ∀ h1, h1 = zz_uI h 5 0 (h.1 13 0) → ¬ (0 : Int32) < 0 ∧ ¬ (0 : Int32) < 0 ∧ ¬ (if 24 < (24 : Int32) then 24 else (24 : Int32)) < 0 ∧ Int32.toNatClampNeg 0 + Int32.toNatClampNeg (if 24 < (24 : Int32) then 24 else (24 : Int32)) ≤ 24 ∧ Int32.toNatClampNeg 0 + Int32.toNatClampNeg (if 24 < (24 : Int32) then 24 else (24 : Int32)) ≤ 24 ∧ ∀ h2, h2 = zz_uC h1 14 6 (Int32.toNatClampNeg 0) (Int32.toNatClampNeg 0) (Int32.toNatClampNeg (if 24 < (24 : Int32) then 24 else (24 : Int32))) → Q h2
def w_X1_copy_7_15  (h : zz_Hp) (Q : zz_Hp → Prop) : Prop :=
  ∀ h1, h1 = zz_uI h 7 0 (h.1 15 0) → ¬ (0 : Int32) < 0 ∧ ¬ (0 : Int32) < 0 ∧ ¬ (if 24 < (24 : Int32) then 24 else (24 : Int32)) < 0 ∧ Int32.toNatClampNeg 0 + Int32.toNatClampNeg (if 24 < (24 : Int32) then 24 else (24 : Int32)) ≤ 24 ∧ Int32.toNatClampNeg 0 + Int32.toNatClampNeg (if 24 < (24 : Int32) then 24 else (24 : Int32)) ≤ 24 ∧ ∀ h2, h2 = zz_uC h1 16 8 (Int32.toNatClampNeg 0) (Int32.toNatClampNeg 0) (Int32.toNatClampNeg (if 24 < (24 : Int32) then 24 else (24 : Int32))) → Q h2
def w_X7_copy_2_10  (h : zz_Hp) (Q : zz_Hp → Prop) : Prop :=
  ∀ h1, h1 = zz_uI h 2 0 (h.1 10 0) → ¬ (0 : Int32) < 0 ∧ ¬ (0 : Int32) < 0 ∧ ¬ (128 : Int32) < 0 ∧ Int32.toNatClampNeg 0 + Int32.toNatClampNeg 128 ≤ 128 ∧ Int32.toNatClampNeg 0 + Int32.toNatClampNeg 128 ≤ 128 ∧ ∀ h2, h2 = zz_uC h1 11 3 (Int32.toNatClampNeg 0) (Int32.toNatClampNeg 0) (Int32.toNatClampNeg 128) → ¬ (0 : Int32) < 0 ∧ ¬ (0 : Int32) < 0 ∧ ¬ (64 : Int32) < 0 ∧ Int32.toNatClampNeg 0 + Int32.toNatClampNeg 64 ≤ 64 ∧ Int32.toNatClampNeg 0 + Int32.toNatClampNeg 64 ≤ 64 ∧ ∀ h3, h3 = zz_uC h2 12 4 (Int32.toNatClampNeg 0) (Int32.toNatClampNeg 0) (Int32.toNatClampNeg 64) → Q h3
def w_X0_copy_1_9  (h : zz_Hp) (Q : zz_Hp → Prop) : Prop :=
  w_X7_copy_2_10  h (fun h1 => w_X1_copy_5_13  h1 (fun h3 => w_X1_copy_7_15  h3 (fun h5 => Q h5)))
def w_X8_undo  (h : zz_Hp) (Q : Int32 → zz_Hp → Prop) : Prop :=
  
  ((¬ (h.1 0 2) = 0 → w_X0_copy_1_9  h (fun h1 => ∀ h3, h3 = zz_uI h1 0 4 0 → w_X1_empty_18  h3 (fun h4 => Q (h4.1 2 0) h4))) ∧
  ((h.1 0 2) = 0 → Q ((-5)) h))
def w_X8_countBalanced_l4 (ag4 : Int32 × Int32 × zz_Hp → Prop) (Q : Int32 → zz_Hp → Prop)  (l1 : Int32) (l2 : Int32) (h : zz_Hp) : Prop :=
  
    (((h.1 2 0) ≤ l2 → Q l1 h) ∧
    (¬ ((h.1 2 0) ≤ l2) → w_X8_torqueOf l2 h (fun r2 h1 => 
      ((¬ r2 = 0 → ag4 (l1, l2 + 1, h1)) ∧
      (r2 = 0 → ag4 (l1 + 1, l2 + 1, h1))))))
def w_X8_countBalanced  (h : zz_Hp) (Q : Int32 → zz_Hp → Prop) : Prop :=
  lp (fun s ag => w_X8_countBalanced_l4 ag Q  s.1 s.2.1 s.2.2) (0, 0, h)
def w_X8_count (l1 : Int32) (h : zz_Hp) (Q : Int32 → zz_Hp → Prop) : Prop :=
  
  (((Int32.toInt l1) = 0 → Q (h.1 2 0) h) ∧
  ((Int32.toInt l1) = 1 → Q (h.1 0 4) h) ∧
  ((Int32.toInt l1) = 2 → Q (h.1 5 0) h) ∧
  ((Int32.toInt l1) = 3 → Q (h.1 7 0) h) ∧
  ((Int32.toInt l1) = 4 → Q (h.1 18 0) h) ∧
  ((Int32.toInt l1) = 5 → Q (h.1 24 0) h) ∧
  ((Int32.toInt l1) = 6 → w_X8_countBalanced  h (fun r2 h1 => Q r2 h1)) ∧
  (((Int32.toInt l1) < 0 ∨ 6 < (Int32.toInt l1)) → Q ((-1)) h))
def w_X9_in (l0 : Int32) (l1 : Int32) (l2 : Int32) (h : zz_Hp) (Q : Int32 → zz_Hp → Prop) : Prop :=
  
  ((l0 < l1 → Q 0 h) ∧
  (¬ (l0 < l1) → 
    ((l2 < l0 → Q 0 h) ∧
    (¬ (l2 < l0) → Q 1 h))))
def w_X9_thread (l1 : Int32) (l2 : Int32) (l3 : Int32) (h : zz_Hp) (Q : Int32 → zz_Hp → Prop) : Prop :=
  w_X9_in l1 0 3 h (fun r2 h1 => 
  ((r2 = 0 → Q ((-1)) h1) ∧
  (¬ (r2 = 0) → w_X9_in l2 1 99 h1 (fun r4 h3 => 
    ((r4 = 0 → Q ((-1)) h3) ∧
    (¬ (r4 = 0) → w_X9_in l3 ((-99)) 99 h3 (fun r6 h5 => 
      ((¬ r6 = 0 → 
        ((¬ (h5.1 0 0) = 16 → vp_in (h5.1 0 0) 16 ∧ ∀ h7, h7 = zz_uI h5 1 (Int32.toNatClampNeg (h5.1 0 0)) 0 → vp_in (h7.1 0 0) 16 ∧ ∀ h8, h8 = zz_uI h7 3 (Int32.toNatClampNeg (h7.1 0 0)) l1 → vp_in (h8.1 0 0) 16 ∧ ∀ h9, h9 = zz_uI h8 4 (Int32.toNatClampNeg (h8.1 0 0)) l2 → vp_in (h9.1 0 0) 16 ∧ ∀ h10, h10 = zz_uI h9 5 (Int32.toNatClampNeg (h9.1 0 0)) l3 → vp_in (h10.1 0 0) 16 ∧ ∀ h11, h11 = zz_uI h10 6 (Int32.toNatClampNeg (h10.1 0 0)) 0 → ∀ h12, h12 = zz_uI h11 0 0 ((h11.1 0 0) + 1) → Q ((h12.1 0 0) - 1) h12) ∧
        ((h5.1 0 0) = 16 → Q ((-3)) h5))) ∧
      (r6 = 0 → Q ((-1)) h5)))))))))
def w_X9_depthOf_l4 (rc : Int32 → zz_Hp → (Int32 → zz_Hp → Prop) → Prop) (ag4 : Int32 × Int32 × zz_Hp → Prop) (Q : Int32 → zz_Hp → Prop) (l1 : Int32) (l2 : Int32) (l3 : Int32) (h : zz_Hp) : Prop :=
  vp_in l1 16 ∧ 
    (((h.1 1 (Int32.toNatClampNeg l1)) ≤ l3 → Q l2 h) ∧
    (¬ ((h.1 1 (Int32.toNatClampNeg l1)) ≤ l3) → vp_in ((4 * l1) + l3) 64 ∧ rc (h.1 2 (Int32.toNatClampNeg ((4 * l1) + l3))) h (fun r2 h1 => 
      (((1 + r2) ≤ l2 → ag4 (l2, l3 + 1, h1)) ∧
      (¬ ((1 + r2) ≤ l2) → ag4 (1 + r2, l3 + 1, h1))))))
def w_X9_depthOf_b (rc : Int32 → zz_Hp → (Int32 → zz_Hp → Prop) → Prop) (l1 : Int32) (h : zz_Hp) (Q : Int32 → zz_Hp → Prop) : Prop :=
  lp (fun s ag => w_X9_depthOf_l4 rc ag Q l1 s.1 s.2.1 s.2.2) (0, 0, h)
def w_X9_depthOf : Nat → Int32 → zz_Hp → (Int32 → zz_Hp → Prop) → Prop
  | 0 => fun _ _ _ => False
  | n + 1 => w_X9_depthOf_b (w_X9_depthOf n)
def w_X9_isYarn (l1 : Int32) (h : zz_Hp) (Q : Int32 → zz_Hp → Prop) : Prop :=
  w_X9_in l1 0 ((h.1 0 0) - 1) h (fun r2 h1 => (r2 = 0 ∨ r2 = 1) ∧ Q r2 h1)
def w_X9_part (l1 : Int32) (h : zz_Hp) (Q : Int32 → zz_Hp → Prop) : Prop :=
  w_X9_isYarn l1 h (fun r2 h1 => 
  ((¬ r2 = 0 → 
    ((¬ (h1.1 0 7) = 4 → w_X9_depthOf 5 l1 h1 (fun r4 h3 => 
      ((¬ r4 = 3 → vp_in (h3.1 0 7) 4 ∧ ∀ h5, h5 = zz_uI h3 7 (Int32.toNatClampNeg (h3.1 0 7)) l1 → ∀ h6, h6 = zz_uI h5 0 7 ((h5.1 0 7) + 1) → Q (h6.1 0 7) h6) ∧
      (r4 = 3 → Q ((-5)) h3)))) ∧
    ((h1.1 0 7) = 4 → Q ((-3)) h1))) ∧
  (r2 = 0 → Q ((-1)) h1)))
def w_X9_plied (l1 : Int32) (l2 : Int32) (h : zz_Hp) (Q : Int32 → zz_Hp → Prop) : Prop :=
  vp_in (h.1 0 0) 16 ∧ ∀ h1, h1 = zz_uI h 1 (Int32.toNatClampNeg (h.1 0 0)) l1 → vp_in (h1.1 0 0) 16 ∧ ∀ h2, h2 = zz_uI h1 3 (Int32.toNatClampNeg (h1.1 0 0)) ((-1)) → vp_in (h2.1 0 0) 16 ∧ ∀ h3, h3 = zz_uI h2 4 (Int32.toNatClampNeg (h2.1 0 0)) ((-1)) → vp_in (h3.1 0 0) 16 ∧ ∀ h4, h4 = zz_uI h3 5 (Int32.toNatClampNeg (h3.1 0 0)) l2 → vp_in (h4.1 0 0) 16 ∧ ∀ h5, h5 = zz_uI h4 6 (Int32.toNatClampNeg (h4.1 0 0)) 0 → ∀ h6, h6 = zz_uI h5 0 0 ((h5.1 0 0) + 1) → Q ((h6.1 0 0) - 1) h6
def w_X9_ply_l38 (ag38 : Int32 × zz_Hp → Prop) (Q : Int32 → zz_Hp → Prop) (l1 : Int32) (l2 : Int32) (h : zz_Hp) : Prop :=
  
    (((h.1 0 7) ≤ l2 → w_X9_plied (h.1 0 7) l1 h (fun r4 h3 => ∀ h5, h5 = zz_uI h3 0 7 0 → Q r4 h5)) ∧
    (¬ ((h.1 0 7) ≤ l2) → vp_in l2 4 ∧ vp_in ((4 * (h.1 0 0)) + l2) 64 ∧ ∀ h6, h6 = zz_uI h 2 (Int32.toNatClampNeg ((4 * (h.1 0 0)) + l2)) (h.1 7 (Int32.toNatClampNeg l2)) → ag38 (l2 + 1, h6)))
def w_X9_ply (l1 : Int32) (h : zz_Hp) (Q : Int32 → zz_Hp → Prop) : Prop :=
  w_X9_in l1 ((-99)) 99 h (fun r2 h1 => 
  ((¬ r2 = 0 → 
    ((2 ≤ (h1.1 0 7) → 
      ((¬ (h1.1 0 0) = 16 → lp (fun s ag => w_X9_ply_l38 ag Q l1 s.1 s.2) (0, h1)) ∧
      ((h1.1 0 0) = 16 → Q ((-3)) h1))) ∧
    (¬ (2 ≤ (h1.1 0 7)) → Q ((-5)) h1))) ∧
  (r2 = 0 → Q ((-1)) h1)))
def w_X9_clear  (h : zz_Hp) (Q : Int32 → zz_Hp → Prop) : Prop :=
  ∀ h1, h1 = zz_uI h 0 0 0 → ∀ h2, h2 = zz_uI h1 0 7 0 → ∀ h3, h3 = zz_uI h2 0 9 0 → ∀ h4, h4 = zz_uI h3 0 13 0 → ∀ h5, h5 = zz_uI h4 0 16 0 → Q (h.1 0 0) h5
def w_X9_become (l1 : Int32) (l2 : Int32) (l3 : Int32) (h : zz_Hp) (Q : zz_Hp → Prop) : Prop :=
  
  ((¬ l2 = 0 → 
    ((¬ l2 = 1 → 
      ((¬ l2 = 2 → vp_in l1 16 ∧ ∀ h1, h1 = zz_uI h 6 (Int32.toNatClampNeg l1) l3 → Q h1) ∧
      (l2 = 2 → vp_in l1 16 ∧ ∀ h2, h2 = zz_uI h 3 (Int32.toNatClampNeg l1) l3 → Q h2))) ∧
    (l2 = 1 → vp_in l1 16 ∧ ∀ h3, h3 = zz_uI h 4 (Int32.toNatClampNeg l1) l3 → Q h3))) ∧
  (l2 = 0 → vp_in l1 16 ∧ ∀ h4, h4 = zz_uI h 5 (Int32.toNatClampNeg l1) l3 → Q h4))
def w_X9_toldOf (l1 : Int32) (l2 : Int32) (h : zz_Hp) (Q : Int32 → zz_Hp → Prop) : Prop :=
  
  ((¬ l2 = 0 → 
    ((¬ l2 = 1 → 
      ((¬ l2 = 2 → vp_in l1 16 ∧ Q (h.1 6 (Int32.toNatClampNeg l1)) h) ∧
      (l2 = 2 → vp_in l1 16 ∧ Q (h.1 3 (Int32.toNatClampNeg l1)) h))) ∧
    (l2 = 1 → vp_in l1 16 ∧ Q (h.1 4 (Int32.toNatClampNeg l1)) h))) ∧
  (l2 = 0 → vp_in l1 16 ∧ Q (h.1 5 (Int32.toNatClampNeg l1)) h))
def w_X9_set_j194 (Q : Int32 → zz_Hp → Prop) (l1 : Int32) (l2 : Int32) (l3 : Int32) (l6 : Int32)  (h : zz_Hp) : Prop :=
  vp_in (h.1 0 16) 10 ∧ ∀ h9, h9 = zz_uI h 13 (Int32.toNatClampNeg (h.1 0 16)) l1 → vp_in (h9.1 0 16) 10 ∧ ∀ h10, h10 = zz_uI h9 14 (Int32.toNatClampNeg (h9.1 0 16)) l2 → vp_in (h10.1 0 16) 10 ∧ ∀ h11, h11 = zz_uI h10 15 (Int32.toNatClampNeg (h10.1 0 16)) l6 → ∀ h12, h12 = zz_uI h11 0 16 ((h11.1 0 16) + 1) → w_X9_become l2 l1 l3 h12 (fun h13 => Q l6 h13)
def w_X9_set_l127 (ag127 : Int32 × zz_Hp → Prop) (Q : Int32 → zz_Hp → Prop) (l1 : Int32) (l2 : Int32) (l3 : Int32) (l6 : Int32) (l7 : Int32) (h : zz_Hp) : Prop :=
  
    ((10 ≤ l7 → ∀ h15, h15 = zz_uI h 0 16 9 → w_X9_set_j194 Q l1 l2 l3 l6  h15) ∧
    (¬ (10 ≤ l7) → vp_in l7 10 ∧ vp_in (l7 - 1) 10 ∧ ∀ h16, h16 = zz_uI h 13 (Int32.toNatClampNeg (l7 - 1)) (h.1 13 (Int32.toNatClampNeg l7)) → vp_in l7 10 ∧ vp_in (l7 - 1) 10 ∧ ∀ h17, h17 = zz_uI h16 14 (Int32.toNatClampNeg (l7 - 1)) (h16.1 14 (Int32.toNatClampNeg l7)) → vp_in l7 10 ∧ vp_in (l7 - 1) 10 ∧ ∀ h18, h18 = zz_uI h17 15 (Int32.toNatClampNeg (l7 - 1)) (h17.1 15 (Int32.toNatClampNeg l7)) → ag127 (l7 + 1, h18)))
def w_X9_set_j101 (Q : Int32 → zz_Hp → Prop) (l1 : Int32) (l2 : Int32) (l3 : Int32)  (h : zz_Hp) : Prop :=
  w_X9_toldOf l2 l1 h (fun r8 h7 => 
  ((r8 = l3 → Q r8 h7) ∧
  (¬ (r8 = l3) → 
    ((¬ (h7.1 0 16) = 10 → w_X9_set_j194 Q l1 l2 l3 r8  h7) ∧
    ((h7.1 0 16) = 10 → lp (fun s ag => w_X9_set_l127 ag Q l1 l2 l3 r8 s.1 s.2) (1, h7))))))
def w_X9_set_j62 (Q : Int32 → zz_Hp → Prop) (l1 : Int32) (l2 : Int32) (l3 : Int32) (l4 : Int32) (s0 : Int32) (h : zz_Hp) : Prop :=
  w_X9_in l3 l4 s0 h (fun r6 h5 => 
  ((¬ r6 = 0 → vp_in l2 16 ∧ 
    (((h5.1 1 (Int32.toNatClampNeg l2)) ≤ 0 → w_X9_set_j101 Q l1 l2 l3  h5) ∧
    (¬ ((h5.1 1 (Int32.toNatClampNeg l2)) ≤ 0) → 
      ((l1 = 1 → Q ((-10000)) h5) ∧
      (¬ (l1 = 1) → 
        ((¬ l1 = 2 → w_X9_set_j101 Q l1 l2 l3  h5) ∧
        (l1 = 2 → Q ((-10000)) h5))))))) ∧
  (r6 = 0 → Q ((-2147483648)) h5)))
def w_X9_set_j39 (Q : Int32 → zz_Hp → Prop) (l1 : Int32) (l2 : Int32) (l3 : Int32) (s0 : Int32) (h : zz_Hp) : Prop :=
  
  ((2 ≤ l1 → 
    ((¬ l1 = 2 → w_X9_set_j62 Q l1 l2 l3 s0 99999 h) ∧
    (l1 = 2 → w_X9_set_j62 Q l1 l2 l3 s0 3 h))) ∧
  (¬ (2 ≤ l1) → w_X9_set_j62 Q l1 l2 l3 s0 99 h))
def w_X9_set (l1 : Int32) (l2 : Int32) (l3 : Int32) (h : zz_Hp) (Q : Int32 → zz_Hp → Prop) : Prop :=
  w_X9_in l1 0 3 h (fun r2 h1 => 
  ((r2 = 0 → Q ((-2147483648)) h1) ∧
  (¬ (r2 = 0) → w_X9_isYarn l2 h1 (fun r4 h3 => 
    ((¬ r4 = 0 → 
      ((¬ l1 = 0 → 
        ((¬ l1 = 1 → w_X9_set_j39 Q l1 l2 l3 0 h3) ∧
        (l1 = 1 → w_X9_set_j39 Q l1 l2 l3 1 h3))) ∧
      (l1 = 0 → w_X9_set_j39 Q l1 l2 l3 ((-99)) h3))) ∧
    (r4 = 0 → Q ((-2147483648)) h3))))))
def w_X9_sizeOf (l0 : Int32) (h : zz_Hp) (Q : Int32 → zz_Hp → Prop) : Prop :=
  
  ((0 ≤ l0 → Q l0 h) ∧
  (¬ (0 ≤ l0) → Q (-l0) h))
def w_X9_byOf (l1 : Int32) (h : zz_Hp) (Q : Int32 → zz_Hp → Prop) : Prop :=
  vp_in l1 16 ∧ 
  ((¬ (h.1 1 (Int32.toNatClampNeg l1)) = 0 → vp_in l1 16 ∧ w_X9_sizeOf (h.1 5 (Int32.toNatClampNeg l1)) h (fun r2 h1 => vp_in l1 16 ∧ Q (1000 - (r2 * (h1.1 1 (Int32.toNatClampNeg l1)))) h1)) ∧
  ((h.1 1 (Int32.toNatClampNeg l1)) = 0 → Q 1000 h))
def w_X9_walk_l108 (rc : Int32 → Int32 → Int32 → Int64 → Int64 → zz_Hp → (zz_Hp → Prop) → Prop) (ag108 : Int32 × zz_Hp → Prop) (Q : zz_Hp → Prop) (l1 : Int32) (l4 : Int64) (l6 : Int64) (l8 : Int32) (l9 : Int32) (l10 : Int32) (l11 : Int32) (h : zz_Hp) : Prop :=
  vp_in l1 16 ∧ 
    (((h.1 1 (Int32.toNatClampNeg l1)) ≤ l11 → Q h) ∧
    (¬ ((h.1 1 (Int32.toNatClampNeg l1)) ≤ l11) → vp_in ((4 * l1) + l11) 64 ∧ rc (h.1 2 (Int32.toNatClampNeg ((4 * l1) + l11))) l8 l10 (l4 * (Int32.toInt64 l9)) (l6 * 1000) h (fun h3 => ag108 (l11 + 1, h3))))
def w_X9_walk_b (rc : Int32 → Int32 → Int32 → Int64 → Int64 → zz_Hp → (zz_Hp → Prop) → Prop) (l1 : Int32) (l2 : Int32) (l3 : Int32) (l4 : Int64) (l6 : Int64) (h : zz_Hp) (Q : zz_Hp → Prop) : Prop :=
  vp_in l1 16 ∧ vp_in l1 16 ∧ 
  ((¬ (h.1 1 (Int32.toNatClampNeg l1)) = 0 → w_X9_byOf l1 h (fun r2 h1 => ¬ r2 = 0 ∧ lp (fun s ag => w_X9_walk_l108 rc ag Q l1 l4 l6 (l2 + (h.1 5 (Int32.toNatClampNeg l1))) r2 ((((l3 * 1000) + r2) - 1) / r2) s.1 s.2) (0, h1))) ∧
  ((h.1 1 (Int32.toNatClampNeg l1)) = 0 → vp_in (h.1 0 40) 64 ∧ ∀ h5, h5 = zz_uI h 31 (Int32.toNatClampNeg (h.1 0 40)) l1 → vp_in (h5.1 0 40) 64 ∧ ∀ h6, h6 = zz_uI h5 32 (Int32.toNatClampNeg (h5.1 0 40)) (l2 + (h.1 5 (Int32.toNatClampNeg l1))) → vp_in (h6.1 0 40) 64 ∧ ∀ h7, h7 = zz_uI h6 33 (Int32.toNatClampNeg (h6.1 0 40)) l3 → vp_in (h7.1 0 40) 64 ∧ ∀ h8, h8 = zz_uL h7 34 (Int32.toNatClampNeg (h7.1 0 40)) l4 → vp_in (h8.1 0 40) 64 ∧ ∀ h9, h9 = zz_uL h8 35 (Int32.toNatClampNeg (h8.1 0 40)) l6 → ∀ h10, h10 = zz_uI h9 0 40 ((h9.1 0 40) + 1) → Q h10))
def w_X9_walk : Nat → Int32 → Int32 → Int32 → Int64 → Int64 → zz_Hp → (zz_Hp → Prop) → Prop
  | 0 => fun _ _ _ _ _ _ _ => False
  | n + 1 => w_X9_walk_b (w_X9_walk n)
def w_X9_walkOver (l1 : Int32) (l2 : Int32) (h : zz_Hp) (Q : zz_Hp → Prop) : Prop :=
  ∀ h1, h1 = zz_uI h 0 40 0 → w_X9_walk 5 l1 0 l2 1 1 h1 (fun h2 => Q h2)
def w_X9_of (l1 : Int32) (l2 : Int32) (h : zz_Hp) (Q : Int32 → zz_Hp → Prop) : Prop :=
  w_X9_isYarn l1 h (fun r2 h1 => 
  ((r2 = 0 → Q ((-2147483648)) h1) ∧
  (¬ (r2 = 0) → w_X9_in l2 0 7 h1 (fun r4 h3 => 
    ((¬ r4 = 0 → 
      (((Int32.toInt l2) = 4 → vp_in l1 16 ∧ Q (h3.1 1 (Int32.toNatClampNeg l1)) h3) ∧
      ((Int32.toInt l2) = 5 → w_X9_depthOf 5 l1 h3 (fun r6 h5 => Q r6 h5)) ∧
      ((Int32.toInt l2) = 6 → w_X9_walkOver l1 0 h3 (fun h7 => Q (h7.1 0 40) h7)) ∧
      ((Int32.toInt l2) = 7 → w_X9_byOf l1 h3 (fun r10 h9 => Q r10 h9)) ∧
      (((Int32.toInt l2) < 4 ∨ 7 < (Int32.toInt l2)) → w_X9_toldOf l1 l2 h3 (fun r12 h11 => Q r12 h11)))) ∧
    (r4 = 0 → Q ((-2147483648)) h3))))))
def w_X9_partOf (l1 : Int32) (l2 : Int32) (h : zz_Hp) (Q : Int32 → zz_Hp → Prop) : Prop :=
  w_X9_isYarn l1 h (fun r2 h1 => 
  ((r2 = 0 → Q ((-1)) h1) ∧
  (¬ (r2 = 0) → 
    ((0 ≤ l2 → vp_in l1 16 ∧ w_X9_in l2 0 ((h1.1 1 (Int32.toNatClampNeg l1)) - 1) h1 (fun r4 h3 => 
      ((r4 = 0 → Q ((-2)) h3) ∧
      (¬ (r4 = 0) → vp_in ((4 * l1) + l2) 64 ∧ Q (h3.1 2 (Int32.toNatClampNeg ((4 * l1) + l2))) h3)))) ∧
    (¬ (0 ≤ l2) → Q ((-1)) h1)))))
def w_X9_leaf (l1 : Int32) (l2 : Int32) (l3 : Int32) (h : zz_Hp) (Q : Int32 → zz_Hp → Prop) : Prop :=
  w_X9_isYarn l1 h (fun r2 h1 => 
  ((r2 = 0 → Q ((-2147483648)) h1) ∧
  (¬ (r2 = 0) → w_X9_in l3 0 1 h1 (fun r4 h3 => 
    ((¬ r4 = 0 → w_X9_walkOver l1 0 h3 (fun h5 => w_X9_in l2 0 ((h5.1 0 40) - 1) h5 (fun r8 h7 => 
      ((¬ r8 = 0 → 
        ((¬ l3 = 0 → vp_in l2 64 ∧ Q (h7.1 32 (Int32.toNatClampNeg l2)) h7) ∧
        (l3 = 0 → vp_in l2 64 ∧ Q (h7.1 31 (Int32.toNatClampNeg l2)) h7))) ∧
      (r8 = 0 → Q ((-2147483648)) h7))))) ∧
    (r4 = 0 → Q ((-2147483648)) h3))))))
def w_X9_tallyIn_l26 (rc : Int32 → zz_Hp → (zz_Hp → Prop) → Prop) (ag26 : Int32 × zz_Hp → Prop) (Q : zz_Hp → Prop) (l1 : Int32) (l2 : Int32) (h : zz_Hp) : Prop :=
  vp_in l1 16 ∧ 
    (((h.1 1 (Int32.toNatClampNeg l1)) ≤ l2 → Q h) ∧
    (¬ ((h.1 1 (Int32.toNatClampNeg l1)) ≤ l2) → vp_in ((4 * l1) + l2) 64 ∧ rc (h.1 2 (Int32.toNatClampNeg ((4 * l1) + l2))) h (fun h1 => ag26 (l2 + 1, h1))))
def w_X9_tallyIn_b (rc : Int32 → zz_Hp → (zz_Hp → Prop) → Prop) (l1 : Int32) (h : zz_Hp) (Q : zz_Hp → Prop) : Prop :=
  vp_in l1 16 ∧ 
  ((¬ (h.1 1 (Int32.toNatClampNeg l1)) = 0 → lp (fun s ag => w_X9_tallyIn_l26 rc ag Q l1 s.1 s.2) (0, h)) ∧
  ((h.1 1 (Int32.toNatClampNeg l1)) = 0 → vp_in l1 16 ∧ vp_in (h.1 3 (Int32.toNatClampNeg l1)) 4 ∧ vp_in (h.1 3 (Int32.toNatClampNeg l1)) 4 ∧ ∀ h3, h3 = zz_uI h 19 (Int32.toNatClampNeg (h.1 3 (Int32.toNatClampNeg l1))) ((h.1 19 (Int32.toNatClampNeg (h.1 3 (Int32.toNatClampNeg l1)))) + 1) → lp (fun s ag => w_X9_tallyIn_l26 rc ag Q l1 s.1 s.2) (0, h3)))
def w_X9_tallyIn : Nat → Int32 → zz_Hp → (zz_Hp → Prop) → Prop
  | 0 => fun _ _ _ => False
  | n + 1 => w_X9_tallyIn_b (w_X9_tallyIn n)
def w_X9_pull (l0 : Int32) (l1 : Int32) (l2 : Int32) (h : zz_Hp) (Q : Int32 → zz_Hp → Prop) : Prop :=
  
  ((¬ l0 = 0 → 
    ((¬ l0 = 1 → 
      ((¬ l0 = 2 → 
        ((l2 ≤ 20 → 
          ((((-20)) ≤ l2 → Q (l1 * l2) h) ∧
          (¬ (((-20)) ≤ l2) → Q ((l1 * l2) + (l1 * (l2 + 20))) h))) ∧
        (¬ (l2 ≤ 20) → Q ((l1 * l2) + (l1 * (l2 - 20))) h))) ∧
      (l0 = 2 → Q ((l1 * l2) / 2) h))) ∧
    (l0 = 1 → Q (2 * (l1 * l2)) h))) ∧
  (l0 = 0 → Q (l1 * l2) h))
def w_X9_torqueIn_l48 (rc : Int32 → Int32 → zz_Hp → (Int32 → zz_Hp → Prop) → Prop) (ag48 : Int32 × Int32 × zz_Hp → Prop) (Q : Int32 → zz_Hp → Prop) (l1 : Int32) (l3 : Int32) (l4 : Int32) (l5 : Int32) (h : zz_Hp) : Prop :=
  vp_in l1 16 ∧ 
    (((h.1 1 (Int32.toNatClampNeg l1)) ≤ l5 → Q l4 h) ∧
    (¬ ((h.1 1 (Int32.toNatClampNeg l1)) ≤ l5) → vp_in ((4 * l1) + l5) 64 ∧ rc (h.1 2 (Int32.toNatClampNeg ((4 * l1) + l5))) l3 h (fun r2 h1 => ag48 (l4 + r2, l5 + 1, h1))))
def w_X9_torqueIn_b (rc : Int32 → Int32 → zz_Hp → (Int32 → zz_Hp → Prop) → Prop) (l1 : Int32) (l2 : Int32) (h : zz_Hp) (Q : Int32 → zz_Hp → Prop) : Prop :=
  vp_in l1 16 ∧ vp_in l1 16 ∧ 
  ((¬ (h.1 1 (Int32.toNatClampNeg l1)) = 0 → vp_in l1 16 ∧ lp (fun s ag => w_X9_torqueIn_l48 rc ag Q l1 (l2 + (h.1 5 (Int32.toNatClampNeg l1))) s.1 s.2.1 s.2.2) ((l2 + (h.1 5 (Int32.toNatClampNeg l1))) * (h.1 1 (Int32.toNatClampNeg l1)), 0, h)) ∧
  ((h.1 1 (Int32.toNatClampNeg l1)) = 0 → vp_in l1 16 ∧ vp_in l1 16 ∧ w_X9_pull (h.1 3 (Int32.toNatClampNeg l1)) (h.1 4 (Int32.toNatClampNeg l1)) (l2 + (h.1 5 (Int32.toNatClampNeg l1))) h (fun r4 h3 => Q r4 h3)))
def w_X9_torqueIn : Nat → Int32 → Int32 → zz_Hp → (Int32 → zz_Hp → Prop) → Prop
  | 0 => fun _ _ _ _ => False
  | n + 1 => w_X9_torqueIn_b (w_X9_torqueIn n)
def w_X9_torqueOf (l1 : Int32) (h : zz_Hp) (Q : Int32 → zz_Hp → Prop) : Prop :=
  w_X9_torqueIn 5 l1 0 h (fun r2 h1 => Q r2 h1)
def w_X9_torque_l13 (ag13 : Int32 × zz_Hp → Prop) (Q : Int32 → zz_Hp → Prop) (l1 : Int32) (l2 : Int32) (h : zz_Hp) : Prop :=
  
    ((4 ≤ l2 → w_X9_tallyIn 5 l1 h (fun h3 => w_X9_torqueOf l1 h3 (fun r6 h5 => Q r6 h5))) ∧
    (¬ (4 ≤ l2) → vp_in l2 4 ∧ ∀ h7, h7 = zz_uI h 19 (Int32.toNatClampNeg l2) 0 → ag13 (l2 + 1, h7)))
def w_X9_torque (l1 : Int32) (h : zz_Hp) (Q : Int32 → zz_Hp → Prop) : Prop :=
  w_X9_isYarn l1 h (fun r2 h1 => 
  ((¬ r2 = 0 → lp (fun s ag => w_X9_torque_l13 ag Q l1 s.1 s.2) (0, h1)) ∧
  (r2 = 0 → Q ((-2147483648)) h1)))
def w_X9_tally (l1 : Int32) (h : zz_Hp) (Q : Int32 → zz_Hp → Prop) : Prop :=
  w_X9_in l1 0 3 h (fun r2 h1 => 
  ((r2 = 0 → Q ((-1)) h1) ∧
  (¬ (r2 = 0) → vp_in l1 4 ∧ Q (h1.1 19 (Int32.toNatClampNeg l1)) h1)))
def w_X9_common_l6 (ag6 : Int64 × Int64 × zz_Hp → Prop) (Q : Int64 → zz_Hp → Prop)  (l4 : Int64) (l6 : Int64) (h : zz_Hp) : Prop :=
  
    (((lg_cmp l6 0) = 0 → Q l4 h) ∧
    (¬ ((lg_cmp l6 0) = 0) → ¬ l6 = 0 ∧ ag6 (l6, l4 - l4 / l6 * l6, h)))
def w_X9_common (l0 : Int64) (l2 : Int64) (h : zz_Hp) (Q : Int64 → zz_Hp → Prop) : Prop :=
  lp (fun s ag => w_X9_common_l6 ag Q  s.1 s.2.1 s.2.2) (l0, l2, h)
def w_X9_kept (l1 : Int32) (l2 : Int32) (l3 : Int32) (h : zz_Hp) (Q : Int64 → zz_Hp → Prop) : Prop :=
  w_X9_isYarn l1 h (fun r2 h1 => 
  ((r2 = 0 → Q ((-2147483648)) h1) ∧
  (¬ (r2 = 0) → w_X9_in l3 0 1 h1 (fun r4 h3 => 
    ((¬ r4 = 0 → w_X9_walkOver l1 0 h3 (fun h5 => w_X9_in l2 0 ((h5.1 0 40) - 1) h5 (fun r8 h7 => 
      ((¬ r8 = 0 → vp_in l2 64 ∧ vp_in l2 64 ∧ w_X9_common (h7.2 34 (Int32.toNatClampNeg l2)) (h7.2 35 (Int32.toNatClampNeg l2)) h7 (fun r10 h9 => 
        ((¬ l3 = 0 → vp_in l2 64 ∧ ¬ r10 = 0 ∧ Q ((h9.2 35 (Int32.toNatClampNeg l2)) / r10) h9) ∧
        (l3 = 0 → vp_in l2 64 ∧ ¬ r10 = 0 ∧ Q ((h9.2 34 (Int32.toNatClampNeg l2)) / r10) h9)))) ∧
      (r8 = 0 → Q ((-2147483648)) h7))))) ∧
    (r4 = 0 → Q ((-2147483648)) h3))))))
def w_X9_needs (l1 : Int32) (l2 : Int32) (l3 : Int32) (h : zz_Hp) (Q : Int32 → zz_Hp → Prop) : Prop :=
  w_X9_isYarn l1 h (fun r2 h1 => 
  ((r2 = 0 → Q ((-1)) h1) ∧
  (¬ (r2 = 0) → w_X9_in l3 0 9999 h1 (fun r4 h3 => 
    ((¬ r4 = 0 → w_X9_walkOver l1 l3 h3 (fun h5 => w_X9_in l2 0 ((h5.1 0 40) - 1) h5 (fun r8 h7 => 
      ((r8 = 0 → Q ((-1)) h7) ∧
      (¬ (r8 = 0) → vp_in l2 64 ∧ Q (h7.1 33 (Int32.toNatClampNeg l2)) h7))))) ∧
    (r4 = 0 → Q ((-1)) h3))))))
def w_X9_heavyOf_l11 (ag11 : Int32 × Int32 × zz_Hp → Prop) (Q : Int32 → zz_Hp → Prop)  (l3 : Int32) (l4 : Int32) (h : zz_Hp) : Prop :=
  
    (((h.1 0 40) ≤ l4 → Q (l3 / 100) h) ∧
    (¬ ((h.1 0 40) ≤ l4) → vp_in l4 64 ∧ vp_in (h.1 31 (Int32.toNatClampNeg l4)) 16 ∧ vp_in l4 64 ∧ ag11 (l3 + ((h.1 4 (Int32.toNatClampNeg (h.1 31 (Int32.toNatClampNeg l4)))) * (h.1 33 (Int32.toNatClampNeg l4))), l4 + 1, h)))
def w_X9_heavyOf (l1 : Int32) (l2 : Int32) (h : zz_Hp) (Q : Int32 → zz_Hp → Prop) : Prop :=
  w_X9_walkOver l1 l2 h (fun h1 => lp (fun s ag => w_X9_heavyOf_l11 ag Q  s.1 s.2.1 s.2.2) (0, 0, h1))
def w_X9_heavy (l1 : Int32) (l2 : Int32) (h : zz_Hp) (Q : Int32 → zz_Hp → Prop) : Prop :=
  w_X9_isYarn l1 h (fun r2 h1 => 
  ((r2 = 0 → Q ((-1)) h1) ∧
  (¬ (r2 = 0) → w_X9_in l2 0 9999 h1 (fun r4 h3 => 
    ((r4 = 0 → Q ((-1)) h3) ∧
    (¬ (r4 = 0) → w_X9_heavyOf l1 l2 h3 (fun r6 h5 => Q r6 h5)))))))
def w_X9_bitsOf_l6 (rc : Int32 → zz_Hp → (Int32 → zz_Hp → Prop) → Prop) (ag6 : Int32 × Int32 × zz_Hp → Prop) (Q : Int32 → zz_Hp → Prop) (l1 : Int32) (l2 : Int32) (l3 : Int32) (h : zz_Hp) : Prop :=
  vp_in l1 16 ∧ 
    (((h.1 1 (Int32.toNatClampNeg l1)) ≤ l3 → Q l2 h) ∧
    (¬ ((h.1 1 (Int32.toNatClampNeg l1)) ≤ l3) → vp_in ((4 * l1) + l3) 64 ∧ rc (h.1 2 (Int32.toNatClampNeg ((4 * l1) + l3))) h (fun r2 h1 => ag6 (l2 ||| r2, l3 + 1, h1))))
def w_X9_bitsOf_b (rc : Int32 → zz_Hp → (Int32 → zz_Hp → Prop) → Prop) (l1 : Int32) (h : zz_Hp) (Q : Int32 → zz_Hp → Prop) : Prop :=
  lp (fun s ag => w_X9_bitsOf_l6 rc ag Q l1 s.1 s.2.1 s.2.2) (1 <<< (l1 &&& 31), 0, h)
def w_X9_bitsOf : Nat → Int32 → zz_Hp → (Int32 → zz_Hp → Prop) → Prop
  | 0 => fun _ _ _ => False
  | n + 1 => w_X9_bitsOf_b (w_X9_bitsOf n)
def w_X9_isIn (l1 : Int32) (l2 : Int32) (h : zz_Hp) (Q : Int32 → zz_Hp → Prop) : Prop :=
  w_X9_bitsOf 5 l1 h (fun r2 h1 => 
  ((¬ ((r2 >>> (l2 &&& 31)) &&& 1) = 1 → Q 0 h1) ∧
  (((r2 >>> (l2 &&& 31)) &&& 1) = 1 → Q 1 h1)))
def w_X9_balance_j95 (ag68 : Int32 × Int32 × Int32 × zz_Hp → Prop) (Q : Int32 → zz_Hp → Prop) (l1 : Int32) (l2 : Int32) (l3 : Int32) (l4 : Int32) (l5 : Int32) (l6 : Int32) (l7 : Int32) (s0 : Int32) (h : zz_Hp) : Prop :=
  vp_in l2 16 ∧ ∀ h13, h13 = zz_uI h 5 (Int32.toNatClampNeg l2) s0 → w_X9_torqueOf l1 h13 (fun r15 h14 => w_X9_sizeOf r15 h14 (fun r17 h16 => w_X9_sizeOf l6 h16 (fun r19 h18 => 
  ((r19 ≤ r17 → ag68 (l5, l6, l7 + 1, h18)) ∧
  (¬ (r19 ≤ r17) → ag68 (s0, r15, l7 + 1, h18))))))
def w_X9_balance_l68 (ag68 : Int32 × Int32 × Int32 × zz_Hp → Prop) (Q : Int32 → zz_Hp → Prop) (l1 : Int32) (l2 : Int32) (l3 : Int32) (l4 : Int32) (l5 : Int32) (l6 : Int32) (l7 : Int32) (h : zz_Hp) : Prop :=
  
    ((200 ≤ l7 → vp_in l2 16 ∧ ∀ h12, h12 = zz_uI h 5 (Int32.toNatClampNeg l2) l4 → 
      ((¬ l3 = 0 → Q l6 h12) ∧
      (l3 = 0 → Q l5 h12))) ∧
    (¬ (200 ≤ l7) → 
      ((¬ (l7 - l7 / 2 * 2) = 0 → w_X9_balance_j95 ag68 Q l1 l2 l3 l4 l5 l6 l7 (l7 / 2) h) ∧
      ((l7 - l7 / 2 * 2) = 0 → w_X9_balance_j95 ag68 Q l1 l2 l3 l4 l5 l6 l7 (-(l7 / 2)) h))))
def w_X9_balance (l1 : Int32) (l2 : Int32) (l3 : Int32) (h : zz_Hp) (Q : Int32 → zz_Hp → Prop) : Prop :=
  w_X9_isYarn l1 h (fun r2 h1 => 
  ((r2 = 0 → Q ((-2147483648)) h1) ∧
  (¬ (r2 = 0) → w_X9_isYarn l2 h1 (fun r4 h3 => 
    ((r4 = 0 → Q ((-2147483648)) h3) ∧
    (¬ (r4 = 0) → w_X9_in l3 0 1 h3 (fun r6 h5 => 
      ((¬ r6 = 0 → w_X9_isIn l1 l2 h5 (fun r8 h7 => 
        ((¬ r8 = 0 → vp_in l2 16 ∧ vp_in l2 16 ∧ ∀ h9, h9 = zz_uI h7 5 (Int32.toNatClampNeg l2) 0 → w_X9_torqueOf l1 h9 (fun r11 h10 => lp (fun s ag => w_X9_balance_l68 ag Q l1 l2 l3 (h7.1 5 (Int32.toNatClampNeg l2)) s.1 s.2.1 s.2.2.1 s.2.2.2) (0, r11, 2, h10))) ∧
        (r8 = 0 → Q ((-10000000)) h7)))) ∧
      (r6 = 0 → Q ((-2147483648)) h5)))))))))
def w_X9_isThread (l1 : Int32) (h : zz_Hp) (Q : Int32 → zz_Hp → Prop) : Prop :=
  w_X9_isYarn l1 h (fun r2 h1 => 
  ((r2 = 0 → Q 0 h1) ∧
  (¬ (r2 = 0) → vp_in l1 16 ∧ 
    ((¬ (h1.1 1 (Int32.toNatClampNeg l1)) = 0 → Q 0 h1) ∧
    ((h1.1 1 (Int32.toNatClampNeg l1)) = 0 → Q 1 h1)))))
def w_X9_plan_j121 (ag51 : Int32 × Int32 × Int32 × zz_Hp → Prop) (Q : Int32 → zz_Hp → Prop) (l1 : Int32) (l2 : Int32) (l3 : Int32) (l4 : Int32) (l7 : Int32) (l10 : Int32)  (h : zz_Hp) : Prop :=
  ag51 (l7, l10, l7 + 1, h)
def w_X9_plan_l51 (ag51 : Int32 × Int32 × Int32 × zz_Hp → Prop) (Q : Int32 → zz_Hp → Prop) (l1 : Int32) (l2 : Int32) (l3 : Int32) (l4 : Int32) (l5 : Int32) (l6 : Int32) (l7 : Int32) (h : zz_Hp) : Prop :=
  
    ((4 < l7 → 
      ((¬ l4 = 0 → Q l6 h) ∧
      (l4 = 0 → Q l5 h))) ∧
    (¬ (4 < l7) → w_X9_sizeOf l2 h (fun r10 h9 => ¬ (1000 - (r10 * l7)) = 0 ∧ vp_in l1 16 ∧ 
      ((l5 = 0 → w_X9_plan_j121 ag51 Q l1 l2 l3 l4 l7 (((l7 * (h9.1 4 (Int32.toNatClampNeg l1))) * (((100000 + (1000 - (r10 * l7))) - 1) / (1000 - (r10 * l7)))) / 100)  h9) ∧
      (¬ (l5 = 0) → w_X9_sizeOf ((((l7 * (h9.1 4 (Int32.toNatClampNeg l1))) * (((100000 + (1000 - (r10 * l7))) - 1) / (1000 - (r10 * l7)))) / 100) - l3) h9 (fun r12 h11 => w_X9_sizeOf (l6 - l3) h11 (fun r14 h13 => 
        ((r14 ≤ r12 → ag51 (l5, l6, l7 + 1, h13)) ∧
        (¬ (r14 ≤ r12) → w_X9_plan_j121 ag51 Q l1 l2 l3 l4 l7 (((l7 * (h9.1 4 (Int32.toNatClampNeg l1))) * (((100000 + (1000 - (r10 * l7))) - 1) / (1000 - (r10 * l7)))) / 100)  h13)))))))))
def w_X9_plan (l1 : Int32) (l2 : Int32) (l3 : Int32) (l4 : Int32) (h : zz_Hp) (Q : Int32 → zz_Hp → Prop) : Prop :=
  w_X9_isThread l1 h (fun r2 h1 => 
  ((r2 = 0 → Q ((-1)) h1) ∧
  (¬ (r2 = 0) → w_X9_in l2 ((-99)) 99 h1 (fun r4 h3 => 
    ((r4 = 0 → Q ((-1)) h3) ∧
    (¬ (r4 = 0) → w_X9_in l3 0 9999 h3 (fun r6 h5 => 
      ((r6 = 0 → Q ((-1)) h5) ∧
      (¬ (r6 = 0) → w_X9_in l4 0 1 h5 (fun r8 h7 => 
        ((¬ r8 = 0 → lp (fun s ag => w_X9_plan_l51 ag Q l1 l2 l3 l4 s.1 s.2.1 s.2.2.1 s.2.2.2) (0, 0, 2, h7)) ∧
        (r8 = 0 → Q ((-1)) h7))))))))))))
def w_X9_lacks_l87 (ag87 : Int32 × Int32 × zz_Hp → Prop) (Q : Int32 → zz_Hp → Prop)  (l3 : Int32) (l4 : Int32) (h : zz_Hp) : Prop :=
  
    (((h.1 0 0) ≤ l4 → (l3 = 0 ∨ l3 = 1) ∧ Q l3 h) ∧
    (¬ ((h.1 0 0) ≤ l4) → 
      ((¬ l3 = 0 → ag87 (1, l4 + 1, h)) ∧
      (l3 = 0 → vp_in l4 16 ∧ vp_in l4 16 ∧ 
        (((h.1 36 (Int32.toNatClampNeg l4)) ≤ (h.1 6 (Int32.toNatClampNeg l4)) → ag87 (0, l4 + 1, h)) ∧
        (¬ ((h.1 36 (Int32.toNatClampNeg l4)) ≤ (h.1 6 (Int32.toNatClampNeg l4))) → ag87 (1, l4 + 1, h)))))))
def w_X9_lacks_l31 (ag31 : Int32 × zz_Hp → Prop) (Q : Int32 → zz_Hp → Prop) (l1 : Int32) (l2 : Int32) (l3 : Int32) (h : zz_Hp) : Prop :=
  
    (((h.1 0 40) ≤ l3 → vp_in l1 16 ∧ 
      ((((h.1 6 (Int32.toNatClampNeg l1)) + l2) ≤ 99999 → lp (fun s ag => w_X9_lacks_l87 ag Q  s.1 s.2.1 s.2.2) (0, 0, h)) ∧
      (¬ (((h.1 6 (Int32.toNatClampNeg l1)) + l2) ≤ 99999) → lp (fun s ag => w_X9_lacks_l87 ag Q  s.1 s.2.1 s.2.2) (1, 0, h)))) ∧
    (¬ ((h.1 0 40) ≤ l3) → vp_in l3 64 ∧ vp_in (h.1 31 (Int32.toNatClampNeg l3)) 16 ∧ vp_in l3 64 ∧ vp_in (h.1 31 (Int32.toNatClampNeg l3)) 16 ∧ ∀ h3, h3 = zz_uI h 36 (Int32.toNatClampNeg (h.1 31 (Int32.toNatClampNeg l3))) ((h.1 36 (Int32.toNatClampNeg (h.1 31 (Int32.toNatClampNeg l3)))) + (h.1 33 (Int32.toNatClampNeg l3))) → ag31 (l3 + 1, h3)))
def w_X9_lacks_l8 (ag8 : Int32 × zz_Hp → Prop) (Q : Int32 → zz_Hp → Prop) (l1 : Int32) (l2 : Int32) (l3 : Int32) (h : zz_Hp) : Prop :=
  
    (((h.1 0 0) ≤ l3 → lp (fun s ag => w_X9_lacks_l31 ag Q l1 l2 s.1 s.2) (0, h)) ∧
    (¬ ((h.1 0 0) ≤ l3) → vp_in l3 16 ∧ ∀ h4, h4 = zz_uI h 36 (Int32.toNatClampNeg l3) 0 → ag8 (l3 + 1, h4)))
def w_X9_lacks (l1 : Int32) (l2 : Int32) (h : zz_Hp) (Q : Int32 → zz_Hp → Prop) : Prop :=
  w_X9_walkOver l1 l2 h (fun h1 => lp (fun s ag => w_X9_lacks_l8 ag Q l1 l2 s.1 s.2) (0, h1))
def w_X9_can_l28 (ag28 : Int32 × Int32 × zz_Hp → Prop) (Q : Int32 → zz_Hp → Prop) (l1 : Int32) (l2 : Int32) (l3 : Int32) (h : zz_Hp) : Prop :=
  
    ((l3 ≤ l2 → Q l2 h) ∧
    (¬ (l3 ≤ l2) → w_X9_lacks l1 (((l2 + l3) + 1) / 2) h (fun r4 h3 => 
      ((r4 = 0 → ag28 (((l2 + l3) + 1) / 2, l3, h3)) ∧
      (¬ (r4 = 0) → ag28 (l2, (((l2 + l3) + 1) / 2) - 1, h3))))))
def w_X9_can (l1 : Int32) (h : zz_Hp) (Q : Int32 → zz_Hp → Prop) : Prop :=
  w_X9_isYarn l1 h (fun r2 h1 => 
  ((¬ r2 = 0 → vp_in l1 16 ∧ 
    ((¬ (h1.1 1 (Int32.toNatClampNeg l1)) = 0 → lp (fun s ag => w_X9_can_l28 ag Q l1 s.1 s.2.1 s.2.2) (0, 9999, h1)) ∧
    ((h1.1 1 (Int32.toNatClampNeg l1)) = 0 → Q ((-5)) h1))) ∧
  (r2 = 0 → Q ((-1)) h1)))
def w_X9_areAlike_l82 (rc : Int32 → Int32 → Int32 → zz_Hp → (Int32 → zz_Hp → Prop) → Prop) (ag82 : Int32 × zz_Hp → Prop) (Q : Int32 → zz_Hp → Prop) (l1 : Int32) (l2 : Int32) (l3 : Int32) (l4 : Int32) (h : zz_Hp) : Prop :=
  vp_in l1 16 ∧ 
    (((h.1 1 (Int32.toNatClampNeg l1)) ≤ l4 → Q 1 h) ∧
    (¬ ((h.1 1 (Int32.toNatClampNeg l1)) ≤ l4) → vp_in ((4 * l1) + l4) 64 ∧ vp_in ((4 * l2) + l4) 64 ∧ rc (h.1 2 (Int32.toNatClampNeg ((4 * l1) + l4))) (h.1 2 (Int32.toNatClampNeg ((4 * l2) + l4))) l3 h (fun r2 h1 => 
      ((¬ r2 = 0 → ag82 (l4 + 1, h1)) ∧
      (r2 = 0 → Q 0 h1)))))
def w_X9_areAlike_b (rc : Int32 → Int32 → Int32 → zz_Hp → (Int32 → zz_Hp → Prop) → Prop) (l1 : Int32) (l2 : Int32) (l3 : Int32) (h : zz_Hp) (Q : Int32 → zz_Hp → Prop) : Prop :=
  vp_in l1 16 ∧ vp_in l2 16 ∧ 
  ((¬ (h.1 1 (Int32.toNatClampNeg l1)) = (h.1 1 (Int32.toNatClampNeg l2)) → Q 0 h) ∧
  ((h.1 1 (Int32.toNatClampNeg l1)) = (h.1 1 (Int32.toNatClampNeg l2)) → vp_in l1 16 ∧ vp_in l2 16 ∧ 
    (((h.1 5 (Int32.toNatClampNeg l1)) = (l3 * (h.1 5 (Int32.toNatClampNeg l2))) → vp_in l1 16 ∧ 
      ((¬ (h.1 1 (Int32.toNatClampNeg l1)) = 0 → lp (fun s ag => w_X9_areAlike_l82 rc ag Q l1 l2 l3 s.1 s.2) (0, h)) ∧
      ((h.1 1 (Int32.toNatClampNeg l1)) = 0 → vp_in l1 16 ∧ vp_in l2 16 ∧ 
        ((¬ (h.1 3 (Int32.toNatClampNeg l1)) = (h.1 3 (Int32.toNatClampNeg l2)) → Q 0 h) ∧
        ((h.1 3 (Int32.toNatClampNeg l1)) = (h.1 3 (Int32.toNatClampNeg l2)) → vp_in l1 16 ∧ vp_in l2 16 ∧ 
          ((¬ (h.1 4 (Int32.toNatClampNeg l1)) = (h.1 4 (Int32.toNatClampNeg l2)) → Q 0 h) ∧
          ((h.1 4 (Int32.toNatClampNeg l1)) = (h.1 4 (Int32.toNatClampNeg l2)) → Q 1 h))))))) ∧
    (¬ ((h.1 5 (Int32.toNatClampNeg l1)) = (l3 * (h.1 5 (Int32.toNatClampNeg l2)))) → Q 0 h))))
def w_X9_areAlike : Nat → Int32 → Int32 → Int32 → zz_Hp → (Int32 → zz_Hp → Prop) → Prop
  | 0 => fun _ _ _ _ _ => False
  | n + 1 => w_X9_areAlike_b (w_X9_areAlike n)
def w_X9_alike_j39 (Q : Int32 → zz_Hp → Prop)  (s0 : Int32) (s1 : Int32) (s2 : Int32) (h : zz_Hp) : Prop :=
  w_X9_areAlike 5 s2 s1 s0 h (fun r8 h7 => 
  ((r8 = 0 → Q 0 h7) ∧
  (¬ (r8 = 0) → Q 1 h7)))
def w_X9_alike (l1 : Int32) (l2 : Int32) (l3 : Int32) (h : zz_Hp) (Q : Int32 → zz_Hp → Prop) : Prop :=
  w_X9_isYarn l1 h (fun r2 h1 => 
  ((r2 = 0 → Q ((-1)) h1) ∧
  (¬ (r2 = 0) → w_X9_isYarn l2 h1 (fun r4 h3 => 
    ((r4 = 0 → Q ((-1)) h3) ∧
    (¬ (r4 = 0) → w_X9_in l3 0 1 h3 (fun r6 h5 => 
      ((¬ r6 = 0 → 
        ((¬ l3 = 0 → w_X9_alike_j39 Q  ((-1)) l2 l1 h5) ∧
        (l3 = 0 → w_X9_alike_j39 Q  1 l2 l1 h5))) ∧
      (r6 = 0 → Q ((-1)) h5)))))))))
def w_X9_inside (l1 : Int32) (h : zz_Hp) (Q : Int32 → zz_Hp → Prop) : Prop :=
  w_X9_isYarn l1 h (fun r2 h1 => 
  ((r2 = 0 → Q ((-1)) h1) ∧
  (¬ (r2 = 0) → w_X9_bitsOf 5 l1 h1 (fun r4 h3 => Q r4 h3))))
def w_X9_isMade_l13 (ag13 : Int32 × zz_Hp → Prop) (Q : Int32 → zz_Hp → Prop) (l1 : Int32) (l2 : Int32) (l3 : Int32) (h : zz_Hp) : Prop :=
  
    (((h.1 0 0) ≤ l3 → vp_in l1 16 ∧ vp_in l1 16 ∧ ∀ h3, h3 = zz_uI h 6 (Int32.toNatClampNeg l1) ((h.1 6 (Int32.toNatClampNeg l1)) + l2) → Q 1 h3) ∧
    (¬ ((h.1 0 0) ≤ l3) → vp_in l3 16 ∧ vp_in l3 16 ∧ vp_in l3 16 ∧ ∀ h4, h4 = zz_uI h 6 (Int32.toNatClampNeg l3) ((h.1 6 (Int32.toNatClampNeg l3)) - (h.1 36 (Int32.toNatClampNeg l3))) → ag13 (l3 + 1, h4)))
def w_X9_isMade (l1 : Int32) (l2 : Int32) (h : zz_Hp) (Q : Int32 → zz_Hp → Prop) : Prop :=
  w_X9_lacks l1 l2 h (fun r2 h1 => 
  ((r2 = 0 → lp (fun s ag => w_X9_isMade_l13 ag Q l1 l2 s.1 s.2) (0, h1)) ∧
  (¬ (r2 = 0) → Q 0 h1)))
def w_X9_make (l1 : Int32) (l2 : Int32) (h : zz_Hp) (Q : Int32 → zz_Hp → Prop) : Prop :=
  w_X9_isYarn l1 h (fun r2 h1 => 
  ((r2 = 0 → Q ((-1)) h1) ∧
  (¬ (r2 = 0) → w_X9_in l2 1 9999 h1 (fun r4 h3 => 
    ((¬ r4 = 0 → vp_in l1 16 ∧ 
      (((h3.1 1 (Int32.toNatClampNeg l1)) = 0 → Q ((-5)) h3) ∧
      (¬ ((h3.1 1 (Int32.toNatClampNeg l1)) = 0) → w_X9_isMade l1 l2 h3 (fun r6 h5 => 
        ((¬ r6 = 0 → ∀ h7, h7 = zz_uI h5 0 16 0 → vp_in l1 16 ∧ Q (h7.1 6 (Int32.toNatClampNeg l1)) h7) ∧
        (r6 = 0 → Q ((-5)) h5)))))) ∧
    (r4 = 0 → Q ((-1)) h3))))))
def w_X9_lay (l1 : Int32) (l2 : Int32) (l3 : Int32) (h : zz_Hp) (Q : Int32 → zz_Hp → Prop) : Prop :=
  
  ((¬ l1 = ((-1)) → w_X9_isYarn l1 h (fun r2 h1 => 
    ((r2 = 0 → Q ((-1)) h1) ∧
    (¬ (r2 = 0) → w_X9_in l2 1 40 h1 (fun r4 h3 => 
      ((r4 = 0 → Q ((-1)) h3) ∧
      (¬ (r4 = 0) → w_X9_in l3 0 1 h3 (fun r6 h5 => 
        ((¬ r6 = 0 → 
          ((¬ (h5.1 0 9) = 8 → vp_in (h5.1 0 9) 8 ∧ ∀ h7, h7 = zz_uI h5 8 (Int32.toNatClampNeg (h5.1 0 9)) l1 → vp_in (h7.1 0 9) 8 ∧ ∀ h8, h8 = zz_uI h7 9 (Int32.toNatClampNeg (h7.1 0 9)) l2 → vp_in (h8.1 0 9) 8 ∧ ∀ h9, h9 = zz_uI h8 10 (Int32.toNatClampNeg (h8.1 0 9)) l3 → ∀ h10, h10 = zz_uI h9 0 9 ((h9.1 0 9) + 1) → Q (h10.1 0 9) h10) ∧
          ((h5.1 0 9) = 8 → Q ((-3)) h5))) ∧
        (r6 = 0 → Q ((-1)) h5)))))))))) ∧
  (l1 = ((-1)) → ∀ h11, h11 = zz_uI h 0 9 0 → Q 0 h11))
def w_X9_skewOf (l1 : Int32) (h : zz_Hp) (Q : Int32 → zz_Hp → Prop) : Prop :=
  vp_in l1 8 ∧ w_X9_torqueOf (h.1 8 (Int32.toNatClampNeg l1)) h (fun r2 h1 => vp_in l1 8 ∧ vp_in l1 8 ∧ 
  ((¬ (h1.1 10 (Int32.toNatClampNeg l1)) = 1 → Q (r2 * (h1.1 9 (Int32.toNatClampNeg l1))) h1) ∧
  ((h1.1 10 (Int32.toNatClampNeg l1)) = 1 → Q (-(r2 * (h1.1 9 (Int32.toNatClampNeg l1)))) h1)))
def w_X9_skew_l19 (ag19 : Int32 × Int32 × zz_Hp → Prop) (Q : Int32 → zz_Hp → Prop) (l1 : Int32) (l2 : Int32) (l3 : Int32) (h : zz_Hp) : Prop :=
  
    ((l1 ≤ l3 → Q l2 h) ∧
    (¬ (l1 ≤ l3) → w_X9_skewOf l3 h (fun r4 h3 => ag19 (l2 + r4, l3 + 1, h3))))
def w_X9_skew (l1 : Int32) (h : zz_Hp) (Q : Int32 → zz_Hp → Prop) : Prop :=
  w_X9_in l1 0 (h.1 0 9) h (fun r2 h1 => 
  ((¬ r2 = 0 → lp (fun s ag => w_X9_skew_l19 ag Q l1 s.1 s.2.1 s.2.2) (0, 0, h1)) ∧
  (r2 = 0 → Q ((-2147483648)) h1)))
def w_X9_worst_l6 (ag6 : Int32 × Int32 × Int32 × zz_Hp → Prop) (Q : Int32 → zz_Hp → Prop)  (l1 : Int32) (l2 : Int32) (l3 : Int32) (h : zz_Hp) : Prop :=
  
    (((h.1 0 9) ≤ l3 → Q l1 h) ∧
    (¬ ((h.1 0 9) ≤ l3) → w_X9_skewOf l3 h (fun r2 h1 => w_X9_sizeOf (l2 + r2) h1 (fun r4 h3 => 
      ((r4 ≤ l1 → ag6 (l1, l2 + r2, l3 + 1, h3)) ∧
      (¬ (r4 ≤ l1) → w_X9_sizeOf (l2 + r2) h3 (fun r6 h5 => ag6 (r6, l2 + r2, l3 + 1, h5))))))))
def w_X9_worst  (h : zz_Hp) (Q : Int32 → zz_Hp → Prop) : Prop :=
  lp (fun s ag => w_X9_worst_l6 ag Q  s.1 s.2.1 s.2.2.1 s.2.2.2) (0, 0, 0, h)
def w_X9_arrange_j129 (rc : Int32 → Int32 → Int32 → Int32 → zz_Hp → (zz_Hp → Prop) → Prop) (ag60 : Int32 × zz_Hp → Prop) (Q : zz_Hp → Prop) (l1 : Int32) (l2 : Int32) (l3 : Int32) (l4 : Int32) (l5 : Int32) (s0 : Int32) (s1 : Int32) (s2 : Int32) (s3 : Int32) (h : zz_Hp) : Prop :=
  rc s3 s2 s1 s0 h (fun h4 => ag60 (l5 + 1, h4))
def w_X9_arrange_l60 (rc : Int32 → Int32 → Int32 → Int32 → zz_Hp → (zz_Hp → Prop) → Prop) (ag60 : Int32 × zz_Hp → Prop) (Q : zz_Hp → Prop) (l1 : Int32) (l2 : Int32) (l3 : Int32) (l4 : Int32) (l5 : Int32) (h : zz_Hp) : Prop :=
  
    (((h.1 0 9) ≤ l5 → Q h) ∧
    (¬ ((h.1 0 9) ≤ l5) → 
      ((¬ ((l2 >>> (l5 &&& 31)) &&& 1) = 0 → ag60 (l5 + 1, h)) ∧
      (((l2 >>> (l5 &&& 31)) &&& 1) = 0 → vp_in l1 8 ∧ ∀ h1, h1 = zz_uI h 38 (Int32.toNatClampNeg l1) l5 → vp_in l5 8 ∧ w_X9_sizeOf (l3 + (h1.1 37 (Int32.toNatClampNeg l5))) h1 (fun r3 h2 => 
        ((r3 ≤ l4 → w_X9_arrange_j129 rc ag60 Q l1 l2 l3 l4 l5 l4 (l3 + (h1.1 37 (Int32.toNatClampNeg l5))) (l2 ||| (1 <<< (l5 &&& 31))) (l1 + 1) h2) ∧
        (¬ (r3 ≤ l4) → w_X9_sizeOf (l3 + (h1.1 37 (Int32.toNatClampNeg l5))) h2 (fun r7 h6 => w_X9_arrange_j129 rc ag60 Q l1 l2 l3 l4 l5 r7 (l3 + (h1.1 37 (Int32.toNatClampNeg l5))) (l2 ||| (1 <<< (l5 &&& 31))) (l1 + 1) h6))))))))
def w_X9_arrange_l27 (rc : Int32 → Int32 → Int32 → Int32 → zz_Hp → (zz_Hp → Prop) → Prop) (ag27 : Int32 × zz_Hp → Prop) (Q : zz_Hp → Prop)  (l5 : Int32) (h : zz_Hp) : Prop :=
  
    (((h.1 0 9) ≤ l5 → Q h) ∧
    (¬ ((h.1 0 9) ≤ l5) → vp_in l5 8 ∧ vp_in l5 8 ∧ ∀ h9, h9 = zz_uI h 39 (Int32.toNatClampNeg l5) (h.1 38 (Int32.toNatClampNeg l5)) → ag27 (l5 + 1, h9)))
def w_X9_arrange_b (rc : Int32 → Int32 → Int32 → Int32 → zz_Hp → (zz_Hp → Prop) → Prop) (l1 : Int32) (l2 : Int32) (l3 : Int32) (l4 : Int32) (h : zz_Hp) (Q : zz_Hp → Prop) : Prop :=
  
  ((l4 < (h.1 0 50) → 
    ((¬ l1 = (h.1 0 9) → lp (fun s ag => w_X9_arrange_l60 rc ag Q l1 l2 l3 l4 s.1 s.2) (0, h)) ∧
    (l1 = (h.1 0 9) → ∀ h8, h8 = zz_uI h 0 50 l4 → lp (fun s ag => w_X9_arrange_l27 rc ag Q  s.1 s.2) (0, h8)))) ∧
  (¬ (l4 < (h.1 0 50)) → Q h))
def w_X9_arrange : Nat → Int32 → Int32 → Int32 → Int32 → zz_Hp → (zz_Hp → Prop) → Prop
  | 0 => fun _ _ _ _ _ _ => False
  | n + 1 => w_X9_arrange_b (w_X9_arrange n)
def w_X9_order_l18 (ag18 : Int32 × zz_Hp → Prop) (Q : Int32 → zz_Hp → Prop) (l1 : Int32) (l2 : Int32) (h : zz_Hp) : Prop :=
  
    (((h.1 0 9) ≤ l2 → ∀ h3, h3 = zz_uI h 0 50 2147483647 → w_X9_arrange 10 0 0 0 0 h3 (fun h4 => 
      ((¬ l1 = ((-1)) → vp_in l1 8 ∧ Q (h4.1 39 (Int32.toNatClampNeg l1)) h4) ∧
      (l1 = ((-1)) → Q (h4.1 0 50) h4)))) ∧
    (¬ ((h.1 0 9) ≤ l2) → w_X9_skewOf l2 h (fun r7 h6 => vp_in l2 8 ∧ ∀ h8, h8 = zz_uI h6 37 (Int32.toNatClampNeg l2) r7 → ag18 (l2 + 1, h8))))
def w_X9_order (l1 : Int32) (h : zz_Hp) (Q : Int32 → zz_Hp → Prop) : Prop :=
  w_X9_in l1 ((-1)) ((h.1 0 9) - 1) h (fun r2 h1 => 
  ((¬ r2 = 0 → lp (fun s ag => w_X9_order_l18 ag Q l1 s.1 s.2) (0, h1)) ∧
  (r2 = 0 → Q ((-1)) h1)))
def w_X9_turned_l10 (ag10 : Int32 × Int32 × Int32 × zz_Hp → Prop) (Q : Int32 → zz_Hp → Prop)  (l1 : Int32) (l2 : Int32) (l3 : Int32) (h : zz_Hp) : Prop :=
  
    (((h.1 0 9) ≤ l3 → Q l1 h) ∧
    (¬ ((h.1 0 9) ≤ l3) → vp_in l3 8 ∧ vp_in l3 8 ∧ ∀ h3, h3 = zz_uI h 10 (Int32.toNatClampNeg l3) (1 - (h.1 10 (Int32.toNatClampNeg l3))) → w_X9_worst  h3 (fun r5 h4 => vp_in l3 8 ∧ vp_in l3 8 ∧ ∀ h6, h6 = zz_uI h4 10 (Int32.toNatClampNeg l3) (1 - (h4.1 10 (Int32.toNatClampNeg l3))) → 
      ((l2 ≤ r5 → ag10 (l1, l2, l3 + 1, h6)) ∧
      (¬ (l2 ≤ r5) → ag10 (l3, r5, l3 + 1, h6))))))
def w_X9_turned  (h : zz_Hp) (Q : Int32 → zz_Hp → Prop) : Prop :=
  w_X9_worst  h (fun r2 h1 => lp (fun s ag => w_X9_turned_l10 ag Q  s.1 s.2.1 s.2.2.1 s.2.2.2) ((-2), r2, 0, h1))
def w_X9_isTold_j68 (Q : Int32 → zz_Hp → Prop) (l4 : Int32) (l5 : Int32) (l6 : Int32)  (h : zz_Hp) : Prop :=
  vp_in l4 16 ∧ ∀ h1, h1 = zz_uI h 5 (Int32.toNatClampNeg l4) l5 → (l6 = 0 ∨ l6 = 1) ∧ Q l6 h1
def w_X9_isTold_l15 (ag15 : Int32 × Int32 × zz_Hp → Prop) (Q : Int32 → zz_Hp → Prop) (l1 : Int32) (l2 : Int32) (l3 : Int32) (l4 : Int32) (l5 : Int32) (l6 : Int32) (l7 : Int32) (h : zz_Hp) : Prop :=
  
    ((l2 ≤ l7 → w_X9_isTold_j68 Q l4 l5 l6  h) ∧
    (¬ (l2 ≤ l7) → 
      ((l6 = 0 → w_X9_isTold_j68 Q l4 l5 l6  h) ∧
      (¬ (l6 = 0) → vp_in l4 16 ∧ ∀ h2, h2 = zz_uI h 5 (Int32.toNatClampNeg l4) l7 → w_X9_torqueOf l3 h2 (fun r4 h3 => vp_in ((40 * l1) + l7) 120 ∧ 
        ((¬ r4 = (h3.1 18 (Int32.toNatClampNeg ((40 * l1) + l7))) → ag15 (0, l7 + 1, h3)) ∧
        (r4 = (h3.1 18 (Int32.toNatClampNeg ((40 * l1) + l7))) → ag15 (1, l7 + 1, h3))))))))
def w_X9_isTold (l1 : Int32) (l2 : Int32) (l3 : Int32) (l4 : Int32) (h : zz_Hp) (Q : Int32 → zz_Hp → Prop) : Prop :=
  vp_in l4 16 ∧ lp (fun s ag => w_X9_isTold_l15 ag Q l1 l2 l3 l4 (h.1 5 (Int32.toNatClampNeg l4)) s.1 s.2.1 s.2.2) (1, 0, h)
def w_X9_fits_l218 (ag218 : Int32 × Int32 × Int32 × zz_Hp → Prop) (Q : Int32 → zz_Hp → Prop) (l1 : Int32) (l2 : Int32) (l3 : Int32) (l5 : Int32) (l6 : Int32) (l7 : Int32) (l8 : Int32) (l9 : Int32) (l10 : Int32) (l11 : Int32) (h : zz_Hp) : Prop :=
  
    ((l11 < 1 → vp_in l6 16 ∧ ∀ h15, h15 = zz_uI h 4 (Int32.toNatClampNeg l6) l8 → 
      ((¬ l5 = 1 → Q l10 h15) ∧
      (l5 = 1 → Q l9 h15))) ∧
    (¬ (l11 < 1) → vp_in l6 16 ∧ ∀ h16, h16 = zz_uI h 4 (Int32.toNatClampNeg l6) l11 → w_X9_isTold l1 l2 l3 l7 h16 (fun r18 h17 => 
      ((r18 = 0 → ag218 (l9, l10, l11 + (-1), h17)) ∧
      (¬ (r18 = 0) → ag218 (l9 + 1, l11, l11 + (-1), h17))))))
def w_X9_fits_l140 (ag140 : Int32 × Int32 × zz_Hp → Prop) (Q : Int32 → zz_Hp → Prop) (l1 : Int32) (l2 : Int32) (l3 : Int32) (l6 : Int32) (l7 : Int32) (l8 : Int32) (l9 : Int32) (l10 : Int32) (h : zz_Hp) : Prop :=
  
    ((4 ≤ l10 → vp_in l6 16 ∧ ∀ h19, h19 = zz_uI h 3 (Int32.toNatClampNeg l6) l8 → Q l9 h19) ∧
    (¬ (4 ≤ l10) → vp_in l6 16 ∧ ∀ h20, h20 = zz_uI h 3 (Int32.toNatClampNeg l6) l10 → w_X9_isTold l1 l2 l3 l7 h20 (fun r22 h21 => 
      ((r22 = 0 → ag140 (l9 ||| 0, l10 + 1, h21)) ∧
      (¬ (r22 = 0) → ag140 (l9 ||| (1 <<< (l10 &&& 31)), l10 + 1, h21))))))
def w_X9_fits (l1 : Int32) (l2 : Int32) (l3 : Int32) (l4 : Int32) (l5 : Int32) (h : zz_Hp) (Q : Int32 → zz_Hp → Prop) : Prop :=
  w_X9_in l1 0 2 h (fun r2 h1 => 
  ((r2 = 0 → Q ((-1)) h1) ∧
  (¬ (r2 = 0) → w_X9_in l2 0 40 h1 (fun r4 h3 => 
    ((r4 = 0 → Q ((-1)) h3) ∧
    (¬ (r4 = 0) → w_X9_isYarn l3 h3 (fun r6 h5 => 
      ((r6 = 0 → Q ((-1)) h5) ∧
      (¬ (r6 = 0) → 
        ((l4 < 0 → Q ((-1)) h5) ∧
        (¬ (l4 < 0) → w_X9_isThread (l4 / 16) h5 (fun r8 h7 => 
          ((r8 = 0 → Q ((-1)) h7) ∧
          (¬ (r8 = 0) → w_X9_isYarn (l4 - l4 / 16 * 16) h7 (fun r10 h9 => 
            ((r10 = 0 → Q ((-1)) h9) ∧
            (¬ (r10 = 0) → w_X9_in l5 0 2 h9 (fun r12 h11 => 
              ((¬ r12 = 0 → w_X9_isIn l3 (l4 - l4 / 16 * 16) h11 (fun r14 h13 => 
                ((¬ r14 = 0 → vp_in l1 3 ∧ 
                  ((0 ≤ (h13.1 17 (Int32.toNatClampNeg l1)) → vp_in l1 3 ∧ 
                    ((l2 ≤ (h13.1 17 (Int32.toNatClampNeg l1)) → 
                      ((¬ l5 = 0 → vp_in (l4 / 16) 16 ∧ lp (fun s ag => w_X9_fits_l218 ag Q l1 l2 l3 l5 (l4 / 16) (l4 - l4 / 16 * 16) (h13.1 4 (Int32.toNatClampNeg (l4 / 16))) s.1 s.2.1 s.2.2.1 s.2.2.2) (0, (-2), 99, h13)) ∧
                      (l5 = 0 → vp_in (l4 / 16) 16 ∧ lp (fun s ag => w_X9_fits_l140 ag Q l1 l2 l3 (l4 / 16) (l4 - l4 / 16 * 16) (h13.1 3 (Int32.toNatClampNeg (l4 / 16))) s.1 s.2.1 s.2.2) (0, 0, h13)))) ∧
                    (¬ (l2 ≤ (h13.1 17 (Int32.toNatClampNeg l1))) → Q ((-13)) h13))) ∧
                  (¬ (0 ≤ (h13.1 17 (Int32.toNatClampNeg l1))) → Q ((-11)) h13))) ∧
                (r14 = 0 → Q ((-5)) h13)))) ∧
              (r12 = 0 → Q ((-1)) h11))))))))))))))))))))
def w_X9_job (l1 : Int32) (l2 : Int32) (h : zz_Hp) (Q : Int32 → zz_Hp → Prop) : Prop :=
  w_X9_isYarn l1 h (fun r2 h1 => 
  ((r2 = 0 → Q ((-1)) h1) ∧
  (¬ (r2 = 0) → w_X9_in l2 1 9999 h1 (fun r4 h3 => 
    ((¬ r4 = 0 → vp_in l1 16 ∧ 
      ((¬ (h3.1 1 (Int32.toNatClampNeg l1)) = 0 → 
        ((¬ (h3.1 0 13) = 8 → vp_in (h3.1 0 13) 8 ∧ ∀ h5, h5 = zz_uI h3 11 (Int32.toNatClampNeg (h3.1 0 13)) l1 → vp_in (h5.1 0 13) 8 ∧ ∀ h6, h6 = zz_uI h5 12 (Int32.toNatClampNeg (h5.1 0 13)) l2 → ∀ h7, h7 = zz_uI h6 0 13 ((h6.1 0 13) + 1) → Q (h7.1 0 13) h7) ∧
        ((h3.1 0 13) = 8 → Q ((-3)) h3))) ∧
      ((h3.1 1 (Int32.toNatClampNeg l1)) = 0 → Q ((-5)) h3))) ∧
    (r4 = 0 → Q ((-1)) h3))))))
def w_X9_do1_l49 (ag49 : Int32 × zz_Hp → Prop) (Q : Int32 → zz_Hp → Prop)  (l1 : Int32) (h : zz_Hp) : Prop :=
  
    (((h.1 0 13) ≤ l1 → Q (h.1 0 13) h) ∧
    (¬ ((h.1 0 13) ≤ l1) → vp_in (l1 + 1) 8 ∧ vp_in l1 8 ∧ ∀ h5, h5 = zz_uI h 11 (Int32.toNatClampNeg l1) (h.1 11 (Int32.toNatClampNeg (l1 + 1))) → vp_in (l1 + 1) 8 ∧ vp_in l1 8 ∧ ∀ h6, h6 = zz_uI h5 12 (Int32.toNatClampNeg l1) (h5.1 12 (Int32.toNatClampNeg (l1 + 1))) → ag49 (l1 + 1, h6)))
def w_X9_do1  (h : zz_Hp) (Q : Int32 → zz_Hp → Prop) : Prop :=
  
  ((¬ (h.1 0 13) = 0 → vp_in 0 8 ∧ vp_in 0 8 ∧ w_X9_isMade (h.1 11 (Int32.toNatClampNeg 0)) (h.1 12 (Int32.toNatClampNeg 0)) h (fun r2 h1 => 
    ((¬ r2 = 0 → ∀ h3, h3 = zz_uI h1 0 16 0 → ∀ h4, h4 = zz_uI h3 0 13 ((h3.1 0 13) - 1) → lp (fun s ag => w_X9_do1_l49 ag Q  s.1 s.2) (0, h4)) ∧
    (r2 = 0 → Q ((-5)) h1)))) ∧
  ((h.1 0 13) = 0 → Q ((-2)) h))
def w_X9_strike_l14 (ag14 : Int32 × Int32 × zz_Hp → Prop) (Q : Int32 → zz_Hp → Prop) (l1 : Int32) (l2 : Int32) (l3 : Int32) (h : zz_Hp) : Prop :=
  
    (((h.1 0 13) ≤ l3 → ∀ h3, h3 = zz_uI h 0 13 l2 → Q ((h.1 0 13) - l2) h3) ∧
    (¬ ((h.1 0 13) ≤ l3) → vp_in l3 8 ∧ 
      (((h.1 11 (Int32.toNatClampNeg l3)) = l1 → ag14 (l2, l3 + 1, h)) ∧
      (¬ ((h.1 11 (Int32.toNatClampNeg l3)) = l1) → vp_in l3 8 ∧ vp_in l2 8 ∧ ∀ h4, h4 = zz_uI h 11 (Int32.toNatClampNeg l2) (h.1 11 (Int32.toNatClampNeg l3)) → vp_in l3 8 ∧ vp_in l2 8 ∧ ∀ h5, h5 = zz_uI h4 12 (Int32.toNatClampNeg l2) (h4.1 12 (Int32.toNatClampNeg l3)) → ag14 (l2 + 1, l3 + 1, h5)))))
def w_X9_strike (l1 : Int32) (h : zz_Hp) (Q : Int32 → zz_Hp → Prop) : Prop :=
  w_X9_isYarn l1 h (fun r2 h1 => 
  ((¬ r2 = 0 → lp (fun s ag => w_X9_strike_l14 ag Q l1 s.1 s.2.1 s.2.2) (0, 0, h1)) ∧
  (r2 = 0 → Q ((-1)) h1)))
def w_X9_about_l2 (ag2 : Int32 × zz_Hp → Prop) (Q : Int32 → zz_Hp → Prop)  (l1 : Int32) (h : zz_Hp) : Prop :=
  
    ((((h.1 0 13) / 2) ≤ l1 → Q (h.1 0 13) h) ∧
    (¬ (((h.1 0 13) / 2) ≤ l1) → vp_in l1 8 ∧ vp_in l1 8 ∧ vp_in (((h.1 0 13) - 1) - l1) 8 ∧ vp_in l1 8 ∧ ∀ h1, h1 = zz_uI h 11 (Int32.toNatClampNeg l1) (h.1 11 (Int32.toNatClampNeg (((h.1 0 13) - 1) - l1))) → vp_in (((h1.1 0 13) - 1) - l1) 8 ∧ vp_in l1 8 ∧ ∀ h2, h2 = zz_uI h1 12 (Int32.toNatClampNeg l1) (h1.1 12 (Int32.toNatClampNeg (((h1.1 0 13) - 1) - l1))) → vp_in (((h2.1 0 13) - 1) - l1) 8 ∧ ∀ h3, h3 = zz_uI h2 11 (Int32.toNatClampNeg (((h2.1 0 13) - 1) - l1)) (h.1 11 (Int32.toNatClampNeg l1)) → vp_in (((h3.1 0 13) - 1) - l1) 8 ∧ ∀ h4, h4 = zz_uI h3 12 (Int32.toNatClampNeg (((h3.1 0 13) - 1) - l1)) (h.1 12 (Int32.toNatClampNeg l1)) → ag2 (l1 + 1, h4)))
def w_X9_about  (h : zz_Hp) (Q : Int32 → zz_Hp → Prop) : Prop :=
  lp (fun s ag => w_X9_about_l2 ag Q  s.1 s.2) (0, h)
def w_X9_jobOf (l1 : Int32) (l2 : Int32) (h : zz_Hp) (Q : Int32 → zz_Hp → Prop) : Prop :=
  w_X9_in l2 0 1 h (fun r2 h1 => 
  ((¬ r2 = 0 → w_X9_in l1 0 ((h1.1 0 13) - 1) h1 (fun r4 h3 => 
    ((¬ r4 = 0 → 
      ((¬ l2 = 0 → vp_in l1 8 ∧ Q (h3.1 12 (Int32.toNatClampNeg l1)) h3) ∧
      (l2 = 0 → vp_in l1 8 ∧ Q (h3.1 11 (Int32.toNatClampNeg l1)) h3))) ∧
    (r4 = 0 → Q ((-2)) h3)))) ∧
  (r2 = 0 → Q ((-1)) h1)))
def w_X9_back  (h : zz_Hp) (Q : Int32 → zz_Hp → Prop) : Prop :=
  
  ((¬ (h.1 0 16) = 0 → ∀ h1, h1 = zz_uI h 0 16 ((h.1 0 16) - 1) → vp_in (h1.1 0 16) 10 ∧ vp_in (h1.1 0 16) 10 ∧ vp_in (h1.1 0 16) 10 ∧ w_X9_become (h1.1 14 (Int32.toNatClampNeg (h1.1 0 16))) (h1.1 13 (Int32.toNatClampNeg (h1.1 0 16))) (h1.1 15 (Int32.toNatClampNeg (h1.1 0 16))) h1 (fun h2 => Q (h2.1 0 16) h2)) ∧
  ((h.1 0 16) = 0 → Q ((-5)) h))
def w_X9_feed (l1 : Int32) (h : zz_Hp) (Q : Int32 → zz_Hp → Prop) : Prop :=
  w_X9_in l1 32 126 h (fun r2 h1 => 
  ((¬ r2 = 0 → 
    ((¬ (h1.1 0 20) = 80 → vp_in (h1.1 0 20) 80 ∧ ∀ h3, h3 = zz_uI h1 16 (Int32.toNatClampNeg (h1.1 0 20)) l1 → ∀ h4, h4 = zz_uI h3 0 20 ((h3.1 0 20) + 1) → Q (h4.1 0 20) h4) ∧
    ((h1.1 0 20) = 80 → Q ((-3)) h1))) ∧
  (r2 = 0 → Q ((-1)) h1)))
def w_X9_wipe  (h : zz_Hp) (Q : Int32 → zz_Hp → Prop) : Prop :=
  ∀ h1, h1 = zz_uI h 0 20 0 → Q (h.1 0 20) h1
def w_X9_isDone_l272 (ag272 : Int32 × zz_Hp → Prop) (Q : Int32 → zz_Hp → Prop) (l1 : Int32) (l2 : Int32) (l5 : Int32) (l6 : Int32) (h : zz_Hp) : Prop :=
  vp_in l1 27 ∧ 
    (((h.1 41 (Int32.toNatClampNeg l1)) ≤ l6 → vp_in l1 27 ∧ vp_in (l2 + 4) 135 ∧ w_X9_plied (h.1 41 (Int32.toNatClampNeg l1)) (h.1 42 (Int32.toNatClampNeg (l2 + 4))) h (fun r4 h3 => (l5 = 0 ∨ l5 = 1) ∧ Q l5 h3)) ∧
    (¬ ((h.1 41 (Int32.toNatClampNeg l1)) ≤ l6) → vp_in (l2 + l6) 135 ∧ vp_in ((4 * (h.1 0 0)) + l6) 64 ∧ ∀ h5, h5 = zz_uI h 2 (Int32.toNatClampNeg ((4 * (h.1 0 0)) + l6)) (h.1 42 (Int32.toNatClampNeg (l2 + l6))) → ag272 (l6 + 1, h5)))
def w_X9_isDone_l202 (ag202 : Int32 × Int32 × zz_Hp → Prop) (Q : Int32 → zz_Hp → Prop) (l1 : Int32) (l2 : Int32) (l5 : Int32) (l6 : Int32) (h : zz_Hp) : Prop :=
  vp_in l1 27 ∧ 
    (((h.1 41 (Int32.toNatClampNeg l1)) ≤ l6 → 
      ((l5 = 0 → (l5 = 0 ∨ l5 = 1) ∧ Q l5 h) ∧
      (¬ (l5 = 0) → lp (fun s ag => w_X9_isDone_l272 ag Q l1 l2 l5 s.1 s.2) (0, h)))) ∧
    (¬ ((h.1 41 (Int32.toNatClampNeg l1)) ≤ l6) → 
      ((l5 = 0 → ag202 (0, l6 + 1, h)) ∧
      (¬ (l5 = 0) → vp_in (l2 + l6) 135 ∧ w_X9_isYarn (h.1 42 (Int32.toNatClampNeg (l2 + l6))) h (fun r7 h6 => 
        ((r7 = 0 → ag202 (0, l6 + 1, h6)) ∧
        (¬ (r7 = 0) → vp_in (l2 + l6) 135 ∧ w_X9_depthOf 5 (h6.1 42 (Int32.toNatClampNeg (l2 + l6))) h6 (fun r9 h8 => 
          ((3 ≤ r9 → ag202 (0, l6 + 1, h8)) ∧
          (¬ (3 ≤ r9) → ag202 (1, l6 + 1, h8)))))))))))
def w_X9_isDone_j91 (Q : Int32 → zz_Hp → Prop) (l3 : Int32) (l4 : Int32) (s0 : Int32) (h : zz_Hp) : Prop :=
  
  ((s0 = 0 → (s0 = 0 ∨ s0 = 1) ∧ Q s0 h) ∧
  (¬ (s0 = 0) → vp_in l3 16 ∧ ∀ h18, h18 = zz_uI h 6 (Int32.toNatClampNeg l3) l4 → (s0 = 0 ∨ s0 = 1) ∧ Q s0 h18))
def w_X9_isDone_j90 (Q : Int32 → zz_Hp → Prop) (l3 : Int32) (l4 : Int32)  (h : zz_Hp) : Prop :=
  w_X9_isDone_j91 Q l3 l4 0 h
def w_X9_isDone (l1 : Int32) (h : zz_Hp) (Q : Int32 → zz_Hp → Prop) : Prop :=
  vp_in (5 * l1) 135 ∧ vp_in ((5 * l1) + 1) 135 ∧ vp_in l1 27 ∧ 
  ((¬ (h.1 40 (Int32.toNatClampNeg l1)) = 116 → vp_in l1 27 ∧ 
    ((¬ (h.1 40 (Int32.toNatClampNeg l1)) = 115 → vp_in l1 27 ∧ 
      ((¬ (h.1 40 (Int32.toNatClampNeg l1)) = 109 → vp_in ((5 * l1) + 4) 135 ∧ w_X9_in (h.1 42 (Int32.toNatClampNeg ((5 * l1) + 4))) ((-99)) 99 h (fun r2 h1 => 
        ((r2 = 0 → lp (fun s ag => w_X9_isDone_l202 ag Q l1 (5 * l1) s.1 s.2.1 s.2.2) (0, 0, h1)) ∧
        (¬ (r2 = 0) → 
          ((16 ≤ (h1.1 0 0) → lp (fun s ag => w_X9_isDone_l202 ag Q l1 (5 * l1) s.1 s.2.1 s.2.2) (0, 0, h1)) ∧
          (¬ (16 ≤ (h1.1 0 0)) → lp (fun s ag => w_X9_isDone_l202 ag Q l1 (5 * l1) s.1 s.2.1 s.2.2) (1, 0, h1))))))) ∧
      ((h.1 40 (Int32.toNatClampNeg l1)) = 109 → w_X9_isYarn (h.1 42 (Int32.toNatClampNeg (5 * l1))) h (fun r11 h10 => 
        ((r11 = 0 → Q 0 h10) ∧
        (¬ (r11 = 0) → w_X9_in (h.1 42 (Int32.toNatClampNeg ((5 * l1) + 1))) 1 9999 h10 (fun r13 h12 => 
          ((r13 = 0 → Q 0 h12) ∧
          (¬ (r13 = 0) → vp_in (h.1 42 (Int32.toNatClampNeg (5 * l1))) 16 ∧ 
            (((h12.1 1 (Int32.toNatClampNeg (h.1 42 (Int32.toNatClampNeg (5 * l1))))) ≤ 0 → Q 0 h12) ∧
            (¬ ((h12.1 1 (Int32.toNatClampNeg (h.1 42 (Int32.toNatClampNeg (5 * l1))))) ≤ 0) → w_X9_isMade (h.1 42 (Int32.toNatClampNeg (5 * l1))) (h.1 42 (Int32.toNatClampNeg ((5 * l1) + 1))) h12 (fun r15 h14 => 
              ((r15 = 0 → Q 0 h14) ∧
              (¬ (r15 = 0) → Q 1 h14)))))))))))))) ∧
    ((h.1 40 (Int32.toNatClampNeg l1)) = 115 → w_X9_isYarn (h.1 42 (Int32.toNatClampNeg (5 * l1))) h (fun r17 h16 => 
      ((r17 = 0 → w_X9_isDone_j90 Q (h.1 42 (Int32.toNatClampNeg (5 * l1))) (h.1 42 (Int32.toNatClampNeg ((5 * l1) + 1)))  h16) ∧
      (¬ (r17 = 0) → w_X9_in (h.1 42 (Int32.toNatClampNeg ((5 * l1) + 1))) 0 99999 h16 (fun r20 h19 => 
        ((r20 = 0 → w_X9_isDone_j90 Q (h.1 42 (Int32.toNatClampNeg (5 * l1))) (h.1 42 (Int32.toNatClampNeg ((5 * l1) + 1)))  h19) ∧
        (¬ (r20 = 0) → w_X9_isDone_j91 Q (h.1 42 (Int32.toNatClampNeg (5 * l1))) (h.1 42 (Int32.toNatClampNeg ((5 * l1) + 1))) 1 h19))))))))) ∧
  ((h.1 40 (Int32.toNatClampNeg l1)) = 116 → vp_in ((5 * l1) + 2) 135 ∧ w_X9_thread (h.1 42 (Int32.toNatClampNeg (5 * l1))) (h.1 42 (Int32.toNatClampNeg ((5 * l1) + 1))) (h.1 42 (Int32.toNatClampNeg ((5 * l1) + 2))) h (fun r22 h21 => 
    ((r22 < 0 → Q 0 h21) ∧
    (¬ (r22 < 0) → Q 1 h21)))))
def w_X9_here  (h : zz_Hp) (Q : Int32 → zz_Hp → Prop) : Prop :=
  
  (((h.1 0 52) ≤ (h.1 0 51) → Q ((-1)) h) ∧
  (¬ ((h.1 0 52) ≤ (h.1 0 51)) → vp_in (h.1 0 51) 80 ∧ Q (h.1 16 (Int32.toNatClampNeg (h.1 0 51))) h))
def w_X9_isFigure  (h : zz_Hp) (Q : Int32 → zz_Hp → Prop) : Prop :=
  w_X9_here  h (fun r2 h1 => 
  ((r2 < 48 → Q 0 h1) ∧
  (¬ (r2 < 48) → w_X9_here  h1 (fun r4 h3 => 
    ((57 < r4 → Q 0 h3) ∧
    (¬ (57 < r4) → Q 1 h3))))))
def w_X9_number_j104 (Q : Int32 → zz_Hp → Prop) (l2 : Int32) (l3 : Int32) (s0 : Int32) (h : zz_Hp) : Prop :=
  (s0 = 0 ∨ s0 = 1) ∧ ∀ h2, h2 = zz_uI h 0 53 s0 → 
  ((l2 = 0 → Q l3 h2) ∧
  (¬ (l2 = 0) → Q (-l3) h2))
def w_X9_number_j93 (Q : Int32 → zz_Hp → Prop) (l2 : Int32) (l3 : Int32) (l4 : Int32)  (h : zz_Hp) : Prop :=
  
  ((¬ l4 = 0 → w_X9_number_j104 Q l2 l3 0 h) ∧
  (l4 = 0 → w_X9_number_j104 Q l2 l3 1 h))
def w_X9_number_l51 (ag51 : Int32 × Int32 × zz_Hp → Prop) (Q : Int32 → zz_Hp → Prop) (l2 : Int32) (l3 : Int32) (l4 : Int32) (h : zz_Hp) : Prop :=
  
    ((5 ≤ l4 → w_X9_number_j93 Q l2 l3 l4  h) ∧
    (¬ (5 ≤ l4) → w_X9_isFigure  h (fun r4 h3 => 
      ((r4 = 0 → w_X9_number_j93 Q l2 l3 l4  h3) ∧
      (¬ (r4 = 0) → w_X9_here  h3 (fun r6 h5 => ∀ h7, h7 = zz_uI h5 0 51 ((h5.1 0 51) + 1) → ag51 (((10 * l3) + r6) - 48, l4 + 1, h7)))))))
def w_X9_number_j42 (Q : Int32 → zz_Hp → Prop) (l2 : Int32) (s0 : Int32) (s1 : Int32) (h : zz_Hp) : Prop :=
  ∀ h1, h1 = zz_uI h 0 51 (s1 + s0) → lp (fun s ag => w_X9_number_l51 ag Q l2 s.1 s.2.1 s.2.2) (0, 0, h1)
def w_X9_number_j27 (Q : Int32 → zz_Hp → Prop)  (s0 : Int32) (h : zz_Hp) : Prop :=
  
  ((s0 = 0 → w_X9_number_j42 Q s0 0 (h.1 0 51) h) ∧
  (¬ (s0 = 0) → w_X9_number_j42 Q s0 1 (h.1 0 51) h))
def w_X9_number_j26 (Q : Int32 → zz_Hp → Prop)   (h : zz_Hp) : Prop :=
  w_X9_number_j27 Q  0 h
def w_X9_number (l1 : Int32) (h : zz_Hp) (Q : Int32 → zz_Hp → Prop) : Prop :=
  
  (((h.1 0 53) = 0 → 
    ((l1 = 0 → w_X9_number_j26 Q   h) ∧
    (¬ (l1 = 0) → w_X9_here  h (fun r9 h8 => 
      ((¬ r9 = 45 → w_X9_number_j26 Q   h8) ∧
      (r9 = 45 → w_X9_number_j27 Q  1 h8)))))) ∧
  (¬ ((h.1 0 53) = 0) → Q 0 h))
def w_X9_want_j21 (Q : zz_Hp → Prop)  (s0 : Int32) (h : zz_Hp) : Prop :=
  (s0 = 0 ∨ s0 = 1) ∧ ∀ h3, h3 = zz_uI h 0 53 s0 → 
  (((h3.1 0 53) = 0 → ∀ h4, h4 = zz_uI h3 0 51 ((h3.1 0 51) + 1) → Q h4) ∧
  (¬ ((h3.1 0 53) = 0) → ∀ h5, h5 = zz_uI h3 0 51 ((h3.1 0 51) + 0) → Q h5))
def w_X9_want (l1 : Int32) (h : zz_Hp) (Q : zz_Hp → Prop) : Prop :=
  
  ((¬ (h.1 0 53) = 0 → Q h) ∧
  ((h.1 0 53) = 0 → w_X9_here  h (fun r2 h1 => 
    ((r2 = l1 → w_X9_want_j21 Q  0 h1) ∧
    (¬ (r2 = l1) → w_X9_want_j21 Q  1 h1)))))
def w_X9_readAct_j221 (Q : zz_Hp → Prop) (l3 : Int32)  (h : zz_Hp) : Prop :=
  vp_in (h.1 0 54) 27 ∧ ∀ h13, h13 = zz_uI h 41 (Int32.toNatClampNeg (h.1 0 54)) l3 → ∀ h14, h14 = zz_uI h13 0 54 ((h13.1 0 54) + 1) → Q h14
def w_X9_readAct_j155 (Q : zz_Hp → Prop) (l2 : Int32) (l3 : Int32)  (h : zz_Hp) : Prop :=
  w_X9_want 58 h (fun h25 => w_X9_number 1 h25 (fun r28 h27 => vp_in (l2 + 4) 135 ∧ ∀ h29, h29 = zz_uI h27 42 (Int32.toNatClampNeg (l2 + 4)) r28 → w_X9_readAct_j221 Q l3  h29))
def w_X9_readAct_l105 (ag105 : Int32 × zz_Hp → Prop) (Q : zz_Hp → Prop) (l2 : Int32) (l3 : Int32) (h : zz_Hp) : Prop :=
  
    ((¬ (h.1 0 53) = 0 → w_X9_readAct_j155 Q l2 l3  h) ∧
    ((h.1 0 53) = 0 → 
      ((4 ≤ l3 → w_X9_readAct_j155 Q l2 l3  h) ∧
      (¬ (4 ≤ l3) → w_X9_here  h (fun r31 h30 => 
        ((¬ r31 = 44 → w_X9_readAct_j155 Q l2 l3  h30) ∧
        (r31 = 44 → ∀ h32, h32 = zz_uI h30 0 51 ((h30.1 0 51) + 1) → w_X9_number 0 h32 (fun r34 h33 => vp_in (l2 + l3) 135 ∧ ∀ h35, h35 = zz_uI h33 42 (Int32.toNatClampNeg (l2 + l3)) r34 → ag105 (l3 + 1, h35)))))))))
def w_X9_readAct_j35 (Q : zz_Hp → Prop) (l1 : Int32)  (h : zz_Hp) : Prop :=
  ∀ h3, h3 = zz_uI h 0 51 ((h.1 0 51) + 1) → vp_in (h3.1 0 54) 27 ∧ ∀ h4, h4 = zz_uI h3 40 (Int32.toNatClampNeg (h3.1 0 54)) l1 → w_X9_number 0 h4 (fun r6 h5 => vp_in (5 * (h3.1 0 54)) 135 ∧ ∀ h7, h7 = zz_uI h5 42 (Int32.toNatClampNeg (5 * (h3.1 0 54))) r6 → 
  ((¬ l1 = 112 → w_X9_want 44 h7 (fun h8 => w_X9_number 0 h8 (fun r11 h10 => vp_in ((5 * (h3.1 0 54)) + 1) 135 ∧ ∀ h12, h12 = zz_uI h10 42 (Int32.toNatClampNeg ((5 * (h3.1 0 54)) + 1)) r11 → 
    ((¬ l1 = 116 → w_X9_readAct_j221 Q (0 + 1)  h12) ∧
    (l1 = 116 → w_X9_want 44 h12 (fun h15 => w_X9_number 1 h15 (fun r18 h17 => vp_in ((5 * (h3.1 0 54)) + 2) 135 ∧ ∀ h19, h19 = zz_uI h17 42 (Int32.toNatClampNeg ((5 * (h3.1 0 54)) + 2)) r18 → w_X9_readAct_j221 Q (0 + 1)  h19))))))) ∧
  (l1 = 112 → w_X9_want 44 h7 (fun h20 => w_X9_number 0 h20 (fun r23 h22 => vp_in ((5 * (h3.1 0 54)) + 1) 135 ∧ ∀ h24, h24 = zz_uI h22 42 (Int32.toNatClampNeg ((5 * (h3.1 0 54)) + 1)) r23 → lp (fun s ag => w_X9_readAct_l105 ag Q (5 * (h3.1 0 54)) s.1 s.2) (2, h24))))))
def w_X9_readAct  (h : zz_Hp) (Q : zz_Hp → Prop) : Prop :=
  w_X9_here  h (fun r2 h1 => 
  ((r2 = 116 → w_X9_readAct_j35 Q r2  h1) ∧
  (¬ (r2 = 116) → 
    ((r2 = 112 → w_X9_readAct_j35 Q r2  h1) ∧
    (¬ (r2 = 112) → 
      ((r2 = 115 → w_X9_readAct_j35 Q r2  h1) ∧
      (¬ (r2 = 115) → 
        ((r2 = 109 → w_X9_readAct_j35 Q r2  h1) ∧
        (¬ (r2 = 109) → ∀ h36, h36 = zz_uI h1 0 53 1 → Q h36)))))))))
def w_X9_read_l87 (ag87 : Int32 × zz_Hp → Prop) (Q : Int32 → zz_Hp → Prop)  (l1 : Int32) (h : zz_Hp) : Prop :=
  
    (((h.1 0 54) ≤ l1 → Q (h.1 0 54) h) ∧
    (¬ ((h.1 0 54) ≤ l1) → w_X9_isDone l1 h (fun r9 h8 => 
      ((¬ r9 = 0 → ∀ h10, h10 = zz_uI h8 0 16 0 → ag87 (l1 + 1, h10)) ∧
      (r9 = 0 → Q (((-200)) - l1) h8)))))
def w_X9_read_j70 (Q : Int32 → zz_Hp → Prop)   (h : zz_Hp) : Prop :=
  
  (((h.1 0 53) = 0 → lp (fun s ag => w_X9_read_l87 ag Q  s.1 s.2) (0, h)) ∧
  (¬ ((h.1 0 53) = 0) → Q (((-100)) - (h.1 0 51)) h))
def w_X9_read_l32 (ag32 : zz_Hp → Prop) (Q : Int32 → zz_Hp → Prop)   (h : zz_Hp) : Prop :=
  
    ((¬ (h.1 0 53) = 0 → w_X9_read_j70 Q   h) ∧
    ((h.1 0 53) = 0 → 
      (((h.1 0 52) ≤ (h.1 0 51) → w_X9_read_j70 Q   h) ∧
      (¬ ((h.1 0 52) ≤ (h.1 0 51)) → w_X9_want 59 h (fun h11 => 
        ((¬ (h11.1 0 53) = 0 → ag32 (h11)) ∧
        ((h11.1 0 53) = 0 → w_X9_readAct  h11 (fun h13 => ag32 (h13)))))))))
def w_X9_read  (h : zz_Hp) (Q : Int32 → zz_Hp → Prop) : Prop :=
  ∀ h1, h1 = zz_uI h 0 51 0 → ∀ h2, h2 = zz_uI h1 0 52 (h1.1 0 20) → ∀ h3, h3 = zz_uI h2 0 20 0 → ∀ h4, h4 = zz_uI h3 0 53 0 → ∀ h5, h5 = zz_uI h4 0 54 0 → w_X9_readAct  h5 (fun h6 => lp (fun s ag => w_X9_read_l32 ag Q  s) (h6))
def w_X9_row_l34 (ag34 : Int32 × zz_Hp → Prop) (Q : Int32 → zz_Hp → Prop) (l1 : Int32) (l2 : Int32) (l3 : Int32) (h : zz_Hp) : Prop :=
  
    ((l2 ≤ l3 → Q 1 h) ∧
    (¬ (l2 ≤ l3) → vp_in ((40 * l1) + l3) 120 ∧ ∀ h4, h4 = zz_uI h 18 (Int32.toNatClampNeg ((40 * l1) + l3)) 0 → ag34 (l3 + 1, h4)))
def w_X9_row (l1 : Int32) (l2 : Int32) (h : zz_Hp) (Q : Int32 → zz_Hp → Prop) : Prop :=
  w_X9_in l1 0 2 h (fun r2 h1 => 
  ((r2 = 0 → Q ((-1)) h1) ∧
  (¬ (r2 = 0) → 
    ((l2 ≤ 40 → 
      ((((-1)) ≤ l2 → vp_in l1 3 ∧ ∀ h3, h3 = zz_uI h1 17 (Int32.toNatClampNeg l1) l2 → lp (fun s ag => w_X9_row_l34 ag Q l1 l2 s.1 s.2) (0, h3)) ∧
      (¬ (((-1)) ≤ l2) → Q ((-14)) h1))) ∧
    (¬ (l2 ≤ 40) → Q ((-1)) h1)))))
def w_X9_put (l1 : Int32) (l2 : Int32) (l3 : Int32) (h : zz_Hp) (Q : Int32 → zz_Hp → Prop) : Prop :=
  w_X9_in l1 0 2 h (fun r2 h1 => 
  ((¬ r2 = 0 → vp_in l1 3 ∧ 
    ((0 ≤ (h1.1 17 (Int32.toNatClampNeg l1)) → vp_in l1 3 ∧ w_X9_in l2 0 ((h1.1 17 (Int32.toNatClampNeg l1)) - 1) h1 (fun r4 h3 => 
      ((¬ r4 = 0 → vp_in ((40 * l1) + l2) 120 ∧ ∀ h5, h5 = zz_uI h3 18 (Int32.toNatClampNeg ((40 * l1) + l2)) l3 → Q 1 h5) ∧
      (r4 = 0 → Q ((-13)) h3)))) ∧
    (¬ (0 ≤ (h1.1 17 (Int32.toNatClampNeg l1))) → Q ((-11)) h1))) ∧
  (r2 = 0 → Q ((-1)) h1)))
def w_X9_get (l1 : Int32) (l2 : Int32) (h : zz_Hp) (Q : Int32 → zz_Hp → Prop) : Prop :=
  w_X9_in l1 0 2 h (fun r2 h1 => 
  ((r2 = 0 → Q ((-2147483648)) h1) ∧
  (¬ (r2 = 0) → vp_in l1 3 ∧ w_X9_in l2 0 ((h1.1 17 (Int32.toNatClampNeg l1)) - 1) h1 (fun r4 h3 => 
    ((r4 = 0 → Q ((-2147483648)) h3) ∧
    (¬ (r4 = 0) → vp_in ((40 * l1) + l2) 120 ∧ Q (h3.1 18 (Int32.toNatClampNeg ((40 * l1) + l2))) h3))))))
def w_X9_film_l70 (ag70 : Int32 × zz_Hp → Prop) (Q : Int32 → zz_Hp → Prop) (l1 : Int32) (l2 : Int32) (l3 : Int32) (l4 : Int32) (l5 : Int32) (l6 : Int32) (h : zz_Hp) : Prop :=
  
    ((l2 ≤ l6 → vp_in l4 16 ∧ ∀ h12, h12 = zz_uI h 5 (Int32.toNatClampNeg l4) l5 → Q l2 h12) ∧
    (¬ (l2 ≤ l6) → vp_in l4 16 ∧ ∀ h13, h13 = zz_uI h 5 (Int32.toNatClampNeg l4) l6 → w_X9_torqueOf l3 h13 (fun r15 h14 => vp_in ((40 * l1) + l6) 120 ∧ ∀ h16, h16 = zz_uI h14 18 (Int32.toNatClampNeg ((40 * l1) + l6)) r15 → ag70 (l6 + 1, h16))))
def w_X9_film (l1 : Int32) (l2 : Int32) (l3 : Int32) (l4 : Int32) (h : zz_Hp) (Q : Int32 → zz_Hp → Prop) : Prop :=
  w_X9_in l1 0 2 h (fun r2 h1 => 
  ((r2 = 0 → Q ((-1)) h1) ∧
  (¬ (r2 = 0) → w_X9_in l2 0 40 h1 (fun r4 h3 => 
    ((r4 = 0 → Q ((-1)) h3) ∧
    (¬ (r4 = 0) → w_X9_isYarn l3 h3 (fun r6 h5 => 
      ((r6 = 0 → Q ((-1)) h5) ∧
      (¬ (r6 = 0) → w_X9_isYarn l4 h5 (fun r8 h7 => 
        ((¬ r8 = 0 → w_X9_isIn l3 l4 h7 (fun r10 h9 => 
          ((¬ r10 = 0 → vp_in l1 3 ∧ ∀ h11, h11 = zz_uI h9 17 (Int32.toNatClampNeg l1) l2 → vp_in l4 16 ∧ lp (fun s ag => w_X9_film_l70 ag Q l1 l2 l3 l4 (h11.1 5 (Int32.toNatClampNeg l4)) s.1 s.2) (0, h11)) ∧
          (r10 = 0 → Q ((-5)) h9)))) ∧
        (r8 = 0 → Q ((-1)) h7))))))))))))
def w_X9_image_l140 (ag140 : Int32 × zz_Hp → Prop) (Q : Int32 → zz_Hp → Prop)  (l1 : Int32) (h : zz_Hp) : Prop :=
  
    ((8 ≤ l1 → Q (h.1 0 0) h) ∧
    (¬ (8 ≤ l1) → vp_in l1 8 ∧ vp_in l1 8 ∧ ∀ h5, h5 = zz_uI h 26 (Int32.toNatClampNeg l1) (h.1 8 (Int32.toNatClampNeg l1)) → vp_in l1 8 ∧ vp_in l1 8 ∧ ∀ h6, h6 = zz_uI h5 27 (Int32.toNatClampNeg l1) (h5.1 9 (Int32.toNatClampNeg l1)) → vp_in l1 8 ∧ vp_in l1 8 ∧ ∀ h7, h7 = zz_uI h6 28 (Int32.toNatClampNeg l1) (h6.1 10 (Int32.toNatClampNeg l1)) → vp_in l1 8 ∧ vp_in l1 8 ∧ ∀ h8, h8 = zz_uI h7 29 (Int32.toNatClampNeg l1) (h7.1 11 (Int32.toNatClampNeg l1)) → vp_in l1 8 ∧ vp_in l1 8 ∧ ∀ h9, h9 = zz_uI h8 30 (Int32.toNatClampNeg l1) (h8.1 12 (Int32.toNatClampNeg l1)) → ag140 (l1 + 1, h9)))
def w_X9_image_l85 (ag15 : Int32 × zz_Hp → Prop) (ag85 : Int32 × zz_Hp → Prop) (Q : Int32 → zz_Hp → Prop) (l1 : Int32) (l2 : Int32) (h : zz_Hp) : Prop :=
  
    ((4 ≤ l2 → ag15 (l1 + 1, h)) ∧
    (¬ (4 ≤ l2) → vp_in ((4 * l1) + l2) 64 ∧ vp_in ((4 * l1) + l2) 64 ∧ ∀ h15, h15 = zz_uI h 21 (Int32.toNatClampNeg ((4 * l1) + l2)) (h.1 2 (Int32.toNatClampNeg ((4 * l1) + l2))) → ag85 (l2 + 1, h15)))
def w_X9_image_l15 (ag15 : Int32 × zz_Hp → Prop) (Q : Int32 → zz_Hp → Prop)  (l1 : Int32) (h : zz_Hp) : Prop :=
  
    (((h.1 0 0) ≤ l1 → ∀ h3, h3 = zz_uI h 0 33 (h.1 0 9) → ∀ h4, h4 = zz_uI h3 0 37 (h3.1 0 13) → lp (fun s ag => w_X9_image_l140 ag Q  s.1 s.2) (0, h4)) ∧
    (¬ ((h.1 0 0) ≤ l1) → vp_in l1 16 ∧ vp_in l1 16 ∧ ∀ h10, h10 = zz_uI h 20 (Int32.toNatClampNeg l1) (h.1 1 (Int32.toNatClampNeg l1)) → vp_in l1 16 ∧ vp_in l1 16 ∧ ∀ h11, h11 = zz_uI h10 22 (Int32.toNatClampNeg l1) (h10.1 3 (Int32.toNatClampNeg l1)) → vp_in l1 16 ∧ vp_in l1 16 ∧ ∀ h12, h12 = zz_uI h11 23 (Int32.toNatClampNeg l1) (h11.1 4 (Int32.toNatClampNeg l1)) → vp_in l1 16 ∧ vp_in l1 16 ∧ ∀ h13, h13 = zz_uI h12 24 (Int32.toNatClampNeg l1) (h12.1 5 (Int32.toNatClampNeg l1)) → vp_in l1 16 ∧ vp_in l1 16 ∧ ∀ h14, h14 = zz_uI h13 25 (Int32.toNatClampNeg l1) (h13.1 6 (Int32.toNatClampNeg l1)) → lp (fun s ag => w_X9_image_l85 ag15 ag Q l1 s.1 s.2) (0, h14)))
def w_X9_image  (h : zz_Hp) (Q : Int32 → zz_Hp → Prop) : Prop :=
  ∀ h1, h1 = zz_uI h 0 25 1 → ∀ h2, h2 = zz_uI h1 0 26 (h1.1 0 0) → lp (fun s ag => w_X9_image_l15 ag Q  s.1 s.2) (0, h2)
def w_X9_undo_l145 (ag145 : Int32 × zz_Hp → Prop) (Q : Int32 → zz_Hp → Prop)  (l1 : Int32) (h : zz_Hp) : Prop :=
  
    ((8 ≤ l1 → ∀ h4, h4 = zz_uI h 0 7 0 → ∀ h5, h5 = zz_uI h4 0 16 0 → Q (h5.1 0 0) h5) ∧
    (¬ (8 ≤ l1) → vp_in l1 8 ∧ vp_in l1 8 ∧ ∀ h6, h6 = zz_uI h 8 (Int32.toNatClampNeg l1) (h.1 26 (Int32.toNatClampNeg l1)) → vp_in l1 8 ∧ vp_in l1 8 ∧ ∀ h7, h7 = zz_uI h6 9 (Int32.toNatClampNeg l1) (h6.1 27 (Int32.toNatClampNeg l1)) → vp_in l1 8 ∧ vp_in l1 8 ∧ ∀ h8, h8 = zz_uI h7 10 (Int32.toNatClampNeg l1) (h7.1 28 (Int32.toNatClampNeg l1)) → vp_in l1 8 ∧ vp_in l1 8 ∧ ∀ h9, h9 = zz_uI h8 11 (Int32.toNatClampNeg l1) (h8.1 29 (Int32.toNatClampNeg l1)) → vp_in l1 8 ∧ vp_in l1 8 ∧ ∀ h10, h10 = zz_uI h9 12 (Int32.toNatClampNeg l1) (h9.1 30 (Int32.toNatClampNeg l1)) → ag145 (l1 + 1, h10)))
def w_X9_undo_l90 (ag20 : Int32 × zz_Hp → Prop) (ag90 : Int32 × zz_Hp → Prop) (Q : Int32 → zz_Hp → Prop) (l1 : Int32) (l2 : Int32) (h : zz_Hp) : Prop :=
  
    ((4 ≤ l2 → ag20 (l1 + 1, h)) ∧
    (¬ (4 ≤ l2) → vp_in ((4 * l1) + l2) 64 ∧ vp_in ((4 * l1) + l2) 64 ∧ ∀ h16, h16 = zz_uI h 2 (Int32.toNatClampNeg ((4 * l1) + l2)) (h.1 21 (Int32.toNatClampNeg ((4 * l1) + l2))) → ag90 (l2 + 1, h16)))
def w_X9_undo_l20 (ag20 : Int32 × zz_Hp → Prop) (Q : Int32 → zz_Hp → Prop)  (l1 : Int32) (h : zz_Hp) : Prop :=
  
    (((h.1 0 0) ≤ l1 → ∀ h2, h2 = zz_uI h 0 9 (h.1 0 33) → ∀ h3, h3 = zz_uI h2 0 13 (h2.1 0 37) → lp (fun s ag => w_X9_undo_l145 ag Q  s.1 s.2) (0, h3)) ∧
    (¬ ((h.1 0 0) ≤ l1) → vp_in l1 16 ∧ vp_in l1 16 ∧ ∀ h11, h11 = zz_uI h 1 (Int32.toNatClampNeg l1) (h.1 20 (Int32.toNatClampNeg l1)) → vp_in l1 16 ∧ vp_in l1 16 ∧ ∀ h12, h12 = zz_uI h11 3 (Int32.toNatClampNeg l1) (h11.1 22 (Int32.toNatClampNeg l1)) → vp_in l1 16 ∧ vp_in l1 16 ∧ ∀ h13, h13 = zz_uI h12 4 (Int32.toNatClampNeg l1) (h12.1 23 (Int32.toNatClampNeg l1)) → vp_in l1 16 ∧ vp_in l1 16 ∧ ∀ h14, h14 = zz_uI h13 5 (Int32.toNatClampNeg l1) (h13.1 24 (Int32.toNatClampNeg l1)) → vp_in l1 16 ∧ vp_in l1 16 ∧ ∀ h15, h15 = zz_uI h14 6 (Int32.toNatClampNeg l1) (h14.1 25 (Int32.toNatClampNeg l1)) → lp (fun s ag => w_X9_undo_l90 ag20 ag Q l1 s.1 s.2) (0, h15)))
def w_X9_undo  (h : zz_Hp) (Q : Int32 → zz_Hp → Prop) : Prop :=
  
  ((¬ (h.1 0 25) = 0 → ∀ h1, h1 = zz_uI h 0 0 (h.1 0 26) → lp (fun s ag => w_X9_undo_l20 ag Q  s.1 s.2) (0, h1)) ∧
  ((h.1 0 25) = 0 → Q ((-5)) h))
def w_X9_count_l78 (ag78 : Int32 × Int32 × zz_Hp → Prop) (Q : Int32 → zz_Hp → Prop)  (l2 : Int32) (l3 : Int32) (h : zz_Hp) : Prop :=
  
    (((h.1 0 0) ≤ l3 → Q l2 h) ∧
    (¬ ((h.1 0 0) ≤ l3) → w_X9_torqueOf l3 h (fun r2 h1 => 
      ((¬ r2 = 0 → ag78 (l2 + 0, l3 + 1, h1)) ∧
      (r2 = 0 → ag78 (l2 + 1, l3 + 1, h1))))))
def w_X9_count (l1 : Int32) (h : zz_Hp) (Q : Int32 → zz_Hp → Prop) : Prop :=
  
  (((Int32.toInt l1) = 0 → Q (h.1 0 0) h) ∧
  ((Int32.toInt l1) = 1 → Q (h.1 0 7) h) ∧
  ((Int32.toInt l1) = 2 → Q (h.1 0 9) h) ∧
  ((Int32.toInt l1) = 3 → Q (h.1 0 13) h) ∧
  ((Int32.toInt l1) = 4 → Q (h.1 0 16) h) ∧
  ((Int32.toInt l1) = 5 → Q (h.1 0 20) h) ∧
  ((Int32.toInt l1) = 6 → lp (fun s ag => w_X9_count_l78 ag Q  s.1 s.2.1 s.2.2) (0, 0, h)) ∧
  (((Int32.toInt l1) < 0 ∨ 6 < (Int32.toInt l1)) → Q ((-1)) h))
