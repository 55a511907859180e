abbrev ty_S : Type := Nat → Nat → Int32
def ty_st (S : ty_S) (f i : Nat) (v : Int32) : ty_S := fun g => if g = f then upd (S f) i v else S g
def ty_fill (S : ty_S) (f n : Nat) (v : Int32) : ty_S := fun g => if g = f then (fun j => if j < n then v else S f j) else S g
def eX4_isAmount (S : ty_S) (x0 : Int32) (K : ty_S → Int32 → Prop) : Prop :=
  (if x0 < (0 : Int32) then K S (0 : Int32) else (if (12 : Int32) < x0 then K S (0 : Int32) else K S (1 : Int32)))
def eX4_isPlace (S : ty_S) (x0 : Int32) (K : ty_S → Int32 → Prop) : Prop :=
  (if x0 < (0 : Int32) then K S (0 : Int32) else (if (1280 : Int32) ≤ x0 then K S (0 : Int32) else K S (1 : Int32)))
def eX4_carOf (S : ty_S) (x0 : Int32) (K : ty_S → Int32 → Prop) : Prop :=
  (eX4_isPlace S x0 (fun S1 r1 => (if r1 = (0 : Int32) then K S1 (-1 : Int32) else K S1 (x0 / (32 : Int32)))))
def eX4_isCar (S : ty_S) (x0 : Int32) (K : ty_S → Int32 → Prop) : Prop :=
  (if x0 < (0 : Int32) then K S (0 : Int32) else (if (40 : Int32) ≤ x0 then K S (0 : Int32) else K S (1 : Int32)))
def eX0_room (S : ty_S) (x1 : Int32) (K : ty_S → Int32 → Prop) : Prop :=
  (if x1 < (0 : Int32) then K S (0 : Int32) else (if (40 : Int32) ≤ x1 then K S (0 : Int32) else (vp_in x1 40 ∧ K S ((32 : Int32) - (S 2 x1.toNatClampNeg)))))
def lX0_nextReference_2 (K : ty_S → Int32 → Prop)  : Nat → Int32 → ty_S → Prop
  | 0, _, _ => False
  | n + 1, x2, S => (if x2 < (0 : Int32) then K S (1280 : Int32) else (if (1280 : Int32) ≤ x2 then K S (1280 : Int32) else (vp_in (x2 / (32 : Int32)) 40 ∧ (if (x2 - x2 / (32 : Int32) * (32 : Int32)) < (S 2 (x2 / (32 : Int32)).toNatClampNeg) then (vp_in x2 1280 ∧ (if (S 1 x2.toNatClampNeg) = (0 : Int32) then lX0_nextReference_2 K  n (x2 + (1 : Int32)) S else K S x2)) else lX0_nextReference_2 K  n (((x2 / (32 : Int32)) + (1 : Int32)) * (32 : Int32)) S))))
def eX0_nextReference (S : ty_S) (x1 : Int32) (K : ty_S → Int32 → Prop) : Prop :=
  ∃ n9, lX0_nextReference_2 K  n9 x1 S
def eX0_at (S : ty_S) (x1 : Int32) (K : ty_S → Int32 → Prop) : Prop :=
  (if x1 < (0 : Int32) then K S (0 : Int32) else (if (1280 : Int32) ≤ x1 then K S (0 : Int32) else (vp_in x1 1280 ∧ K S (S 0 x1.toNatClampNeg))))
def eX0_size (S : ty_S) (x1 : Int32) (K : ty_S → Int32 → Prop) : Prop :=
  (eX0_at S (x1 + (1 : Int32)) (fun S1 r1 => K S1 (((2 : Int32) + (r1 - r1 / (16 : Int32) * (16 : Int32))) + (r1 / (16 : Int32)))))
def eX0_labelOf (S : ty_S) (x1 : Int32) (K : ty_S → Int32 → Prop) : Prop :=
  (eX0_at S x1 (fun S1 r1 => K S1 r1))
def eX0_references (S : ty_S) (x1 : Int32) (K : ty_S → Int32 → Prop) : Prop :=
  (eX0_at S (x1 + (1 : Int32)) (fun S1 r1 => K S1 (r1 - r1 / (16 : Int32) * (16 : Int32))))
def eX0_numbers (S : ty_S) (x1 : Int32) (K : ty_S → Int32 → Prop) : Prop :=
  (eX0_at S (x1 + (1 : Int32)) (fun S1 r1 => K S1 (r1 / (16 : Int32))))
def eX0_write (S : ty_S) (x1 : Int32) (x2 : Int32) (K : ty_S → Prop) : Prop :=
  (if x1 < (0 : Int32) then K S else (if (1280 : Int32) ≤ x1 then K S else (vp_in x1 1280 ∧ K (ty_st S 0 x1.toNatClampNeg x2))))
def jX0_load_106 (K : ty_S → Int32 → Prop)  (x1 : Int32) (x5 : Int32) (x6 : Int32) (S : ty_S) : Prop :=
  (vp_in x1 40 ∧ (vp_in x1 40 ∧ (vp_in x1 40 ∧ (vp_in x1 40 ∧ (vp_in x1 40 ∧ K (ty_st (ty_st (ty_st S 2 x1.toNatClampNeg ((S 2 x1.toNatClampNeg) + x5)) 3 x1.toNatClampNeg ((S 3 x1.toNatClampNeg) + (1 : Int32))) 4 x1.toNatClampNeg x6) x6)))))
def lX0_load_69 (K : ty_S → Int32 → Prop)  : Nat → Int32 → Int32 → Int32 → Int32 → Int32 → ty_S → Prop
  | 0, _, _, _, _, _, _ => False
  | n + 1, x1, x5, x6, x7, x8, S => (if x7 ≤ x8 then jX0_load_106 K  x1 x5 x6 S else (if (1280 : Int32) ≤ x8 then jX0_load_106 K  x1 x5 x6 S else (vp_in x8 1280 ∧ (vp_in x8 1280 ∧ lX0_load_69 K  n x1 x5 x6 x7 (x8 + (1 : Int32)) (ty_st (ty_st S 0 x8.toNatClampNeg (-1 : Int32)) 1 x8.toNatClampNeg (1 : Int32))))))
def eX0_load (S : ty_S) (x1 : Int32) (x2 : Int32) (x3 : Int32) (x4 : Int32) (K : ty_S → Int32 → Prop) : Prop :=
  (eX0_room S x1 (fun S1 r1 => (if (((2 : Int32) + x3) + x4) ≤ r1 then (vp_in x1 40 ∧ (eX0_write S1 ((x1 * (32 : Int32)) + (S1 2 x1.toNatClampNeg)) x2 (fun S2 => (eX0_write S2 (((x1 * (32 : Int32)) + (S1 2 x1.toNatClampNeg)) + (1 : Int32)) (x3 + ((16 : Int32) * x4)) (fun S3 => ∃ n9, lX0_load_69 K  n9 x1 (((2 : Int32) + x3) + x4) ((x1 * (32 : Int32)) + (S1 2 x1.toNatClampNeg)) ((((x1 * (32 : Int32)) + (S1 2 x1.toNatClampNeg)) + (2 : Int32)) + x3) (((x1 * (32 : Int32)) + (S1 2 x1.toNatClampNeg)) + (2 : Int32)) S3))))) else K S1 (-1 : Int32))))
def lX0_bring_38 (K : ty_S → Int32 → Prop)  : Nat → Int32 → Int32 → Int32 → Int32 → ty_S → Prop
  | 0, _, _, _, _, _ => False
  | n + 1, x1, x3, x4, x5, S => (if x4 ≤ x5 then K S x3 else (eX0_at S (x1 + x5) (fun S6 r6 => (eX0_write S6 (x3 + x5) r6 (fun S7 => lX0_bring_38 K  n x1 x3 x4 (x5 + (1 : Int32)) S7)))))
def eX0_bring (S : ty_S) (x1 : Int32) (x2 : Int32) (K : ty_S → Int32 → Prop) : Prop :=
  (eX0_labelOf S x1 (fun S1 r1 => (eX0_references S1 x1 (fun S2 r2 => (eX0_numbers S2 x1 (fun S3 r3 => (eX0_load S3 x2 r1 r2 r3 (fun S4 r4 => (if r4 = (-1 : Int32) then K S4 (-1 : Int32) else (eX0_size S4 x1 (fun S5 r5 => ∃ n9, lX0_bring_38 K  n9 x1 r4 r5 (2 : Int32) S5)))))))))))
def eX0_things (S : ty_S) (x1 : Int32) (K : ty_S → Int32 → Prop) : Prop :=
  (eX4_isCar S x1 (fun S1 r1 => (if r1 = (0 : Int32) then K S1 (0 : Int32) else (vp_in x1 40 ∧ K S1 (S1 3 x1.toNatClampNeg)))))
def jX0_clear_50 (K : ty_S → Prop)  (x1 : Int32) (S : ty_S) : Prop :=
  (vp_in x1 40 ∧ (vp_in x1 40 ∧ K (ty_st (ty_st S 2 x1.toNatClampNeg (0 : Int32)) 3 x1.toNatClampNeg (0 : Int32))))
def lX0_clear_15 (K : ty_S → Prop)  : Nat → Int32 → Int32 → Int32 → ty_S → Prop
  | 0, _, _, _, _ => False
  | n + 1, x1, x2, x3, S => (if (x2 + (32 : Int32)) ≤ x3 then jX0_clear_50 K  x1 S else (if (1280 : Int32) ≤ x3 then jX0_clear_50 K  x1 S else (vp_in x3 1280 ∧ (vp_in x3 1280 ∧ lX0_clear_15 K  n x1 x2 (x3 + (1 : Int32)) (ty_st (ty_st S 0 x3.toNatClampNeg (0 : Int32)) 1 x3.toNatClampNeg (0 : Int32))))))
def eX0_clear (S : ty_S) (x1 : Int32) (K : ty_S → Prop) : Prop :=
  (eX4_isCar S x1 (fun S1 r1 => (if r1 = (0 : Int32) then K S1 else ∃ n9, lX0_clear_15 K  n9 x1 (x1 * (32 : Int32)) (x1 * (32 : Int32)) S1)))
def eX0_lastLabel (S : ty_S) (x1 : Int32) (K : ty_S → Int32 → Prop) : Prop :=
  (eX0_things S x1 (fun S1 r1 => (if r1 = (0 : Int32) then K S1 (0 : Int32) else (vp_in x1 40 ∧ (eX0_labelOf S1 (S1 4 x1.toNatClampNeg) (fun S2 r2 => K S2 r2))))))
def eX1_carAt (S : ty_S) (x1 : Int32) (K : ty_S → Int32 → Prop) : Prop :=
  (if x1 < (0 : Int32) then K S (-1 : Int32) else (if (S 13 0) ≤ x1 then K S (-1 : Int32) else (vp_in x1 40 ∧ K S (S 5 x1.toNatClampNeg))))
def eX1_countFree (S : ty_S)  (K : ty_S → Int32 → Prop) : Prop :=
  K S ((40 : Int32) - (S 13 0))
def eX1_trainOf (S : ty_S) (x1 : Int32) (K : ty_S → Int32 → Prop) : Prop :=
  (if x1 < (0 : Int32) then K S (0 : Int32) else (if (40 : Int32) ≤ x1 then K S (0 : Int32) else (vp_in x1 40 ∧ K S (S 6 x1.toNatClampNeg))))
def eX1_firstTrain (S : ty_S)  (K : ty_S → Int32 → Prop) : Prop :=
  (eX1_carAt S (0 : Int32) (fun S1 r1 => (eX1_trainOf S1 r1 (fun S2 r2 => K S2 r2))))
def eX1_lastTrain (S : ty_S)  (K : ty_S → Int32 → Prop) : Prop :=
  (eX1_carAt S ((S 13 0) - (1 : Int32)) (fun S1 r1 => (eX1_trainOf S1 r1 (fun S2 r2 => K S2 r2))))
def lX1_leastFree_2 (K : ty_S → Int32 → Prop)  : Nat → Int32 → ty_S → Prop
  | 0, _, _ => False
  | n + 1, x1, S => (if (40 : Int32) ≤ x1 then K S (-1 : Int32) else (vp_in x1 40 ∧ (if (S 6 x1.toNatClampNeg) = (0 : Int32) then K S x1 else lX1_leastFree_2 K  n (x1 + (1 : Int32)) S)))
def eX1_leastFree (S : ty_S)  (K : ty_S → Int32 → Prop) : Prop :=
  ∃ n9, lX1_leastFree_2 K  n9 (0 : Int32) S
def jX1_addCar_66 (K : ty_S → Int32 → Prop)  (x1 : Int32) (x2 : Int32) (x3 : Int32) (S : ty_S) : Prop :=
  (vp_in x3 40 ∧ (vp_in x2 40 ∧ K (ty_st (ty_st (ty_st S 5 x3.toNatClampNeg x2) 6 x2.toNatClampNeg x1) 13 0 ((S 13 0) + (1 : Int32))) x2))
def lX1_addCar_26 (K : ty_S → Int32 → Prop)  : Nat → Int32 → Int32 → Int32 → ty_S → Prop
  | 0, _, _, _, _ => False
  | n + 1, x1, x2, x3, S => (if x3 ≤ (0 : Int32) then jX1_addCar_66 K  x1 x2 x3 S else (vp_in (x3 - (1 : Int32)) 40 ∧ (eX1_trainOf S (S 5 (x3 - (1 : Int32)).toNatClampNeg) (fun S2 r2 => (if r2 ≤ x1 then jX1_addCar_66 K  x1 x2 x3 S2 else (vp_in (x3 - (1 : Int32)) 40 ∧ (vp_in x3 40 ∧ lX1_addCar_26 K  n x1 x2 (x3 + (-1 : Int32)) (ty_st S2 5 x3.toNatClampNeg (S2 5 (x3 - (1 : Int32)).toNatClampNeg)))))))))
def eX1_addCar (S : ty_S) (x1 : Int32) (K : ty_S → Int32 → Prop) : Prop :=
  (eX1_leastFree S  (fun S1 r1 => (if r1 = (-1 : Int32) then K S1 (-1 : Int32) else (if (S1 13 0) < (40 : Int32) then ∃ n9, lX1_addCar_26 K  n9 x1 r1 (S1 13 0) S1 else K S1 (-1 : Int32)))))
def eX1_addTrain (S : ty_S)  (K : ty_S → Int32 → Prop) : Prop :=
  (eX1_countFree S  (fun S1 r1 => (if r1 = (0 : Int32) then K S1 (-1 : Int32) else (eX1_addCar (ty_st S1 14 0 ((S1 14 0) + (1 : Int32))) ((S1 14 0) + (1 : Int32)) (fun S2 r2 => K S2 r2)))))
def lX1_lastCarOf_7 (K : ty_S → Int32 → Prop)  : Nat → Int32 → Int32 → ty_S → Prop
  | 0, _, _, _ => False
  | n + 1, x1, x2, S => (if x2 < (0 : Int32) then K S (-1 : Int32) else (vp_in x2 40 ∧ (eX1_trainOf S (S 5 x2.toNatClampNeg) (fun S1 r1 => (if r1 = x1 then (vp_in x2 40 ∧ K S1 (S1 5 x2.toNatClampNeg)) else lX1_lastCarOf_7 K  n x1 (x2 + (-1 : Int32)) S1)))))
def eX1_lastCarOf (S : ty_S) (x1 : Int32) (K : ty_S → Int32 → Prop) : Prop :=
  ∃ n9, lX1_lastCarOf_7 K  n9 x1 ((S 13 0) - (1 : Int32)) S
def lX1_removeFirstCar_23 (K : ty_S → Prop)  : Nat → Int32 → ty_S → Prop
  | 0, _, _ => False
  | n + 1, x2, S => (if (S 13 0) ≤ x2 then K (ty_st S 13 0 ((S 13 0) - (1 : Int32))) else (vp_in x2 40 ∧ (vp_in (x2 - (1 : Int32)) 40 ∧ lX1_removeFirstCar_23 K  n (x2 + (1 : Int32)) (ty_st S 5 (x2 - (1 : Int32)).toNatClampNeg (S 5 x2.toNatClampNeg)))))
def eX1_removeFirstCar (S : ty_S)  (K : ty_S → Prop) : Prop :=
  (eX1_carAt S (0 : Int32) (fun S1 r1 => (eX4_isCar S1 r1 (fun S2 r2 => (if r2 = (0 : Int32) then K S2 else (vp_in r1 40 ∧ ∃ n9, lX1_removeFirstCar_23 K  n9 (1 : Int32) (ty_st S2 6 r1.toNatClampNeg (0 : Int32))))))))
def lX1_carsOf_4 (K : ty_S → Int32 → Prop)  : Nat → Int32 → Int32 → Int32 → ty_S → Prop
  | 0, _, _, _, _ => False
  | n + 1, x1, x2, x3, S => (if (S 13 0) ≤ x3 then K S x2 else (vp_in x3 40 ∧ (eX1_trainOf S (S 5 x3.toNatClampNeg) (fun S1 r1 => (if r1 = x1 then lX1_carsOf_4 K  n x1 (x2 + (1 : Int32)) (x3 + (1 : Int32)) S1 else lX1_carsOf_4 K  n x1 x2 (x3 + (1 : Int32)) S1)))))
def eX1_carsOf (S : ty_S) (x1 : Int32) (K : ty_S → Int32 → Prop) : Prop :=
  ∃ n9, lX1_carsOf_4 K  n9 x1 (0 : Int32) (0 : Int32) S
def lX1_startOf_4 (K : ty_S → Int32 → Prop)  : Nat → Int32 → Int32 → Int32 → ty_S → Prop
  | 0, _, _, _, _ => False
  | n + 1, x1, x2, x3, S => (if (S 13 0) ≤ x3 then K S (-1 : Int32) else (eX1_carAt S x3 (fun S1 r1 => (eX1_trainOf S1 r1 (fun S2 r2 => (eX1_carAt S2 (x3 - (1 : Int32)) (fun S3 r3 => (eX1_trainOf S3 r3 (fun S4 r4 => (if r2 = r4 then lX1_startOf_4 K  n x1 x2 (x3 + (1 : Int32)) S4 else (if x2 = x1 then K S4 x3 else lX1_startOf_4 K  n x1 (x2 + (1 : Int32)) (x3 + (1 : Int32)) S4)))))))))))
def eX1_startOf (S : ty_S) (x1 : Int32) (K : ty_S → Int32 → Prop) : Prop :=
  ∃ n9, lX1_startOf_4 K  n9 x1 (0 : Int32) (0 : Int32) S
def lX1_indexOf_2 (K : ty_S → Int32 → Prop)  : Nat → Int32 → Int32 → ty_S → Prop
  | 0, _, _, _ => False
  | n + 1, x1, x2, S => (if (S 13 0) ≤ x2 then K S (-1 : Int32) else (vp_in x2 40 ∧ (if (S 5 x2.toNatClampNeg) = x1 then K S x2 else lX1_indexOf_2 K  n x1 (x2 + (1 : Int32)) S)))
def eX1_indexOf (S : ty_S) (x1 : Int32) (K : ty_S → Int32 → Prop) : Prop :=
  ∃ n9, lX1_indexOf_2 K  n9 x1 (0 : Int32) S
def lX1_countTrains_4 (K : ty_S → Int32 → Prop)  : Nat → Int32 → Int32 → ty_S → Prop
  | 0, _, _, _ => False
  | n + 1, x1, x2, S => (if (S 13 0) ≤ x2 then K S x1 else (eX1_carAt S x2 (fun S1 r1 => (eX1_trainOf S1 r1 (fun S2 r2 => (eX1_carAt S2 (x2 - (1 : Int32)) (fun S3 r3 => (eX1_trainOf S3 r3 (fun S4 r4 => (if r2 = r4 then lX1_countTrains_4 K  n x1 (x2 + (1 : Int32)) S4 else lX1_countTrains_4 K  n (x1 + (1 : Int32)) (x2 + (1 : Int32)) S4))))))))))
def eX1_countTrains (S : ty_S)  (K : ty_S → Int32 → Prop) : Prop :=
  ∃ n9, lX1_countTrains_4 K  n9 (0 : Int32) (0 : Int32) S
def eX2_visit (S : ty_S) (x1 : Int32) (K : ty_S → Prop) : Prop :=
  (eX4_isPlace S x1 (fun S1 r1 => (if r1 = (0 : Int32) then K S1 else (vp_in x1 1280 ∧ (if (S1 10 x1.toNatClampNeg) = (S1 26 0) then K S1 else (if (640 : Int32) ≤ (S1 25 0) then K S1 else (vp_in x1 1280 ∧ (vp_in (S1 25 0) 640 ∧ K (ty_st (ty_st (ty_st S1 10 x1.toNatClampNeg (S1 26 0)) 11 (S1 25 0).toNatClampNeg x1) 25 0 ((S1 25 0) + (1 : Int32)))))))))))
def lX2_countFrom_99 (K : ty_S → Int32 → Prop) (R51 : Int32 → ty_S → Prop) : Nat → Int32 → Int32 → Int32 → ty_S → Prop
  | 0, _, _, _, _ => False
  | n + 1, x3, x4, x5, S => (if x4 ≤ x5 then R51 (x3 + (1 : Int32)) S else (eX0_at S x5 (fun S2 r2 => (eX2_visit S2 r2 (fun S3 => lX2_countFrom_99 K R51 n x3 x4 (x5 + (1 : Int32)) S3)))))
def lX2_countFrom_51 (K : ty_S → Int32 → Prop)  : Nat → Int32 → ty_S → Prop
  | 0, _, _ => False
  | n + 1, x3, S => (if (S 25 0) ≤ x3 then K S (S 25 0) else (if (640 : Int32) ≤ x3 then K S (S 25 0) else (vp_in x3 640 ∧ (vp_in x3 640 ∧ (eX0_references S (S 11 x3.toNatClampNeg) (fun S1 r1 => (vp_in x3 640 ∧ ∃ n9, lX2_countFrom_99 K (fun a0 S9 => lX2_countFrom_51 K  n a0 S9) n9 x3 (((S 11 x3.toNatClampNeg) + (2 : Int32)) + r1) ((S1 11 x3.toNatClampNeg) + (2 : Int32)) S1)))))))
def lX2_countFrom_24 (K : ty_S → Int32 → Prop)  : Nat → Int32 → Int32 → ty_S → Prop
  | 0, _, _, _ => False
  | n + 1, x4, x5, S => (if x4 ≤ x5 then ∃ n9, lX2_countFrom_51 K  n9 (0 : Int32) S else (vp_in x5 16 ∧ (eX2_visit S (S 7 x5.toNatClampNeg) (fun S4 => lX2_countFrom_24 K  n x4 (x5 + (1 : Int32)) S4))))
def eX2_countFrom (S : ty_S)  (K : ty_S → Int32 → Prop) : Prop :=
  ∃ n9, lX2_countFrom_24 K  n9 (16 : Int32) (0 : Int32) (ty_st (ty_st S 26 0 ((S 26 0) + (1 : Int32))) 25 0 (0 : Int32))
def eX3_lastHasRoom (S : ty_S) (x1 : Int32) (K : ty_S → Int32 → Prop) : Prop :=
  (eX1_carAt S ((S 13 0) - (1 : Int32)) (fun S1 r1 => (eX0_room S1 r1 (fun S2 r2 => (if r2 < x1 then K S2 (0 : Int32) else K S2 (1 : Int32))))))
def eX3_takesNew (S : ty_S) (x1 : Int32) (K : ty_S → Int32 → Prop) : Prop :=
  (eX3_lastHasRoom S x1 (fun S1 r1 => (if r1 = (0 : Int32) then (eX1_countFree S1  (fun S2 r2 => (if r2 < (2 : Int32) then K S2 (0 : Int32) else K S2 (1 : Int32)))) else K S1 (1 : Int32))))
def eX3_canStep (S : ty_S)  (K : ty_S → Int32 → Prop) : Prop :=
  (if (S 13 0) ≤ (0 : Int32) then K S (0 : Int32) else (eX1_countFree S  (fun S1 r1 => (if r1 ≤ (0 : Int32) then K S1 (0 : Int32) else K S1 (1 : Int32)))))
def jX3_isReferredTo_91 (K : ty_S → Int32 → Prop) (R45 : Int32 → Int32 → ty_S → Prop) (x1 : Int32) (x2 : Int32) (S : ty_S) : Prop :=
  (eX0_nextReference S (x2 + (1 : Int32)) (fun S5 r5 => R45 x1 r5 S5))
def lX3_isReferredTo_45 (K : ty_S → Int32 → Prop)  : Nat → Int32 → Int32 → ty_S → Prop
  | 0, _, _, _ => False
  | n + 1, x1, x2, S => (if (1280 : Int32) ≤ x2 then K S (0 : Int32) else (eX0_at S x2 (fun S2 r2 => (eX4_carOf S2 r2 (fun S3 r3 => (eX1_trainOf S3 r3 (fun S4 r4 => (if r4 = x1 then (eX4_carOf S4 x2 (fun S6 r6 => (eX1_trainOf S6 r6 (fun S7 r7 => (if r7 = x1 then jX3_isReferredTo_91 K (fun a0 a1 S9 => lX3_isReferredTo_45 K  n a0 a1 S9) x1 x2 S7 else K S7 (1 : Int32)))))) else jX3_isReferredTo_91 K (fun a0 a1 S9 => lX3_isReferredTo_45 K  n a0 a1 S9) x1 x2 S4))))))))
def lX3_isReferredTo_2 (K : ty_S → Int32 → Prop)  : Nat → Int32 → Int32 → ty_S → Prop
  | 0, _, _, _ => False
  | n + 1, x1, x2, S => (if (16 : Int32) ≤ x2 then (eX0_nextReference S (0 : Int32) (fun S1 r1 => ∃ n9, lX3_isReferredTo_45 K  n9 x1 r1 S1)) else (vp_in x2 16 ∧ (eX4_carOf S (S 7 x2.toNatClampNeg) (fun S8 r8 => (eX1_trainOf S8 r8 (fun S9 r9 => (if r9 = x1 then K S9 (1 : Int32) else lX3_isReferredTo_2 K  n x1 (x2 + (1 : Int32)) S9)))))))
def eX3_isReferredTo (S : ty_S) (x1 : Int32) (K : ty_S → Int32 → Prop) : Prop :=
  ∃ n9, lX3_isReferredTo_2 K  n9 x1 (0 : Int32) S
def eX3_startEmptying (S : ty_S)  (K : ty_S → Prop) : Prop :=
  (eX1_carAt S (0 : Int32) (fun S1 r1 => K (ty_st (ty_st (ty_fill (ty_st S1 20 0 r1) 8 32 (-1 : Int32)) 21 0 (0 : Int32)) 22 0 (0 : Int32))))
def eX3_isStillThere (S : ty_S) (x1 : Int32) (K : ty_S → Int32 → Prop) : Prop :=
  (if x1 < (0 : Int32) then K S (0 : Int32) else (eX4_carOf S x1 (fun S1 r1 => (if r1 = (S1 20 0) then (vp_in (x1 - x1 / (32 : Int32) * (32 : Int32)) 32 ∧ (if (S1 8 (x1 - x1 / (32 : Int32) * (32 : Int32)).toNatClampNeg) = (-1 : Int32) then K S1 (1 : Int32) else K S1 (0 : Int32))) else K S1 (0 : Int32)))))
def eX3_roomInStep (S : ty_S) (x1 : Int32) (K : ty_S → Int32 → Prop) : Prop :=
  (if x1 = (S 20 0) then K S (0 : Int32) else (eX0_room S x1 (fun S1 r1 => K S1 r1)))
def lX3_carInto_50 (K : ty_S → Int32 → Prop)  : Nat → Int32 → Int32 → ty_S → Prop
  | 0, _, _, _ => False
  | n + 1, x2, x4, S => (if x4 < (0 : Int32) then K S (-1 : Int32) else (eX1_carAt S x4 (fun S4 r4 => (eX3_roomInStep S4 r4 (fun S5 r5 => (if r5 < x2 then lX3_carInto_50 K  n x2 (x4 + (-1 : Int32)) S5 else (eX1_carAt S5 x4 (fun S6 r6 => K S6 r6))))))))
def eX3_carInto (S : ty_S) (x1 : Int32) (x2 : Int32) (K : ty_S → Int32 → Prop) : Prop :=
  (eX1_lastCarOf S x1 (fun S1 r1 => (eX3_roomInStep S1 r1 (fun S2 r2 => (if r2 < x2 then (eX1_countFree S2  (fun S3 r3 => (if r3 ≤ (0 : Int32) then ∃ n9, lX3_carInto_50 K  n9 x2 ((S3 13 0) - (1 : Int32)) S3 else (eX1_addCar S3 x1 (fun S7 r7 => K S7 r7))))) else K S2 r1)))))
def eX3_moveOne (S : ty_S) (x1 : Int32) (x2 : Int32) (K : ty_S → Prop) : Prop :=
  (eX3_isStillThere S x1 (fun S1 r1 => (if r1 = (0 : Int32) then K S1 else (if (S1 21 0) < (16 : Int32) then (eX0_size S1 x1 (fun S2 r2 => (eX3_carInto S2 x2 r2 (fun S3 r3 => (eX0_bring S3 x1 r3 (fun S4 r4 => (if r4 = (-1 : Int32) then K S4 else (vp_in (x1 - x1 / (32 : Int32) * (32 : Int32)) 32 ∧ (vp_in (S4 21 0) 16 ∧ K (ty_st (ty_st (ty_st (ty_st (ty_st S4 8 (x1 - x1 / (32 : Int32) * (32 : Int32)).toNatClampNeg r4) 9 (S4 21 0).toNatClampNeg r4) 21 0 ((S4 21 0) + (1 : Int32))) 18 0 ((S4 18 0) + (1 : Int32))) 19 0 ((S4 19 0) + r2))))))))))) else K S1))))
def lX3_moveWithOthers_58 (K : ty_S → Prop) (R6 : ty_S → Prop) : Nat → Int32 → Int32 → Int32 → ty_S → Prop
  | 0, _, _, _, _ => False
  | n + 1, x3, x4, x5, S => (if x4 ≤ x5 then R6  (ty_st S 22 0 ((S 22 0) + (1 : Int32))) else (eX0_at S x5 (fun S3 r3 => (eX4_carOf S3 x3 (fun S4 r4 => (eX1_trainOf S4 r4 (fun S5 r5 => (eX3_moveOne S5 r3 r5 (fun S6 => lX3_moveWithOthers_58 K R6 n x3 x4 (x5 + (1 : Int32)) S6)))))))))
def lX3_moveWithOthers_6 (K : ty_S → Prop)  : Nat → ty_S → Prop
  | 0, _ => False
  | n + 1, S => (if (S 21 0) ≤ (S 22 0) then K S else (if (16 : Int32) ≤ (S 22 0) then K S else (vp_in (S 22 0) 16 ∧ (eX0_references S (S 9 (S 22 0).toNatClampNeg) (fun S2 r2 => ∃ n9, lX3_moveWithOthers_58 K (fun  S9 => lX3_moveWithOthers_6 K  n  S9) n9 (S 9 (S 22 0).toNatClampNeg) (((S 9 (S 22 0).toNatClampNeg) + (2 : Int32)) + r2) ((S 9 (S 22 0).toNatClampNeg) + (2 : Int32)) S2)))))
def eX3_moveWithOthers (S : ty_S) (x1 : Int32) (x2 : Int32) (K : ty_S → Prop) : Prop :=
  (eX3_moveOne S x1 x2 (fun S1 => ∃ n9, lX3_moveWithOthers_6 K  n9  S1))
def jX3_moveHeld_40 (K : ty_S → Prop) (R2 : Int32 → Int32 → ty_S → Prop) (x1 : Int32) (x2 : Int32) (S : ty_S) : Prop :=
  (vp_in x2 16 ∧ (eX1_lastTrain S  (fun S3 r3 => (eX3_moveWithOthers S3 (S 7 x2.toNatClampNeg) r3 (fun S4 => R2 x1 (x2 + (1 : Int32)) S4)))))
def lX3_moveHeld_2 (K : ty_S → Prop)  : Nat → Int32 → Int32 → ty_S → Prop
  | 0, _, _, _ => False
  | n + 1, x1, x2, S => (if (16 : Int32) ≤ x2 then K S else (vp_in x2 16 ∧ (eX3_isStillThere S (S 7 x2.toNatClampNeg) (fun S1 r1 => (if r1 = (0 : Int32) then lX3_moveHeld_2 K  n x1 (x2 + (1 : Int32)) S1 else (eX1_lastTrain S1  (fun S2 r2 => (if r2 = x1 then (eX1_addTrain S2  (fun S5 r5 => jX3_moveHeld_40 K (fun a0 a1 S9 => lX3_moveHeld_2 K  n a0 a1 S9) x1 x2 S5)) else jX3_moveHeld_40 K (fun a0 a1 S9 => lX3_moveHeld_2 K  n a0 a1 S9) x1 x2 S2))))))))
def eX3_moveHeld (S : ty_S) (x1 : Int32) (K : ty_S → Prop) : Prop :=
  ∃ n9, lX3_moveHeld_2 K  n9 x1 (0 : Int32) S
def jX3_moveReferredTo_71 (K : ty_S → Prop) (R9 : Int32 → Int32 → Int32 → ty_S → Prop) (x1 : Int32) (x2 : Int32) (x3 : Int32) (S : ty_S) : Prop :=
  (eX0_nextReference S (x3 + (1 : Int32)) (fun S4 r4 => R9 x1 x2 r4 S4))
def jX3_moveReferredTo_53 (K : ty_S → Prop) (R9 : Int32 → Int32 → Int32 → ty_S → Prop) (x1 : Int32) (x2 : Int32) (x3 : Int32) (x5 : Int32) (t0 : Int32) (S : ty_S) : Prop :=
  (if t0 = x2 then (eX0_at S x3 (fun S5 r5 => (eX3_moveWithOthers S5 r5 x5 (fun S6 => jX3_moveReferredTo_71 K R9 x1 x2 x3 S6)))) else jX3_moveReferredTo_71 K R9 x1 x2 x3 S)
def lX3_moveReferredTo_9 (K : ty_S → Prop)  : Nat → Int32 → Int32 → Int32 → ty_S → Prop
  | 0, _, _, _, _ => False
  | n + 1, x1, x2, x3, S => (if (1280 : Int32) ≤ x3 then K S else (eX4_carOf S x3 (fun S2 r2 => (eX1_trainOf S2 r2 (fun S3 r3 => (if r2 = (S3 20 0) then jX3_moveReferredTo_71 K (fun a0 a1 a2 S9 => lX3_moveReferredTo_9 K  n a0 a1 a2 S9) x1 x2 x3 S3 else (if r3 = x1 then jX3_moveReferredTo_53 K (fun a0 a1 a2 S9 => lX3_moveReferredTo_9 K  n a0 a1 a2 S9) x1 x2 x3 r3 (1 : Int32) S3 else jX3_moveReferredTo_53 K (fun a0 a1 a2 S9 => lX3_moveReferredTo_9 K  n a0 a1 a2 S9) x1 x2 x3 r3 (0 : Int32) S3)))))))
def eX3_moveReferredTo (S : ty_S) (x1 : Int32) (x2 : Int32) (K : ty_S → Prop) : Prop :=
  (eX0_nextReference S (0 : Int32) (fun S1 r1 => ∃ n9, lX3_moveReferredTo_9 K  n9 x1 x2 r1 S1))
def eX3_placeNow (S : ty_S) (x1 : Int32) (K : ty_S → Int32 → Prop) : Prop :=
  (if x1 < (0 : Int32) then K S x1 else (eX4_carOf S x1 (fun S1 r1 => (if r1 = (S1 20 0) then (vp_in (x1 - x1 / (32 : Int32) * (32 : Int32)) 32 ∧ K S1 (S1 8 (x1 - x1 / (32 : Int32) * (32 : Int32)).toNatClampNeg)) else K S1 x1))))
def lX3_endEmptying_50 (K : ty_S → Prop)  : Nat → Int32 → ty_S → Prop
  | 0, _, _ => False
  | n + 1, x1, S => (if (1280 : Int32) ≤ x1 then (eX1_removeFirstCar S  (fun S3 => K (ty_st S3 20 0 (-1 : Int32)))) else (eX0_at S x1 (fun S4 r4 => (eX3_placeNow S4 r4 (fun S5 r5 => (eX0_write S5 x1 r5 (fun S6 => (eX0_nextReference S6 (x1 + (1 : Int32)) (fun S7 r7 => lX3_endEmptying_50 K  n r7 S7)))))))))
def lX3_endEmptying_2 (K : ty_S → Prop)  : Nat → Int32 → ty_S → Prop
  | 0, _, _ => False
  | n + 1, x1, S => (if (16 : Int32) ≤ x1 then (eX0_clear S (S 20 0) (fun S1 => (eX0_nextReference S1 (0 : Int32) (fun S2 r2 => ∃ n9, lX3_endEmptying_50 K  n9 r2 S2)))) else (vp_in x1 16 ∧ (eX3_placeNow S (S 7 x1.toNatClampNeg) (fun S8 r8 => (vp_in x1 16 ∧ lX3_endEmptying_2 K  n (x1 + (1 : Int32)) (ty_st S8 7 x1.toNatClampNeg r8))))))
def eX3_endEmptying (S : ty_S)  (K : ty_S → Prop) : Prop :=
  ∃ n9, lX3_endEmptying_2 K  n9 (0 : Int32) S
def lX3_thingsIn_5 (K : ty_S → Int32 → Prop)  : Nat → Int32 → Int32 → Int32 → Int32 → ty_S → Prop
  | 0, _, _, _, _, _ => False
  | n + 1, x1, x2, x3, x4, S => (if x2 ≤ x4 then K S x3 else (eX1_carAt S (x1 + x4) (fun S1 r1 => (eX0_things S1 r1 (fun S2 r2 => lX3_thingsIn_5 K  n x1 x2 (x3 + r2) (x4 + (1 : Int32)) S2)))))
def eX3_thingsIn (S : ty_S) (x1 : Int32) (x2 : Int32) (K : ty_S → Int32 → Prop) : Prop :=
  ∃ n9, lX3_thingsIn_5 K  n9 x1 x2 (0 : Int32) (0 : Int32) S
def lX3_dropFirstTrain_19 (K : ty_S → Int32 → Prop)  : Nat → Int32 → Int32 → Int32 → ty_S → Prop
  | 0, _, _, _, _ => False
  | n + 1, x2, x3, x4, S => (if x2 ≤ x4 then K (ty_st S 16 0 ((S 16 0) + (1 : Int32))) x3 else (eX1_carAt S (0 : Int32) (fun S3 r3 => (eX0_clear S3 r3 (fun S4 => (eX1_removeFirstCar S4  (fun S5 => lX3_dropFirstTrain_19 K  n x2 x3 (x4 + (1 : Int32)) S5)))))))
def eX3_dropFirstTrain (S : ty_S) (x1 : Int32) (K : ty_S → Int32 → Prop) : Prop :=
  (eX1_carsOf S x1 (fun S1 r1 => (eX3_thingsIn S1 (0 : Int32) r1 (fun S2 r2 => ∃ n9, lX3_dropFirstTrain_19 K  n9 r1 r2 (0 : Int32) S2))))
def jX3_doStep_67 (K : ty_S → Int32 → Prop)  (x2 : Int32) (S : ty_S) : Prop :=
  K (ty_st (ty_st S 15 0 ((S 15 0) + (1 : Int32))) 17 0 ((S 17 0) + x2)) x2
def eX3_doStep (S : ty_S)  (K : ty_S → Int32 → Prop) : Prop :=
  (eX1_firstTrain S  (fun S1 r1 => (eX3_isReferredTo S1 r1 (fun S2 r2 => (if r2 = (0 : Int32) then (eX3_dropFirstTrain S2 r1 (fun S3 r3 => jX3_doStep_67 K  r3 S3)) else (eX3_startEmptying S2  (fun S4 => (eX3_moveHeld S4 r1 (fun S5 => (eX3_moveReferredTo S5 r1 (0 : Int32) (fun S6 => (eX3_moveReferredTo S6 r1 (1 : Int32) (fun S7 => (eX0_things S7 (S7 20 0) (fun S8 r8 => (eX3_endEmptying S8  (fun S9 => jX3_doStep_67 K  (r8 - (S8 21 0)) S9)))))))))))))))))
def eX3_carForNew (S : ty_S) (x1 : Int32) (x2 : Int32) (K : ty_S → Int32 → Prop) : Prop :=
  (eX3_lastHasRoom S x1 (fun S1 r1 => (if r1 = (0 : Int32) then (eX1_lastTrain S1  (fun S2 r2 => (if (S2 13 0) = (0 : Int32) then (eX1_addTrain S2  (fun S3 r3 => K S3 r3)) else (eX1_carsOf S2 r2 (fun S4 r4 => (if r4 < x2 then (eX1_addCar S4 r2 (fun S5 r5 => K S5 r5)) else (eX1_addTrain S4  (fun S6 r6 => K S6 r6)))))))) else (eX1_carAt S1 ((S1 13 0) - (1 : Int32)) (fun S7 r7 => K S7 r7)))))
def jX3_nextRemembered_62 (K : ty_S → Int32 → Prop) (R19 : Int32 → Int32 → Int32 → ty_S → Prop) (x1 : Int32) (x3 : Int32) (x4 : Int32) (S : ty_S) : Prop :=
  (eX0_nextReference S (x4 + (1 : Int32)) (fun S5 r5 => R19 x1 x3 r5 S5))
def lX3_nextRemembered_19 (K : ty_S → Int32 → Prop)  : Nat → Int32 → Int32 → Int32 → ty_S → Prop
  | 0, _, _, _, _ => False
  | n + 1, x1, x3, x4, S => (if (1280 : Int32) ≤ x4 then K S (1280 : Int32) else (eX0_at S x4 (fun S3 r3 => (eX4_carOf S3 r3 (fun S4 r4 => (if r4 = x1 then (eX4_carOf S4 x4 (fun S6 r6 => (eX1_indexOf S6 r6 (fun S7 r7 => (if r7 ≤ x3 then jX3_nextRemembered_62 K (fun a0 a1 a2 S9 => lX3_nextRemembered_19 K  n a0 a1 a2 S9) x1 x3 x4 S7 else K S7 x4))))) else jX3_nextRemembered_62 K (fun a0 a1 a2 S9 => lX3_nextRemembered_19 K  n a0 a1 a2 S9) x1 x3 x4 S4))))))
def eX3_nextRemembered (S : ty_S) (x1 : Int32) (x2 : Int32) (K : ty_S → Int32 → Prop) : Prop :=
  (eX1_indexOf S x1 (fun S1 r1 => (eX0_nextReference S1 x2 (fun S2 r2 => ∃ n9, lX3_nextRemembered_19 K  n9 x1 r1 r2 S2))))
def lX3_countRemembered_9 (K : ty_S → Int32 → Prop)  : Nat → Int32 → Int32 → Int32 → ty_S → Prop
  | 0, _, _, _, _ => False
  | n + 1, x1, x2, x3, S => (if (1280 : Int32) ≤ x3 then K S x2 else (eX3_nextRemembered S x1 (x3 + (1 : Int32)) (fun S2 r2 => lX3_countRemembered_9 K  n x1 (x2 + (1 : Int32)) r2 S2)))
def eX3_countRemembered (S : ty_S) (x1 : Int32) (K : ty_S → Int32 → Prop) : Prop :=
  (eX3_nextRemembered S x1 (0 : Int32) (fun S1 r1 => ∃ n9, lX3_countRemembered_9 K  n9 x1 (0 : Int32) r1 S1))
def eX4_step (S : ty_S)  (K : ty_S → Int32 → Prop) : Prop :=
  (eX3_canStep S  (fun S1 r1 => (if r1 = (0 : Int32) then K S1 (-1 : Int32) else (eX3_doStep S1  (fun S2 r2 => K S2 r2)))))
def eX4_reached (S : ty_S)  (K : ty_S → Int32 → Prop) : Prop :=
  (eX2_countFrom S  (fun S1 r1 => K S1 r1))
def eX5_thrown (S : ty_S)  (K : ty_S → Int32 → Prop) : Prop :=
  K S (S 60 0)
def lX5_trainOf_12 (K : ty_S → Int32 → Prop) (R2 : Int32 → Int32 → ty_S → Prop) : Nat → Int32 → Int32 → Int32 → ty_S → Prop
  | 0, _, _, _, _ => False
  | n + 1, x1, x2, x3, S => (vp_in x2 41 ∧ (if (S 41 x2.toNatClampNeg) ≤ x3 then R2 x1 (x2 + (1 : Int32)) S else (vp_in (((40 : Int32) * x2) + x3) 1640 ∧ (if (S 42 (((40 : Int32) * x2) + x3).toNatClampNeg) = x1 then K S x2 else lX5_trainOf_12 K R2 n x1 x2 (x3 + (1 : Int32)) S))))
def lX5_trainOf_2 (K : ty_S → Int32 → Prop)  : Nat → Int32 → Int32 → ty_S → Prop
  | 0, _, _, _ => False
  | n + 1, x1, x2, S => (if (S 50 0) ≤ x2 then K S (-1 : Int32) else ∃ n9, lX5_trainOf_12 K (fun a0 a1 S9 => lX5_trainOf_2 K  n a0 a1 S9) n9 x1 x2 (0 : Int32) S)
def eX5_trainOf (S : ty_S) (x1 : Int32) (K : ty_S → Int32 → Prop) : Prop :=
  ∃ n9, lX5_trainOf_2 K  n9 x1 (0 : Int32) S
def lX5_freeCar_2 (K : ty_S → Int32 → Prop)  : Nat → Int32 → ty_S → Prop
  | 0, _, _ => False
  | n + 1, x1, S => (if (40 : Int32) ≤ x1 then K S (-1 : Int32) else (eX5_trainOf S x1 (fun S1 r1 => (if (0 : Int32) ≤ r1 then lX5_freeCar_2 K  n (x1 + (1 : Int32)) S1 else K S1 x1))))
def eX5_freeCar (S : ty_S)  (K : ty_S → Int32 → Prop) : Prop :=
  ∃ n9, lX5_freeCar_2 K  n9 (0 : Int32) S
def lX5_freeCars_5 (K : ty_S → Int32 → Prop)  : Nat → Int32 → Int32 → ty_S → Prop
  | 0, _, _, _ => False
  | n + 1, x1, x2, S => (if (S 50 0) ≤ x2 then K S x1 else (vp_in x2 41 ∧ lX5_freeCars_5 K  n (x1 - (S 41 x2.toNatClampNeg)) (x2 + (1 : Int32)) S))
def eX5_freeCars (S : ty_S)  (K : ty_S → Int32 → Prop) : Prop :=
  ∃ n9, lX5_freeCars_5 K  n9 (40 : Int32) (0 : Int32) S
def eX5_lastCar (S : ty_S) (x1 : Int32) (K : ty_S → Int32 → Prop) : Prop :=
  (vp_in x1 41 ∧ (vp_in ((((40 : Int32) * x1) + (S 41 x1.toNatClampNeg)) - (1 : Int32)) 1640 ∧ K S (S 42 ((((40 : Int32) * x1) + (S 41 x1.toNatClampNeg)) - (1 : Int32)).toNatClampNeg)))
def eX5_couple (S : ty_S) (x1 : Int32) (x2 : Int32) (K : ty_S → Prop) : Prop :=
  (vp_in x1 41 ∧ (vp_in (((40 : Int32) * x1) + (S 41 x1.toNatClampNeg)) 1640 ∧ (vp_in x1 41 ∧ (vp_in x1 41 ∧ (vp_in x2 40 ∧ (vp_in x2 40 ∧ K (ty_st (ty_st (ty_st (ty_st S 42 (((40 : Int32) * x1) + (S 41 x1.toNatClampNeg)).toNatClampNeg x2) 41 x1.toNatClampNeg ((S 41 x1.toNatClampNeg) + (1 : Int32))) 37 x2.toNatClampNeg (0 : Int32)) 38 x2.toNatClampNeg (0 : Int32))))))))
def eX5_newTrain (S : ty_S)  (K : ty_S → Prop) : Prop :=
  (eX5_freeCar S  (fun S1 r1 => (vp_in (S1 50 0) 41 ∧ (vp_in (S1 50 0) 41 ∧ (eX5_couple (ty_st (ty_st (ty_st (ty_st S1 57 0 ((S1 57 0) + (1 : Int32))) 40 (S1 50 0).toNatClampNeg ((S1 57 0) + (1 : Int32))) 41 (S1 50 0).toNatClampNeg (0 : Int32)) 50 0 ((S1 50 0) + (1 : Int32))) (((S1 50 0) + (1 : Int32)) - (1 : Int32)) r1 (fun S2 => K S2))))))
def lX5_removeTrain_50 (K : ty_S → Prop) (R12 : Int32 → ty_S → Prop) : Nat → Int32 → Int32 → ty_S → Prop
  | 0, _, _, _ => False
  | n + 1, x2, x3, S => (if (40 : Int32) ≤ x3 then R12 (x2 + (1 : Int32)) S else (vp_in (((40 : Int32) * (x2 + (1 : Int32))) + x3) 1640 ∧ (vp_in (((40 : Int32) * x2) + x3) 1640 ∧ lX5_removeTrain_50 K R12 n x2 (x3 + (1 : Int32)) (ty_st S 42 (((40 : Int32) * x2) + x3).toNatClampNeg (S 42 (((40 : Int32) * (x2 + (1 : Int32))) + x3).toNatClampNeg)))))
def lX5_removeTrain_12 (K : ty_S → Prop)  : Nat → Int32 → ty_S → Prop
  | 0, _, _ => False
  | n + 1, x2, S => (if (S 50 0) ≤ x2 then K S else (vp_in (x2 + (1 : Int32)) 41 ∧ (vp_in x2 41 ∧ (vp_in (x2 + (1 : Int32)) 41 ∧ (vp_in x2 41 ∧ ∃ n9, lX5_removeTrain_50 K (fun a0 S9 => lX5_removeTrain_12 K  n a0 S9) n9 x2 (0 : Int32) (ty_st (ty_st S 40 x2.toNatClampNeg (S 40 (x2 + (1 : Int32)).toNatClampNeg)) 41 x2.toNatClampNeg (S 41 (x2 + (1 : Int32)).toNatClampNeg)))))))
def eX5_removeTrain (S : ty_S) (x1 : Int32) (K : ty_S → Prop) : Prop :=
  ∃ n9, lX5_removeTrain_12 K  n9 x1 (ty_st S 50 0 ((S 50 0) - (1 : Int32)))
def lX5_rank_15 (K : ty_S → Int32 → Prop) (R4 : Int32 → Int32 → Int32 → ty_S → Prop) : Nat → Int32 → Int32 → Int32 → Int32 → ty_S → Prop
  | 0, _, _, _, _, _ => False
  | n + 1, x1, x2, x3, x4, S => (vp_in x3 41 ∧ (if (S 41 x3.toNatClampNeg) ≤ x4 then R4 x1 x2 (x3 + (1 : Int32)) S else (vp_in (((40 : Int32) * x3) + x4) 1640 ∧ (if (S 42 (((40 : Int32) * x3) + x4).toNatClampNeg) = x1 then K S x2 else lX5_rank_15 K R4 n x1 (x2 + (1 : Int32)) x3 (x4 + (1 : Int32)) S))))
def lX5_rank_4 (K : ty_S → Int32 → Prop)  : Nat → Int32 → Int32 → Int32 → ty_S → Prop
  | 0, _, _, _, _ => False
  | n + 1, x1, x2, x3, S => (if (S 50 0) ≤ x3 then K S x2 else ∃ n9, lX5_rank_15 K (fun a0 a1 a2 S9 => lX5_rank_4 K  n a0 a1 a2 S9) n9 x1 x2 x3 (0 : Int32) S)
def eX5_rank (S : ty_S) (x1 : Int32) (K : ty_S → Int32 → Prop) : Prop :=
  ∃ n9, lX5_rank_4 K  n9 x1 (0 : Int32) (0 : Int32) S
def eX5_hasRoom (S : ty_S) (x1 : Int32) (x2 : Int32) (K : ty_S → Int32 → Prop) : Prop :=
  (vp_in x1 40 ∧ (if ((32 : Int32) - (S 37 x1.toNatClampNeg)) < x2 then K S (0 : Int32) else K S (1 : Int32)))
def eX5_wordsOf (S : ty_S) (x1 : Int32) (K : ty_S → Int32 → Prop) : Prop :=
  (vp_in x1 640 ∧ (vp_in x1 640 ∧ K S (((2 : Int32) + (S 33 x1.toNatClampNeg)) + (S 34 x1.toNatClampNeg))))
def eX5_lay (S : ty_S) (x1 : Int32) (x2 : Int32) (K : ty_S → Prop) : Prop :=
  (vp_in x1 640 ∧ (vp_in x2 40 ∧ (vp_in x1 640 ∧ (vp_in x2 40 ∧ (vp_in (((16 : Int32) * x2) + (S 38 x2.toNatClampNeg)) 640 ∧ (vp_in x2 40 ∧ (vp_in x2 40 ∧ (vp_in x2 40 ∧ (eX5_wordsOf (ty_st (ty_st (ty_st (ty_st S 31 x1.toNatClampNeg x2) 32 x1.toNatClampNeg (S 37 x2.toNatClampNeg)) 39 (((16 : Int32) * x2) + (S 38 x2.toNatClampNeg)).toNatClampNeg x1) 38 x2.toNatClampNeg ((S 38 x2.toNatClampNeg) + (1 : Int32))) x1 (fun S1 r1 => (vp_in x2 40 ∧ K (ty_st S1 37 x2.toNatClampNeg ((S 37 x2.toNatClampNeg) + r1)))))))))))))
def lX5_carFor_64 (K : ty_S → Int32 → Prop) (R52 : Int32 → Int32 → Int32 → ty_S → Prop) : Nat → Int32 → Int32 → Int32 → Int32 → ty_S → Prop
  | 0, _, _, _, _, _ => False
  | n + 1, x2, x5, x6, x7, S => (vp_in x6 41 ∧ (if (S 41 x6.toNatClampNeg) ≤ x7 then R52 x2 x5 (x6 + (1 : Int32)) S else (vp_in (((40 : Int32) * x6) + x7) 1640 ∧ (if (S 42 (((40 : Int32) * x6) + x7).toNatClampNeg) = (S 59 0) then lX5_carFor_64 K R52 n x2 x5 x6 (x7 + (1 : Int32)) S else (eX5_hasRoom S (S 42 (((40 : Int32) * x6) + x7).toNatClampNeg) x2 (fun S3 r3 => (if r3 = (0 : Int32) then lX5_carFor_64 K R52 n x2 x5 x6 (x7 + (1 : Int32)) S3 else lX5_carFor_64 K R52 n x2 (S 42 (((40 : Int32) * x6) + x7).toNatClampNeg) x6 (x7 + (1 : Int32)) S3)))))))
def lX5_carFor_52 (K : ty_S → Int32 → Prop)  : Nat → Int32 → Int32 → Int32 → ty_S → Prop
  | 0, _, _, _, _ => False
  | n + 1, x2, x5, x6, S => (if (S 50 0) ≤ x6 then K S x5 else ∃ n9, lX5_carFor_64 K (fun a0 a1 a2 S9 => lX5_carFor_52 K  n a0 a1 a2 S9) n9 x2 x5 x6 (0 : Int32) S)
def jX5_carFor_25 (K : ty_S → Int32 → Prop)  (x1 : Int32) (x2 : Int32) (S : ty_S) : Prop :=
  (eX5_freeCar S  (fun S2 r2 => (if r2 < (0 : Int32) then ∃ n9, lX5_carFor_52 K  n9 x2 (-1 : Int32) (0 : Int32) S2 else (eX5_couple S2 x1 r2 (fun S4 => K S4 r2)))))
def eX5_carFor (S : ty_S) (x1 : Int32) (x2 : Int32) (K : ty_S → Int32 → Prop) : Prop :=
  (eX5_lastCar S x1 (fun S1 r1 => (if r1 = (S1 59 0) then jX5_carFor_25 K  x1 x2 S1 else (eX5_hasRoom S1 r1 x2 (fun S5 r5 => (if r5 = (0 : Int32) then jX5_carFor_25 K  x1 x2 S5 else K S5 r1))))))
def eX5_place (S : ty_S) (x1 : Int32) (K : ty_S → Int32 → Prop) : Prop :=
  (vp_in x1 640 ∧ (vp_in x1 640 ∧ K S (((32 : Int32) * (S 31 x1.toNatClampNeg)) + (S 32 x1.toNatClampNeg))))
def eX5_referencePlace (S : ty_S) (x1 : Int32) (x2 : Int32) (K : ty_S → Int32 → Prop) : Prop :=
  (eX5_place S x1 (fun S1 r1 => K S1 ((r1 + (2 : Int32)) + x2)))
def eX5_isInCar (S : ty_S) (x1 : Int32) (K : ty_S → Int32 → Prop) : Prop :=
  (if x1 < (0 : Int32) then K S (0 : Int32) else (vp_in x1 640 ∧ (if (S 30 x1.toNatClampNeg) ≤ (0 : Int32) then K S (0 : Int32) else (vp_in x1 640 ∧ (if (S 31 x1.toNatClampNeg) = (S 59 0) then K S (1 : Int32) else K S (0 : Int32))))))
def eX5_move (S : ty_S) (x1 : Int32) (x2 : Int32) (K : ty_S → Prop) : Prop :=
  (eX5_wordsOf S x1 (fun S1 r1 => (eX5_carFor S1 x2 r1 (fun S2 r2 => (eX5_lay S2 x1 r2 (fun S3 => (eX5_wordsOf (ty_st S3 55 0 ((S3 55 0) + (1 : Int32))) x1 (fun S4 r4 => K (ty_st S4 56 0 ((S3 56 0) + r4))))))))))
def lX5_moveAll_36 (K : ty_S → Prop) (R18 : Int32 → Int32 → ty_S → Prop) : Nat → Int32 → Int32 → Int32 → Int32 → ty_S → Prop
  | 0, _, _, _, _, _ => False
  | n + 1, x3, x4, x5, x6, S => (vp_in x5 640 ∧ (if (S 33 x5.toNatClampNeg) ≤ x6 then R18 x3 (x4 + (1 : Int32)) S else (vp_in (((12 : Int32) * x5) + x6) 7680 ∧ (eX5_isInCar S (S 35 (((12 : Int32) * x5) + x6).toNatClampNeg) (fun S2 r2 => (if r2 = (0 : Int32) then lX5_moveAll_36 K R18 n x3 x4 x5 (x6 + (1 : Int32)) S2 else (vp_in x5 640 ∧ (eX5_trainOf S2 (S2 31 x5.toNatClampNeg) (fun S3 r3 => (eX5_move S3 (S 35 (((12 : Int32) * x5) + x6).toNatClampNeg) r3 (fun S4 => (vp_in x3 640 ∧ lX5_moveAll_36 K R18 n (x3 + (1 : Int32)) x4 x5 (x6 + (1 : Int32)) (ty_st S4 44 x3.toNatClampNeg (S 35 (((12 : Int32) * x5) + x6).toNatClampNeg))))))))))))))
def lX5_moveAll_18 (K : ty_S → Prop)  : Nat → Int32 → Int32 → ty_S → Prop
  | 0, _, _, _ => False
  | n + 1, x3, x4, S => (if x3 ≤ x4 then K S else (vp_in x4 640 ∧ ∃ n9, lX5_moveAll_36 K (fun a0 a1 S9 => lX5_moveAll_18 K  n a0 a1 S9) n9 x3 x4 (S 44 x4.toNatClampNeg) (0 : Int32) S))
def eX5_moveAll (S : ty_S) (x1 : Int32) (x2 : Int32) (K : ty_S → Prop) : Prop :=
  (vp_in (0 : Int32) 640 ∧ (eX5_move (ty_st S 44 (0 : Int32).toNatClampNeg x1) x1 x2 (fun S1 => ∃ n9, lX5_moveAll_18 K  n9 (1 : Int32) (0 : Int32) S1)))
def lX5_gather_59 (K : ty_S → Prop) (R7 : Int32 → ty_S → Prop) (R21 : Int32 → Int32 → Int32 → ty_S → Prop) : Nat → Int32 → Int32 → Int32 → Int32 → Int32 → ty_S → Prop
  | 0, _, _, _, _, _, _ => False
  | n + 1, x1, x2, x3, x4, x5, S => (vp_in x4 640 ∧ (if (S 33 x4.toNatClampNeg) ≤ x5 then R21 x1 x2 (x3 + (1 : Int32)) S else (vp_in (((12 : Int32) * x4) + x5) 7680 ∧ (eX5_isInCar S (S 35 (((12 : Int32) * x4) + x5).toNatClampNeg) (fun S2 r2 => (if r2 = (0 : Int32) then lX5_gather_59 K R7 R21 n x1 x2 x3 x4 (x5 + (1 : Int32)) S2 else (vp_in (S2 61 0) 1280 ∧ (vp_in (S2 61 0) 1280 ∧ (if x2 = (0 : Int32) then (vp_in (S2 61 0) 1280 ∧ lX5_gather_59 K R7 R21 n x1 x2 x3 x4 (x5 + (1 : Int32)) (ty_st (ty_st (ty_st (ty_st S2 45 (S2 61 0).toNatClampNeg x4) 46 (S2 61 0).toNatClampNeg x5) 47 (S2 61 0).toNatClampNeg (1 : Int32)) 61 0 ((S2 61 0) + (1 : Int32)))) else (vp_in (S2 61 0) 1280 ∧ lX5_gather_59 K R7 R21 n x1 x2 x3 x4 (x5 + (1 : Int32)) (ty_st (ty_st (ty_st (ty_st S2 45 (S2 61 0).toNatClampNeg x4) 46 (S2 61 0).toNatClampNeg x5) 47 (S2 61 0).toNatClampNeg (0 : Int32)) 61 0 ((S2 61 0) + (1 : Int32)))))))))))))
def lX5_gather_21 (K : ty_S → Prop) (R7 : Int32 → ty_S → Prop) : Nat → Int32 → Int32 → Int32 → ty_S → Prop
  | 0, _, _, _, _ => False
  | n + 1, x1, x2, x3, S => (vp_in x1 40 ∧ (if (S 38 x1.toNatClampNeg) ≤ x3 then R7 (x1 + (1 : Int32)) S else (if x2 < (0 : Int32) then R7 (x1 + (1 : Int32)) S else (if x1 = (S 59 0) then R7 (x1 + (1 : Int32)) S else (vp_in (((16 : Int32) * x1) + x3) 640 ∧ ∃ n9, lX5_gather_59 K R7 (fun a0 a1 a2 S9 => lX5_gather_21 K R7 n a0 a1 a2 S9) n9 x1 x2 x3 (S 39 (((16 : Int32) * x1) + x3).toNatClampNeg) (0 : Int32) S)))))
def lX5_gather_7 (K : ty_S → Prop)  : Nat → Int32 → ty_S → Prop
  | 0, _, _ => False
  | n + 1, x1, S => (if (40 : Int32) ≤ x1 then K S else (eX5_trainOf S x1 (fun S1 r1 => ∃ n9, lX5_gather_21 K (fun a0 S9 => lX5_gather_7 K  n a0 S9) n9 x1 r1 (0 : Int32) S1)))
def eX5_gather (S : ty_S)  (K : ty_S → Prop) : Prop :=
  ∃ n9, lX5_gather_7 K  n9 (0 : Int32) (ty_st S 61 0 (0 : Int32))
def lX5_isWanted_82 (K : ty_S → Int32 → Prop) (R45 : Int32 → ty_S → Prop) : Nat → Int32 → Int32 → Int32 → ty_S → Prop
  | 0, _, _, _, _ => False
  | n + 1, x1, x2, x3, S => (if x2 = (0 : Int32) then R45 (x1 + (1 : Int32)) S else (vp_in x1 640 ∧ (if (S 33 x1.toNatClampNeg) ≤ x3 then R45 (x1 + (1 : Int32)) S else (vp_in (((12 : Int32) * x1) + x3) 7680 ∧ (if (S 35 (((12 : Int32) * x1) + x3).toNatClampNeg) < (0 : Int32) then lX5_isWanted_82 K R45 n x1 x2 (x3 + (1 : Int32)) S else (vp_in (S 35 (((12 : Int32) * x1) + x3).toNatClampNeg) 640 ∧ (eX5_trainOf S (S 31 (S 35 (((12 : Int32) * x1) + x3).toNatClampNeg).toNatClampNeg) (fun S1 r1 => (if r1 = (0 : Int32) then K S1 (1 : Int32) else lX5_isWanted_82 K R45 n x1 x2 (x3 + (1 : Int32)) S1)))))))))
def lX5_isWanted_45 (K : ty_S → Int32 → Prop)  : Nat → Int32 → ty_S → Prop
  | 0, _, _ => False
  | n + 1, x1, S => (if (640 : Int32) ≤ x1 then K S (0 : Int32) else (vp_in x1 640 ∧ (if (S 30 x1.toNatClampNeg) ≤ (0 : Int32) then ∃ n9, lX5_isWanted_82 K (fun a0 S9 => lX5_isWanted_45 K  n a0 S9) n9 x1 (0 : Int32) (0 : Int32) S else (vp_in x1 640 ∧ (eX5_trainOf S (S 31 x1.toNatClampNeg) (fun S2 r2 => (if r2 ≤ (0 : Int32) then ∃ n9, lX5_isWanted_82 K (fun a0 S9 => lX5_isWanted_45 K  n a0 S9) n9 x1 (0 : Int32) (0 : Int32) S2 else ∃ n9, lX5_isWanted_82 K (fun a0 S9 => lX5_isWanted_45 K  n a0 S9) n9 x1 (1 : Int32) (0 : Int32) S2)))))))
def lX5_isWanted_2 (K : ty_S → Int32 → Prop)  : Nat → Int32 → ty_S → Prop
  | 0, _, _ => False
  | n + 1, x1, S => (if (16 : Int32) ≤ x1 then ∃ n9, lX5_isWanted_45 K  n9 (0 : Int32) S else (vp_in x1 16 ∧ (if (S 43 x1.toNatClampNeg) < (0 : Int32) then lX5_isWanted_2 K  n (x1 + (1 : Int32)) S else (vp_in x1 16 ∧ (vp_in (S 43 x1.toNatClampNeg) 640 ∧ (eX5_trainOf S (S 31 (S 43 x1.toNatClampNeg).toNatClampNeg) (fun S3 r3 => (if r3 = (0 : Int32) then K S3 (1 : Int32) else lX5_isWanted_2 K  n (x1 + (1 : Int32)) S3))))))))
def eX5_isWanted (S : ty_S)  (K : ty_S → Int32 → Prop) : Prop :=
  ∃ n9, lX5_isWanted_2 K  n9 (0 : Int32) S
def lX5_forget_4 (K : ty_S → Int32 → Prop)  : Nat → Int32 → Int32 → Int32 → ty_S → Prop
  | 0, _, _, _, _ => False
  | n + 1, x1, x2, x3, S => (vp_in x1 40 ∧ (if (S 38 x1.toNatClampNeg) ≤ x3 then (vp_in x1 40 ∧ (vp_in x1 40 ∧ K (ty_st (ty_st (ty_st S 38 x1.toNatClampNeg (0 : Int32)) 37 x1.toNatClampNeg (0 : Int32)) 54 0 ((S 54 0) + x2)) x2)) else (vp_in (((16 : Int32) * x1) + x3) 640 ∧ (vp_in (S 39 (((16 : Int32) * x1) + x3).toNatClampNeg) 640 ∧ (if (S 30 (S 39 (((16 : Int32) * x1) + x3).toNatClampNeg).toNatClampNeg) ≤ (0 : Int32) then lX5_forget_4 K  n x1 x2 (x3 + (1 : Int32)) S else (vp_in (S 39 (((16 : Int32) * x1) + x3).toNatClampNeg) 640 ∧ (if (S 31 (S 39 (((16 : Int32) * x1) + x3).toNatClampNeg).toNatClampNeg) = x1 then (vp_in (S 39 (((16 : Int32) * x1) + x3).toNatClampNeg) 640 ∧ lX5_forget_4 K  n x1 (x2 + (1 : Int32)) (x3 + (1 : Int32)) (ty_st S 30 (S 39 (((16 : Int32) * x1) + x3).toNatClampNeg).toNatClampNeg (0 : Int32))) else lX5_forget_4 K  n x1 x2 (x3 + (1 : Int32)) S)))))))
def eX5_forget (S : ty_S) (x1 : Int32) (K : ty_S → Int32 → Prop) : Prop :=
  ∃ n9, lX5_forget_4 K  n9 x1 (0 : Int32) (0 : Int32) S
def lX5_oneStep_267 (K : ty_S → Int32 → Prop)  : Nat → Int32 → Int32 → ty_S → Prop
  | 0, _, _, _ => False
  | n + 1, x1, x2, S => (vp_in (0 : Int32) 41 ∧ (if (S 41 (0 : Int32).toNatClampNeg) ≤ x2 then (vp_in (0 : Int32) 41 ∧ (if (S 41 (0 : Int32).toNatClampNeg) = (0 : Int32) then (eX5_removeTrain (ty_st S 59 0 (-1 : Int32)) (0 : Int32) (fun S4 => K S4 x1)) else K (ty_st S 59 0 (-1 : Int32)) x1)) else (vp_in (x2 + (1 : Int32)) 1640 ∧ (vp_in x2 1640 ∧ lX5_oneStep_267 K  n x1 (x2 + (1 : Int32)) (ty_st S 42 x2.toNatClampNeg (S 42 (x2 + (1 : Int32)).toNatClampNeg))))))
def jX5_oneStep_196 (K : ty_S → Int32 → Prop) (R138 : Int32 → ty_S → Prop) (R145 : Int32 → Int32 → ty_S → Prop) (x2 : Int32) (x3 : Int32) (x4 : Int32) (x5 : Int32) (t0 : Int32) (t1 : Int32) (S : ty_S) : Prop :=
  (if t1 = t0 then (eX5_isInCar S x5 (fun S5 r5 => (if r5 = (0 : Int32) then R145 x2 (x3 + (1 : Int32)) S5 else (if x2 = (1 : Int32) then (eX5_moveAll S5 x5 (0 : Int32) (fun S8 => R145 x2 (x3 + (1 : Int32)) S8)) else (vp_in x4 640 ∧ (eX5_trainOf S5 (S5 31 x4.toNatClampNeg) (fun S6 r6 => (eX5_moveAll S6 x5 r6 (fun S7 => R145 x2 (x3 + (1 : Int32)) S7))))))))) else R145 x2 (x3 + (1 : Int32)) S)
def lX5_oneStep_145 (K : ty_S → Int32 → Prop) (R138 : Int32 → ty_S → Prop) : Nat → Int32 → Int32 → ty_S → Prop
  | 0, _, _, _ => False
  | n + 1, x2, x3, S => (if (S 61 0) ≤ x3 then R138 (x2 + (1 : Int32)) S else (vp_in x3 1280 ∧ (vp_in x3 1280 ∧ (vp_in (((12 : Int32) * (S 45 x3.toNatClampNeg)) + (S 46 x3.toNatClampNeg)) 7680 ∧ (vp_in x3 1280 ∧ (if x2 = (1 : Int32) then jX5_oneStep_196 K R138 (fun a0 a1 S9 => lX5_oneStep_145 K R138 n a0 a1 S9) x2 x3 (S 45 x3.toNatClampNeg) (S 35 (((12 : Int32) * (S 45 x3.toNatClampNeg)) + (S 46 x3.toNatClampNeg)).toNatClampNeg) (1 : Int32) (S 47 x3.toNatClampNeg) S else jX5_oneStep_196 K R138 (fun a0 a1 S9 => lX5_oneStep_145 K R138 n a0 a1 S9) x2 x3 (S 45 x3.toNatClampNeg) (S 35 (((12 : Int32) * (S 45 x3.toNatClampNeg)) + (S 46 x3.toNatClampNeg)).toNatClampNeg) (0 : Int32) (S 47 x3.toNatClampNeg) S))))))
def lX5_oneStep_138 (K : ty_S → Int32 → Prop)  : Nat → Int32 → ty_S → Prop
  | 0, _, _ => False
  | n + 1, x2, S => (if (2 : Int32) ≤ x2 then (eX5_forget S (S 59 0) (fun S3 r3 => (vp_in (0 : Int32) 41 ∧ (vp_in (0 : Int32) 41 ∧ ∃ n9, lX5_oneStep_267 K  n9 r3 (0 : Int32) (ty_st S3 41 (0 : Int32).toNatClampNeg ((S3 41 (0 : Int32).toNatClampNeg) - (1 : Int32))))))) else ∃ n9, lX5_oneStep_145 K (fun a0 S9 => lX5_oneStep_138 K  n a0 S9) n9 x2 (0 : Int32) S)
def jX5_oneStep_114 (K : ty_S → Int32 → Prop) (R83 : Int32 → ty_S → Prop) (x2 : Int32) (S : ty_S) : Prop :=
  (vp_in x2 16 ∧ (eX5_moveAll S (S 43 x2.toNatClampNeg) ((S 50 0) - (1 : Int32)) (fun S10 => R83 (x2 + (1 : Int32)) S10)))
def lX5_oneStep_83 (K : ty_S → Int32 → Prop)  : Nat → Int32 → ty_S → Prop
  | 0, _, _ => False
  | n + 1, x2, S => (if (16 : Int32) ≤ x2 then ∃ n9, lX5_oneStep_138 K  n9 (0 : Int32) S else (vp_in x2 16 ∧ (eX5_isInCar S (S 43 x2.toNatClampNeg) (fun S9 r9 => (if r9 = (0 : Int32) then lX5_oneStep_83 K  n (x2 + (1 : Int32)) S9 else (if (S9 50 0) = (1 : Int32) then (eX5_newTrain S9  (fun S11 => jX5_oneStep_114 K (fun a0 S9 => lX5_oneStep_83 K  n a0 S9) x2 S11)) else jX5_oneStep_114 K (fun a0 S9 => lX5_oneStep_83 K  n a0 S9) x2 S9))))))
def lX5_oneStep_21 (K : ty_S → Int32 → Prop)  : Nat → Int32 → Int32 → ty_S → Prop
  | 0, _, _, _ => False
  | n + 1, x1, x2, S => (vp_in (0 : Int32) 41 ∧ (if (S 41 (0 : Int32).toNatClampNeg) ≤ x2 then (eX5_removeTrain (ty_st S 53 0 ((S 53 0) + (1 : Int32))) (0 : Int32) (fun S12 => K S12 x1)) else (vp_in x2 1640 ∧ (eX5_forget S (S 42 x2.toNatClampNeg) (fun S13 r13 => lX5_oneStep_21 K  n (x1 + r13) (x2 + (1 : Int32)) S13)))))
def eX5_oneStep (S : ty_S)  (K : ty_S → Int32 → Prop) : Prop :=
  (eX5_isWanted (ty_st S 52 0 ((S 52 0) + (1 : Int32)))  (fun S1 r1 => (if r1 = (0 : Int32) then ∃ n9, lX5_oneStep_21 K  n9 (0 : Int32) (0 : Int32) S1 else (vp_in (0 : Int32) 1640 ∧ (eX5_gather (ty_st S1 59 0 (S1 42 (0 : Int32).toNatClampNeg))  (fun S2 => ∃ n9, lX5_oneStep_83 K  n9 (0 : Int32) S2))))))
def eX5_maySteps (S : ty_S)  (K : ty_S → Int32 → Prop) : Prop :=
  (if (S 50 0) ≤ (0 : Int32) then K S (0 : Int32) else (eX5_freeCars S  (fun S1 r1 => (if r1 ≤ (0 : Int32) then K S1 (0 : Int32) else K S1 (1 : Int32)))))
def eX5_step (S : ty_S)  (K : ty_S → Int32 → Prop) : Prop :=
  (eX5_maySteps (ty_st S 60 0 (0 : Int32))  (fun S1 r1 => (if r1 = (0 : Int32) then K S1 (-1 : Int32) else (eX5_oneStep S1  (fun S2 r2 => K S2 r2)))))
def lX5_collect_49 (K : ty_S → Int32 → Prop)  : Nat → Int32 → Int32 → Int32 → ty_S → Prop
  | 0, _, _, _, _ => False
  | n + 1, x2, x3, x4, S => (if x2 ≤ x4 then K S x3 else (eX5_maySteps S  (fun S1 r1 => (if r1 = (0 : Int32) then K S1 x3 else (eX5_oneStep S1  (fun S2 r2 => lX5_collect_49 K  n x2 (x3 + r2) (x4 + (1 : Int32)) S2))))))
def jX5_collect_16 (K : ty_S → Int32 → Prop)  (x1 : Int32) (t0 : Int32) (S : ty_S) : Prop :=
  (if t0 ≤ (0 : Int32) then (if x1 = (0 : Int32) then (eX5_freeCars (ty_st S 60 0 t0)  (fun S3 r3 => ∃ n9, lX5_collect_49 K  n9 ((40 : Int32) - r3) (0 : Int32) (0 : Int32) S3)) else ∃ n9, lX5_collect_49 K  n9 x1 (0 : Int32) (0 : Int32) (ty_st S 60 0 t0)) else K (ty_st S 60 0 t0) (0 : Int32))
def jX5_collect_11 (K : ty_S → Int32 → Prop)  (x1 : Int32) (S : ty_S) : Prop :=
  jX5_collect_16 K  x1 (1 : Int32) S
def eX5_collect (S : ty_S) (x1 : Int32) (K : ty_S → Int32 → Prop) : Prop :=
  (if x1 < (0 : Int32) then jX5_collect_11 K  x1 S else (if x1 ≤ (100 : Int32) then jX5_collect_16 K  x1 (0 : Int32) S else jX5_collect_11 K  x1 S))
def eX5_noRegister (S : ty_S) (x0 : Int32) (K : ty_S → Int32 → Prop) : Prop :=
  (if x0 < (0 : Int32) then K S (1 : Int32) else (if x0 < (16 : Int32) then K S (0 : Int32) else K S (1 : Int32)))
def jX5_length_17 (K : ty_S → Int32 → Prop)  (x1 : Int32) (t0 : Int32) (S : ty_S) : Prop :=
  (if t0 ≤ (0 : Int32) then K (ty_st (ty_st S 60 0 t0) 51 0 x1) (S 51 0) else K (ty_st S 60 0 t0) (0 : Int32))
def jX5_length_12 (K : ty_S → Int32 → Prop)  (x1 : Int32) (S : ty_S) : Prop :=
  jX5_length_17 K  x1 (1 : Int32) S
def eX5_length (S : ty_S) (x1 : Int32) (K : ty_S → Int32 → Prop) : Prop :=
  (if x1 < (1 : Int32) then jX5_length_12 K  x1 S else (if x1 ≤ (40 : Int32) then jX5_length_17 K  x1 (0 : Int32) S else jX5_length_12 K  x1 S))
def eX5_lastHasRoom (S : ty_S) (x1 : Int32) (K : ty_S → Int32 → Prop) : Prop :=
  (if (S 50 0) ≤ (0 : Int32) then K S (0 : Int32) else (eX5_lastCar S ((S 50 0) - (1 : Int32)) (fun S1 r1 => (eX5_hasRoom S1 r1 x1 (fun S2 r2 => (if r2 = (0 : Int32) then K S2 (0 : Int32) else K S2 (1 : Int32)))))))
def lX5_make_244 (K : ty_S → Int32 → Prop)  : Nat → Int32 → Int32 → Int32 → ty_S → Prop
  | 0, _, _, _, _ => False
  | n + 1, x1, x7, x8, S => (if (12 : Int32) ≤ x8 then (eX5_lastCar S ((S 50 0) - (1 : Int32)) (fun S4 r4 => (eX5_lay S4 x7 r4 (fun S5 => (vp_in x1 16 ∧ K (ty_st S5 43 x1.toNatClampNeg x7) (S5 58 0)))))) else (vp_in (((12 : Int32) * x7) + x8) 7680 ∧ (vp_in (((12 : Int32) * x7) + x8) 7680 ∧ lX5_make_244 K  n x1 x7 (x8 + (1 : Int32)) (ty_st (ty_st S 35 (((12 : Int32) * x7) + x8).toNatClampNeg (-1 : Int32)) 36 (((12 : Int32) * x7) + x8).toNatClampNeg (0 : Int32)))))
def lX5_make_188 (K : ty_S → Int32 → Prop)  : Nat → Int32 → Int32 → Int32 → Int32 → ty_S → Prop
  | 0, _, _, _, _, _ => False
  | n + 1, x1, x2, x3, x7, S => (vp_in x7 640 ∧ (if (S 30 x7.toNatClampNeg) ≤ (0 : Int32) then (vp_in x7 640 ∧ (vp_in x7 640 ∧ (vp_in x7 640 ∧ ∃ n9, lX5_make_244 K  n9 x1 x7 (0 : Int32) (ty_st (ty_st (ty_st (ty_st S 58 0 ((S 58 0) + (1 : Int32))) 30 x7.toNatClampNeg ((S 58 0) + (1 : Int32))) 33 x7.toNatClampNeg x2) 34 x7.toNatClampNeg x3)))) else lX5_make_188 K  n x1 x2 x3 (x7 + (1 : Int32)) S))
def jX5_make_134 (K : ty_S → Int32 → Prop)  (x1 : Int32) (x2 : Int32) (x3 : Int32) (x6 : Int32) (S : ty_S) : Prop :=
  (if x6 = (0 : Int32) then (if (S 50 0) = (0 : Int32) then (eX5_newTrain S  (fun S6 => ∃ n9, lX5_make_188 K  n9 x1 x2 x3 (0 : Int32) S6)) else (vp_in ((S 50 0) - (1 : Int32)) 41 ∧ (if (S 41 ((S 50 0) - (1 : Int32)).toNatClampNeg) < (S 51 0) then (eX5_freeCar S  (fun S7 r7 => (eX5_couple S7 ((S 50 0) - (1 : Int32)) r7 (fun S8 => ∃ n9, lX5_make_188 K  n9 x1 x2 x3 (0 : Int32) S8)))) else (eX5_newTrain S  (fun S9 => ∃ n9, lX5_make_188 K  n9 x1 x2 x3 (0 : Int32) S9))))) else ∃ n9, lX5_make_188 K  n9 x1 x2 x3 (0 : Int32) S)
def jX5_make_111 (K : ty_S → Int32 → Prop)  (x1 : Int32) (x2 : Int32) (x3 : Int32) (x4 : Int32) (S : ty_S) : Prop :=
  (eX5_lastHasRoom S x4 (fun S3 r3 => (if r3 = (0 : Int32) then (eX5_freeCars S3  (fun S10 r10 => (if (2 : Int32) ≤ r10 then jX5_make_134 K  x1 x2 x3 r3 S10 else K S10 (-1 : Int32)))) else jX5_make_134 K  x1 x2 x3 r3 S3)))
def lX5_make_68 (K : ty_S → Int32 → Prop)  : Nat → Int32 → Int32 → Int32 → Int32 → Int32 → Int32 → ty_S → Prop
  | 0, _, _, _, _, _, _, _ => False
  | n + 1, x1, x2, x3, x4, x5, x6, S => (if x5 ≤ x6 then jX5_make_111 K  x1 x2 x3 x4 S else (eX5_lastHasRoom S x4 (fun S11 r11 => (if r11 = (0 : Int32) then (eX5_freeCars S11  (fun S12 r12 => (if (2 : Int32) ≤ r12 then jX5_make_111 K  x1 x2 x3 x4 S12 else (eX5_maySteps S12  (fun S13 r13 => (if r13 = (0 : Int32) then jX5_make_111 K  x1 x2 x3 x4 S13 else (eX5_oneStep S13  (fun S14 r14 => lX5_make_68 K  n x1 x2 x3 x4 x5 (x6 + (1 : Int32)) S14)))))))) else jX5_make_111 K  x1 x2 x3 x4 S11))))
def jX5_make_37 (K : ty_S → Int32 → Prop)  (x1 : Int32) (x2 : Int32) (x3 : Int32) (t0 : Int32) (S : ty_S) : Prop :=
  (if t0 ≤ (0 : Int32) then (eX5_freeCars (ty_st S 60 0 t0)  (fun S2 r2 => ∃ n9, lX5_make_68 K  n9 x1 x2 x3 (((2 : Int32) + x2) + x3) ((40 : Int32) - r2) (0 : Int32) S2)) else K (ty_st S 60 0 t0) (0 : Int32))
def jX5_make_32 (K : ty_S → Int32 → Prop)  (x1 : Int32) (x2 : Int32) (x3 : Int32) (S : ty_S) : Prop :=
  jX5_make_37 K  x1 x2 x3 (2 : Int32) S
def eX5_make (S : ty_S) (x1 : Int32) (x2 : Int32) (x3 : Int32) (K : ty_S → Int32 → Prop) : Prop :=
  (eX5_noRegister S x1 (fun S1 r1 => (if r1 = (0 : Int32) then (if x2 < (0 : Int32) then jX5_make_32 K  x1 x2 x3 S1 else (if (12 : Int32) < x2 then jX5_make_32 K  x1 x2 x3 S1 else (if x3 < (0 : Int32) then jX5_make_32 K  x1 x2 x3 S1 else (if x3 ≤ (12 : Int32) then jX5_make_37 K  x1 x2 x3 (0 : Int32) S1 else jX5_make_32 K  x1 x2 x3 S1)))) else jX5_make_37 K  x1 x2 x3 (1 : Int32) S1)))
def eX5_labelOf (S : ty_S) (x1 : Int32) (K : ty_S → Int32 → Prop) : Prop :=
  (if (0 : Int32) ≤ x1 then (vp_in x1 640 ∧ K S (S 30 x1.toNatClampNeg)) else K S (0 : Int32))
def jX5_copy_20 (K : ty_S → Int32 → Prop)  (x1 : Int32) (x2 : Int32) (t0 : Int32) (S : ty_S) : Prop :=
  (if t0 ≤ (0 : Int32) then (vp_in x2 16 ∧ (vp_in x1 16 ∧ (vp_in x1 16 ∧ (eX5_labelOf (ty_st (ty_st S 60 0 t0) 43 x1.toNatClampNeg (S 43 x2.toNatClampNeg)) ((ty_st S 43 x1.toNatClampNeg (S 43 x2.toNatClampNeg)) 43 x1.toNatClampNeg) (fun S2 r2 => K S2 r2))))) else K (ty_st S 60 0 t0) (0 : Int32))
def jX5_copy_15 (K : ty_S → Int32 → Prop)  (x1 : Int32) (x2 : Int32) (S : ty_S) : Prop :=
  jX5_copy_20 K  x1 x2 (1 : Int32) S
def eX5_copy (S : ty_S) (x1 : Int32) (x2 : Int32) (K : ty_S → Int32 → Prop) : Prop :=
  (eX5_noRegister S x1 (fun S1 r1 => (if r1 = (0 : Int32) then (eX5_noRegister S1 x2 (fun S3 r3 => (if r3 = (0 : Int32) then jX5_copy_20 K  x1 x2 (0 : Int32) S3 else jX5_copy_15 K  x1 x2 S3))) else jX5_copy_15 K  x1 x2 S1)))
def jX5_drop_13 (K : ty_S → Int32 → Prop)  (x1 : Int32) (t0 : Int32) (S : ty_S) : Prop :=
  (if t0 ≤ (0 : Int32) then (vp_in x1 16 ∧ (eX5_labelOf (ty_st S 60 0 t0) (S 43 x1.toNatClampNeg) (fun S2 r2 => (vp_in x1 16 ∧ K (ty_st S2 43 x1.toNatClampNeg (-1 : Int32)) r2)))) else K (ty_st S 60 0 t0) (0 : Int32))
def eX5_drop (S : ty_S) (x1 : Int32) (K : ty_S → Int32 → Prop) : Prop :=
  (eX5_noRegister S x1 (fun S1 r1 => (if r1 = (0 : Int32) then jX5_drop_13 K  x1 (0 : Int32) S1 else jX5_drop_13 K  x1 (1 : Int32) S1)))
def jX5_set_56 (K : ty_S → Int32 → Prop)  (x1 : Int32) (x2 : Int32) (x3 : Int32) (t0 : Int32) (S : ty_S) : Prop :=
  (if t0 ≤ (0 : Int32) then (vp_in x1 16 ∧ (vp_in (((12 : Int32) * (S 43 x1.toNatClampNeg)) + x2) 7680 ∧ (eX5_labelOf (ty_st S 60 0 t0) (S 35 (((12 : Int32) * (S 43 x1.toNatClampNeg)) + x2).toNatClampNeg) (fun S2 r2 => (vp_in x3 16 ∧ (vp_in (((12 : Int32) * (S 43 x1.toNatClampNeg)) + x2) 7680 ∧ K (ty_st S2 35 (((12 : Int32) * (S 43 x1.toNatClampNeg)) + x2).toNatClampNeg (S2 43 x3.toNatClampNeg)) r2)))))) else K (ty_st S 60 0 t0) (0 : Int32))
def jX5_set_15 (K : ty_S → Int32 → Prop)  (x1 : Int32) (x2 : Int32) (x3 : Int32) (S : ty_S) : Prop :=
  jX5_set_56 K  x1 x2 x3 (1 : Int32) S
def jX5_set_51 (K : ty_S → Int32 → Prop)  (x1 : Int32) (x2 : Int32) (x3 : Int32) (S : ty_S) : Prop :=
  jX5_set_56 K  x1 x2 x3 (3 : Int32) S
def eX5_set (S : ty_S) (x1 : Int32) (x2 : Int32) (x3 : Int32) (K : ty_S → Int32 → Prop) : Prop :=
  (eX5_noRegister S x1 (fun S1 r1 => (if r1 = (0 : Int32) then (eX5_noRegister S1 x3 (fun S3 r3 => (if r3 = (0 : Int32) then (vp_in x1 16 ∧ (if (0 : Int32) ≤ (S3 43 x1.toNatClampNeg) then (if x2 < (0 : Int32) then jX5_set_51 K  x1 x2 x3 S3 else (vp_in x1 16 ∧ (vp_in (S3 43 x1.toNatClampNeg) 640 ∧ (if x2 < (S3 33 (S3 43 x1.toNatClampNeg).toNatClampNeg) then jX5_set_56 K  x1 x2 x3 (0 : Int32) S3 else jX5_set_51 K  x1 x2 x3 S3)))) else jX5_set_56 K  x1 x2 x3 (2 : Int32) S3)) else jX5_set_15 K  x1 x2 x3 S3))) else jX5_set_15 K  x1 x2 x3 S1)))
def jX5_get_56 (K : ty_S → Int32 → Prop)  (x1 : Int32) (x2 : Int32) (x3 : Int32) (t0 : Int32) (S : ty_S) : Prop :=
  (if t0 ≤ (0 : Int32) then (vp_in x2 16 ∧ (vp_in (((12 : Int32) * (S 43 x2.toNatClampNeg)) + x3) 7680 ∧ (vp_in x1 16 ∧ (vp_in x1 16 ∧ (eX5_labelOf (ty_st (ty_st S 60 0 t0) 43 x1.toNatClampNeg (S 35 (((12 : Int32) * (S 43 x2.toNatClampNeg)) + x3).toNatClampNeg)) ((ty_st S 43 x1.toNatClampNeg (S 35 (((12 : Int32) * (S 43 x2.toNatClampNeg)) + x3).toNatClampNeg)) 43 x1.toNatClampNeg) (fun S2 r2 => K S2 r2)))))) else K (ty_st S 60 0 t0) (0 : Int32))
def jX5_get_15 (K : ty_S → Int32 → Prop)  (x1 : Int32) (x2 : Int32) (x3 : Int32) (S : ty_S) : Prop :=
  jX5_get_56 K  x1 x2 x3 (1 : Int32) S
def jX5_get_51 (K : ty_S → Int32 → Prop)  (x1 : Int32) (x2 : Int32) (x3 : Int32) (S : ty_S) : Prop :=
  jX5_get_56 K  x1 x2 x3 (3 : Int32) S
def eX5_get (S : ty_S) (x1 : Int32) (x2 : Int32) (x3 : Int32) (K : ty_S → Int32 → Prop) : Prop :=
  (eX5_noRegister S x1 (fun S1 r1 => (if r1 = (0 : Int32) then (eX5_noRegister S1 x2 (fun S3 r3 => (if r3 = (0 : Int32) then (vp_in x2 16 ∧ (if (0 : Int32) ≤ (S3 43 x2.toNatClampNeg) then (if x3 < (0 : Int32) then jX5_get_51 K  x1 x2 x3 S3 else (vp_in x2 16 ∧ (vp_in (S3 43 x2.toNatClampNeg) 640 ∧ (if x3 < (S3 33 (S3 43 x2.toNatClampNeg).toNatClampNeg) then jX5_get_56 K  x1 x2 x3 (0 : Int32) S3 else jX5_get_51 K  x1 x2 x3 S3)))) else jX5_get_56 K  x1 x2 x3 (2 : Int32) S3)) else jX5_get_15 K  x1 x2 x3 S3))) else jX5_get_15 K  x1 x2 x3 S1)))
def jX5_noNumber_49 (K : ty_S → Int32 → Prop)  (t0 : Int32) (S : ty_S) : Prop :=
  (if t0 ≤ (0 : Int32) then K (ty_st S 60 0 t0) (0 : Int32) else K (ty_st S 60 0 t0) (1 : Int32))
def jX5_noNumber_44 (K : ty_S → Int32 → Prop)   (S : ty_S) : Prop :=
  jX5_noNumber_49 K  (3 : Int32) S
def eX5_noNumber (S : ty_S) (x1 : Int32) (x2 : Int32) (K : ty_S → Int32 → Prop) : Prop :=
  (eX5_noRegister S x1 (fun S1 r1 => (if r1 = (0 : Int32) then (vp_in x1 16 ∧ (if (0 : Int32) ≤ (S1 43 x1.toNatClampNeg) then (if x2 < (0 : Int32) then jX5_noNumber_44 K   S1 else (vp_in x1 16 ∧ (vp_in (S1 43 x1.toNatClampNeg) 640 ∧ (if x2 < (S1 34 (S1 43 x1.toNatClampNeg).toNatClampNeg) then jX5_noNumber_49 K  (0 : Int32) S1 else jX5_noNumber_44 K   S1)))) else jX5_noNumber_49 K  (2 : Int32) S1)) else jX5_noNumber_49 K  (1 : Int32) S1)))
def eX5_put (S : ty_S) (x1 : Int32) (x2 : Int32) (x3 : Int32) (K : ty_S → Int32 → Prop) : Prop :=
  (eX5_noNumber S x1 x2 (fun S1 r1 => (if r1 = (0 : Int32) then (vp_in x1 16 ∧ (vp_in (((12 : Int32) * (S1 43 x1.toNatClampNeg)) + x2) 7680 ∧ (vp_in (((12 : Int32) * (S1 43 x1.toNatClampNeg)) + x2) 7680 ∧ K (ty_st S1 36 (((12 : Int32) * (S1 43 x1.toNatClampNeg)) + x2).toNatClampNeg x3) (S1 36 (((12 : Int32) * (S1 43 x1.toNatClampNeg)) + x2).toNatClampNeg)))) else K S1 (0 : Int32))))
def eX5_number (S : ty_S) (x1 : Int32) (x2 : Int32) (K : ty_S → Int32 → Prop) : Prop :=
  (eX5_noNumber S x1 x2 (fun S1 r1 => (if r1 = (0 : Int32) then (vp_in x1 16 ∧ (vp_in (((12 : Int32) * (S1 43 x1.toNatClampNeg)) + x2) 7680 ∧ K S1 (S1 36 (((12 : Int32) * (S1 43 x1.toNatClampNeg)) + x2).toNatClampNeg))) else K S1 (0 : Int32))))
def jX5_thing_35 (K : ty_S → Int32 → Prop)  (x1 : Int32) (x2 : Int32) (t0 : Int32) (S : ty_S) : Prop :=
  (if t0 ≤ (0 : Int32) then (vp_in x1 16 ∧ (if x2 = (0 : Int32) then (vp_in (S 43 x1.toNatClampNeg) 640 ∧ K (ty_st S 60 0 t0) (S 30 (S 43 x1.toNatClampNeg).toNatClampNeg)) else (if x2 = (1 : Int32) then (eX5_place (ty_st S 60 0 t0) (S 43 x1.toNatClampNeg) (fun S3 r3 => K S3 r3)) else (if x2 = (2 : Int32) then (vp_in (S 43 x1.toNatClampNeg) 640 ∧ (eX5_trainOf (ty_st S 60 0 t0) (S 31 (S 43 x1.toNatClampNeg).toNatClampNeg) (fun S2 r2 => (vp_in r2 41 ∧ K S2 (S2 40 r2.toNatClampNeg))))) else (if x2 = (3 : Int32) then (vp_in (S 43 x1.toNatClampNeg) 640 ∧ K (ty_st S 60 0 t0) (S 33 (S 43 x1.toNatClampNeg).toNatClampNeg)) else (vp_in (S 43 x1.toNatClampNeg) 640 ∧ K (ty_st S 60 0 t0) (S 34 (S 43 x1.toNatClampNeg).toNatClampNeg))))))) else K (ty_st S 60 0 t0) (0 : Int32))
def jX5_thing_17 (K : ty_S → Int32 → Prop)  (x1 : Int32) (x2 : Int32) (S : ty_S) : Prop :=
  jX5_thing_35 K  x1 x2 (1 : Int32) S
def eX5_thing (S : ty_S) (x1 : Int32) (x2 : Int32) (K : ty_S → Int32 → Prop) : Prop :=
  (eX5_noRegister S x1 (fun S1 r1 => (if r1 = (0 : Int32) then (if x2 < (0 : Int32) then jX5_thing_17 K  x1 x2 S1 else (if x2 ≤ (4 : Int32) then (vp_in x1 16 ∧ (if (0 : Int32) ≤ (S1 43 x1.toNatClampNeg) then jX5_thing_35 K  x1 x2 (0 : Int32) S1 else jX5_thing_35 K  x1 x2 (2 : Int32) S1)) else jX5_thing_17 K  x1 x2 S1)) else jX5_thing_17 K  x1 x2 S1)))
def jX5_label_49 (K : ty_S → Int32 → Prop)  (x1 : Int32) (x2 : Int32) (t0 : Int32) (S : ty_S) : Prop :=
  (if t0 ≤ (0 : Int32) then (vp_in x1 16 ∧ (vp_in (((12 : Int32) * (S 43 x1.toNatClampNeg)) + x2) 7680 ∧ (eX5_labelOf (ty_st S 60 0 t0) (S 35 (((12 : Int32) * (S 43 x1.toNatClampNeg)) + x2).toNatClampNeg) (fun S2 r2 => K S2 r2)))) else K (ty_st S 60 0 t0) (0 : Int32))
def jX5_label_44 (K : ty_S → Int32 → Prop)  (x1 : Int32) (x2 : Int32) (S : ty_S) : Prop :=
  jX5_label_49 K  x1 x2 (3 : Int32) S
def eX5_label (S : ty_S) (x1 : Int32) (x2 : Int32) (K : ty_S → Int32 → Prop) : Prop :=
  (eX5_noRegister S x1 (fun S1 r1 => (if r1 = (0 : Int32) then (vp_in x1 16 ∧ (if (0 : Int32) ≤ (S1 43 x1.toNatClampNeg) then (if x2 < (0 : Int32) then jX5_label_44 K  x1 x2 S1 else (vp_in x1 16 ∧ (vp_in (S1 43 x1.toNatClampNeg) 640 ∧ (if x2 < (S1 33 (S1 43 x1.toNatClampNeg).toNatClampNeg) then jX5_label_49 K  x1 x2 (0 : Int32) S1 else jX5_label_44 K  x1 x2 S1)))) else jX5_label_49 K  x1 x2 (2 : Int32) S1)) else jX5_label_49 K  x1 x2 (1 : Int32) S1)))
def lX5_train_44 (K : ty_S → Int32 → Prop)  : Nat → Int32 → Int32 → Int32 → Int32 → ty_S → Prop
  | 0, _, _, _, _, _ => False
  | n + 1, x1, x2, x3, x4, S => (vp_in x1 41 ∧ (if (S 41 x1.toNatClampNeg) ≤ x4 then (if x2 = (0 : Int32) then (vp_in x1 41 ∧ K S (S 40 x1.toNatClampNeg)) else (if x2 = (1 : Int32) then (vp_in x1 41 ∧ K S (S 41 x1.toNatClampNeg)) else K S x3)) else (vp_in (((40 : Int32) * x1) + x4) 1640 ∧ (vp_in (S 42 (((40 : Int32) * x1) + x4).toNatClampNeg) 40 ∧ lX5_train_44 K  n x1 x2 (x3 + (S 38 (S 42 (((40 : Int32) * x1) + x4).toNatClampNeg).toNatClampNeg)) (x4 + (1 : Int32)) S))))
def jX5_train_27 (K : ty_S → Int32 → Prop)  (x1 : Int32) (x2 : Int32) (t0 : Int32) (S : ty_S) : Prop :=
  (if t0 ≤ (0 : Int32) then ∃ n9, lX5_train_44 K  n9 x1 x2 (0 : Int32) (0 : Int32) (ty_st S 60 0 t0) else K (ty_st S 60 0 t0) (0 : Int32))
def jX5_train_22 (K : ty_S → Int32 → Prop)  (x1 : Int32) (x2 : Int32) (S : ty_S) : Prop :=
  jX5_train_27 K  x1 x2 (1 : Int32) S
def eX5_train (S : ty_S) (x1 : Int32) (x2 : Int32) (K : ty_S → Int32 → Prop) : Prop :=
  (if x1 < (0 : Int32) then jX5_train_22 K  x1 x2 S else (if (S 50 0) ≤ x1 then jX5_train_22 K  x1 x2 S else (if x2 < (0 : Int32) then jX5_train_22 K  x1 x2 S else (if x2 ≤ (2 : Int32) then jX5_train_27 K  x1 x2 (0 : Int32) S else jX5_train_22 K  x1 x2 S))))
def jX5_car_32 (K : ty_S → Int32 → Prop)  (x1 : Int32) (x2 : Int32) (t0 : Int32) (S : ty_S) : Prop :=
  (if t0 ≤ (0 : Int32) then (vp_in (((40 : Int32) * x1) + x2) 1640 ∧ K (ty_st S 60 0 t0) (S 42 (((40 : Int32) * x1) + x2).toNatClampNeg)) else K (ty_st S 60 0 t0) (0 : Int32))
def jX5_car_27 (K : ty_S → Int32 → Prop)  (x1 : Int32) (x2 : Int32) (S : ty_S) : Prop :=
  jX5_car_32 K  x1 x2 (1 : Int32) S
def eX5_car (S : ty_S) (x1 : Int32) (x2 : Int32) (K : ty_S → Int32 → Prop) : Prop :=
  (if x1 < (0 : Int32) then jX5_car_27 K  x1 x2 S else (if (S 50 0) ≤ x1 then jX5_car_27 K  x1 x2 S else (if x2 < (0 : Int32) then jX5_car_27 K  x1 x2 S else (vp_in x1 41 ∧ (if x2 < (S 41 x1.toNatClampNeg) then jX5_car_32 K  x1 x2 (0 : Int32) S else jX5_car_27 K  x1 x2 S)))))
def lX5_remembers_100 (K : ty_S → Int32 → Prop) (R20 : Int32 → Int32 → Int32 → Int32 → Int32 → ty_S → Prop) (R65 : Int32 → Int32 → Int32 → Int32 → Int32 → Int32 → Int32 → ty_S → Prop) : Nat → Int32 → Int32 → Int32 → Int32 → Int32 → Int32 → Int32 → Int32 → Int32 → ty_S → Prop
  | 0, _, _, _, _, _, _, _, _, _, _ => False
  | n + 1, x1, x2, x3, x4, x5, x6, x7, x8, x9, S => (vp_in x8 640 ∧ (if (S 33 x8.toNatClampNeg) ≤ x9 then R65 x1 x2 x3 x4 x5 x6 (x7 + (1 : Int32)) S else (vp_in (((12 : Int32) * x8) + x9) 7680 ∧ (if (S 35 (((12 : Int32) * x8) + x9).toNatClampNeg) < (0 : Int32) then lX5_remembers_100 K R20 R65 n x1 x2 x3 x4 x5 x6 x7 x8 (x9 + (1 : Int32)) S else (vp_in (S 35 (((12 : Int32) * x8) + x9).toNatClampNeg) 640 ∧ (if (S 31 (S 35 (((12 : Int32) * x8) + x9).toNatClampNeg).toNatClampNeg) = x1 then (if x3 = x2 then (eX5_referencePlace S x8 x9 (fun S3 r3 => K S3 r3)) else lX5_remembers_100 K R20 R65 n x1 x2 (x3 + (1 : Int32)) x4 x5 x6 x7 x8 (x9 + (1 : Int32)) S) else lX5_remembers_100 K R20 R65 n x1 x2 x3 x4 x5 x6 x7 x8 (x9 + (1 : Int32)) S))))))
def lX5_remembers_65 (K : ty_S → Int32 → Prop) (R20 : Int32 → Int32 → Int32 → Int32 → Int32 → ty_S → Prop) : Nat → Int32 → Int32 → Int32 → Int32 → Int32 → Int32 → Int32 → ty_S → Prop
  | 0, _, _, _, _, _, _, _, _ => False
  | n + 1, x1, x2, x3, x4, x5, x6, x7, S => (if x6 = (0 : Int32) then R20 x1 x2 x3 x4 (x5 + (1 : Int32)) S else (vp_in x5 40 ∧ (if (S 38 x5.toNatClampNeg) ≤ x7 then R20 x1 x2 x3 x4 (x5 + (1 : Int32)) S else (vp_in (((16 : Int32) * x5) + x7) 640 ∧ ∃ n9, lX5_remembers_100 K R20 (fun a0 a1 a2 a3 a4 a5 a6 S9 => lX5_remembers_65 K R20 n a0 a1 a2 a3 a4 a5 a6 S9) n9 x1 x2 x3 x4 x5 x6 x7 (S 39 (((16 : Int32) * x5) + x7).toNatClampNeg) (0 : Int32) S))))
def lX5_remembers_20 (K : ty_S → Int32 → Prop)  : Nat → Int32 → Int32 → Int32 → Int32 → Int32 → ty_S → Prop
  | 0, _, _, _, _, _, _ => False
  | n + 1, x1, x2, x3, x4, x5, S => (if (40 : Int32) ≤ x5 then K S ((-1 : Int32) - x3) else (if x4 = (0 : Int32) then K S ((-1 : Int32) - x3) else (eX5_trainOf S x5 (fun S2 r2 => (if r2 < (0 : Int32) then ∃ n9, lX5_remembers_65 K (fun a0 a1 a2 a3 a4 S9 => lX5_remembers_20 K  n a0 a1 a2 a3 a4 S9) n9 x1 x2 x3 x4 x5 (0 : Int32) (0 : Int32) S2 else (eX5_rank S2 x5 (fun S4 r4 => (eX5_rank S4 x1 (fun S5 r5 => (if r4 ≤ r5 then ∃ n9, lX5_remembers_65 K (fun a0 a1 a2 a3 a4 S9 => lX5_remembers_20 K  n a0 a1 a2 a3 a4 S9) n9 x1 x2 x3 x4 x5 (0 : Int32) (0 : Int32) S5 else ∃ n9, lX5_remembers_65 K (fun a0 a1 a2 a3 a4 S9 => lX5_remembers_20 K  n a0 a1 a2 a3 a4 S9) n9 x1 x2 x3 x4 x5 (1 : Int32) (0 : Int32) S5))))))))))
def eX5_remembers (S : ty_S) (x1 : Int32) (x2 : Int32) (K : ty_S → Int32 → Prop) : Prop :=
  (eX5_trainOf S x1 (fun S1 r1 => (if r1 < (0 : Int32) then ∃ n9, lX5_remembers_20 K  n9 x1 x2 (0 : Int32) (0 : Int32) (0 : Int32) S1 else ∃ n9, lX5_remembers_20 K  n9 x1 x2 (0 : Int32) (1 : Int32) (0 : Int32) S1)))
def jX5_about_25 (K : ty_S → Int32 → Prop)  (x1 : Int32) (x2 : Int32) (t0 : Int32) (S : ty_S) : Prop :=
  (if t0 ≤ (0 : Int32) then (eX5_trainOf (ty_st S 60 0 t0) x1 (fun S1 r1 => (if x2 = (0 : Int32) then (if (0 : Int32) ≤ r1 then (vp_in r1 41 ∧ K S1 (S1 40 r1.toNatClampNeg)) else K S1 (0 : Int32)) else (if x2 = (1 : Int32) then (vp_in x1 40 ∧ K S1 ((32 : Int32) - (S1 37 x1.toNatClampNeg))) else (if x2 = (2 : Int32) then (vp_in x1 40 ∧ K S1 (S1 38 x1.toNatClampNeg)) else (if x2 = (3 : Int32) then (eX5_remembers S1 x1 (-1 : Int32) (fun S2 r2 => K S2 ((-1 : Int32) - r2))) else (vp_in x1 40 ∧ (if (S1 38 x1.toNatClampNeg) = (0 : Int32) then K S1 (0 : Int32) else (vp_in x1 40 ∧ (vp_in ((((16 : Int32) * x1) + (S1 38 x1.toNatClampNeg)) - (1 : Int32)) 640 ∧ (vp_in (S1 39 ((((16 : Int32) * x1) + (S1 38 x1.toNatClampNeg)) - (1 : Int32)).toNatClampNeg) 640 ∧ K S1 (S1 30 (S1 39 ((((16 : Int32) * x1) + (S1 38 x1.toNatClampNeg)) - (1 : Int32)).toNatClampNeg).toNatClampNeg)))))))))))) else K (ty_st S 60 0 t0) (0 : Int32))
def jX5_about_20 (K : ty_S → Int32 → Prop)  (x1 : Int32) (x2 : Int32) (S : ty_S) : Prop :=
  jX5_about_25 K  x1 x2 (1 : Int32) S
def eX5_about (S : ty_S) (x1 : Int32) (x2 : Int32) (K : ty_S → Int32 → Prop) : Prop :=
  (if x1 < (0 : Int32) then jX5_about_20 K  x1 x2 S else (if (40 : Int32) ≤ x1 then jX5_about_20 K  x1 x2 S else (if x2 < (0 : Int32) then jX5_about_20 K  x1 x2 S else (if x2 ≤ (4 : Int32) then jX5_about_25 K  x1 x2 (0 : Int32) S else jX5_about_20 K  x1 x2 S))))
def jX5_remembered_30 (K : ty_S → Int32 → Prop)   (S : ty_S) : Prop :=
  (if (S 60 0) ≤ (0 : Int32) then K S (-1 : Int32) else K S (0 : Int32))
def jX5_remembered_16 (K : ty_S → Int32 → Prop)  (x1 : Int32) (x2 : Int32) (t0 : Int32) (S : ty_S) : Prop :=
  (if (0 : Int32) < t0 then jX5_remembered_30 K   (ty_st S 60 0 t0) else (if (0 : Int32) ≤ x2 then (eX5_remembers (ty_st S 60 0 t0) x1 x2 (fun S1 r1 => (if (0 : Int32) ≤ r1 then K S1 r1 else K S1 (-1 : Int32)))) else jX5_remembered_30 K   (ty_st S 60 0 t0)))
def jX5_remembered_11 (K : ty_S → Int32 → Prop)  (x1 : Int32) (x2 : Int32) (S : ty_S) : Prop :=
  jX5_remembered_16 K  x1 x2 (1 : Int32) S
def eX5_remembered (S : ty_S) (x1 : Int32) (x2 : Int32) (K : ty_S → Int32 → Prop) : Prop :=
  (if x1 < (0 : Int32) then jX5_remembered_11 K  x1 x2 S else (if x1 < (40 : Int32) then jX5_remembered_16 K  x1 x2 (0 : Int32) S else jX5_remembered_11 K  x1 x2 S))
def jX5_word_134 (K : ty_S → Int32 → Prop)  (x5 : Int32) (x6 : Int32) (x7 : Int32) (t0 : Int32) (S : ty_S) : Prop :=
  (if x6 = (0 : Int32) then (vp_in x5 640 ∧ K S (S 30 x5.toNatClampNeg)) else (if x6 = (1 : Int32) then (vp_in x5 640 ∧ (vp_in x5 640 ∧ K S ((S 33 x5.toNatClampNeg) + ((16 : Int32) * (S 34 x5.toNatClampNeg))))) else (vp_in x5 640 ∧ (if x7 < (S 33 x5.toNatClampNeg) then (if (0 : Int32) ≤ t0 then (eX5_place S t0 (fun S2 r2 => K S2 r2)) else K S (-1 : Int32)) else (vp_in x5 640 ∧ (vp_in ((((12 : Int32) * x5) + x7) - (S 33 x5.toNatClampNeg)) 7680 ∧ K S (S 36 ((((12 : Int32) * x5) + x7) - (S 33 x5.toNatClampNeg)).toNatClampNeg)))))))
def jX5_word_133 (K : ty_S → Int32 → Prop)  (x5 : Int32) (x6 : Int32) (x7 : Int32) (S : ty_S) : Prop :=
  jX5_word_134 K  x5 x6 x7 (-1 : Int32) S
def lX5_word_42 (K : ty_S → Int32 → Prop)  : Nat → Int32 → Int32 → Int32 → ty_S → Prop
  | 0, _, _, _, _ => False
  | n + 1, x2, x3, x4, S => (vp_in x2 40 ∧ (if (S 38 x2.toNatClampNeg) ≤ x4 then K S (0 : Int32) else (vp_in (((16 : Int32) * x2) + x4) 640 ∧ (vp_in (S 39 (((16 : Int32) * x2) + x4).toNatClampNeg) 640 ∧ (if (x3 - (S 32 (S 39 (((16 : Int32) * x2) + x4).toNatClampNeg).toNatClampNeg)) < (0 : Int32) then lX5_word_42 K  n x2 x3 (x4 + (1 : Int32)) S else (eX5_wordsOf S (S 39 (((16 : Int32) * x2) + x4).toNatClampNeg) (fun S1 r1 => (if r1 ≤ (x3 - (S 32 (S 39 (((16 : Int32) * x2) + x4).toNatClampNeg).toNatClampNeg)) then lX5_word_42 K  n x2 x3 (x4 + (1 : Int32)) S1 else (if ((x3 - (S 32 (S 39 (((16 : Int32) * x2) + x4).toNatClampNeg).toNatClampNeg)) - (2 : Int32)) < (0 : Int32) then jX5_word_133 K  (S 39 (((16 : Int32) * x2) + x4).toNatClampNeg) (x3 - (S 32 (S 39 (((16 : Int32) * x2) + x4).toNatClampNeg).toNatClampNeg)) ((x3 - (S 32 (S 39 (((16 : Int32) * x2) + x4).toNatClampNeg).toNatClampNeg)) - (2 : Int32)) S1 else (vp_in (S 39 (((16 : Int32) * x2) + x4).toNatClampNeg) 640 ∧ (if (S1 33 (S 39 (((16 : Int32) * x2) + x4).toNatClampNeg).toNatClampNeg) ≤ ((x3 - (S 32 (S 39 (((16 : Int32) * x2) + x4).toNatClampNeg).toNatClampNeg)) - (2 : Int32)) then jX5_word_133 K  (S 39 (((16 : Int32) * x2) + x4).toNatClampNeg) (x3 - (S 32 (S 39 (((16 : Int32) * x2) + x4).toNatClampNeg).toNatClampNeg)) ((x3 - (S 32 (S 39 (((16 : Int32) * x2) + x4).toNatClampNeg).toNatClampNeg)) - (2 : Int32)) S1 else (vp_in (((12 : Int32) * (S 39 (((16 : Int32) * x2) + x4).toNatClampNeg)) + ((x3 - (S 32 (S 39 (((16 : Int32) * x2) + x4).toNatClampNeg).toNatClampNeg)) - (2 : Int32))) 7680 ∧ jX5_word_134 K  (S 39 (((16 : Int32) * x2) + x4).toNatClampNeg) (x3 - (S 32 (S 39 (((16 : Int32) * x2) + x4).toNatClampNeg).toNatClampNeg)) ((x3 - (S 32 (S 39 (((16 : Int32) * x2) + x4).toNatClampNeg).toNatClampNeg)) - (2 : Int32)) (S1 35 (((12 : Int32) * (S 39 (((16 : Int32) * x2) + x4).toNatClampNeg)) + ((x3 - (S 32 (S 39 (((16 : Int32) * x2) + x4).toNatClampNeg).toNatClampNeg)) - (2 : Int32))).toNatClampNeg) S1))))))))))))
def jX5_word_17 (K : ty_S → Int32 → Prop)  (x1 : Int32) (t0 : Int32) (S : ty_S) : Prop :=
  (if t0 ≤ (0 : Int32) then ∃ n9, lX5_word_42 K  n9 (x1 / (32 : Int32)) (x1 - x1 / (32 : Int32) * (32 : Int32)) (0 : Int32) (ty_st S 60 0 t0) else K (ty_st S 60 0 t0) (0 : Int32))
def jX5_word_12 (K : ty_S → Int32 → Prop)  (x1 : Int32) (S : ty_S) : Prop :=
  jX5_word_17 K  x1 (1 : Int32) S
def eX5_word (S : ty_S) (x1 : Int32) (K : ty_S → Int32 → Prop) : Prop :=
  (if x1 < (0 : Int32) then jX5_word_12 K  x1 S else (if x1 < (1280 : Int32) then jX5_word_17 K  x1 (0 : Int32) S else jX5_word_12 K  x1 S))
def lX5_reached_89 (K : ty_S → Int32 → Prop) (R82 : Int32 → Int32 → ty_S → Prop) : Nat → Int32 → Int32 → Int32 → ty_S → Prop
  | 0, _, _, _, _ => False
  | n + 1, x1, x2, x3, S => (vp_in x2 640 ∧ (vp_in (S 44 x2.toNatClampNeg) 640 ∧ (if (S 33 (S 44 x2.toNatClampNeg).toNatClampNeg) ≤ x3 then R82 x1 (x2 + (1 : Int32)) S else (vp_in x2 640 ∧ (vp_in (((12 : Int32) * (S 44 x2.toNatClampNeg)) + x3) 7680 ∧ (if (S 35 (((12 : Int32) * (S 44 x2.toNatClampNeg)) + x3).toNatClampNeg) < (0 : Int32) then lX5_reached_89 K R82 n x1 x2 (x3 + (1 : Int32)) S else (vp_in (S 35 (((12 : Int32) * (S 44 x2.toNatClampNeg)) + x3).toNatClampNeg) 640 ∧ (if (S 48 (S 35 (((12 : Int32) * (S 44 x2.toNatClampNeg)) + x3).toNatClampNeg).toNatClampNeg) = (0 : Int32) then (vp_in (S 35 (((12 : Int32) * (S 44 x2.toNatClampNeg)) + x3).toNatClampNeg) 640 ∧ (vp_in x1 640 ∧ lX5_reached_89 K R82 n (x1 + (1 : Int32)) x2 (x3 + (1 : Int32)) (ty_st (ty_st S 48 (S 35 (((12 : Int32) * (S 44 x2.toNatClampNeg)) + x3).toNatClampNeg).toNatClampNeg (1 : Int32)) 44 x1.toNatClampNeg (S 35 (((12 : Int32) * (S 44 x2.toNatClampNeg)) + x3).toNatClampNeg)))) else lX5_reached_89 K R82 n x1 x2 (x3 + (1 : Int32)) S))))))))
def lX5_reached_82 (K : ty_S → Int32 → Prop)  : Nat → Int32 → Int32 → ty_S → Prop
  | 0, _, _, _ => False
  | n + 1, x1, x2, S => (if x1 ≤ x2 then K S x1 else ∃ n9, lX5_reached_89 K (fun a0 a1 S9 => lX5_reached_82 K  n a0 a1 S9) n9 x1 x2 (0 : Int32) S)
def lX5_reached_31 (K : ty_S → Int32 → Prop)  : Nat → Int32 → Int32 → ty_S → Prop
  | 0, _, _, _ => False
  | n + 1, x1, x2, S => (if (16 : Int32) ≤ x2 then ∃ n9, lX5_reached_82 K  n9 x1 (0 : Int32) S else (vp_in x2 16 ∧ (if (S 43 x2.toNatClampNeg) < (0 : Int32) then lX5_reached_31 K  n x1 (x2 + (1 : Int32)) S else (vp_in (S 43 x2.toNatClampNeg) 640 ∧ (if (S 48 (S 43 x2.toNatClampNeg).toNatClampNeg) = (0 : Int32) then (vp_in (S 43 x2.toNatClampNeg) 640 ∧ (vp_in x1 640 ∧ lX5_reached_31 K  n (x1 + (1 : Int32)) (x2 + (1 : Int32)) (ty_st (ty_st S 48 (S 43 x2.toNatClampNeg).toNatClampNeg (1 : Int32)) 44 x1.toNatClampNeg (S 43 x2.toNatClampNeg)))) else lX5_reached_31 K  n x1 (x2 + (1 : Int32)) S)))))
def lX5_reached_9 (K : ty_S → Int32 → Prop)  : Nat → Int32 → Int32 → ty_S → Prop
  | 0, _, _, _ => False
  | n + 1, x1, x2, S => (if (640 : Int32) ≤ x2 then ∃ n9, lX5_reached_31 K  n9 x1 (0 : Int32) S else (vp_in x2 640 ∧ lX5_reached_9 K  n x1 (x2 + (1 : Int32)) (ty_st S 48 x2.toNatClampNeg (0 : Int32))))
def eX5_reached (S : ty_S)  (K : ty_S → Int32 → Prop) : Prop :=
  ∃ n9, lX5_reached_9 K  n9 (0 : Int32) (0 : Int32) (ty_st S 60 0 (0 : Int32))
def lX5_told_32 (K : ty_S → Int32 → Prop)  : Nat → Int32 → Int32 → Int32 → ty_S → Prop
  | 0, _, _, _, _ => False
  | n + 1, x1, x2, x3, S => (if (640 : Int32) ≤ x3 then (if x1 = (0 : Int32) then K S (S 50 0) else (if x1 = (1 : Int32) then (eX5_freeCars S  (fun S1 r1 => K S1 r1)) else (if x1 = (2 : Int32) then K S x2 else (if x1 = (3 : Int32) then K S (S 52 0) else (if x1 = (4 : Int32) then K S (S 53 0) else (if x1 = (5 : Int32) then K S (S 54 0) else (if x1 = (6 : Int32) then K S (S 55 0) else (if x1 = (7 : Int32) then K S (S 56 0) else (if x1 = (8 : Int32) then K S (S 57 0) else K S (S 58 0)))))))))) else (vp_in x3 640 ∧ (if (S 30 x3.toNatClampNeg) ≤ (0 : Int32) then lX5_told_32 K  n x1 (x2 + (0 : Int32)) (x3 + (1 : Int32)) S else lX5_told_32 K  n x1 (x2 + (1 : Int32)) (x3 + (1 : Int32)) S)))
def jX5_told_16 (K : ty_S → Int32 → Prop)  (x1 : Int32) (t0 : Int32) (S : ty_S) : Prop :=
  (if t0 ≤ (0 : Int32) then ∃ n9, lX5_told_32 K  n9 x1 (0 : Int32) (0 : Int32) (ty_st S 60 0 t0) else K (ty_st S 60 0 t0) (0 : Int32))
def jX5_told_11 (K : ty_S → Int32 → Prop)  (x1 : Int32) (S : ty_S) : Prop :=
  jX5_told_16 K  x1 (1 : Int32) S
def eX5_told (S : ty_S) (x1 : Int32) (K : ty_S → Int32 → Prop) : Prop :=
  (if x1 < (0 : Int32) then jX5_told_11 K  x1 S else (if x1 ≤ (9 : Int32) then jX5_told_16 K  x1 (0 : Int32) S else jX5_told_11 K  x1 S))
def eX4_length (S : ty_S) (x1 : Int32) (K : ty_S → Int32 → Prop) (KX : Nat → ty_S → Prop) : Prop :=
  (if x1 < (1 : Int32) then KX 2 S else (if x1 ≤ (40 : Int32) then K (ty_st S 23 0 x1) (S 23 0) else KX 2 S))
def eX4_needRegister (S : ty_S) (x0 : Int32) (K : ty_S → Prop) (KX : Nat → ty_S → Prop) : Prop :=
  (if x0 < (0 : Int32) then KX 0 S else (if x0 < (16 : Int32) then K S else KX 0 S))
def jX4_make_93 (K : ty_S → Int32 → Prop) (KX : Nat → ty_S → Prop)  (x1 : Int32) (x2 : Int32) (x3 : Int32) (x4 : Int32) (S : ty_S) : Prop :=
  (eX3_takesNew S x4 (fun S4 r4 => (if r4 = (0 : Int32) then K S4 (-1 : Int32) else (eX3_carForNew S4 x4 (S4 23 0) (fun S5 r5 => (eX0_load (ty_st S5 24 0 ((S5 24 0) + (1 : Int32))) r5 ((S5 24 0) + (1 : Int32)) x2 x3 (fun S6 r6 => (vp_in x1 16 ∧ K (ty_st S6 7 x1.toNatClampNeg r6) (S6 24 0)))))))))
def lX4_make_50 (K : ty_S → Int32 → Prop) (KX : Nat → ty_S → Prop)  : Nat → Int32 → Int32 → Int32 → Int32 → Int32 → Int32 → ty_S → Prop
  | 0, _, _, _, _, _, _, _ => False
  | n + 1, x1, x2, x3, x4, x5, x6, S => (if x5 ≤ x6 then jX4_make_93 K KX  x1 x2 x3 x4 S else (eX3_takesNew S x4 (fun S7 r7 => (if r7 = (0 : Int32) then (eX3_canStep S7  (fun S8 r8 => (if r8 = (0 : Int32) then jX4_make_93 K KX  x1 x2 x3 x4 S8 else (eX3_doStep S8  (fun S9 r9 => lX4_make_50 K KX  n x1 x2 x3 x4 x5 (x6 + (1 : Int32)) S9))))) else jX4_make_93 K KX  x1 x2 x3 x4 S7))))
def eX4_make (S : ty_S) (x1 : Int32) (x2 : Int32) (x3 : Int32) (K : ty_S → Int32 → Prop) (KX : Nat → ty_S → Prop) : Prop :=
  (eX4_needRegister S x1 (fun S1 => (eX4_isAmount S1 x2 (fun S2 r2 => (if r2 = (0 : Int32) then KX 2 S2 else (eX4_isAmount S2 x3 (fun S3 r3 => (if r3 = (0 : Int32) then KX 2 S3 else ∃ n9, lX4_make_50 K KX  n9 x1 x2 x3 (((2 : Int32) + x2) + x3) (S3 13 0) (0 : Int32) S3))))))) KX)
def eX4_copy (S : ty_S) (x1 : Int32) (x2 : Int32) (K : ty_S → Int32 → Prop) (KX : Nat → ty_S → Prop) : Prop :=
  (eX4_needRegister S x1 (fun S1 => (eX4_needRegister S1 x2 (fun S2 => (vp_in x2 16 ∧ (vp_in x1 16 ∧ (vp_in x1 16 ∧ (eX0_labelOf (ty_st S2 7 x1.toNatClampNeg (S2 7 x2.toNatClampNeg)) ((ty_st S2 7 x1.toNatClampNeg (S2 7 x2.toNatClampNeg)) 7 x1.toNatClampNeg) (fun S3 r3 => K S3 r3)))))) KX)) KX)
def eX4_drop (S : ty_S) (x1 : Int32) (K : ty_S → Int32 → Prop) (KX : Nat → ty_S → Prop) : Prop :=
  (eX4_needRegister S x1 (fun S1 => (vp_in x1 16 ∧ (eX0_labelOf S1 (S1 7 x1.toNatClampNeg) (fun S2 r2 => (vp_in x1 16 ∧ K (ty_st S2 7 x1.toNatClampNeg (-1 : Int32)) r2))))) KX)
def eX4_heldThing (S : ty_S) (x1 : Int32) (K : ty_S → Int32 → Prop) (KX : Nat → ty_S → Prop) : Prop :=
  (eX4_needRegister S x1 (fun S1 => (vp_in x1 16 ∧ (if (S1 7 x1.toNatClampNeg) = (-1 : Int32) then KX 1 S1 else K S1 (S1 7 x1.toNatClampNeg)))) KX)
def eX4_placeOfReference (S : ty_S) (x1 : Int32) (x2 : Int32) (K : ty_S → Int32 → Prop) (KX : Nat → ty_S → Prop) : Prop :=
  (eX4_heldThing S x1 (fun S1 r1 => (if x2 < (0 : Int32) then KX 2 S1 else (eX0_references S1 r1 (fun S2 r2 => (if x2 < r2 then K S2 ((r1 + (2 : Int32)) + x2) else KX 2 S2))))) KX)
def eX4_set (S : ty_S) (x1 : Int32) (x2 : Int32) (x3 : Int32) (K : ty_S → Int32 → Prop) (KX : Nat → ty_S → Prop) : Prop :=
  (eX4_needRegister S x3 (fun S1 => (eX4_placeOfReference S1 x1 x2 (fun S2 r2 => (eX0_at S2 r2 (fun S3 r3 => (eX0_labelOf S3 r3 (fun S4 r4 => (vp_in x3 16 ∧ (eX0_write S4 r2 (S4 7 x3.toNatClampNeg) (fun S5 => K S5 r4)))))))) KX)) KX)
def eX4_get (S : ty_S) (x1 : Int32) (x2 : Int32) (x3 : Int32) (K : ty_S → Int32 → Prop) (KX : Nat → ty_S → Prop) : Prop :=
  (eX4_needRegister S x1 (fun S1 => (eX4_placeOfReference S1 x2 x3 (fun S2 r2 => (eX0_at S2 r2 (fun S3 r3 => (vp_in x1 16 ∧ (vp_in x1 16 ∧ (eX0_labelOf (ty_st S3 7 x1.toNatClampNeg r3) ((ty_st S3 7 x1.toNatClampNeg r3) 7 x1.toNatClampNeg) (fun S4 r4 => K S4 r4))))))) KX)) KX)
def eX4_placeOfNumber (S : ty_S) (x1 : Int32) (x2 : Int32) (K : ty_S → Int32 → Prop) (KX : Nat → ty_S → Prop) : Prop :=
  (eX4_heldThing S x1 (fun S1 r1 => (if x2 < (0 : Int32) then KX 2 S1 else (eX0_numbers S1 r1 (fun S2 r2 => (if x2 < r2 then (eX0_references S2 r1 (fun S3 r3 => K S3 (((r1 + (2 : Int32)) + r3) + x2))) else KX 2 S2))))) KX)
def eX4_put (S : ty_S) (x1 : Int32) (x2 : Int32) (x3 : Int32) (K : ty_S → Int32 → Prop) (KX : Nat → ty_S → Prop) : Prop :=
  (eX4_placeOfNumber S x1 x2 (fun S1 r1 => (eX0_at S1 r1 (fun S2 r2 => (eX0_write S2 r1 x3 (fun S3 => K S3 r2))))) KX)
def eX4_number (S : ty_S) (x1 : Int32) (x2 : Int32) (K : ty_S → Int32 → Prop) (KX : Nat → ty_S → Prop) : Prop :=
  (eX4_placeOfNumber S x1 x2 (fun S1 r1 => (eX0_at S1 r1 (fun S2 r2 => K S2 r2))) KX)
def lX4_collect_44 (K : ty_S → Int32 → Prop) (KX : Nat → ty_S → Prop)  : Nat → Int32 → Int32 → Int32 → ty_S → Prop
  | 0, _, _, _, _ => False
  | n + 1, x2, x3, x4, S => (if x2 ≤ x4 then K S x3 else (eX3_canStep S  (fun S1 r1 => (if r1 = (0 : Int32) then K S1 x3 else (eX3_doStep S1  (fun S2 r2 => lX4_collect_44 K KX  n x2 (x3 + r2) (x4 + (1 : Int32)) S2))))))
def eX4_collect (S : ty_S) (x1 : Int32) (K : ty_S → Int32 → Prop) (KX : Nat → ty_S → Prop) : Prop :=
  (if x1 < (0 : Int32) then KX 2 S else (if x1 ≤ (100 : Int32) then (if x1 = (0 : Int32) then ∃ n9, lX4_collect_44 K KX  n9 (S 13 0) (0 : Int32) (0 : Int32) S else ∃ n9, lX4_collect_44 K KX  n9 x1 (0 : Int32) (0 : Int32) S) else KX 2 S))
def eX4_needWhat (S : ty_S) (x0 : Int32) (x1 : Int32) (K : ty_S → Prop) (KX : Nat → ty_S → Prop) : Prop :=
  (if x0 < (0 : Int32) then KX 0 S else (if x0 ≤ x1 then K S else KX 0 S))
def eX4_thing (S : ty_S) (x1 : Int32) (x2 : Int32) (K : ty_S → Int32 → Prop) (KX : Nat → ty_S → Prop) : Prop :=
  (eX4_needWhat S x2 (4 : Int32) (fun S1 => (eX4_heldThing S1 x1 (fun S2 r2 => (if x2 = (0 : Int32) then (eX0_labelOf S2 r2 (fun S3 r3 => K S3 r3)) else (if x2 = (1 : Int32) then K S2 r2 else (if x2 = (2 : Int32) then (eX4_carOf S2 r2 (fun S4 r4 => (eX1_trainOf S4 r4 (fun S5 r5 => K S5 r5)))) else (if x2 = (3 : Int32) then (eX0_references S2 r2 (fun S6 r6 => K S6 r6)) else (eX0_numbers S2 r2 (fun S7 r7 => K S7 r7))))))) KX)) KX)
def eX4_label (S : ty_S) (x1 : Int32) (x2 : Int32) (K : ty_S → Int32 → Prop) (KX : Nat → ty_S → Prop) : Prop :=
  (eX4_placeOfReference S x1 x2 (fun S1 r1 => (eX0_at S1 r1 (fun S2 r2 => (eX0_labelOf S2 r2 (fun S3 r3 => K S3 r3))))) KX)
def eX4_startOfTrain (S : ty_S) (x1 : Int32) (K : ty_S → Int32 → Prop) (KX : Nat → ty_S → Prop) : Prop :=
  (eX1_startOf S x1 (fun S1 r1 => (if r1 = (-1 : Int32) then KX 0 S1 else K S1 r1)))
def eX4_train (S : ty_S) (x1 : Int32) (x2 : Int32) (K : ty_S → Int32 → Prop) (KX : Nat → ty_S → Prop) : Prop :=
  (eX4_needWhat S x2 (2 : Int32) (fun S1 => (eX4_startOfTrain S1 x1 (fun S2 r2 => (eX1_carAt S2 r2 (fun S3 r3 => (eX1_trainOf S3 r3 (fun S4 r4 => (eX1_carsOf S4 r4 (fun S5 r5 => (if x2 = (0 : Int32) then K S5 r4 else (if x2 = (1 : Int32) then K S5 r5 else (eX3_thingsIn S5 r2 r5 (fun S6 r6 => K S6 r6))))))))))) KX)) KX)
def eX4_car (S : ty_S) (x1 : Int32) (x2 : Int32) (K : ty_S → Int32 → Prop) (KX : Nat → ty_S → Prop) : Prop :=
  (eX4_startOfTrain S x1 (fun S1 r1 => (eX1_carAt S1 r1 (fun S2 r2 => (eX1_trainOf S2 r2 (fun S3 r3 => (if x2 < (0 : Int32) then KX 0 S3 else (eX1_carsOf S3 r3 (fun S4 r4 => (if x2 < r4 then (eX1_carAt S4 (r1 + x2) (fun S5 r5 => K S5 r5)) else KX 0 S4))))))))) KX)
def eX4_needCar (S : ty_S) (x0 : Int32) (K : ty_S → Prop) (KX : Nat → ty_S → Prop) : Prop :=
  (eX4_isCar S x0 (fun S1 r1 => (if r1 = (0 : Int32) then KX 0 S1 else K S1)))
def eX4_about (S : ty_S) (x1 : Int32) (x2 : Int32) (K : ty_S → Int32 → Prop) (KX : Nat → ty_S → Prop) : Prop :=
  (eX4_needCar S x1 (fun S1 => (eX4_needWhat S1 x2 (4 : Int32) (fun S2 => (if x2 = (0 : Int32) then (eX1_trainOf S2 x1 (fun S3 r3 => K S3 r3)) else (if x2 = (1 : Int32) then (eX0_room S2 x1 (fun S4 r4 => K S4 r4)) else (if x2 = (2 : Int32) then (eX0_things S2 x1 (fun S5 r5 => K S5 r5)) else (if x2 = (3 : Int32) then (eX3_countRemembered S2 x1 (fun S6 r6 => K S6 r6)) else (eX0_lastLabel S2 x1 (fun S7 r7 => K S7 r7))))))) KX)) KX)
def jX4_remembered_61 (K : ty_S → Int32 → Prop) (KX : Nat → ty_S → Prop)  (x3 : Int32) (S : ty_S) : Prop :=
  (if (1280 : Int32) ≤ x3 then K S (-1 : Int32) else K S x3)
def lX4_remembered_30 (K : ty_S → Int32 → Prop) (KX : Nat → ty_S → Prop)  : Nat → Int32 → Int32 → Int32 → Int32 → ty_S → Prop
  | 0, _, _, _, _, _ => False
  | n + 1, x1, x2, x3, x4, S => (if x2 ≤ x4 then jX4_remembered_61 K KX  x3 S else (if (1280 : Int32) ≤ x3 then jX4_remembered_61 K KX  x3 S else (eX3_nextRemembered S x1 (x3 + (1 : Int32)) (fun S3 r3 => lX4_remembered_30 K KX  n x1 x2 r3 (x4 + (1 : Int32)) S3))))
def eX4_remembered (S : ty_S) (x1 : Int32) (x2 : Int32) (K : ty_S → Int32 → Prop) (KX : Nat → ty_S → Prop) : Prop :=
  (eX4_needCar S x1 (fun S1 => (if x2 < (0 : Int32) then K S1 (-1 : Int32) else (if x2 < (1280 : Int32) then (eX3_nextRemembered S1 x1 (0 : Int32) (fun S2 r2 => ∃ n9, lX4_remembered_30 K KX  n9 x1 x2 r2 (0 : Int32) S2)) else K S1 (-1 : Int32)))) KX)
def eX4_word (S : ty_S) (x1 : Int32) (K : ty_S → Int32 → Prop) (KX : Nat → ty_S → Prop) : Prop :=
  (eX4_isPlace S x1 (fun S1 r1 => (if r1 = (0 : Int32) then KX 0 S1 else (eX0_at S1 x1 (fun S2 r2 => K S2 r2)))))
def eX4_told (S : ty_S) (x1 : Int32) (K : ty_S → Int32 → Prop) (KX : Nat → ty_S → Prop) : Prop :=
  (eX4_needWhat S x1 (9 : Int32) (fun S1 => (if x1 = (0 : Int32) then (eX1_countTrains S1  (fun S2 r2 => K S2 r2)) else (if x1 = (1 : Int32) then (eX1_countFree S1  (fun S3 r3 => K S3 r3)) else (if x1 = (2 : Int32) then (eX3_thingsIn S1 (0 : Int32) (S1 13 0) (fun S4 r4 => K S4 r4)) else (if x1 = (3 : Int32) then K S1 (S1 15 0) else (if x1 = (4 : Int32) then K S1 (S1 16 0) else (if x1 = (5 : Int32) then K S1 (S1 17 0) else (if x1 = (6 : Int32) then K S1 (S1 18 0) else (if x1 = (7 : Int32) then K S1 (S1 19 0) else (if x1 = (8 : Int32) then K S1 (S1 14 0) else K S1 (S1 24 0))))))))))) KX)
def eL_length (S : ty_S) (x1 : Int32) (K : ty_S → Int32 → Prop) : Prop :=
  (eX4_length S x1 (fun S1 r1 => (vp_in (0 : Int32) 1 ∧ K (ty_st S1 12 (0 : Int32).toNatClampNeg r1) (0 : Int32))) (fun k9 S9 => if k9 = 0 then False else if k9 = 1 then False else if k9 = 2 then K S9 (1 : Int32) else False))
def eL_make (S : ty_S) (x1 : Int32) (x2 : Int32) (x3 : Int32) (K : ty_S → Int32 → Prop) : Prop :=
  (eX4_make S x1 x2 x3 (fun S1 r1 => (vp_in (0 : Int32) 1 ∧ K (ty_st S1 12 (0 : Int32).toNatClampNeg r1) (0 : Int32))) (fun k9 S9 => if k9 = 0 then K S9 (1 : Int32) else if k9 = 1 then False else if k9 = 2 then K S9 (2 : Int32) else False))
def eL_copy (S : ty_S) (x1 : Int32) (x2 : Int32) (K : ty_S → Int32 → Prop) : Prop :=
  (eX4_copy S x1 x2 (fun S1 r1 => (vp_in (0 : Int32) 1 ∧ K (ty_st S1 12 (0 : Int32).toNatClampNeg r1) (0 : Int32))) (fun k9 S9 => if k9 = 0 then K S9 (1 : Int32) else if k9 = 1 then False else if k9 = 2 then False else False))
def eL_drop (S : ty_S) (x1 : Int32) (K : ty_S → Int32 → Prop) : Prop :=
  (eX4_drop S x1 (fun S1 r1 => (vp_in (0 : Int32) 1 ∧ K (ty_st S1 12 (0 : Int32).toNatClampNeg r1) (0 : Int32))) (fun k9 S9 => if k9 = 0 then K S9 (1 : Int32) else if k9 = 1 then False else if k9 = 2 then False else False))
def eL_set (S : ty_S) (x1 : Int32) (x2 : Int32) (x3 : Int32) (K : ty_S → Int32 → Prop) : Prop :=
  (eX4_set S x1 x2 x3 (fun S1 r1 => (vp_in (0 : Int32) 1 ∧ K (ty_st S1 12 (0 : Int32).toNatClampNeg r1) (0 : Int32))) (fun k9 S9 => if k9 = 0 then K S9 (1 : Int32) else if k9 = 1 then K S9 (2 : Int32) else if k9 = 2 then K S9 (3 : Int32) else False))
def eL_get (S : ty_S) (x1 : Int32) (x2 : Int32) (x3 : Int32) (K : ty_S → Int32 → Prop) : Prop :=
  (eX4_get S x1 x2 x3 (fun S1 r1 => (vp_in (0 : Int32) 1 ∧ K (ty_st S1 12 (0 : Int32).toNatClampNeg r1) (0 : Int32))) (fun k9 S9 => if k9 = 0 then K S9 (1 : Int32) else if k9 = 1 then K S9 (2 : Int32) else if k9 = 2 then K S9 (3 : Int32) else False))
def eL_put (S : ty_S) (x1 : Int32) (x2 : Int32) (x3 : Int32) (K : ty_S → Int32 → Prop) : Prop :=
  (eX4_put S x1 x2 x3 (fun S1 r1 => (vp_in (0 : Int32) 1 ∧ K (ty_st S1 12 (0 : Int32).toNatClampNeg r1) (0 : Int32))) (fun k9 S9 => if k9 = 0 then K S9 (1 : Int32) else if k9 = 1 then K S9 (2 : Int32) else if k9 = 2 then K S9 (3 : Int32) else False))
def eL_number (S : ty_S) (x1 : Int32) (x2 : Int32) (K : ty_S → Int32 → Prop) : Prop :=
  (eX4_number S x1 x2 (fun S1 r1 => (vp_in (0 : Int32) 1 ∧ K (ty_st S1 12 (0 : Int32).toNatClampNeg r1) (0 : Int32))) (fun k9 S9 => if k9 = 0 then K S9 (1 : Int32) else if k9 = 1 then K S9 (2 : Int32) else if k9 = 2 then K S9 (3 : Int32) else False))
def eL_collect (S : ty_S) (x1 : Int32) (K : ty_S → Int32 → Prop) : Prop :=
  (eX4_collect S x1 (fun S1 r1 => (vp_in (0 : Int32) 1 ∧ K (ty_st S1 12 (0 : Int32).toNatClampNeg r1) (0 : Int32))) (fun k9 S9 => if k9 = 0 then False else if k9 = 1 then False else if k9 = 2 then K S9 (1 : Int32) else False))
def eL_thing (S : ty_S) (x1 : Int32) (x2 : Int32) (K : ty_S → Int32 → Prop) : Prop :=
  (eX4_thing S x1 x2 (fun S1 r1 => (vp_in (0 : Int32) 1 ∧ K (ty_st S1 12 (0 : Int32).toNatClampNeg r1) (0 : Int32))) (fun k9 S9 => if k9 = 0 then K S9 (1 : Int32) else if k9 = 1 then K S9 (2 : Int32) else if k9 = 2 then False else False))
def eL_label (S : ty_S) (x1 : Int32) (x2 : Int32) (K : ty_S → Int32 → Prop) : Prop :=
  (eX4_label S x1 x2 (fun S1 r1 => (vp_in (0 : Int32) 1 ∧ K (ty_st S1 12 (0 : Int32).toNatClampNeg r1) (0 : Int32))) (fun k9 S9 => if k9 = 0 then K S9 (1 : Int32) else if k9 = 1 then K S9 (2 : Int32) else if k9 = 2 then K S9 (3 : Int32) else False))
def eL_train (S : ty_S) (x1 : Int32) (x2 : Int32) (K : ty_S → Int32 → Prop) : Prop :=
  (eX4_train S x1 x2 (fun S1 r1 => (vp_in (0 : Int32) 1 ∧ K (ty_st S1 12 (0 : Int32).toNatClampNeg r1) (0 : Int32))) (fun k9 S9 => if k9 = 0 then K S9 (1 : Int32) else if k9 = 1 then False else if k9 = 2 then False else False))
def eL_car (S : ty_S) (x1 : Int32) (x2 : Int32) (K : ty_S → Int32 → Prop) : Prop :=
  (eX4_car S x1 x2 (fun S1 r1 => (vp_in (0 : Int32) 1 ∧ K (ty_st S1 12 (0 : Int32).toNatClampNeg r1) (0 : Int32))) (fun k9 S9 => if k9 = 0 then K S9 (1 : Int32) else if k9 = 1 then False else if k9 = 2 then False else False))
def eL_about (S : ty_S) (x1 : Int32) (x2 : Int32) (K : ty_S → Int32 → Prop) : Prop :=
  (eX4_about S x1 x2 (fun S1 r1 => (vp_in (0 : Int32) 1 ∧ K (ty_st S1 12 (0 : Int32).toNatClampNeg r1) (0 : Int32))) (fun k9 S9 => if k9 = 0 then K S9 (1 : Int32) else if k9 = 1 then False else if k9 = 2 then False else False))
def eL_remembered (S : ty_S) (x1 : Int32) (x2 : Int32) (K : ty_S → Int32 → Prop) : Prop :=
  (eX4_remembered S x1 x2 (fun S1 r1 => (vp_in (0 : Int32) 1 ∧ K (ty_st S1 12 (0 : Int32).toNatClampNeg r1) (0 : Int32))) (fun k9 S9 => if k9 = 0 then K S9 (1 : Int32) else if k9 = 1 then False else if k9 = 2 then False else False))
def eL_word (S : ty_S) (x1 : Int32) (K : ty_S → Int32 → Prop) : Prop :=
  (eX4_word S x1 (fun S1 r1 => (vp_in (0 : Int32) 1 ∧ K (ty_st S1 12 (0 : Int32).toNatClampNeg r1) (0 : Int32))) (fun k9 S9 => if k9 = 0 then K S9 (1 : Int32) else if k9 = 1 then False else if k9 = 2 then False else False))
def eL_told (S : ty_S) (x1 : Int32) (K : ty_S → Int32 → Prop) : Prop :=
  (eX4_told S x1 (fun S1 r1 => (vp_in (0 : Int32) 1 ∧ K (ty_st S1 12 (0 : Int32).toNatClampNeg r1) (0 : Int32))) (fun k9 S9 => if k9 = 0 then K S9 (1 : Int32) else if k9 = 1 then False else if k9 = 2 then False else False))
def jL_law_128 (xs : Nat → Int32) (L : Nat) (R : Int32 → ty_S → ty_S → Prop) (x4 : Int32) (S T : ty_S) : Prop :=
  (vp_in (x4 + (1 : Int32)) L ∧ (eL_length S (xs (x4 + (1 : Int32)).toNatClampNeg) (fun S1 r1 => (vp_in (x4 + (1 : Int32)) L ∧ (eX5_length T (xs (x4 + (1 : Int32)).toNatClampNeg) (fun T2 r2 => (eX5_thrown T2  (fun T3 r3 => (if r3 = r1 then (if r1 = (0 : Int32) then (vp_in (0 : Int32) 1 ∧ (if (lg_cmp (S1 12 (0 : Int32).toNatClampNeg).toInt64 r2.toInt64) = (0 : Int32) then R (x4 + (4 : Int32)) S1 T3 else False)) else R (x4 + (4 : Int32)) S1 T3) else False)))))))))
def jL_law_184 (xs : Nat → Int32) (L : Nat) (R : Int32 → ty_S → ty_S → Prop) (x4 : Int32) (S T : ty_S) : Prop :=
  (vp_in (x4 + (1 : Int32)) L ∧ (vp_in (x4 + (2 : Int32)) L ∧ (vp_in (x4 + (3 : Int32)) L ∧ (eL_make S (xs (x4 + (1 : Int32)).toNatClampNeg) (xs (x4 + (2 : Int32)).toNatClampNeg) (xs (x4 + (3 : Int32)).toNatClampNeg) (fun S4 r4 => (vp_in (x4 + (1 : Int32)) L ∧ (vp_in (x4 + (2 : Int32)) L ∧ (vp_in (x4 + (3 : Int32)) L ∧ (eX5_make T (xs (x4 + (1 : Int32)).toNatClampNeg) (xs (x4 + (2 : Int32)).toNatClampNeg) (xs (x4 + (3 : Int32)).toNatClampNeg) (fun T5 r5 => (eX5_thrown T5  (fun T6 r6 => (if r6 = r4 then (if r4 = (0 : Int32) then (vp_in (0 : Int32) 1 ∧ (if (lg_cmp (S4 12 (0 : Int32).toNatClampNeg).toInt64 r5.toInt64) = (0 : Int32) then R (x4 + (4 : Int32)) S4 T6 else False)) else R (x4 + (4 : Int32)) S4 T6) else False)))))))))))))
def jL_law_264 (xs : Nat → Int32) (L : Nat) (R : Int32 → ty_S → ty_S → Prop) (x4 : Int32) (S T : ty_S) : Prop :=
  (vp_in (x4 + (1 : Int32)) L ∧ (vp_in (x4 + (2 : Int32)) L ∧ (eL_copy S (xs (x4 + (1 : Int32)).toNatClampNeg) (xs (x4 + (2 : Int32)).toNatClampNeg) (fun S7 r7 => (vp_in (x4 + (1 : Int32)) L ∧ (vp_in (x4 + (2 : Int32)) L ∧ (eX5_copy T (xs (x4 + (1 : Int32)).toNatClampNeg) (xs (x4 + (2 : Int32)).toNatClampNeg) (fun T8 r8 => (eX5_thrown T8  (fun T9 r9 => (if r9 = r7 then (if r7 = (0 : Int32) then (vp_in (0 : Int32) 1 ∧ (if (lg_cmp (S7 12 (0 : Int32).toNatClampNeg).toInt64 r8.toInt64) = (0 : Int32) then R (x4 + (4 : Int32)) S7 T9 else False)) else R (x4 + (4 : Int32)) S7 T9) else False)))))))))))
def jL_law_332 (xs : Nat → Int32) (L : Nat) (R : Int32 → ty_S → ty_S → Prop) (x4 : Int32) (S T : ty_S) : Prop :=
  (vp_in (x4 + (1 : Int32)) L ∧ (eL_drop S (xs (x4 + (1 : Int32)).toNatClampNeg) (fun S10 r10 => (vp_in (x4 + (1 : Int32)) L ∧ (eX5_drop T (xs (x4 + (1 : Int32)).toNatClampNeg) (fun T11 r11 => (eX5_thrown T11  (fun T12 r12 => (if r12 = r10 then (if r10 = (0 : Int32) then (vp_in (0 : Int32) 1 ∧ (if (lg_cmp (S10 12 (0 : Int32).toNatClampNeg).toInt64 r11.toInt64) = (0 : Int32) then R (x4 + (4 : Int32)) S10 T12 else False)) else R (x4 + (4 : Int32)) S10 T12) else False)))))))))
def jL_law_388 (xs : Nat → Int32) (L : Nat) (R : Int32 → ty_S → ty_S → Prop) (x4 : Int32) (S T : ty_S) : Prop :=
  (vp_in (x4 + (1 : Int32)) L ∧ (vp_in (x4 + (2 : Int32)) L ∧ (vp_in (x4 + (3 : Int32)) L ∧ (eL_set S (xs (x4 + (1 : Int32)).toNatClampNeg) (xs (x4 + (2 : Int32)).toNatClampNeg) (xs (x4 + (3 : Int32)).toNatClampNeg) (fun S13 r13 => (vp_in (x4 + (1 : Int32)) L ∧ (vp_in (x4 + (2 : Int32)) L ∧ (vp_in (x4 + (3 : Int32)) L ∧ (eX5_set T (xs (x4 + (1 : Int32)).toNatClampNeg) (xs (x4 + (2 : Int32)).toNatClampNeg) (xs (x4 + (3 : Int32)).toNatClampNeg) (fun T14 r14 => (eX5_thrown T14  (fun T15 r15 => (if r15 = r13 then (if r13 = (0 : Int32) then (vp_in (0 : Int32) 1 ∧ (if (lg_cmp (S13 12 (0 : Int32).toNatClampNeg).toInt64 r14.toInt64) = (0 : Int32) then R (x4 + (4 : Int32)) S13 T15 else False)) else R (x4 + (4 : Int32)) S13 T15) else False)))))))))))))
def jL_law_468 (xs : Nat → Int32) (L : Nat) (R : Int32 → ty_S → ty_S → Prop) (x4 : Int32) (S T : ty_S) : Prop :=
  (vp_in (x4 + (1 : Int32)) L ∧ (vp_in (x4 + (2 : Int32)) L ∧ (vp_in (x4 + (3 : Int32)) L ∧ (eL_get S (xs (x4 + (1 : Int32)).toNatClampNeg) (xs (x4 + (2 : Int32)).toNatClampNeg) (xs (x4 + (3 : Int32)).toNatClampNeg) (fun S16 r16 => (vp_in (x4 + (1 : Int32)) L ∧ (vp_in (x4 + (2 : Int32)) L ∧ (vp_in (x4 + (3 : Int32)) L ∧ (eX5_get T (xs (x4 + (1 : Int32)).toNatClampNeg) (xs (x4 + (2 : Int32)).toNatClampNeg) (xs (x4 + (3 : Int32)).toNatClampNeg) (fun T17 r17 => (eX5_thrown T17  (fun T18 r18 => (if r18 = r16 then (if r16 = (0 : Int32) then (vp_in (0 : Int32) 1 ∧ (if (lg_cmp (S16 12 (0 : Int32).toNatClampNeg).toInt64 r17.toInt64) = (0 : Int32) then R (x4 + (4 : Int32)) S16 T18 else False)) else R (x4 + (4 : Int32)) S16 T18) else False)))))))))))))
def jL_law_548 (xs : Nat → Int32) (L : Nat) (R : Int32 → ty_S → ty_S → Prop) (x4 : Int32) (S T : ty_S) : Prop :=
  (vp_in (x4 + (1 : Int32)) L ∧ (vp_in (x4 + (2 : Int32)) L ∧ (vp_in (x4 + (3 : Int32)) L ∧ (eL_put S (xs (x4 + (1 : Int32)).toNatClampNeg) (xs (x4 + (2 : Int32)).toNatClampNeg) (xs (x4 + (3 : Int32)).toNatClampNeg) (fun S19 r19 => (vp_in (x4 + (1 : Int32)) L ∧ (vp_in (x4 + (2 : Int32)) L ∧ (vp_in (x4 + (3 : Int32)) L ∧ (eX5_put T (xs (x4 + (1 : Int32)).toNatClampNeg) (xs (x4 + (2 : Int32)).toNatClampNeg) (xs (x4 + (3 : Int32)).toNatClampNeg) (fun T20 r20 => (eX5_thrown T20  (fun T21 r21 => (if r21 = r19 then (if r19 = (0 : Int32) then (vp_in (0 : Int32) 1 ∧ (if (lg_cmp (S19 12 (0 : Int32).toNatClampNeg).toInt64 r20.toInt64) = (0 : Int32) then R (x4 + (4 : Int32)) S19 T21 else False)) else R (x4 + (4 : Int32)) S19 T21) else False)))))))))))))
def jL_law_628 (xs : Nat → Int32) (L : Nat) (R : Int32 → ty_S → ty_S → Prop) (x4 : Int32) (S T : ty_S) : Prop :=
  (vp_in (x4 + (1 : Int32)) L ∧ (vp_in (x4 + (2 : Int32)) L ∧ (eL_number S (xs (x4 + (1 : Int32)).toNatClampNeg) (xs (x4 + (2 : Int32)).toNatClampNeg) (fun S22 r22 => (vp_in (x4 + (1 : Int32)) L ∧ (vp_in (x4 + (2 : Int32)) L ∧ (eX5_number T (xs (x4 + (1 : Int32)).toNatClampNeg) (xs (x4 + (2 : Int32)).toNatClampNeg) (fun T23 r23 => (eX5_thrown T23  (fun T24 r24 => (if r24 = r22 then (if r22 = (0 : Int32) then (vp_in (0 : Int32) 1 ∧ (if (lg_cmp (S22 12 (0 : Int32).toNatClampNeg).toInt64 r23.toInt64) = (0 : Int32) then R (x4 + (4 : Int32)) S22 T24 else False)) else R (x4 + (4 : Int32)) S22 T24) else False)))))))))))
def jL_law_696 (xs : Nat → Int32) (L : Nat) (R : Int32 → ty_S → ty_S → Prop) (x4 : Int32) (S T : ty_S) : Prop :=
  (eX4_step S  (fun S25 r25 => (eX5_step T  (fun T26 r26 => (if r25 = r26 then R (x4 + (4 : Int32)) S25 T26 else False)))))
def jL_law_709 (xs : Nat → Int32) (L : Nat) (R : Int32 → ty_S → ty_S → Prop) (x4 : Int32) (S T : ty_S) : Prop :=
  (vp_in (x4 + (1 : Int32)) L ∧ (eL_collect S (xs (x4 + (1 : Int32)).toNatClampNeg) (fun S27 r27 => (vp_in (x4 + (1 : Int32)) L ∧ (eX5_collect T (xs (x4 + (1 : Int32)).toNatClampNeg) (fun T28 r28 => (eX5_thrown T28  (fun T29 r29 => (if r29 = r27 then (if r27 = (0 : Int32) then (vp_in (0 : Int32) 1 ∧ (if (lg_cmp (S27 12 (0 : Int32).toNatClampNeg).toInt64 r28.toInt64) = (0 : Int32) then R (x4 + (4 : Int32)) S27 T29 else False)) else R (x4 + (4 : Int32)) S27 T29) else False)))))))))
def jL_law_765 (xs : Nat → Int32) (L : Nat) (R : Int32 → ty_S → ty_S → Prop) (x4 : Int32) (S T : ty_S) : Prop :=
  (vp_in (x4 + (1 : Int32)) L ∧ (vp_in (x4 + (2 : Int32)) L ∧ (eL_thing S (xs (x4 + (1 : Int32)).toNatClampNeg) (xs (x4 + (2 : Int32)).toNatClampNeg) (fun S30 r30 => (vp_in (x4 + (1 : Int32)) L ∧ (vp_in (x4 + (2 : Int32)) L ∧ (eX5_thing T (xs (x4 + (1 : Int32)).toNatClampNeg) (xs (x4 + (2 : Int32)).toNatClampNeg) (fun T31 r31 => (eX5_thrown T31  (fun T32 r32 => (if r32 = r30 then (if r30 = (0 : Int32) then (vp_in (0 : Int32) 1 ∧ (if (lg_cmp (S30 12 (0 : Int32).toNatClampNeg).toInt64 r31.toInt64) = (0 : Int32) then R (x4 + (4 : Int32)) S30 T32 else False)) else R (x4 + (4 : Int32)) S30 T32) else False)))))))))))
def jL_law_833 (xs : Nat → Int32) (L : Nat) (R : Int32 → ty_S → ty_S → Prop) (x4 : Int32) (S T : ty_S) : Prop :=
  (vp_in (x4 + (1 : Int32)) L ∧ (vp_in (x4 + (2 : Int32)) L ∧ (eL_label S (xs (x4 + (1 : Int32)).toNatClampNeg) (xs (x4 + (2 : Int32)).toNatClampNeg) (fun S33 r33 => (vp_in (x4 + (1 : Int32)) L ∧ (vp_in (x4 + (2 : Int32)) L ∧ (eX5_label T (xs (x4 + (1 : Int32)).toNatClampNeg) (xs (x4 + (2 : Int32)).toNatClampNeg) (fun T34 r34 => (eX5_thrown T34  (fun T35 r35 => (if r35 = r33 then (if r33 = (0 : Int32) then (vp_in (0 : Int32) 1 ∧ (if (lg_cmp (S33 12 (0 : Int32).toNatClampNeg).toInt64 r34.toInt64) = (0 : Int32) then R (x4 + (4 : Int32)) S33 T35 else False)) else R (x4 + (4 : Int32)) S33 T35) else False)))))))))))
def jL_law_901 (xs : Nat → Int32) (L : Nat) (R : Int32 → ty_S → ty_S → Prop) (x4 : Int32) (S T : ty_S) : Prop :=
  (vp_in (x4 + (1 : Int32)) L ∧ (vp_in (x4 + (2 : Int32)) L ∧ (eL_train S (xs (x4 + (1 : Int32)).toNatClampNeg) (xs (x4 + (2 : Int32)).toNatClampNeg) (fun S36 r36 => (vp_in (x4 + (1 : Int32)) L ∧ (vp_in (x4 + (2 : Int32)) L ∧ (eX5_train T (xs (x4 + (1 : Int32)).toNatClampNeg) (xs (x4 + (2 : Int32)).toNatClampNeg) (fun T37 r37 => (eX5_thrown T37  (fun T38 r38 => (if r38 = r36 then (if r36 = (0 : Int32) then (vp_in (0 : Int32) 1 ∧ (if (lg_cmp (S36 12 (0 : Int32).toNatClampNeg).toInt64 r37.toInt64) = (0 : Int32) then R (x4 + (4 : Int32)) S36 T38 else False)) else R (x4 + (4 : Int32)) S36 T38) else False)))))))))))
def jL_law_969 (xs : Nat → Int32) (L : Nat) (R : Int32 → ty_S → ty_S → Prop) (x4 : Int32) (S T : ty_S) : Prop :=
  (vp_in (x4 + (1 : Int32)) L ∧ (vp_in (x4 + (2 : Int32)) L ∧ (eL_car S (xs (x4 + (1 : Int32)).toNatClampNeg) (xs (x4 + (2 : Int32)).toNatClampNeg) (fun S39 r39 => (vp_in (x4 + (1 : Int32)) L ∧ (vp_in (x4 + (2 : Int32)) L ∧ (eX5_car T (xs (x4 + (1 : Int32)).toNatClampNeg) (xs (x4 + (2 : Int32)).toNatClampNeg) (fun T40 r40 => (eX5_thrown T40  (fun T41 r41 => (if r41 = r39 then (if r39 = (0 : Int32) then (vp_in (0 : Int32) 1 ∧ (if (lg_cmp (S39 12 (0 : Int32).toNatClampNeg).toInt64 r40.toInt64) = (0 : Int32) then R (x4 + (4 : Int32)) S39 T41 else False)) else R (x4 + (4 : Int32)) S39 T41) else False)))))))))))
def jL_law_1037 (xs : Nat → Int32) (L : Nat) (R : Int32 → ty_S → ty_S → Prop) (x4 : Int32) (S T : ty_S) : Prop :=
  (vp_in (x4 + (1 : Int32)) L ∧ (vp_in (x4 + (2 : Int32)) L ∧ (eL_about S (xs (x4 + (1 : Int32)).toNatClampNeg) (xs (x4 + (2 : Int32)).toNatClampNeg) (fun S42 r42 => (vp_in (x4 + (1 : Int32)) L ∧ (vp_in (x4 + (2 : Int32)) L ∧ (eX5_about T (xs (x4 + (1 : Int32)).toNatClampNeg) (xs (x4 + (2 : Int32)).toNatClampNeg) (fun T43 r43 => (eX5_thrown T43  (fun T44 r44 => (if r44 = r42 then (if r42 = (0 : Int32) then (vp_in (0 : Int32) 1 ∧ (if (lg_cmp (S42 12 (0 : Int32).toNatClampNeg).toInt64 r43.toInt64) = (0 : Int32) then R (x4 + (4 : Int32)) S42 T44 else False)) else R (x4 + (4 : Int32)) S42 T44) else False)))))))))))
def jL_law_1105 (xs : Nat → Int32) (L : Nat) (R : Int32 → ty_S → ty_S → Prop) (x4 : Int32) (S T : ty_S) : Prop :=
  (vp_in (x4 + (1 : Int32)) L ∧ (vp_in (x4 + (2 : Int32)) L ∧ (eL_remembered S (xs (x4 + (1 : Int32)).toNatClampNeg) (xs (x4 + (2 : Int32)).toNatClampNeg) (fun S45 r45 => (vp_in (x4 + (1 : Int32)) L ∧ (vp_in (x4 + (2 : Int32)) L ∧ (eX5_remembered T (xs (x4 + (1 : Int32)).toNatClampNeg) (xs (x4 + (2 : Int32)).toNatClampNeg) (fun T46 r46 => (eX5_thrown T46  (fun T47 r47 => (if r47 = r45 then (if r45 = (0 : Int32) then (vp_in (0 : Int32) 1 ∧ (if (lg_cmp (S45 12 (0 : Int32).toNatClampNeg).toInt64 r46.toInt64) = (0 : Int32) then R (x4 + (4 : Int32)) S45 T47 else False)) else R (x4 + (4 : Int32)) S45 T47) else False)))))))))))
def jL_law_1173 (xs : Nat → Int32) (L : Nat) (R : Int32 → ty_S → ty_S → Prop) (x4 : Int32) (S T : ty_S) : Prop :=
  (vp_in (x4 + (1 : Int32)) L ∧ (eL_word S (xs (x4 + (1 : Int32)).toNatClampNeg) (fun S48 r48 => (vp_in (x4 + (1 : Int32)) L ∧ (eX5_word T (xs (x4 + (1 : Int32)).toNatClampNeg) (fun T49 r49 => (eX5_thrown T49  (fun T50 r50 => (if r50 = r48 then (if r48 = (0 : Int32) then (vp_in (0 : Int32) 1 ∧ (if (lg_cmp (S48 12 (0 : Int32).toNatClampNeg).toInt64 r49.toInt64) = (0 : Int32) then R (x4 + (4 : Int32)) S48 T50 else False)) else R (x4 + (4 : Int32)) S48 T50) else False)))))))))
def jL_law_1229 (xs : Nat → Int32) (L : Nat) (R : Int32 → ty_S → ty_S → Prop) (x4 : Int32) (S T : ty_S) : Prop :=
  (eX4_reached S  (fun S51 r51 => (eX5_reached T  (fun T52 r52 => (if r51 = r52 then R (x4 + (4 : Int32)) S51 T52 else False)))))
def jL_law_1242 (xs : Nat → Int32) (L : Nat) (R : Int32 → ty_S → ty_S → Prop) (x4 : Int32) (S T : ty_S) : Prop :=
  (vp_in (x4 + (1 : Int32)) L ∧ (eL_told S (xs (x4 + (1 : Int32)).toNatClampNeg) (fun S53 r53 => (vp_in (x4 + (1 : Int32)) L ∧ (eX5_told T (xs (x4 + (1 : Int32)).toNatClampNeg) (fun T54 r54 => (eX5_thrown T54  (fun T55 r55 => (if r55 = r53 then (if r53 = (0 : Int32) then (vp_in (0 : Int32) 1 ∧ (if (lg_cmp (S53 12 (0 : Int32).toNatClampNeg).toInt64 r54.toInt64) = (0 : Int32) then R (x4 + (4 : Int32)) S53 T55 else False)) else R (x4 + (4 : Int32)) S53 T55) else False)))))))))
def jL_law_23 (xs : Nat → Int32) (L : Nat) (R : Int32 → ty_S → ty_S → Prop) (x4 : Int32) (S T : ty_S) : Prop :=
  (if ((Int32.ofNat L) - (4 : Int32)) < x4 then True else (vp_in x4 L ∧ (if ((xs x4.toNatClampNeg) &&& (31 : Int32)) = (0 : Int32) then jL_law_128 xs L R x4 S T else (if ((xs x4.toNatClampNeg) &&& (31 : Int32)) = (1 : Int32) then jL_law_184 xs L R x4 S T else (if ((xs x4.toNatClampNeg) &&& (31 : Int32)) = (2 : Int32) then jL_law_264 xs L R x4 S T else (if ((xs x4.toNatClampNeg) &&& (31 : Int32)) = (3 : Int32) then jL_law_332 xs L R x4 S T else (if ((xs x4.toNatClampNeg) &&& (31 : Int32)) = (4 : Int32) then jL_law_388 xs L R x4 S T else (if ((xs x4.toNatClampNeg) &&& (31 : Int32)) = (5 : Int32) then jL_law_468 xs L R x4 S T else (if ((xs x4.toNatClampNeg) &&& (31 : Int32)) = (6 : Int32) then jL_law_548 xs L R x4 S T else (if ((xs x4.toNatClampNeg) &&& (31 : Int32)) = (7 : Int32) then jL_law_628 xs L R x4 S T else (if ((xs x4.toNatClampNeg) &&& (31 : Int32)) = (8 : Int32) then jL_law_696 xs L R x4 S T else (if ((xs x4.toNatClampNeg) &&& (31 : Int32)) = (9 : Int32) then jL_law_709 xs L R x4 S T else (if ((xs x4.toNatClampNeg) &&& (31 : Int32)) = (10 : Int32) then jL_law_765 xs L R x4 S T else (if ((xs x4.toNatClampNeg) &&& (31 : Int32)) = (11 : Int32) then jL_law_833 xs L R x4 S T else (if ((xs x4.toNatClampNeg) &&& (31 : Int32)) = (12 : Int32) then jL_law_901 xs L R x4 S T else (if ((xs x4.toNatClampNeg) &&& (31 : Int32)) = (13 : Int32) then jL_law_969 xs L R x4 S T else (if ((xs x4.toNatClampNeg) &&& (31 : Int32)) = (14 : Int32) then jL_law_1037 xs L R x4 S T else (if ((xs x4.toNatClampNeg) &&& (31 : Int32)) = (15 : Int32) then jL_law_1105 xs L R x4 S T else (if ((xs x4.toNatClampNeg) &&& (31 : Int32)) = (16 : Int32) then jL_law_1173 xs L R x4 S T else (if ((xs x4.toNatClampNeg) &&& (31 : Int32)) = (17 : Int32) then jL_law_1229 xs L R x4 S T else (if ((xs x4.toNatClampNeg) &&& (31 : Int32)) = (18 : Int32) then jL_law_1242 xs L R x4 S T else R (x4 + (4 : Int32)) S T)))))))))))))))))))))
def lL_law (xs : Nat → Int32) (L : Nat) : Nat → Int32 → ty_S → ty_S → Prop
  | 0, _, _, _ => False
  | n + 1, x4, S, T => jL_law_23 xs L (fun a S9 T9 => lL_law xs L n a S9 T9) x4 S T
