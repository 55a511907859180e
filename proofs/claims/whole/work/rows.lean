section
abbrev ty_S : Type := Nat → Nat → Int32
def ty_st (S : ty_S) (f i : Nat) (v : Int32) : ty_S := fun g => if g = f then upd (S f) i v else S g
def ty_fill (S : ty_S) (f n : Nat) (v : Int32) : ty_S := fun g => if g = f then (fun j => if j < n then v else S f j) else S g
def eX4_isAmount (S : ty_S) (x0 : Int32) (K : ty_S → Int32 → Prop) : Prop :=
  (if x0 < (0 : Int32) then K S (0 : Int32) else (if (12 : Int32) < x0 then K S (0 : Int32) else K S (1 : Int32)))
def eX4_isPlace (S : ty_S) (x0 : Int32) (K : ty_S → Int32 → Prop) : Prop :=
  (if x0 < (0 : Int32) then K S (0 : Int32) else (if (1280 : Int32) ≤ x0 then K S (0 : Int32) else K S (1 : Int32)))
def eX4_carOf (S : ty_S) (x0 : Int32) (K : ty_S → Int32 → Prop) : Prop :=
  (eX4_isPlace S x0 (fun S1 r1 => (if r1 = (0 : Int32) then K S1 (-1 : Int32) else K S1 (x0 / (32 : Int32)))))
def eX4_isCar (S : ty_S) (x0 : Int32) (K : ty_S → Int32 → Prop) : Prop :=
  (if x0 < (0 : Int32) then K S (0 : Int32) else (if (40 : Int32) ≤ x0 then K S (0 : Int32) else K S (1 : Int32)))
def eX0_room (S : ty_S) (x1 : Int32) (K : ty_S → Int32 → Prop) : Prop :=
  (if x1 < (0 : Int32) then K S (0 : Int32) else (if (40 : Int32) ≤ x1 then K S (0 : Int32) else (vp_in x1 40 ∧ K S ((32 : Int32) - (S 2 x1.toNatClampNeg)))))
def lX0_nextReference_2 (K : ty_S → Int32 → Prop)  : Nat → Int32 → ty_S → Prop
  | 0, _, _ => False
  | n + 1, x2, S => (if x2 < (0 : Int32) then K S (1280 : Int32) else (if (1280 : Int32) ≤ x2 then K S (1280 : Int32) else (vp_in (x2 / (32 : Int32)) 40 ∧ (if (x2 - x2 / (32 : Int32) * (32 : Int32)) < (S 2 (x2 / (32 : Int32)).toNatClampNeg) then (vp_in x2 1280 ∧ (if (S 1 x2.toNatClampNeg) = (0 : Int32) then lX0_nextReference_2 K  n (x2 + (1 : Int32)) S else K S x2)) else lX0_nextReference_2 K  n (((x2 / (32 : Int32)) + (1 : Int32)) * (32 : Int32)) S))))
def eX0_nextReference (S : ty_S) (x1 : Int32) (K : ty_S → Int32 → Prop) : Prop :=
  ∃ n9, lX0_nextReference_2 K  n9 x1 S
def eX0_at (S : ty_S) (x1 : Int32) (K : ty_S → Int32 → Prop) : Prop :=
  (if x1 < (0 : Int32) then K S (0 : Int32) else (if (1280 : Int32) ≤ x1 then K S (0 : Int32) else (vp_in x1 1280 ∧ K S (S 0 x1.toNatClampNeg))))
def eX0_size (S : ty_S) (x1 : Int32) (K : ty_S → Int32 → Prop) : Prop :=
  (eX0_at S (x1 + (1 : Int32)) (fun S1 r1 => K S1 (((2 : Int32) + (r1 - r1 / (16 : Int32) * (16 : Int32))) + (r1 / (16 : Int32)))))
def eX0_labelOf (S : ty_S) (x1 : Int32) (K : ty_S → Int32 → Prop) : Prop :=
  (eX0_at S x1 (fun S1 r1 => K S1 r1))
def eX0_references (S : ty_S) (x1 : Int32) (K : ty_S → Int32 → Prop) : Prop :=
  (eX0_at S (x1 + (1 : Int32)) (fun S1 r1 => K S1 (r1 - r1 / (16 : Int32) * (16 : Int32))))
def eX0_numbers (S : ty_S) (x1 : Int32) (K : ty_S → Int32 → Prop) : Prop :=
  (eX0_at S (x1 + (1 : Int32)) (fun S1 r1 => K S1 (r1 / (16 : Int32))))
def eX0_write (S : ty_S) (x1 : Int32) (x2 : Int32) (K : ty_S → Prop) : Prop :=
  (if x1 < (0 : Int32) then K S else (if (1280 : Int32) ≤ x1 then K S else (vp_in x1 1280 ∧ K (ty_st S 0 x1.toNatClampNeg x2))))
def jX0_load_106 (K : ty_S → Int32 → Prop)  (x1 : Int32) (x5 : Int32) (x6 : Int32) (S : ty_S) : Prop :=
  (vp_in x1 40 ∧ (vp_in x1 40 ∧ (vp_in x1 40 ∧ (vp_in x1 40 ∧ (vp_in x1 40 ∧ K (ty_st (ty_st (ty_st S 2 x1.toNatClampNeg ((S 2 x1.toNatClampNeg) + x5)) 3 x1.toNatClampNeg ((S 3 x1.toNatClampNeg) + (1 : Int32))) 4 x1.toNatClampNeg x6) x6)))))
def lX0_load_69 (K : ty_S → Int32 → Prop)  : Nat → Int32 → Int32 → Int32 → Int32 → Int32 → ty_S → Prop
  | 0, _, _, _, _, _, _ => False
  | n + 1, x1, x5, x6, x7, x8, S => (if x7 ≤ x8 then jX0_load_106 K  x1 x5 x6 S else (if (1280 : Int32) ≤ x8 then jX0_load_106 K  x1 x5 x6 S else (vp_in x8 1280 ∧ (vp_in x8 1280 ∧ lX0_load_69 K  n x1 x5 x6 x7 (x8 + (1 : Int32)) (ty_st (ty_st S 0 x8.toNatClampNeg (-1 : Int32)) 1 x8.toNatClampNeg (1 : Int32))))))
def eX0_load (S : ty_S) (x1 : Int32) (x2 : Int32) (x3 : Int32) (x4 : Int32) (K : ty_S → Int32 → Prop) : Prop :=
  (eX0_room S x1 (fun S1 r1 => (if (((2 : Int32) + x3) + x4) ≤ r1 then (vp_in x1 40 ∧ (eX0_write S1 ((x1 * (32 : Int32)) + (S1 2 x1.toNatClampNeg)) x2 (fun S2 => (eX0_write S2 (((x1 * (32 : Int32)) + (S1 2 x1.toNatClampNeg)) + (1 : Int32)) (x3 + ((16 : Int32) * x4)) (fun S3 => ∃ n9, lX0_load_69 K  n9 x1 (((2 : Int32) + x3) + x4) ((x1 * (32 : Int32)) + (S1 2 x1.toNatClampNeg)) ((((x1 * (32 : Int32)) + (S1 2 x1.toNatClampNeg)) + (2 : Int32)) + x3) (((x1 * (32 : Int32)) + (S1 2 x1.toNatClampNeg)) + (2 : Int32)) S3))))) else K S1 (-1 : Int32))))
def lX0_bring_38 (K : ty_S → Int32 → Prop)  : Nat → Int32 → Int32 → Int32 → Int32 → ty_S → Prop
  | 0, _, _, _, _, _ => False
  | n + 1, x1, x3, x4, x5, S => (if x4 ≤ x5 then K S x3 else (eX0_at S (x1 + x5) (fun S6 r6 => (eX0_write S6 (x3 + x5) r6 (fun S7 => lX0_bring_38 K  n x1 x3 x4 (x5 + (1 : Int32)) S7)))))
def eX0_bring (S : ty_S) (x1 : Int32) (x2 : Int32) (K : ty_S → Int32 → Prop) : Prop :=
  (eX0_labelOf S x1 (fun S1 r1 => (eX0_references S1 x1 (fun S2 r2 => (eX0_numbers S2 x1 (fun S3 r3 => (eX0_load S3 x2 r1 r2 r3 (fun S4 r4 => (if r4 = (-1 : Int32) then K S4 (-1 : Int32) else (eX0_size S4 x1 (fun S5 r5 => ∃ n9, lX0_bring_38 K  n9 x1 r4 r5 (2 : Int32) S5)))))))))))
def eX0_things (S : ty_S) (x1 : Int32) (K : ty_S → Int32 → Prop) : Prop :=
  (eX4_isCar S x1 (fun S1 r1 => (if r1 = (0 : Int32) then K S1 (0 : Int32) else (vp_in x1 40 ∧ K S1 (S1 3 x1.toNatClampNeg)))))
def jX0_clear_50 (K : ty_S → Prop)  (x1 : Int32) (S : ty_S) : Prop :=
  (vp_in x1 40 ∧ (vp_in x1 40 ∧ K (ty_st (ty_st S 2 x1.toNatClampNeg (0 : Int32)) 3 x1.toNatClampNeg (0 : Int32))))
def lX0_clear_15 (K : ty_S → Prop)  : Nat → Int32 → Int32 → Int32 → ty_S → Prop
  | 0, _, _, _, _ => False
  | n + 1, x1, x2, x3, S => (if (x2 + (32 : Int32)) ≤ x3 then jX0_clear_50 K  x1 S else (if (1280 : Int32) ≤ x3 then jX0_clear_50 K  x1 S else (vp_in x3 1280 ∧ (vp_in x3 1280 ∧ lX0_clear_15 K  n x1 x2 (x3 + (1 : Int32)) (ty_st (ty_st S 0 x3.toNatClampNeg (0 : Int32)) 1 x3.toNatClampNeg (0 : Int32))))))
def eX0_clear (S : ty_S) (x1 : Int32) (K : ty_S → Prop) : Prop :=
  (eX4_isCar S x1 (fun S1 r1 => (if r1 = (0 : Int32) then K S1 else ∃ n9, lX0_clear_15 K  n9 x1 (x1 * (32 : Int32)) (x1 * (32 : Int32)) S1)))
def eX0_lastLabel (S : ty_S) (x1 : Int32) (K : ty_S → Int32 → Prop) : Prop :=
  (eX0_things S x1 (fun S1 r1 => (if r1 = (0 : Int32) then K S1 (0 : Int32) else (vp_in x1 40 ∧ (eX0_labelOf S1 (S1 4 x1.toNatClampNeg) (fun S2 r2 => K S2 r2))))))
def eX1_carAt (S : ty_S) (x1 : Int32) (K : ty_S → Int32 → Prop) : Prop :=
  (if x1 < (0 : Int32) then K S (-1 : Int32) else (if (S 13 0) ≤ x1 then K S (-1 : Int32) else (vp_in x1 40 ∧ K S (S 5 x1.toNatClampNeg))))
def eX1_countFree (S : ty_S)  (K : ty_S → Int32 → Prop) : Prop :=
  K S ((40 : Int32) - (S 13 0))
def eX1_trainOf (S : ty_S) (x1 : Int32) (K : ty_S → Int32 → Prop) : Prop :=
  (if x1 < (0 : Int32) then K S (0 : Int32) else (if (40 : Int32) ≤ x1 then K S (0 : Int32) else (vp_in x1 40 ∧ K S (S 6 x1.toNatClampNeg))))
def eX1_firstTrain (S : ty_S)  (K : ty_S → Int32 → Prop) : Prop :=
  (eX1_carAt S (0 : Int32) (fun S1 r1 => (eX1_trainOf S1 r1 (fun S2 r2 => K S2 r2))))
def eX1_lastTrain (S : ty_S)  (K : ty_S → Int32 → Prop) : Prop :=
  (eX1_carAt S ((S 13 0) - (1 : Int32)) (fun S1 r1 => (eX1_trainOf S1 r1 (fun S2 r2 => K S2 r2))))
def lX1_leastFree_2 (K : ty_S → Int32 → Prop)  : Nat → Int32 → ty_S → Prop
  | 0, _, _ => False
  | n + 1, x1, S => (if (40 : Int32) ≤ x1 then K S (-1 : Int32) else (vp_in x1 40 ∧ (if (S 6 x1.toNatClampNeg) = (0 : Int32) then K S x1 else lX1_leastFree_2 K  n (x1 + (1 : Int32)) S)))
def eX1_leastFree (S : ty_S)  (K : ty_S → Int32 → Prop) : Prop :=
  ∃ n9, lX1_leastFree_2 K  n9 (0 : Int32) S
def jX1_addCar_66 (K : ty_S → Int32 → Prop)  (x1 : Int32) (x2 : Int32) (x3 : Int32) (S : ty_S) : Prop :=
  (vp_in x3 40 ∧ (vp_in x2 40 ∧ K (ty_st (ty_st (ty_st S 5 x3.toNatClampNeg x2) 6 x2.toNatClampNeg x1) 13 0 ((S 13 0) + (1 : Int32))) x2))
def lX1_addCar_26 (K : ty_S → Int32 → Prop)  : Nat → Int32 → Int32 → Int32 → ty_S → Prop
  | 0, _, _, _, _ => False
  | n + 1, x1, x2, x3, S => (if x3 ≤ (0 : Int32) then jX1_addCar_66 K  x1 x2 x3 S else (vp_in (x3 - (1 : Int32)) 40 ∧ (eX1_trainOf S (S 5 (x3 - (1 : Int32)).toNatClampNeg) (fun S2 r2 => (if r2 ≤ x1 then jX1_addCar_66 K  x1 x2 x3 S2 else (vp_in (x3 - (1 : Int32)) 40 ∧ (vp_in x3 40 ∧ lX1_addCar_26 K  n x1 x2 (x3 + (-1 : Int32)) (ty_st S2 5 x3.toNatClampNeg (S2 5 (x3 - (1 : Int32)).toNatClampNeg)))))))))
def eX1_addCar (S : ty_S) (x1 : Int32) (K : ty_S → Int32 → Prop) : Prop :=
  (eX1_leastFree S  (fun S1 r1 => (if r1 = (-1 : Int32) then K S1 (-1 : Int32) else (if (S1 13 0) < (40 : Int32) then ∃ n9, lX1_addCar_26 K  n9 x1 r1 (S1 13 0) S1 else K S1 (-1 : Int32)))))
def eX1_addTrain (S : ty_S)  (K : ty_S → Int32 → Prop) : Prop :=
  (eX1_countFree S  (fun S1 r1 => (if r1 = (0 : Int32) then K S1 (-1 : Int32) else (eX1_addCar (ty_st S1 14 0 ((S1 14 0) + (1 : Int32))) ((S1 14 0) + (1 : Int32)) (fun S2 r2 => K S2 r2)))))
def lX1_lastCarOf_7 (K : ty_S → Int32 → Prop)  : Nat → Int32 → Int32 → ty_S → Prop
  | 0, _, _, _ => False
  | n + 1, x1, x2, S => (if x2 < (0 : Int32) then K S (-1 : Int32) else (vp_in x2 40 ∧ (eX1_trainOf S (S 5 x2.toNatClampNeg) (fun S1 r1 => (if r1 = x1 then (vp_in x2 40 ∧ K S1 (S1 5 x2.toNatClampNeg)) else lX1_lastCarOf_7 K  n x1 (x2 + (-1 : Int32)) S1)))))
def eX1_lastCarOf (S : ty_S) (x1 : Int32) (K : ty_S → Int32 → Prop) : Prop :=
  ∃ n9, lX1_lastCarOf_7 K  n9 x1 ((S 13 0) - (1 : Int32)) S
def lX1_removeFirstCar_23 (K : ty_S → Prop)  : Nat → Int32 → ty_S → Prop
  | 0, _, _ => False
  | n + 1, x2, S => (if (S 13 0) ≤ x2 then K (ty_st S 13 0 ((S 13 0) - (1 : Int32))) else (vp_in x2 40 ∧ (vp_in (x2 - (1 : Int32)) 40 ∧ lX1_removeFirstCar_23 K  n (x2 + (1 : Int32)) (ty_st S 5 (x2 - (1 : Int32)).toNatClampNeg (S 5 x2.toNatClampNeg)))))
def eX1_removeFirstCar (S : ty_S)  (K : ty_S → Prop) : Prop :=
  (eX1_carAt S (0 : Int32) (fun S1 r1 => (eX4_isCar S1 r1 (fun S2 r2 => (if r2 = (0 : Int32) then K S2 else (vp_in r1 40 ∧ ∃ n9, lX1_removeFirstCar_23 K  n9 (1 : Int32) (ty_st S2 6 r1.toNatClampNeg (0 : Int32))))))))
def lX1_carsOf_4 (K : ty_S → Int32 → Prop)  : Nat → Int32 → Int32 → Int32 → ty_S → Prop
  | 0, _, _, _, _ => False
  | n + 1, x1, x2, x3, S => (if (S 13 0) ≤ x3 then K S x2 else (vp_in x3 40 ∧ (eX1_trainOf S (S 5 x3.toNatClampNeg) (fun S1 r1 => (if r1 = x1 then lX1_carsOf_4 K  n x1 (x2 + (1 : Int32)) (x3 + (1 : Int32)) S1 else lX1_carsOf_4 K  n x1 x2 (x3 + (1 : Int32)) S1)))))
def eX1_carsOf (S : ty_S) (x1 : Int32) (K : ty_S → Int32 → Prop) : Prop :=
  ∃ n9, lX1_carsOf_4 K  n9 x1 (0 : Int32) (0 : Int32) S
def lX1_startOf_4 (K : ty_S → Int32 → Prop)  : Nat → Int32 → Int32 → Int32 → ty_S → Prop
  | 0, _, _, _, _ => False
  | n + 1, x1, x2, x3, S => (if (S 13 0) ≤ x3 then K S (-1 : Int32) else (eX1_carAt S x3 (fun S1 r1 => (eX1_trainOf S1 r1 (fun S2 r2 => (eX1_carAt S2 (x3 - (1 : Int32)) (fun S3 r3 => (eX1_trainOf S3 r3 (fun S4 r4 => (if r2 = r4 then lX1_startOf_4 K  n x1 x2 (x3 + (1 : Int32)) S4 else (if x2 = x1 then K S4 x3 else lX1_startOf_4 K  n x1 (x2 + (1 : Int32)) (x3 + (1 : Int32)) S4)))))))))))
def eX1_startOf (S : ty_S) (x1 : Int32) (K : ty_S → Int32 → Prop) : Prop :=
  ∃ n9, lX1_startOf_4 K  n9 x1 (0 : Int32) (0 : Int32) S
def lX1_indexOf_2 (K : ty_S → Int32 → Prop)  : Nat → Int32 → Int32 → ty_S → Prop
  | 0, _, _, _ => False
  | n + 1, x1, x2, S => (if (S 13 0) ≤ x2 then K S (-1 : Int32) else (vp_in x2 40 ∧ (if (S 5 x2.toNatClampNeg) = x1 then K S x2 else lX1_indexOf_2 K  n x1 (x2 + (1 : Int32)) S)))
def eX1_indexOf (S : ty_S) (x1 : Int32) (K : ty_S → Int32 → Prop) : Prop :=
  ∃ n9, lX1_indexOf_2 K  n9 x1 (0 : Int32) S
def lX1_countTrains_4 (K : ty_S → Int32 → Prop)  : Nat → Int32 → Int32 → ty_S → Prop
  | 0, _, _, _ => False
  | n + 1, x1, x2, S => (if (S 13 0) ≤ x2 then K S x1 else (eX1_carAt S x2 (fun S1 r1 => (eX1_trainOf S1 r1 (fun S2 r2 => (eX1_carAt S2 (x2 - (1 : Int32)) (fun S3 r3 => (eX1_trainOf S3 r3 (fun S4 r4 => (if r2 = r4 then lX1_countTrains_4 K  n x1 (x2 + (1 : Int32)) S4 else lX1_countTrains_4 K  n (x1 + (1 : Int32)) (x2 + (1 : Int32)) S4))))))))))
def eX1_countTrains (S : ty_S)  (K : ty_S → Int32 → Prop) : Prop :=
  ∃ n9, lX1_countTrains_4 K  n9 (0 : Int32) (0 : Int32) S
def eX2_visit (S : ty_S) (x1 : Int32) (K : ty_S → Prop) : Prop :=
  (eX4_isPlace S x1 (fun S1 r1 => (if r1 = (0 : Int32) then K S1 else (vp_in x1 1280 ∧ (if (S1 10 x1.toNatClampNeg) = (S1 26 0) then K S1 else (if (640 : Int32) ≤ (S1 25 0) then K S1 else (vp_in x1 1280 ∧ (vp_in (S1 25 0) 640 ∧ K (ty_st (ty_st (ty_st S1 10 x1.toNatClampNeg (S1 26 0)) 11 (S1 25 0).toNatClampNeg x1) 25 0 ((S1 25 0) + (1 : Int32)))))))))))
def lX2_countFrom_99 (K : ty_S → Int32 → Prop) (R51 : Int32 → ty_S → Prop) : Nat → Int32 → Int32 → Int32 → ty_S → Prop
  | 0, _, _, _, _ => False
  | n + 1, x3, x4, x5, S => (if x4 ≤ x5 then R51 (x3 + (1 : Int32)) S else (eX0_at S x5 (fun S2 r2 => (eX2_visit S2 r2 (fun S3 => lX2_countFrom_99 K R51 n x3 x4 (x5 + (1 : Int32)) S3)))))
def lX2_countFrom_51 (K : ty_S → Int32 → Prop)  : Nat → Int32 → ty_S → Prop
  | 0, _, _ => False
  | n + 1, x3, S => (if (S 25 0) ≤ x3 then K S (S 25 0) else (if (640 : Int32) ≤ x3 then K S (S 25 0) else (vp_in x3 640 ∧ (vp_in x3 640 ∧ (eX0_references S (S 11 x3.toNatClampNeg) (fun S1 r1 => (vp_in x3 640 ∧ ∃ n9, lX2_countFrom_99 K (fun a0 S9 => lX2_countFrom_51 K  n a0 S9) n9 x3 (((S 11 x3.toNatClampNeg) + (2 : Int32)) + r1) ((S1 11 x3.toNatClampNeg) + (2 : Int32)) S1)))))))
def lX2_countFrom_24 (K : ty_S → Int32 → Prop)  : Nat → Int32 → Int32 → ty_S → Prop
  | 0, _, _, _ => False
  | n + 1, x4, x5, S => (if x4 ≤ x5 then ∃ n9, lX2_countFrom_51 K  n9 (0 : Int32) S else (vp_in x5 16 ∧ (eX2_visit S (S 7 x5.toNatClampNeg) (fun S4 => lX2_countFrom_24 K  n x4 (x5 + (1 : Int32)) S4))))
def eX2_countFrom (S : ty_S)  (K : ty_S → Int32 → Prop) : Prop :=
  ∃ n9, lX2_countFrom_24 K  n9 (16 : Int32) (0 : Int32) (ty_st (ty_st S 26 0 ((S 26 0) + (1 : Int32))) 25 0 (0 : Int32))
def eX3_lastHasRoom (S : ty_S) (x1 : Int32) (K : ty_S → Int32 → Prop) : Prop :=
  (eX1_carAt S ((S 13 0) - (1 : Int32)) (fun S1 r1 => (eX0_room S1 r1 (fun S2 r2 => (if r2 < x1 then K S2 (0 : Int32) else K S2 (1 : Int32))))))
def eX3_takesNew (S : ty_S) (x1 : Int32) (K : ty_S → Int32 → Prop) : Prop :=
  (eX3_lastHasRoom S x1 (fun S1 r1 => (if r1 = (0 : Int32) then (eX1_countFree S1  (fun S2 r2 => (if r2 < (2 : Int32) then K S2 (0 : Int32) else K S2 (1 : Int32)))) else K S1 (1 : Int32))))
def eX3_canStep (S : ty_S)  (K : ty_S → Int32 → Prop) : Prop :=
  (if (S 13 0) ≤ (0 : Int32) then K S (0 : Int32) else (eX1_countFree S  (fun S1 r1 => (if r1 ≤ (0 : Int32) then K S1 (0 : Int32) else K S1 (1 : Int32)))))
def jX3_isReferredTo_91 (K : ty_S → Int32 → Prop) (R45 : Int32 → Int32 → ty_S → Prop) (x1 : Int32) (x2 : Int32) (S : ty_S) : Prop :=
  (eX0_nextReference S (x2 + (1 : Int32)) (fun S5 r5 => R45 x1 r5 S5))
def lX3_isReferredTo_45 (K : ty_S → Int32 → Prop)  : Nat → Int32 → Int32 → ty_S → Prop
  | 0, _, _, _ => False
  | n + 1, x1, x2, S => (if (1280 : Int32) ≤ x2 then K S (0 : Int32) else (eX0_at S x2 (fun S2 r2 => (eX4_carOf S2 r2 (fun S3 r3 => (eX1_trainOf S3 r3 (fun S4 r4 => (if r4 = x1 then (eX4_carOf S4 x2 (fun S6 r6 => (eX1_trainOf S6 r6 (fun S7 r7 => (if r7 = x1 then jX3_isReferredTo_91 K (fun a0 a1 S9 => lX3_isReferredTo_45 K  n a0 a1 S9) x1 x2 S7 else K S7 (1 : Int32)))))) else jX3_isReferredTo_91 K (fun a0 a1 S9 => lX3_isReferredTo_45 K  n a0 a1 S9) x1 x2 S4))))))))
def lX3_isReferredTo_2 (K : ty_S → Int32 → Prop)  : Nat → Int32 → Int32 → ty_S → Prop
  | 0, _, _, _ => False
  | n + 1, x1, x2, S => (if (16 : Int32) ≤ x2 then (eX0_nextReference S (0 : Int32) (fun S1 r1 => ∃ n9, lX3_isReferredTo_45 K  n9 x1 r1 S1)) else (vp_in x2 16 ∧ (eX4_carOf S (S 7 x2.toNatClampNeg) (fun S8 r8 => (eX1_trainOf S8 r8 (fun S9 r9 => (if r9 = x1 then K S9 (1 : Int32) else lX3_isReferredTo_2 K  n x1 (x2 + (1 : Int32)) S9)))))))
def eX3_isReferredTo (S : ty_S) (x1 : Int32) (K : ty_S → Int32 → Prop) : Prop :=
  ∃ n9, lX3_isReferredTo_2 K  n9 x1 (0 : Int32) S
def eX3_startEmptying (S : ty_S)  (K : ty_S → Prop) : Prop :=
  (eX1_carAt S (0 : Int32) (fun S1 r1 => K (ty_st (ty_st (ty_fill (ty_st S1 20 0 r1) 8 32 (-1 : Int32)) 21 0 (0 : Int32)) 22 0 (0 : Int32))))
def eX3_isStillThere (S : ty_S) (x1 : Int32) (K : ty_S → Int32 → Prop) : Prop :=
  (if x1 < (0 : Int32) then K S (0 : Int32) else (eX4_carOf S x1 (fun S1 r1 => (if r1 = (S1 20 0) then (vp_in (x1 - x1 / (32 : Int32) * (32 : Int32)) 32 ∧ (if (S1 8 (x1 - x1 / (32 : Int32) * (32 : Int32)).toNatClampNeg) = (-1 : Int32) then K S1 (1 : Int32) else K S1 (0 : Int32))) else K S1 (0 : Int32)))))
def eX3_roomInStep (S : ty_S) (x1 : Int32) (K : ty_S → Int32 → Prop) : Prop :=
  (if x1 = (S 20 0) then K S (0 : Int32) else (eX0_room S x1 (fun S1 r1 => K S1 r1)))
def lX3_carInto_50 (K : ty_S → Int32 → Prop)  : Nat → Int32 → Int32 → ty_S → Prop
  | 0, _, _, _ => False
  | n + 1, x2, x4, S => (if x4 < (0 : Int32) then K S (-1 : Int32) else (eX1_carAt S x4 (fun S4 r4 => (eX3_roomInStep S4 r4 (fun S5 r5 => (if r5 < x2 then lX3_carInto_50 K  n x2 (x4 + (-1 : Int32)) S5 else (eX1_carAt S5 x4 (fun S6 r6 => K S6 r6))))))))
def eX3_carInto (S : ty_S) (x1 : Int32) (x2 : Int32) (K : ty_S → Int32 → Prop) : Prop :=
  (eX1_lastCarOf S x1 (fun S1 r1 => (eX3_roomInStep S1 r1 (fun S2 r2 => (if r2 < x2 then (eX1_countFree S2  (fun S3 r3 => (if r3 ≤ (0 : Int32) then ∃ n9, lX3_carInto_50 K  n9 x2 ((S3 13 0) - (1 : Int32)) S3 else (eX1_addCar S3 x1 (fun S7 r7 => K S7 r7))))) else K S2 r1)))))
def eX3_moveOne (S : ty_S) (x1 : Int32) (x2 : Int32) (K : ty_S → Prop) : Prop :=
  (eX3_isStillThere S x1 (fun S1 r1 => (if r1 = (0 : Int32) then K S1 else (if (S1 21 0) < (16 : Int32) then (eX0_size S1 x1 (fun S2 r2 => (eX3_carInto S2 x2 r2 (fun S3 r3 => (eX0_bring S3 x1 r3 (fun S4 r4 => (if r4 = (-1 : Int32) then K S4 else (vp_in (x1 - x1 / (32 : Int32) * (32 : Int32)) 32 ∧ (vp_in (S4 21 0) 16 ∧ K (ty_st (ty_st (ty_st (ty_st (ty_st S4 8 (x1 - x1 / (32 : Int32) * (32 : Int32)).toNatClampNeg r4) 9 (S4 21 0).toNatClampNeg r4) 21 0 ((S4 21 0) + (1 : Int32))) 18 0 ((S4 18 0) + (1 : Int32))) 19 0 ((S4 19 0) + r2))))))))))) else K S1))))
def lX3_moveWithOthers_58 (K : ty_S → Prop) (R6 : ty_S → Prop) : Nat → Int32 → Int32 → Int32 → ty_S → Prop
  | 0, _, _, _, _ => False
  | n + 1, x3, x4, x5, S => (if x4 ≤ x5 then R6  (ty_st S 22 0 ((S 22 0) + (1 : Int32))) else (eX0_at S x5 (fun S3 r3 => (eX4_carOf S3 x3 (fun S4 r4 => (eX1_trainOf S4 r4 (fun S5 r5 => (eX3_moveOne S5 r3 r5 (fun S6 => lX3_moveWithOthers_58 K R6 n x3 x4 (x5 + (1 : Int32)) S6)))))))))
def lX3_moveWithOthers_6 (K : ty_S → Prop)  : Nat → ty_S → Prop
  | 0, _ => False
  | n + 1, S => (if (S 21 0) ≤ (S 22 0) then K S else (if (16 : Int32) ≤ (S 22 0) then K S else (vp_in (S 22 0) 16 ∧ (eX0_references S (S 9 (S 22 0).toNatClampNeg) (fun S2 r2 => ∃ n9, lX3_moveWithOthers_58 K (fun  S9 => lX3_moveWithOthers_6 K  n  S9) n9 (S 9 (S 22 0).toNatClampNeg) (((S 9 (S 22 0).toNatClampNeg) + (2 : Int32)) + r2) ((S 9 (S 22 0).toNatClampNeg) + (2 : Int32)) S2)))))
def eX3_moveWithOthers (S : ty_S) (x1 : Int32) (x2 : Int32) (K : ty_S → Prop) : Prop :=
  (eX3_moveOne S x1 x2 (fun S1 => ∃ n9, lX3_moveWithOthers_6 K  n9  S1))
def jX3_moveHeld_40 (K : ty_S → Prop) (R2 : Int32 → Int32 → ty_S → Prop) (x1 : Int32) (x2 : Int32) (S : ty_S) : Prop :=
  (vp_in x2 16 ∧ (eX1_lastTrain S  (fun S3 r3 => (eX3_moveWithOthers S3 (S 7 x2.toNatClampNeg) r3 (fun S4 => R2 x1 (x2 + (1 : Int32)) S4)))))
def lX3_moveHeld_2 (K : ty_S → Prop)  : Nat → Int32 → Int32 → ty_S → Prop
  | 0, _, _, _ => False
  | n + 1, x1, x2, S => (if (16 : Int32) ≤ x2 then K S else (vp_in x2 16 ∧ (eX3_isStillThere S (S 7 x2.toNatClampNeg) (fun S1 r1 => (if r1 = (0 : Int32) then lX3_moveHeld_2 K  n x1 (x2 + (1 : Int32)) S1 else (eX1_lastTrain S1  (fun S2 r2 => (if r2 = x1 then (eX1_addTrain S2  (fun S5 r5 => jX3_moveHeld_40 K (fun a0 a1 S9 => lX3_moveHeld_2 K  n a0 a1 S9) x1 x2 S5)) else jX3_moveHeld_40 K (fun a0 a1 S9 => lX3_moveHeld_2 K  n a0 a1 S9) x1 x2 S2))))))))
def eX3_moveHeld (S : ty_S) (x1 : Int32) (K : ty_S → Prop) : Prop :=
  ∃ n9, lX3_moveHeld_2 K  n9 x1 (0 : Int32) S
def jX3_moveReferredTo_71 (K : ty_S → Prop) (R9 : Int32 → Int32 → Int32 → ty_S → Prop) (x1 : Int32) (x2 : Int32) (x3 : Int32) (S : ty_S) : Prop :=
  (eX0_nextReference S (x3 + (1 : Int32)) (fun S4 r4 => R9 x1 x2 r4 S4))
def jX3_moveReferredTo_53 (K : ty_S → Prop) (R9 : Int32 → Int32 → Int32 → ty_S → Prop) (x1 : Int32) (x2 : Int32) (x3 : Int32) (x5 : Int32) (t0 : Int32) (S : ty_S) : Prop :=
  (if t0 = x2 then (eX0_at S x3 (fun S5 r5 => (eX3_moveWithOthers S5 r5 x5 (fun S6 => jX3_moveReferredTo_71 K R9 x1 x2 x3 S6)))) else jX3_moveReferredTo_71 K R9 x1 x2 x3 S)
def lX3_moveReferredTo_9 (K : ty_S → Prop)  : Nat → Int32 → Int32 → Int32 → ty_S → Prop
  | 0, _, _, _, _ => False
  | n + 1, x1, x2, x3, S => (if (1280 : Int32) ≤ x3 then K S else (eX4_carOf S x3 (fun S2 r2 => (eX1_trainOf S2 r2 (fun S3 r3 => (if r2 = (S3 20 0) then jX3_moveReferredTo_71 K (fun a0 a1 a2 S9 => lX3_moveReferredTo_9 K  n a0 a1 a2 S9) x1 x2 x3 S3 else (if r3 = x1 then jX3_moveReferredTo_53 K (fun a0 a1 a2 S9 => lX3_moveReferredTo_9 K  n a0 a1 a2 S9) x1 x2 x3 r3 (1 : Int32) S3 else jX3_moveReferredTo_53 K (fun a0 a1 a2 S9 => lX3_moveReferredTo_9 K  n a0 a1 a2 S9) x1 x2 x3 r3 (0 : Int32) S3)))))))
def eX3_moveReferredTo (S : ty_S) (x1 : Int32) (x2 : Int32) (K : ty_S → Prop) : Prop :=
  (eX0_nextReference S (0 : Int32) (fun S1 r1 => ∃ n9, lX3_moveReferredTo_9 K  n9 x1 x2 r1 S1))
def eX3_placeNow (S : ty_S) (x1 : Int32) (K : ty_S → Int32 → Prop) : Prop :=
  (if x1 < (0 : Int32) then K S x1 else (eX4_carOf S x1 (fun S1 r1 => (if r1 = (S1 20 0) then (vp_in (x1 - x1 / (32 : Int32) * (32 : Int32)) 32 ∧ K S1 (S1 8 (x1 - x1 / (32 : Int32) * (32 : Int32)).toNatClampNeg)) else K S1 x1))))
def lX3_endEmptying_50 (K : ty_S → Prop)  : Nat → Int32 → ty_S → Prop
  | 0, _, _ => False
  | n + 1, x1, S => (if (1280 : Int32) ≤ x1 then (eX1_removeFirstCar S  (fun S3 => K (ty_st S3 20 0 (-1 : Int32)))) else (eX0_at S x1 (fun S4 r4 => (eX3_placeNow S4 r4 (fun S5 r5 => (eX0_write S5 x1 r5 (fun S6 => (eX0_nextReference S6 (x1 + (1 : Int32)) (fun S7 r7 => lX3_endEmptying_50 K  n r7 S7)))))))))
def lX3_endEmptying_2 (K : ty_S → Prop)  : Nat → Int32 → ty_S → Prop
  | 0, _, _ => False
  | n + 1, x1, S => (if (16 : Int32) ≤ x1 then (eX0_clear S (S 20 0) (fun S1 => (eX0_nextReference S1 (0 : Int32) (fun S2 r2 => ∃ n9, lX3_endEmptying_50 K  n9 r2 S2)))) else (vp_in x1 16 ∧ (eX3_placeNow S (S 7 x1.toNatClampNeg) (fun S8 r8 => (vp_in x1 16 ∧ lX3_endEmptying_2 K  n (x1 + (1 : Int32)) (ty_st S8 7 x1.toNatClampNeg r8))))))
def eX3_endEmptying (S : ty_S)  (K : ty_S → Prop) : Prop :=
  ∃ n9, lX3_endEmptying_2 K  n9 (0 : Int32) S
def lX3_thingsIn_5 (K : ty_S → Int32 → Prop)  : Nat → Int32 → Int32 → Int32 → Int32 → ty_S → Prop
  | 0, _, _, _, _, _ => False
  | n + 1, x1, x2, x3, x4, S => (if x2 ≤ x4 then K S x3 else (eX1_carAt S (x1 + x4) (fun S1 r1 => (eX0_things S1 r1 (fun S2 r2 => lX3_thingsIn_5 K  n x1 x2 (x3 + r2) (x4 + (1 : Int32)) S2)))))
def eX3_thingsIn (S : ty_S) (x1 : Int32) (x2 : Int32) (K : ty_S → Int32 → Prop) : Prop :=
  ∃ n9, lX3_thingsIn_5 K  n9 x1 x2 (0 : Int32) (0 : Int32) S
def lX3_dropFirstTrain_19 (K : ty_S → Int32 → Prop)  : Nat → Int32 → Int32 → Int32 → ty_S → Prop
  | 0, _, _, _, _ => False
  | n + 1, x2, x3, x4, S => (if x2 ≤ x4 then K (ty_st S 16 0 ((S 16 0) + (1 : Int32))) x3 else (eX1_carAt S (0 : Int32) (fun S3 r3 => (eX0_clear S3 r3 (fun S4 => (eX1_removeFirstCar S4  (fun S5 => lX3_dropFirstTrain_19 K  n x2 x3 (x4 + (1 : Int32)) S5)))))))
def eX3_dropFirstTrain (S : ty_S) (x1 : Int32) (K : ty_S → Int32 → Prop) : Prop :=
  (eX1_carsOf S x1 (fun S1 r1 => (eX3_thingsIn S1 (0 : Int32) r1 (fun S2 r2 => ∃ n9, lX3_dropFirstTrain_19 K  n9 r1 r2 (0 : Int32) S2))))
def jX3_doStep_67 (K : ty_S → Int32 → Prop)  (x2 : Int32) (S : ty_S) : Prop :=
  K (ty_st (ty_st S 15 0 ((S 15 0) + (1 : Int32))) 17 0 ((S 17 0) + x2)) x2
def eX3_doStep (S : ty_S)  (K : ty_S → Int32 → Prop) : Prop :=
  (eX1_firstTrain S  (fun S1 r1 => (eX3_isReferredTo S1 r1 (fun S2 r2 => (if r2 = (0 : Int32) then (eX3_dropFirstTrain S2 r1 (fun S3 r3 => jX3_doStep_67 K  r3 S3)) else (eX3_startEmptying S2  (fun S4 => (eX3_moveHeld S4 r1 (fun S5 => (eX3_moveReferredTo S5 r1 (0 : Int32) (fun S6 => (eX3_moveReferredTo S6 r1 (1 : Int32) (fun S7 => (eX0_things S7 (S7 20 0) (fun S8 r8 => (eX3_endEmptying S8  (fun S9 => jX3_doStep_67 K  (r8 - (S8 21 0)) S9)))))))))))))))))
def eX3_carForNew (S : ty_S) (x1 : Int32) (x2 : Int32) (K : ty_S → Int32 → Prop) : Prop :=
  (eX3_lastHasRoom S x1 (fun S1 r1 => (if r1 = (0 : Int32) then (eX1_lastTrain S1  (fun S2 r2 => (if (S2 13 0) = (0 : Int32) then (eX1_addTrain S2  (fun S3 r3 => K S3 r3)) else (eX1_carsOf S2 r2 (fun S4 r4 => (if r4 < x2 then (eX1_addCar S4 r2 (fun S5 r5 => K S5 r5)) else (eX1_addTrain S4  (fun S6 r6 => K S6 r6)))))))) else (eX1_carAt S1 ((S1 13 0) - (1 : Int32)) (fun S7 r7 => K S7 r7)))))
def jX3_nextRemembered_62 (K : ty_S → Int32 → Prop) (R19 : Int32 → Int32 → Int32 → ty_S → Prop) (x1 : Int32) (x3 : Int32) (x4 : Int32) (S : ty_S) : Prop :=
  (eX0_nextReference S (x4 + (1 : Int32)) (fun S5 r5 => R19 x1 x3 r5 S5))
def lX3_nextRemembered_19 (K : ty_S → Int32 → Prop)  : Nat → Int32 → Int32 → Int32 → ty_S → Prop
  | 0, _, _, _, _ => False
  | n + 1, x1, x3, x4, S => (if (1280 : Int32) ≤ x4 then K S (1280 : Int32) else (eX0_at S x4 (fun S3 r3 => (eX4_carOf S3 r3 (fun S4 r4 => (if r4 = x1 then (eX4_carOf S4 x4 (fun S6 r6 => (eX1_indexOf S6 r6 (fun S7 r7 => (if r7 ≤ x3 then jX3_nextRemembered_62 K (fun a0 a1 a2 S9 => lX3_nextRemembered_19 K  n a0 a1 a2 S9) x1 x3 x4 S7 else K S7 x4))))) else jX3_nextRemembered_62 K (fun a0 a1 a2 S9 => lX3_nextRemembered_19 K  n a0 a1 a2 S9) x1 x3 x4 S4))))))
def eX3_nextRemembered (S : ty_S) (x1 : Int32) (x2 : Int32) (K : ty_S → Int32 → Prop) : Prop :=
  (eX1_indexOf S x1 (fun S1 r1 => (eX0_nextReference S1 x2 (fun S2 r2 => ∃ n9, lX3_nextRemembered_19 K  n9 x1 r1 r2 S2))))
def lX3_countRemembered_9 (K : ty_S → Int32 → Prop)  : Nat → Int32 → Int32 → Int32 → ty_S → Prop
  | 0, _, _, _, _ => False
  | n + 1, x1, x2, x3, S => (if (1280 : Int32) ≤ x3 then K S x2 else (eX3_nextRemembered S x1 (x3 + (1 : Int32)) (fun S2 r2 => lX3_countRemembered_9 K  n x1 (x2 + (1 : Int32)) r2 S2)))
def eX3_countRemembered (S : ty_S) (x1 : Int32) (K : ty_S → Int32 → Prop) : Prop :=
  (eX3_nextRemembered S x1 (0 : Int32) (fun S1 r1 => ∃ n9, lX3_countRemembered_9 K  n9 x1 (0 : Int32) r1 S1))
def eX4_step (S : ty_S)  (K : ty_S → Int32 → Prop) : Prop :=
  (eX3_canStep S  (fun S1 r1 => (if r1 = (0 : Int32) then K S1 (-1 : Int32) else (eX3_doStep S1  (fun S2 r2 => K S2 r2)))))
def eX4_reached (S : ty_S)  (K : ty_S → Int32 → Prop) : Prop :=
  (eX2_countFrom S  (fun S1 r1 => K S1 r1))
def eX5_thrown (S : ty_S)  (K : ty_S → Int32 → Prop) : Prop :=
  K S (S 60 0)
def lX5_trainOf_12 (K : ty_S → Int32 → Prop) (R2 : Int32 → Int32 → ty_S → Prop) : Nat → Int32 → Int32 → Int32 → ty_S → Prop
  | 0, _, _, _, _ => False
  | n + 1, x1, x2, x3, S => (vp_in x2 41 ∧ (if (S 41 x2.toNatClampNeg) ≤ x3 then R2 x1 (x2 + (1 : Int32)) S else (vp_in (((40 : Int32) * x2) + x3) 1640 ∧ (if (S 42 (((40 : Int32) * x2) + x3).toNatClampNeg) = x1 then K S x2 else lX5_trainOf_12 K R2 n x1 x2 (x3 + (1 : Int32)) S))))
def lX5_trainOf_2 (K : ty_S → Int32 → Prop)  : Nat → Int32 → Int32 → ty_S → Prop
  | 0, _, _, _ => False
  | n + 1, x1, x2, S => (if (S 50 0) ≤ x2 then K S (-1 : Int32) else ∃ n9, lX5_trainOf_12 K (fun a0 a1 S9 => lX5_trainOf_2 K  n a0 a1 S9) n9 x1 x2 (0 : Int32) S)
def eX5_trainOf (S : ty_S) (x1 : Int32) (K : ty_S → Int32 → Prop) : Prop :=
  ∃ n9, lX5_trainOf_2 K  n9 x1 (0 : Int32) S
def lX5_freeCar_2 (K : ty_S → Int32 → Prop)  : Nat → Int32 → ty_S → Prop
  | 0, _, _ => False
  | n + 1, x1, S => (if (40 : Int32) ≤ x1 then K S (-1 : Int32) else (eX5_trainOf S x1 (fun S1 r1 => (if (0 : Int32) ≤ r1 then lX5_freeCar_2 K  n (x1 + (1 : Int32)) S1 else K S1 x1))))
def eX5_freeCar (S : ty_S)  (K : ty_S → Int32 → Prop) : Prop :=
  ∃ n9, lX5_freeCar_2 K  n9 (0 : Int32) S
def lX5_freeCars_5 (K : ty_S → Int32 → Prop)  : Nat → Int32 → Int32 → ty_S → Prop
  | 0, _, _, _ => False
  | n + 1, x1, x2, S => (if (S 50 0) ≤ x2 then K S x1 else (vp_in x2 41 ∧ lX5_freeCars_5 K  n (x1 - (S 41 x2.toNatClampNeg)) (x2 + (1 : Int32)) S))
def eX5_freeCars (S : ty_S)  (K : ty_S → Int32 → Prop) : Prop :=
  ∃ n9, lX5_freeCars_5 K  n9 (40 : Int32) (0 : Int32) S
def eX5_lastCar (S : ty_S) (x1 : Int32) (K : ty_S → Int32 → Prop) : Prop :=
  (vp_in x1 41 ∧ (vp_in ((((40 : Int32) * x1) + (S 41 x1.toNatClampNeg)) - (1 : Int32)) 1640 ∧ K S (S 42 ((((40 : Int32) * x1) + (S 41 x1.toNatClampNeg)) - (1 : Int32)).toNatClampNeg)))
def eX5_couple (S : ty_S) (x1 : Int32) (x2 : Int32) (K : ty_S → Prop) : Prop :=
  (vp_in x1 41 ∧ (vp_in (((40 : Int32) * x1) + (S 41 x1.toNatClampNeg)) 1640 ∧ (vp_in x1 41 ∧ (vp_in x1 41 ∧ (vp_in x2 40 ∧ (vp_in x2 40 ∧ K (ty_st (ty_st (ty_st (ty_st S 42 (((40 : Int32) * x1) + (S 41 x1.toNatClampNeg)).toNatClampNeg x2) 41 x1.toNatClampNeg ((S 41 x1.toNatClampNeg) + (1 : Int32))) 37 x2.toNatClampNeg (0 : Int32)) 38 x2.toNatClampNeg (0 : Int32))))))))
def eX5_newTrain (S : ty_S)  (K : ty_S → Prop) : Prop :=
  (eX5_freeCar S  (fun S1 r1 => (vp_in (S1 50 0) 41 ∧ (vp_in (S1 50 0) 41 ∧ (eX5_couple (ty_st (ty_st (ty_st (ty_st S1 57 0 ((S1 57 0) + (1 : Int32))) 40 (S1 50 0).toNatClampNeg ((S1 57 0) + (1 : Int32))) 41 (S1 50 0).toNatClampNeg (0 : Int32)) 50 0 ((S1 50 0) + (1 : Int32))) (((S1 50 0) + (1 : Int32)) - (1 : Int32)) r1 (fun S2 => K S2))))))
def lX5_removeTrain_50 (K : ty_S → Prop) (R12 : Int32 → ty_S → Prop) : Nat → Int32 → Int32 → ty_S → Prop
  | 0, _, _, _ => False
  | n + 1, x2, x3, S => (if (40 : Int32) ≤ x3 then R12 (x2 + (1 : Int32)) S else (vp_in (((40 : Int32) * (x2 + (1 : Int32))) + x3) 1640 ∧ (vp_in (((40 : Int32) * x2) + x3) 1640 ∧ lX5_removeTrain_50 K R12 n x2 (x3 + (1 : Int32)) (ty_st S 42 (((40 : Int32) * x2) + x3).toNatClampNeg (S 42 (((40 : Int32) * (x2 + (1 : Int32))) + x3).toNatClampNeg)))))
def lX5_removeTrain_12 (K : ty_S → Prop)  : Nat → Int32 → ty_S → Prop
  | 0, _, _ => False
  | n + 1, x2, S => (if (S 50 0) ≤ x2 then K S else (vp_in (x2 + (1 : Int32)) 41 ∧ (vp_in x2 41 ∧ (vp_in (x2 + (1 : Int32)) 41 ∧ (vp_in x2 41 ∧ ∃ n9, lX5_removeTrain_50 K (fun a0 S9 => lX5_removeTrain_12 K  n a0 S9) n9 x2 (0 : Int32) (ty_st (ty_st S 40 x2.toNatClampNeg (S 40 (x2 + (1 : Int32)).toNatClampNeg)) 41 x2.toNatClampNeg (S 41 (x2 + (1 : Int32)).toNatClampNeg)))))))
def eX5_removeTrain (S : ty_S) (x1 : Int32) (K : ty_S → Prop) : Prop :=
  ∃ n9, lX5_removeTrain_12 K  n9 x1 (ty_st S 50 0 ((S 50 0) - (1 : Int32)))
def lX5_rank_15 (K : ty_S → Int32 → Prop) (R4 : Int32 → Int32 → Int32 → ty_S → Prop) : Nat → Int32 → Int32 → Int32 → Int32 → ty_S → Prop
  | 0, _, _, _, _, _ => False
  | n + 1, x1, x2, x3, x4, S => (vp_in x3 41 ∧ (if (S 41 x3.toNatClampNeg) ≤ x4 then R4 x1 x2 (x3 + (1 : Int32)) S else (vp_in (((40 : Int32) * x3) + x4) 1640 ∧ (if (S 42 (((40 : Int32) * x3) + x4).toNatClampNeg) = x1 then K S x2 else lX5_rank_15 K R4 n x1 (x2 + (1 : Int32)) x3 (x4 + (1 : Int32)) S))))
def lX5_rank_4 (K : ty_S → Int32 → Prop)  : Nat → Int32 → Int32 → Int32 → ty_S → Prop
  | 0, _, _, _, _ => False
  | n + 1, x1, x2, x3, S => (if (S 50 0) ≤ x3 then K S x2 else ∃ n9, lX5_rank_15 K (fun a0 a1 a2 S9 => lX5_rank_4 K  n a0 a1 a2 S9) n9 x1 x2 x3 (0 : Int32) S)
def eX5_rank (S : ty_S) (x1 : Int32) (K : ty_S → Int32 → Prop) : Prop :=
  ∃ n9, lX5_rank_4 K  n9 x1 (0 : Int32) (0 : Int32) S
def eX5_hasRoom (S : ty_S) (x1 : Int32) (x2 : Int32) (K : ty_S → Int32 → Prop) : Prop :=
  (vp_in x1 40 ∧ (if ((32 : Int32) - (S 37 x1.toNatClampNeg)) < x2 then K S (0 : Int32) else K S (1 : Int32)))
def eX5_wordsOf (S : ty_S) (x1 : Int32) (K : ty_S → Int32 → Prop) : Prop :=
  (vp_in x1 640 ∧ (vp_in x1 640 ∧ K S (((2 : Int32) + (S 33 x1.toNatClampNeg)) + (S 34 x1.toNatClampNeg))))
def eX5_lay (S : ty_S) (x1 : Int32) (x2 : Int32) (K : ty_S → Prop) : Prop :=
  (vp_in x1 640 ∧ (vp_in x2 40 ∧ (vp_in x1 640 ∧ (vp_in x2 40 ∧ (vp_in (((16 : Int32) * x2) + (S 38 x2.toNatClampNeg)) 640 ∧ (vp_in x2 40 ∧ (vp_in x2 40 ∧ (vp_in x2 40 ∧ (eX5_wordsOf (ty_st (ty_st (ty_st (ty_st S 31 x1.toNatClampNeg x2) 32 x1.toNatClampNeg (S 37 x2.toNatClampNeg)) 39 (((16 : Int32) * x2) + (S 38 x2.toNatClampNeg)).toNatClampNeg x1) 38 x2.toNatClampNeg ((S 38 x2.toNatClampNeg) + (1 : Int32))) x1 (fun S1 r1 => (vp_in x2 40 ∧ K (ty_st S1 37 x2.toNatClampNeg ((S 37 x2.toNatClampNeg) + r1)))))))))))))
def lX5_carFor_64 (K : ty_S → Int32 → Prop) (R52 : Int32 → Int32 → Int32 → ty_S → Prop) : Nat → Int32 → Int32 → Int32 → Int32 → ty_S → Prop
  | 0, _, _, _, _, _ => False
  | n + 1, x2, x5, x6, x7, S => (vp_in x6 41 ∧ (if (S 41 x6.toNatClampNeg) ≤ x7 then R52 x2 x5 (x6 + (1 : Int32)) S else (vp_in (((40 : Int32) * x6) + x7) 1640 ∧ (if (S 42 (((40 : Int32) * x6) + x7).toNatClampNeg) = (S 59 0) then lX5_carFor_64 K R52 n x2 x5 x6 (x7 + (1 : Int32)) S else (eX5_hasRoom S (S 42 (((40 : Int32) * x6) + x7).toNatClampNeg) x2 (fun S3 r3 => (if r3 = (0 : Int32) then lX5_carFor_64 K R52 n x2 x5 x6 (x7 + (1 : Int32)) S3 else lX5_carFor_64 K R52 n x2 (S 42 (((40 : Int32) * x6) + x7).toNatClampNeg) x6 (x7 + (1 : Int32)) S3)))))))
def lX5_carFor_52 (K : ty_S → Int32 → Prop)  : Nat → Int32 → Int32 → Int32 → ty_S → Prop
  | 0, _, _, _, _ => False
  | n + 1, x2, x5, x6, S => (if (S 50 0) ≤ x6 then K S x5 else ∃ n9, lX5_carFor_64 K (fun a0 a1 a2 S9 => lX5_carFor_52 K  n a0 a1 a2 S9) n9 x2 x5 x6 (0 : Int32) S)
def jX5_carFor_25 (K : ty_S → Int32 → Prop)  (x1 : Int32) (x2 : Int32) (S : ty_S) : Prop :=
  (eX5_freeCar S  (fun S2 r2 => (if r2 < (0 : Int32) then ∃ n9, lX5_carFor_52 K  n9 x2 (-1 : Int32) (0 : Int32) S2 else (eX5_couple S2 x1 r2 (fun S4 => K S4 r2)))))
def eX5_carFor (S : ty_S) (x1 : Int32) (x2 : Int32) (K : ty_S → Int32 → Prop) : Prop :=
  (eX5_lastCar S x1 (fun S1 r1 => (if r1 = (S1 59 0) then jX5_carFor_25 K  x1 x2 S1 else (eX5_hasRoom S1 r1 x2 (fun S5 r5 => (if r5 = (0 : Int32) then jX5_carFor_25 K  x1 x2 S5 else K S5 r1))))))
def eX5_place (S : ty_S) (x1 : Int32) (K : ty_S → Int32 → Prop) : Prop :=
  (vp_in x1 640 ∧ (vp_in x1 640 ∧ K S (((32 : Int32) * (S 31 x1.toNatClampNeg)) + (S 32 x1.toNatClampNeg))))
def eX5_referencePlace (S : ty_S) (x1 : Int32) (x2 : Int32) (K : ty_S → Int32 → Prop) : Prop :=
  (eX5_place S x1 (fun S1 r1 => K S1 ((r1 + (2 : Int32)) + x2)))
def eX5_isInCar (S : ty_S) (x1 : Int32) (K : ty_S → Int32 → Prop) : Prop :=
  (if x1 < (0 : Int32) then K S (0 : Int32) else (vp_in x1 640 ∧ (if (S 30 x1.toNatClampNeg) ≤ (0 : Int32) then K S (0 : Int32) else (vp_in x1 640 ∧ (if (S 31 x1.toNatClampNeg) = (S 59 0) then K S (1 : Int32) else K S (0 : Int32))))))
def eX5_move (S : ty_S) (x1 : Int32) (x2 : Int32) (K : ty_S → Prop) : Prop :=
  (eX5_wordsOf S x1 (fun S1 r1 => (eX5_carFor S1 x2 r1 (fun S2 r2 => (eX5_lay S2 x1 r2 (fun S3 => (eX5_wordsOf (ty_st S3 55 0 ((S3 55 0) + (1 : Int32))) x1 (fun S4 r4 => K (ty_st S4 56 0 ((S3 56 0) + r4))))))))))
def lX5_moveAll_36 (K : ty_S → Prop) (R18 : Int32 → Int32 → ty_S → Prop) : Nat → Int32 → Int32 → Int32 → Int32 → ty_S → Prop
  | 0, _, _, _, _, _ => False
  | n + 1, x3, x4, x5, x6, S => (vp_in x5 640 ∧ (if (S 33 x5.toNatClampNeg) ≤ x6 then R18 x3 (x4 + (1 : Int32)) S else (vp_in (((12 : Int32) * x5) + x6) 7680 ∧ (eX5_isInCar S (S 35 (((12 : Int32) * x5) + x6).toNatClampNeg) (fun S2 r2 => (if r2 = (0 : Int32) then lX5_moveAll_36 K R18 n x3 x4 x5 (x6 + (1 : Int32)) S2 else (vp_in x5 640 ∧ (eX5_trainOf S2 (S2 31 x5.toNatClampNeg) (fun S3 r3 => (eX5_move S3 (S 35 (((12 : Int32) * x5) + x6).toNatClampNeg) r3 (fun S4 => (vp_in x3 640 ∧ lX5_moveAll_36 K R18 n (x3 + (1 : Int32)) x4 x5 (x6 + (1 : Int32)) (ty_st S4 44 x3.toNatClampNeg (S 35 (((12 : Int32) * x5) + x6).toNatClampNeg))))))))))))))
def lX5_moveAll_18 (K : ty_S → Prop)  : Nat → Int32 → Int32 → ty_S → Prop
  | 0, _, _, _ => False
  | n + 1, x3, x4, S => (if x3 ≤ x4 then K S else (vp_in x4 640 ∧ ∃ n9, lX5_moveAll_36 K (fun a0 a1 S9 => lX5_moveAll_18 K  n a0 a1 S9) n9 x3 x4 (S 44 x4.toNatClampNeg) (0 : Int32) S))
def eX5_moveAll (S : ty_S) (x1 : Int32) (x2 : Int32) (K : ty_S → Prop) : Prop :=
  (vp_in (0 : Int32) 640 ∧ (eX5_move (ty_st S 44 (0 : Int32).toNatClampNeg x1) x1 x2 (fun S1 => ∃ n9, lX5_moveAll_18 K  n9 (1 : Int32) (0 : Int32) S1)))
def lX5_gather_59 (K : ty_S → Prop) (R7 : Int32 → ty_S → Prop) (R21 : Int32 → Int32 → Int32 → ty_S → Prop) : Nat → Int32 → Int32 → Int32 → Int32 → Int32 → ty_S → Prop
  | 0, _, _, _, _, _, _ => False
  | n + 1, x1, x2, x3, x4, x5, S => (vp_in x4 640 ∧ (if (S 33 x4.toNatClampNeg) ≤ x5 then R21 x1 x2 (x3 + (1 : Int32)) S else (vp_in (((12 : Int32) * x4) + x5) 7680 ∧ (eX5_isInCar S (S 35 (((12 : Int32) * x4) + x5).toNatClampNeg) (fun S2 r2 => (if r2 = (0 : Int32) then lX5_gather_59 K R7 R21 n x1 x2 x3 x4 (x5 + (1 : Int32)) S2 else (vp_in (S2 61 0) 1280 ∧ (vp_in (S2 61 0) 1280 ∧ (if x2 = (0 : Int32) then (vp_in (S2 61 0) 1280 ∧ lX5_gather_59 K R7 R21 n x1 x2 x3 x4 (x5 + (1 : Int32)) (ty_st (ty_st (ty_st (ty_st S2 45 (S2 61 0).toNatClampNeg x4) 46 (S2 61 0).toNatClampNeg x5) 47 (S2 61 0).toNatClampNeg (1 : Int32)) 61 0 ((S2 61 0) + (1 : Int32)))) else (vp_in (S2 61 0) 1280 ∧ lX5_gather_59 K R7 R21 n x1 x2 x3 x4 (x5 + (1 : Int32)) (ty_st (ty_st (ty_st (ty_st S2 45 (S2 61 0).toNatClampNeg x4) 46 (S2 61 0).toNatClampNeg x5) 47 (S2 61 0).toNatClampNeg (0 : Int32)) 61 0 ((S2 61 0) + (1 : Int32)))))))))))))
def lX5_gather_21 (K : ty_S → Prop) (R7 : Int32 → ty_S → Prop) : Nat → Int32 → Int32 → Int32 → ty_S → Prop
  | 0, _, _, _, _ => False
  | n + 1, x1, x2, x3, S => (vp_in x1 40 ∧ (if (S 38 x1.toNatClampNeg) ≤ x3 then R7 (x1 + (1 : Int32)) S else (if x2 < (0 : Int32) then R7 (x1 + (1 : Int32)) S else (if x1 = (S 59 0) then R7 (x1 + (1 : Int32)) S else (vp_in (((16 : Int32) * x1) + x3) 640 ∧ ∃ n9, lX5_gather_59 K R7 (fun a0 a1 a2 S9 => lX5_gather_21 K R7 n a0 a1 a2 S9) n9 x1 x2 x3 (S 39 (((16 : Int32) * x1) + x3).toNatClampNeg) (0 : Int32) S)))))
def lX5_gather_7 (K : ty_S → Prop)  : Nat → Int32 → ty_S → Prop
  | 0, _, _ => False
  | n + 1, x1, S => (if (40 : Int32) ≤ x1 then K S else (eX5_trainOf S x1 (fun S1 r1 => ∃ n9, lX5_gather_21 K (fun a0 S9 => lX5_gather_7 K  n a0 S9) n9 x1 r1 (0 : Int32) S1)))
def eX5_gather (S : ty_S)  (K : ty_S → Prop) : Prop :=
  ∃ n9, lX5_gather_7 K  n9 (0 : Int32) (ty_st S 61 0 (0 : Int32))
def lX5_isWanted_82 (K : ty_S → Int32 → Prop) (R45 : Int32 → ty_S → Prop) : Nat → Int32 → Int32 → Int32 → ty_S → Prop
  | 0, _, _, _, _ => False
  | n + 1, x1, x2, x3, S => (if x2 = (0 : Int32) then R45 (x1 + (1 : Int32)) S else (vp_in x1 640 ∧ (if (S 33 x1.toNatClampNeg) ≤ x3 then R45 (x1 + (1 : Int32)) S else (vp_in (((12 : Int32) * x1) + x3) 7680 ∧ (if (S 35 (((12 : Int32) * x1) + x3).toNatClampNeg) < (0 : Int32) then lX5_isWanted_82 K R45 n x1 x2 (x3 + (1 : Int32)) S else (vp_in (S 35 (((12 : Int32) * x1) + x3).toNatClampNeg) 640 ∧ (eX5_trainOf S (S 31 (S 35 (((12 : Int32) * x1) + x3).toNatClampNeg).toNatClampNeg) (fun S1 r1 => (if r1 = (0 : Int32) then K S1 (1 : Int32) else lX5_isWanted_82 K R45 n x1 x2 (x3 + (1 : Int32)) S1)))))))))
def lX5_isWanted_45 (K : ty_S → Int32 → Prop)  : Nat → Int32 → ty_S → Prop
  | 0, _, _ => False
  | n + 1, x1, S => (if (640 : Int32) ≤ x1 then K S (0 : Int32) else (vp_in x1 640 ∧ (if (S 30 x1.toNatClampNeg) ≤ (0 : Int32) then ∃ n9, lX5_isWanted_82 K (fun a0 S9 => lX5_isWanted_45 K  n a0 S9) n9 x1 (0 : Int32) (0 : Int32) S else (vp_in x1 640 ∧ (eX5_trainOf S (S 31 x1.toNatClampNeg) (fun S2 r2 => (if r2 ≤ (0 : Int32) then ∃ n9, lX5_isWanted_82 K (fun a0 S9 => lX5_isWanted_45 K  n a0 S9) n9 x1 (0 : Int32) (0 : Int32) S2 else ∃ n9, lX5_isWanted_82 K (fun a0 S9 => lX5_isWanted_45 K  n a0 S9) n9 x1 (1 : Int32) (0 : Int32) S2)))))))
def lX5_isWanted_2 (K : ty_S → Int32 → Prop)  : Nat → Int32 → ty_S → Prop
  | 0, _, _ => False
  | n + 1, x1, S => (if (16 : Int32) ≤ x1 then ∃ n9, lX5_isWanted_45 K  n9 (0 : Int32) S else (vp_in x1 16 ∧ (if (S 43 x1.toNatClampNeg) < (0 : Int32) then lX5_isWanted_2 K  n (x1 + (1 : Int32)) S else (vp_in x1 16 ∧ (vp_in (S 43 x1.toNatClampNeg) 640 ∧ (eX5_trainOf S (S 31 (S 43 x1.toNatClampNeg).toNatClampNeg) (fun S3 r3 => (if r3 = (0 : Int32) then K S3 (1 : Int32) else lX5_isWanted_2 K  n (x1 + (1 : Int32)) S3))))))))
def eX5_isWanted (S : ty_S)  (K : ty_S → Int32 → Prop) : Prop :=
  ∃ n9, lX5_isWanted_2 K  n9 (0 : Int32) S
def lX5_forget_4 (K : ty_S → Int32 → Prop)  : Nat → Int32 → Int32 → Int32 → ty_S → Prop
  | 0, _, _, _, _ => False
  | n + 1, x1, x2, x3, S => (vp_in x1 40 ∧ (if (S 38 x1.toNatClampNeg) ≤ x3 then (vp_in x1 40 ∧ (vp_in x1 40 ∧ K (ty_st (ty_st (ty_st S 38 x1.toNatClampNeg (0 : Int32)) 37 x1.toNatClampNeg (0 : Int32)) 54 0 ((S 54 0) + x2)) x2)) else (vp_in (((16 : Int32) * x1) + x3) 640 ∧ (vp_in (S 39 (((16 : Int32) * x1) + x3).toNatClampNeg) 640 ∧ (if (S 30 (S 39 (((16 : Int32) * x1) + x3).toNatClampNeg).toNatClampNeg) ≤ (0 : Int32) then lX5_forget_4 K  n x1 x2 (x3 + (1 : Int32)) S else (vp_in (S 39 (((16 : Int32) * x1) + x3).toNatClampNeg) 640 ∧ (if (S 31 (S 39 (((16 : Int32) * x1) + x3).toNatClampNeg).toNatClampNeg) = x1 then (vp_in (S 39 (((16 : Int32) * x1) + x3).toNatClampNeg) 640 ∧ lX5_forget_4 K  n x1 (x2 + (1 : Int32)) (x3 + (1 : Int32)) (ty_st S 30 (S 39 (((16 : Int32) * x1) + x3).toNatClampNeg).toNatClampNeg (0 : Int32))) else lX5_forget_4 K  n x1 x2 (x3 + (1 : Int32)) S)))))))
def eX5_forget (S : ty_S) (x1 : Int32) (K : ty_S → Int32 → Prop) : Prop :=
  ∃ n9, lX5_forget_4 K  n9 x1 (0 : Int32) (0 : Int32) S
def lX5_oneStep_267 (K : ty_S → Int32 → Prop)  : Nat → Int32 → Int32 → ty_S → Prop
  | 0, _, _, _ => False
  | n + 1, x1, x2, S => (vp_in (0 : Int32) 41 ∧ (if (S 41 (0 : Int32).toNatClampNeg) ≤ x2 then (vp_in (0 : Int32) 41 ∧ (if (S 41 (0 : Int32).toNatClampNeg) = (0 : Int32) then (eX5_removeTrain (ty_st S 59 0 (-1 : Int32)) (0 : Int32) (fun S4 => K S4 x1)) else K (ty_st S 59 0 (-1 : Int32)) x1)) else (vp_in (x2 + (1 : Int32)) 1640 ∧ (vp_in x2 1640 ∧ lX5_oneStep_267 K  n x1 (x2 + (1 : Int32)) (ty_st S 42 x2.toNatClampNeg (S 42 (x2 + (1 : Int32)).toNatClampNeg))))))
def jX5_oneStep_196 (K : ty_S → Int32 → Prop) (R138 : Int32 → ty_S → Prop) (R145 : Int32 → Int32 → ty_S → Prop) (x2 : Int32) (x3 : Int32) (x4 : Int32) (x5 : Int32) (t0 : Int32) (t1 : Int32) (S : ty_S) : Prop :=
  (if t1 = t0 then (eX5_isInCar S x5 (fun S5 r5 => (if r5 = (0 : Int32) then R145 x2 (x3 + (1 : Int32)) S5 else (if x2 = (1 : Int32) then (eX5_moveAll S5 x5 (0 : Int32) (fun S8 => R145 x2 (x3 + (1 : Int32)) S8)) else (vp_in x4 640 ∧ (eX5_trainOf S5 (S5 31 x4.toNatClampNeg) (fun S6 r6 => (eX5_moveAll S6 x5 r6 (fun S7 => R145 x2 (x3 + (1 : Int32)) S7))))))))) else R145 x2 (x3 + (1 : Int32)) S)
def lX5_oneStep_145 (K : ty_S → Int32 → Prop) (R138 : Int32 → ty_S → Prop) : Nat → Int32 → Int32 → ty_S → Prop
  | 0, _, _, _ => False
  | n + 1, x2, x3, S => (if (S 61 0) ≤ x3 then R138 (x2 + (1 : Int32)) S else (vp_in x3 1280 ∧ (vp_in x3 1280 ∧ (vp_in (((12 : Int32) * (S 45 x3.toNatClampNeg)) + (S 46 x3.toNatClampNeg)) 7680 ∧ (vp_in x3 1280 ∧ (if x2 = (1 : Int32) then jX5_oneStep_196 K R138 (fun a0 a1 S9 => lX5_oneStep_145 K R138 n a0 a1 S9) x2 x3 (S 45 x3.toNatClampNeg) (S 35 (((12 : Int32) * (S 45 x3.toNatClampNeg)) + (S 46 x3.toNatClampNeg)).toNatClampNeg) (1 : Int32) (S 47 x3.toNatClampNeg) S else jX5_oneStep_196 K R138 (fun a0 a1 S9 => lX5_oneStep_145 K R138 n a0 a1 S9) x2 x3 (S 45 x3.toNatClampNeg) (S 35 (((12 : Int32) * (S 45 x3.toNatClampNeg)) + (S 46 x3.toNatClampNeg)).toNatClampNeg) (0 : Int32) (S 47 x3.toNatClampNeg) S))))))
def lX5_oneStep_138 (K : ty_S → Int32 → Prop)  : Nat → Int32 → ty_S → Prop
  | 0, _, _ => False
  | n + 1, x2, S => (if (2 : Int32) ≤ x2 then (eX5_forget S (S 59 0) (fun S3 r3 => (vp_in (0 : Int32) 41 ∧ (vp_in (0 : Int32) 41 ∧ ∃ n9, lX5_oneStep_267 K  n9 r3 (0 : Int32) (ty_st S3 41 (0 : Int32).toNatClampNeg ((S3 41 (0 : Int32).toNatClampNeg) - (1 : Int32))))))) else ∃ n9, lX5_oneStep_145 K (fun a0 S9 => lX5_oneStep_138 K  n a0 S9) n9 x2 (0 : Int32) S)
def jX5_oneStep_114 (K : ty_S → Int32 → Prop) (R83 : Int32 → ty_S → Prop) (x2 : Int32) (S : ty_S) : Prop :=
  (vp_in x2 16 ∧ (eX5_moveAll S (S 43 x2.toNatClampNeg) ((S 50 0) - (1 : Int32)) (fun S10 => R83 (x2 + (1 : Int32)) S10)))
def lX5_oneStep_83 (K : ty_S → Int32 → Prop)  : Nat → Int32 → ty_S → Prop
  | 0, _, _ => False
  | n + 1, x2, S => (if (16 : Int32) ≤ x2 then ∃ n9, lX5_oneStep_138 K  n9 (0 : Int32) S else (vp_in x2 16 ∧ (eX5_isInCar S (S 43 x2.toNatClampNeg) (fun S9 r9 => (if r9 = (0 : Int32) then lX5_oneStep_83 K  n (x2 + (1 : Int32)) S9 else (if (S9 50 0) = (1 : Int32) then (eX5_newTrain S9  (fun S11 => jX5_oneStep_114 K (fun a0 S9 => lX5_oneStep_83 K  n a0 S9) x2 S11)) else jX5_oneStep_114 K (fun a0 S9 => lX5_oneStep_83 K  n a0 S9) x2 S9))))))
def lX5_oneStep_21 (K : ty_S → Int32 → Prop)  : Nat → Int32 → Int32 → ty_S → Prop
  | 0, _, _, _ => False
  | n + 1, x1, x2, S => (vp_in (0 : Int32) 41 ∧ (if (S 41 (0 : Int32).toNatClampNeg) ≤ x2 then (eX5_removeTrain (ty_st S 53 0 ((S 53 0) + (1 : Int32))) (0 : Int32) (fun S12 => K S12 x1)) else (vp_in x2 1640 ∧ (eX5_forget S (S 42 x2.toNatClampNeg) (fun S13 r13 => lX5_oneStep_21 K  n (x1 + r13) (x2 + (1 : Int32)) S13)))))
def eX5_oneStep (S : ty_S)  (K : ty_S → Int32 → Prop) : Prop :=
  (eX5_isWanted (ty_st S 52 0 ((S 52 0) + (1 : Int32)))  (fun S1 r1 => (if r1 = (0 : Int32) then ∃ n9, lX5_oneStep_21 K  n9 (0 : Int32) (0 : Int32) S1 else (vp_in (0 : Int32) 1640 ∧ (eX5_gather (ty_st S1 59 0 (S1 42 (0 : Int32).toNatClampNeg))  (fun S2 => ∃ n9, lX5_oneStep_83 K  n9 (0 : Int32) S2))))))
def eX5_maySteps (S : ty_S)  (K : ty_S → Int32 → Prop) : Prop :=
  (if (S 50 0) ≤ (0 : Int32) then K S (0 : Int32) else (eX5_freeCars S  (fun S1 r1 => (if r1 ≤ (0 : Int32) then K S1 (0 : Int32) else K S1 (1 : Int32)))))
def eX5_step (S : ty_S)  (K : ty_S → Int32 → Prop) : Prop :=
  (eX5_maySteps (ty_st S 60 0 (0 : Int32))  (fun S1 r1 => (if r1 = (0 : Int32) then K S1 (-1 : Int32) else (eX5_oneStep S1  (fun S2 r2 => K S2 r2)))))
def lX5_collect_49 (K : ty_S → Int32 → Prop)  : Nat → Int32 → Int32 → Int32 → ty_S → Prop
  | 0, _, _, _, _ => False
  | n + 1, x2, x3, x4, S => (if x2 ≤ x4 then K S x3 else (eX5_maySteps S  (fun S1 r1 => (if r1 = (0 : Int32) then K S1 x3 else (eX5_oneStep S1  (fun S2 r2 => lX5_collect_49 K  n x2 (x3 + r2) (x4 + (1 : Int32)) S2))))))
def jX5_collect_16 (K : ty_S → Int32 → Prop)  (x1 : Int32) (t0 : Int32) (S : ty_S) : Prop :=
  (if t0 ≤ (0 : Int32) then (if x1 = (0 : Int32) then (eX5_freeCars (ty_st S 60 0 t0)  (fun S3 r3 => ∃ n9, lX5_collect_49 K  n9 ((40 : Int32) - r3) (0 : Int32) (0 : Int32) S3)) else ∃ n9, lX5_collect_49 K  n9 x1 (0 : Int32) (0 : Int32) (ty_st S 60 0 t0)) else K (ty_st S 60 0 t0) (0 : Int32))
def jX5_collect_11 (K : ty_S → Int32 → Prop)  (x1 : Int32) (S : ty_S) : Prop :=
  jX5_collect_16 K  x1 (1 : Int32) S
def eX5_collect (S : ty_S) (x1 : Int32) (K : ty_S → Int32 → Prop) : Prop :=
  (if x1 < (0 : Int32) then jX5_collect_11 K  x1 S else (if x1 ≤ (100 : Int32) then jX5_collect_16 K  x1 (0 : Int32) S else jX5_collect_11 K  x1 S))
def eX5_noRegister (S : ty_S) (x0 : Int32) (K : ty_S → Int32 → Prop) : Prop :=
  (if x0 < (0 : Int32) then K S (1 : Int32) else (if x0 < (16 : Int32) then K S (0 : Int32) else K S (1 : Int32)))
def jX5_length_17 (K : ty_S → Int32 → Prop)  (x1 : Int32) (t0 : Int32) (S : ty_S) : Prop :=
  (if t0 ≤ (0 : Int32) then K (ty_st (ty_st S 60 0 t0) 51 0 x1) (S 51 0) else K (ty_st S 60 0 t0) (0 : Int32))
def jX5_length_12 (K : ty_S → Int32 → Prop)  (x1 : Int32) (S : ty_S) : Prop :=
  jX5_length_17 K  x1 (1 : Int32) S
def eX5_length (S : ty_S) (x1 : Int32) (K : ty_S → Int32 → Prop) : Prop :=
  (if x1 < (1 : Int32) then jX5_length_12 K  x1 S else (if x1 ≤ (40 : Int32) then jX5_length_17 K  x1 (0 : Int32) S else jX5_length_12 K  x1 S))
def eX5_lastHasRoom (S : ty_S) (x1 : Int32) (K : ty_S → Int32 → Prop) : Prop :=
  (if (S 50 0) ≤ (0 : Int32) then K S (0 : Int32) else (eX5_lastCar S ((S 50 0) - (1 : Int32)) (fun S1 r1 => (eX5_hasRoom S1 r1 x1 (fun S2 r2 => (if r2 = (0 : Int32) then K S2 (0 : Int32) else K S2 (1 : Int32)))))))
def lX5_make_244 (K : ty_S → Int32 → Prop)  : Nat → Int32 → Int32 → Int32 → ty_S → Prop
  | 0, _, _, _, _ => False
  | n + 1, x1, x7, x8, S => (if (12 : Int32) ≤ x8 then (eX5_lastCar S ((S 50 0) - (1 : Int32)) (fun S4 r4 => (eX5_lay S4 x7 r4 (fun S5 => (vp_in x1 16 ∧ K (ty_st S5 43 x1.toNatClampNeg x7) (S5 58 0)))))) else (vp_in (((12 : Int32) * x7) + x8) 7680 ∧ (vp_in (((12 : Int32) * x7) + x8) 7680 ∧ lX5_make_244 K  n x1 x7 (x8 + (1 : Int32)) (ty_st (ty_st S 35 (((12 : Int32) * x7) + x8).toNatClampNeg (-1 : Int32)) 36 (((12 : Int32) * x7) + x8).toNatClampNeg (0 : Int32)))))
def lX5_make_188 (K : ty_S → Int32 → Prop)  : Nat → Int32 → Int32 → Int32 → Int32 → ty_S → Prop
  | 0, _, _, _, _, _ => False
  | n + 1, x1, x2, x3, x7, S => (vp_in x7 640 ∧ (if (S 30 x7.toNatClampNeg) ≤ (0 : Int32) then (vp_in x7 640 ∧ (vp_in x7 640 ∧ (vp_in x7 640 ∧ ∃ n9, lX5_make_244 K  n9 x1 x7 (0 : Int32) (ty_st (ty_st (ty_st (ty_st S 58 0 ((S 58 0) + (1 : Int32))) 30 x7.toNatClampNeg ((S 58 0) + (1 : Int32))) 33 x7.toNatClampNeg x2) 34 x7.toNatClampNeg x3)))) else lX5_make_188 K  n x1 x2 x3 (x7 + (1 : Int32)) S))
def jX5_make_134 (K : ty_S → Int32 → Prop)  (x1 : Int32) (x2 : Int32) (x3 : Int32) (x6 : Int32) (S : ty_S) : Prop :=
  (if x6 = (0 : Int32) then (if (S 50 0) = (0 : Int32) then (eX5_newTrain S  (fun S6 => ∃ n9, lX5_make_188 K  n9 x1 x2 x3 (0 : Int32) S6)) else (vp_in ((S 50 0) - (1 : Int32)) 41 ∧ (if (S 41 ((S 50 0) - (1 : Int32)).toNatClampNeg) < (S 51 0) then (eX5_freeCar S  (fun S7 r7 => (eX5_couple S7 ((S 50 0) - (1 : Int32)) r7 (fun S8 => ∃ n9, lX5_make_188 K  n9 x1 x2 x3 (0 : Int32) S8)))) else (eX5_newTrain S  (fun S9 => ∃ n9, lX5_make_188 K  n9 x1 x2 x3 (0 : Int32) S9))))) else ∃ n9, lX5_make_188 K  n9 x1 x2 x3 (0 : Int32) S)
def jX5_make_111 (K : ty_S → Int32 → Prop)  (x1 : Int32) (x2 : Int32) (x3 : Int32) (x4 : Int32) (S : ty_S) : Prop :=
  (eX5_lastHasRoom S x4 (fun S3 r3 => (if r3 = (0 : Int32) then (eX5_freeCars S3  (fun S10 r10 => (if (2 : Int32) ≤ r10 then jX5_make_134 K  x1 x2 x3 r3 S10 else K S10 (-1 : Int32)))) else jX5_make_134 K  x1 x2 x3 r3 S3)))
def lX5_make_68 (K : ty_S → Int32 → Prop)  : Nat → Int32 → Int32 → Int32 → Int32 → Int32 → Int32 → ty_S → Prop
  | 0, _, _, _, _, _, _, _ => False
  | n + 1, x1, x2, x3, x4, x5, x6, S => (if x5 ≤ x6 then jX5_make_111 K  x1 x2 x3 x4 S else (eX5_lastHasRoom S x4 (fun S11 r11 => (if r11 = (0 : Int32) then (eX5_freeCars S11  (fun S12 r12 => (if (2 : Int32) ≤ r12 then jX5_make_111 K  x1 x2 x3 x4 S12 else (eX5_maySteps S12  (fun S13 r13 => (if r13 = (0 : Int32) then jX5_make_111 K  x1 x2 x3 x4 S13 else (eX5_oneStep S13  (fun S14 r14 => lX5_make_68 K  n x1 x2 x3 x4 x5 (x6 + (1 : Int32)) S14)))))))) else jX5_make_111 K  x1 x2 x3 x4 S11))))
def jX5_make_37 (K : ty_S → Int32 → Prop)  (x1 : Int32) (x2 : Int32) (x3 : Int32) (t0 : Int32) (S : ty_S) : Prop :=
  (if t0 ≤ (0 : Int32) then (eX5_freeCars (ty_st S 60 0 t0)  (fun S2 r2 => ∃ n9, lX5_make_68 K  n9 x1 x2 x3 (((2 : Int32) + x2) + x3) ((40 : Int32) - r2) (0 : Int32) S2)) else K (ty_st S 60 0 t0) (0 : Int32))
def jX5_make_32 (K : ty_S → Int32 → Prop)  (x1 : Int32) (x2 : Int32) (x3 : Int32) (S : ty_S) : Prop :=
  jX5_make_37 K  x1 x2 x3 (2 : Int32) S
def eX5_make (S : ty_S) (x1 : Int32) (x2 : Int32) (x3 : Int32) (K : ty_S → Int32 → Prop) : Prop :=
  (eX5_noRegister S x1 (fun S1 r1 => (if r1 = (0 : Int32) then (if x2 < (0 : Int32) then jX5_make_32 K  x1 x2 x3 S1 else (if (12 : Int32) < x2 then jX5_make_32 K  x1 x2 x3 S1 else (if x3 < (0 : Int32) then jX5_make_32 K  x1 x2 x3 S1 else (if x3 ≤ (12 : Int32) then jX5_make_37 K  x1 x2 x3 (0 : Int32) S1 else jX5_make_32 K  x1 x2 x3 S1)))) else jX5_make_37 K  x1 x2 x3 (1 : Int32) S1)))
def eX5_labelOf (S : ty_S) (x1 : Int32) (K : ty_S → Int32 → Prop) : Prop :=
  (if (0 : Int32) ≤ x1 then (vp_in x1 640 ∧ K S (S 30 x1.toNatClampNeg)) else K S (0 : Int32))
def jX5_copy_20 (K : ty_S → Int32 → Prop)  (x1 : Int32) (x2 : Int32) (t0 : Int32) (S : ty_S) : Prop :=
  (if t0 ≤ (0 : Int32) then (vp_in x2 16 ∧ (vp_in x1 16 ∧ (vp_in x1 16 ∧ (eX5_labelOf (ty_st (ty_st S 60 0 t0) 43 x1.toNatClampNeg (S 43 x2.toNatClampNeg)) ((ty_st S 43 x1.toNatClampNeg (S 43 x2.toNatClampNeg)) 43 x1.toNatClampNeg) (fun S2 r2 => K S2 r2))))) else K (ty_st S 60 0 t0) (0 : Int32))
def jX5_copy_15 (K : ty_S → Int32 → Prop)  (x1 : Int32) (x2 : Int32) (S : ty_S) : Prop :=
  jX5_copy_20 K  x1 x2 (1 : Int32) S
def eX5_copy (S : ty_S) (x1 : Int32) (x2 : Int32) (K : ty_S → Int32 → Prop) : Prop :=
  (eX5_noRegister S x1 (fun S1 r1 => (if r1 = (0 : Int32) then (eX5_noRegister S1 x2 (fun S3 r3 => (if r3 = (0 : Int32) then jX5_copy_20 K  x1 x2 (0 : Int32) S3 else jX5_copy_15 K  x1 x2 S3))) else jX5_copy_15 K  x1 x2 S1)))
def jX5_drop_13 (K : ty_S → Int32 → Prop)  (x1 : Int32) (t0 : Int32) (S : ty_S) : Prop :=
  (if t0 ≤ (0 : Int32) then (vp_in x1 16 ∧ (eX5_labelOf (ty_st S 60 0 t0) (S 43 x1.toNatClampNeg) (fun S2 r2 => (vp_in x1 16 ∧ K (ty_st S2 43 x1.toNatClampNeg (-1 : Int32)) r2)))) else K (ty_st S 60 0 t0) (0 : Int32))
def eX5_drop (S : ty_S) (x1 : Int32) (K : ty_S → Int32 → Prop) : Prop :=
  (eX5_noRegister S x1 (fun S1 r1 => (if r1 = (0 : Int32) then jX5_drop_13 K  x1 (0 : Int32) S1 else jX5_drop_13 K  x1 (1 : Int32) S1)))
def jX5_set_56 (K : ty_S → Int32 → Prop)  (x1 : Int32) (x2 : Int32) (x3 : Int32) (t0 : Int32) (S : ty_S) : Prop :=
  (if t0 ≤ (0 : Int32) then (vp_in x1 16 ∧ (vp_in (((12 : Int32) * (S 43 x1.toNatClampNeg)) + x2) 7680 ∧ (eX5_labelOf (ty_st S 60 0 t0) (S 35 (((12 : Int32) * (S 43 x1.toNatClampNeg)) + x2).toNatClampNeg) (fun S2 r2 => (vp_in x3 16 ∧ (vp_in (((12 : Int32) * (S 43 x1.toNatClampNeg)) + x2) 7680 ∧ K (ty_st S2 35 (((12 : Int32) * (S 43 x1.toNatClampNeg)) + x2).toNatClampNeg (S2 43 x3.toNatClampNeg)) r2)))))) else K (ty_st S 60 0 t0) (0 : Int32))
def jX5_set_15 (K : ty_S → Int32 → Prop)  (x1 : Int32) (x2 : Int32) (x3 : Int32) (S : ty_S) : Prop :=
  jX5_set_56 K  x1 x2 x3 (1 : Int32) S
def jX5_set_51 (K : ty_S → Int32 → Prop)  (x1 : Int32) (x2 : Int32) (x3 : Int32) (S : ty_S) : Prop :=
  jX5_set_56 K  x1 x2 x3 (3 : Int32) S
def eX5_set (S : ty_S) (x1 : Int32) (x2 : Int32) (x3 : Int32) (K : ty_S → Int32 → Prop) : Prop :=
  (eX5_noRegister S x1 (fun S1 r1 => (if r1 = (0 : Int32) then (eX5_noRegister S1 x3 (fun S3 r3 => (if r3 = (0 : Int32) then (vp_in x1 16 ∧ (if (0 : Int32) ≤ (S3 43 x1.toNatClampNeg) then (if x2 < (0 : Int32) then jX5_set_51 K  x1 x2 x3 S3 else (vp_in x1 16 ∧ (vp_in (S3 43 x1.toNatClampNeg) 640 ∧ (if x2 < (S3 33 (S3 43 x1.toNatClampNeg).toNatClampNeg) then jX5_set_56 K  x1 x2 x3 (0 : Int32) S3 else jX5_set_51 K  x1 x2 x3 S3)))) else jX5_set_56 K  x1 x2 x3 (2 : Int32) S3)) else jX5_set_15 K  x1 x2 x3 S3))) else jX5_set_15 K  x1 x2 x3 S1)))
def jX5_get_56 (K : ty_S → Int32 → Prop)  (x1 : Int32) (x2 : Int32) (x3 : Int32) (t0 : Int32) (S : ty_S) : Prop :=
  (if t0 ≤ (0 : Int32) then (vp_in x2 16 ∧ (vp_in (((12 : Int32) * (S 43 x2.toNatClampNeg)) + x3) 7680 ∧ (vp_in x1 16 ∧ (vp_in x1 16 ∧ (eX5_labelOf (ty_st (ty_st S 60 0 t0) 43 x1.toNatClampNeg (S 35 (((12 : Int32) * (S 43 x2.toNatClampNeg)) + x3).toNatClampNeg)) ((ty_st S 43 x1.toNatClampNeg (S 35 (((12 : Int32) * (S 43 x2.toNatClampNeg)) + x3).toNatClampNeg)) 43 x1.toNatClampNeg) (fun S2 r2 => K S2 r2)))))) else K (ty_st S 60 0 t0) (0 : Int32))
def jX5_get_15 (K : ty_S → Int32 → Prop)  (x1 : Int32) (x2 : Int32) (x3 : Int32) (S : ty_S) : Prop :=
  jX5_get_56 K  x1 x2 x3 (1 : Int32) S
def jX5_get_51 (K : ty_S → Int32 → Prop)  (x1 : Int32) (x2 : Int32) (x3 : Int32) (S : ty_S) : Prop :=
  jX5_get_56 K  x1 x2 x3 (3 : Int32) S
def eX5_get (S : ty_S) (x1 : Int32) (x2 : Int32) (x3 : Int32) (K : ty_S → Int32 → Prop) : Prop :=
  (eX5_noRegister S x1 (fun S1 r1 => (if r1 = (0 : Int32) then (eX5_noRegister S1 x2 (fun S3 r3 => (if r3 = (0 : Int32) then (vp_in x2 16 ∧ (if (0 : Int32) ≤ (S3 43 x2.toNatClampNeg) then (if x3 < (0 : Int32) then jX5_get_51 K  x1 x2 x3 S3 else (vp_in x2 16 ∧ (vp_in (S3 43 x2.toNatClampNeg) 640 ∧ (if x3 < (S3 33 (S3 43 x2.toNatClampNeg).toNatClampNeg) then jX5_get_56 K  x1 x2 x3 (0 : Int32) S3 else jX5_get_51 K  x1 x2 x3 S3)))) else jX5_get_56 K  x1 x2 x3 (2 : Int32) S3)) else jX5_get_15 K  x1 x2 x3 S3))) else jX5_get_15 K  x1 x2 x3 S1)))
def jX5_noNumber_49 (K : ty_S → Int32 → Prop)  (t0 : Int32) (S : ty_S) : Prop :=
  (if t0 ≤ (0 : Int32) then K (ty_st S 60 0 t0) (0 : Int32) else K (ty_st S 60 0 t0) (1 : Int32))
def jX5_noNumber_44 (K : ty_S → Int32 → Prop)   (S : ty_S) : Prop :=
  jX5_noNumber_49 K  (3 : Int32) S
def eX5_noNumber (S : ty_S) (x1 : Int32) (x2 : Int32) (K : ty_S → Int32 → Prop) : Prop :=
  (eX5_noRegister S x1 (fun S1 r1 => (if r1 = (0 : Int32) then (vp_in x1 16 ∧ (if (0 : Int32) ≤ (S1 43 x1.toNatClampNeg) then (if x2 < (0 : Int32) then jX5_noNumber_44 K   S1 else (vp_in x1 16 ∧ (vp_in (S1 43 x1.toNatClampNeg) 640 ∧ (if x2 < (S1 34 (S1 43 x1.toNatClampNeg).toNatClampNeg) then jX5_noNumber_49 K  (0 : Int32) S1 else jX5_noNumber_44 K   S1)))) else jX5_noNumber_49 K  (2 : Int32) S1)) else jX5_noNumber_49 K  (1 : Int32) S1)))
def eX5_put (S : ty_S) (x1 : Int32) (x2 : Int32) (x3 : Int32) (K : ty_S → Int32 → Prop) : Prop :=
  (eX5_noNumber S x1 x2 (fun S1 r1 => (if r1 = (0 : Int32) then (vp_in x1 16 ∧ (vp_in (((12 : Int32) * (S1 43 x1.toNatClampNeg)) + x2) 7680 ∧ (vp_in (((12 : Int32) * (S1 43 x1.toNatClampNeg)) + x2) 7680 ∧ K (ty_st S1 36 (((12 : Int32) * (S1 43 x1.toNatClampNeg)) + x2).toNatClampNeg x3) (S1 36 (((12 : Int32) * (S1 43 x1.toNatClampNeg)) + x2).toNatClampNeg)))) else K S1 (0 : Int32))))
def eX5_number (S : ty_S) (x1 : Int32) (x2 : Int32) (K : ty_S → Int32 → Prop) : Prop :=
  (eX5_noNumber S x1 x2 (fun S1 r1 => (if r1 = (0 : Int32) then (vp_in x1 16 ∧ (vp_in (((12 : Int32) * (S1 43 x1.toNatClampNeg)) + x2) 7680 ∧ K S1 (S1 36 (((12 : Int32) * (S1 43 x1.toNatClampNeg)) + x2).toNatClampNeg))) else K S1 (0 : Int32))))
def jX5_thing_35 (K : ty_S → Int32 → Prop)  (x1 : Int32) (x2 : Int32) (t0 : Int32) (S : ty_S) : Prop :=
  (if t0 ≤ (0 : Int32) then (vp_in x1 16 ∧ (if x2 = (0 : Int32) then (vp_in (S 43 x1.toNatClampNeg) 640 ∧ K (ty_st S 60 0 t0) (S 30 (S 43 x1.toNatClampNeg).toNatClampNeg)) else (if x2 = (1 : Int32) then (eX5_place (ty_st S 60 0 t0) (S 43 x1.toNatClampNeg) (fun S3 r3 => K S3 r3)) else (if x2 = (2 : Int32) then (vp_in (S 43 x1.toNatClampNeg) 640 ∧ (eX5_trainOf (ty_st S 60 0 t0) (S 31 (S 43 x1.toNatClampNeg).toNatClampNeg) (fun S2 r2 => (vp_in r2 41 ∧ K S2 (S2 40 r2.toNatClampNeg))))) else (if x2 = (3 : Int32) then (vp_in (S 43 x1.toNatClampNeg) 640 ∧ K (ty_st S 60 0 t0) (S 33 (S 43 x1.toNatClampNeg).toNatClampNeg)) else (vp_in (S 43 x1.toNatClampNeg) 640 ∧ K (ty_st S 60 0 t0) (S 34 (S 43 x1.toNatClampNeg).toNatClampNeg))))))) else K (ty_st S 60 0 t0) (0 : Int32))
def jX5_thing_17 (K : ty_S → Int32 → Prop)  (x1 : Int32) (x2 : Int32) (S : ty_S) : Prop :=
  jX5_thing_35 K  x1 x2 (1 : Int32) S
def eX5_thing (S : ty_S) (x1 : Int32) (x2 : Int32) (K : ty_S → Int32 → Prop) : Prop :=
  (eX5_noRegister S x1 (fun S1 r1 => (if r1 = (0 : Int32) then (if x2 < (0 : Int32) then jX5_thing_17 K  x1 x2 S1 else (if x2 ≤ (4 : Int32) then (vp_in x1 16 ∧ (if (0 : Int32) ≤ (S1 43 x1.toNatClampNeg) then jX5_thing_35 K  x1 x2 (0 : Int32) S1 else jX5_thing_35 K  x1 x2 (2 : Int32) S1)) else jX5_thing_17 K  x1 x2 S1)) else jX5_thing_17 K  x1 x2 S1)))
def jX5_label_49 (K : ty_S → Int32 → Prop)  (x1 : Int32) (x2 : Int32) (t0 : Int32) (S : ty_S) : Prop :=
  (if t0 ≤ (0 : Int32) then (vp_in x1 16 ∧ (vp_in (((12 : Int32) * (S 43 x1.toNatClampNeg)) + x2) 7680 ∧ (eX5_labelOf (ty_st S 60 0 t0) (S 35 (((12 : Int32) * (S 43 x1.toNatClampNeg)) + x2).toNatClampNeg) (fun S2 r2 => K S2 r2)))) else K (ty_st S 60 0 t0) (0 : Int32))
def jX5_label_44 (K : ty_S → Int32 → Prop)  (x1 : Int32) (x2 : Int32) (S : ty_S) : Prop :=
  jX5_label_49 K  x1 x2 (3 : Int32) S
def eX5_label (S : ty_S) (x1 : Int32) (x2 : Int32) (K : ty_S → Int32 → Prop) : Prop :=
  (eX5_noRegister S x1 (fun S1 r1 => (if r1 = (0 : Int32) then (vp_in x1 16 ∧ (if (0 : Int32) ≤ (S1 43 x1.toNatClampNeg) then (if x2 < (0 : Int32) then jX5_label_44 K  x1 x2 S1 else (vp_in x1 16 ∧ (vp_in (S1 43 x1.toNatClampNeg) 640 ∧ (if x2 < (S1 33 (S1 43 x1.toNatClampNeg).toNatClampNeg) then jX5_label_49 K  x1 x2 (0 : Int32) S1 else jX5_label_44 K  x1 x2 S1)))) else jX5_label_49 K  x1 x2 (2 : Int32) S1)) else jX5_label_49 K  x1 x2 (1 : Int32) S1)))
def lX5_train_44 (K : ty_S → Int32 → Prop)  : Nat → Int32 → Int32 → Int32 → Int32 → ty_S → Prop
  | 0, _, _, _, _, _ => False
  | n + 1, x1, x2, x3, x4, S => (vp_in x1 41 ∧ (if (S 41 x1.toNatClampNeg) ≤ x4 then (if x2 = (0 : Int32) then (vp_in x1 41 ∧ K S (S 40 x1.toNatClampNeg)) else (if x2 = (1 : Int32) then (vp_in x1 41 ∧ K S (S 41 x1.toNatClampNeg)) else K S x3)) else (vp_in (((40 : Int32) * x1) + x4) 1640 ∧ (vp_in (S 42 (((40 : Int32) * x1) + x4).toNatClampNeg) 40 ∧ lX5_train_44 K  n x1 x2 (x3 + (S 38 (S 42 (((40 : Int32) * x1) + x4).toNatClampNeg).toNatClampNeg)) (x4 + (1 : Int32)) S))))
def jX5_train_27 (K : ty_S → Int32 → Prop)  (x1 : Int32) (x2 : Int32) (t0 : Int32) (S : ty_S) : Prop :=
  (if t0 ≤ (0 : Int32) then ∃ n9, lX5_train_44 K  n9 x1 x2 (0 : Int32) (0 : Int32) (ty_st S 60 0 t0) else K (ty_st S 60 0 t0) (0 : Int32))
def jX5_train_22 (K : ty_S → Int32 → Prop)  (x1 : Int32) (x2 : Int32) (S : ty_S) : Prop :=
  jX5_train_27 K  x1 x2 (1 : Int32) S
def eX5_train (S : ty_S) (x1 : Int32) (x2 : Int32) (K : ty_S → Int32 → Prop) : Prop :=
  (if x1 < (0 : Int32) then jX5_train_22 K  x1 x2 S else (if (S 50 0) ≤ x1 then jX5_train_22 K  x1 x2 S else (if x2 < (0 : Int32) then jX5_train_22 K  x1 x2 S else (if x2 ≤ (2 : Int32) then jX5_train_27 K  x1 x2 (0 : Int32) S else jX5_train_22 K  x1 x2 S))))
def jX5_car_32 (K : ty_S → Int32 → Prop)  (x1 : Int32) (x2 : Int32) (t0 : Int32) (S : ty_S) : Prop :=
  (if t0 ≤ (0 : Int32) then (vp_in (((40 : Int32) * x1) + x2) 1640 ∧ K (ty_st S 60 0 t0) (S 42 (((40 : Int32) * x1) + x2).toNatClampNeg)) else K (ty_st S 60 0 t0) (0 : Int32))
def jX5_car_27 (K : ty_S → Int32 → Prop)  (x1 : Int32) (x2 : Int32) (S : ty_S) : Prop :=
  jX5_car_32 K  x1 x2 (1 : Int32) S
def eX5_car (S : ty_S) (x1 : Int32) (x2 : Int32) (K : ty_S → Int32 → Prop) : Prop :=
  (if x1 < (0 : Int32) then jX5_car_27 K  x1 x2 S else (if (S 50 0) ≤ x1 then jX5_car_27 K  x1 x2 S else (if x2 < (0 : Int32) then jX5_car_27 K  x1 x2 S else (vp_in x1 41 ∧ (if x2 < (S 41 x1.toNatClampNeg) then jX5_car_32 K  x1 x2 (0 : Int32) S else jX5_car_27 K  x1 x2 S)))))
def lX5_remembers_100 (K : ty_S → Int32 → Prop) (R20 : Int32 → Int32 → Int32 → Int32 → Int32 → ty_S → Prop) (R65 : Int32 → Int32 → Int32 → Int32 → Int32 → Int32 → Int32 → ty_S → Prop) : Nat → Int32 → Int32 → Int32 → Int32 → Int32 → Int32 → Int32 → Int32 → Int32 → ty_S → Prop
  | 0, _, _, _, _, _, _, _, _, _, _ => False
  | n + 1, x1, x2, x3, x4, x5, x6, x7, x8, x9, S => (vp_in x8 640 ∧ (if (S 33 x8.toNatClampNeg) ≤ x9 then R65 x1 x2 x3 x4 x5 x6 (x7 + (1 : Int32)) S else (vp_in (((12 : Int32) * x8) + x9) 7680 ∧ (if (S 35 (((12 : Int32) * x8) + x9).toNatClampNeg) < (0 : Int32) then lX5_remembers_100 K R20 R65 n x1 x2 x3 x4 x5 x6 x7 x8 (x9 + (1 : Int32)) S else (vp_in (S 35 (((12 : Int32) * x8) + x9).toNatClampNeg) 640 ∧ (if (S 31 (S 35 (((12 : Int32) * x8) + x9).toNatClampNeg).toNatClampNeg) = x1 then (if x3 = x2 then (eX5_referencePlace S x8 x9 (fun S3 r3 => K S3 r3)) else lX5_remembers_100 K R20 R65 n x1 x2 (x3 + (1 : Int32)) x4 x5 x6 x7 x8 (x9 + (1 : Int32)) S) else lX5_remembers_100 K R20 R65 n x1 x2 x3 x4 x5 x6 x7 x8 (x9 + (1 : Int32)) S))))))
def lX5_remembers_65 (K : ty_S → Int32 → Prop) (R20 : Int32 → Int32 → Int32 → Int32 → Int32 → ty_S → Prop) : Nat → Int32 → Int32 → Int32 → Int32 → Int32 → Int32 → Int32 → ty_S → Prop
  | 0, _, _, _, _, _, _, _, _ => False
  | n + 1, x1, x2, x3, x4, x5, x6, x7, S => (if x6 = (0 : Int32) then R20 x1 x2 x3 x4 (x5 + (1 : Int32)) S else (vp_in x5 40 ∧ (if (S 38 x5.toNatClampNeg) ≤ x7 then R20 x1 x2 x3 x4 (x5 + (1 : Int32)) S else (vp_in (((16 : Int32) * x5) + x7) 640 ∧ ∃ n9, lX5_remembers_100 K R20 (fun a0 a1 a2 a3 a4 a5 a6 S9 => lX5_remembers_65 K R20 n a0 a1 a2 a3 a4 a5 a6 S9) n9 x1 x2 x3 x4 x5 x6 x7 (S 39 (((16 : Int32) * x5) + x7).toNatClampNeg) (0 : Int32) S))))
def lX5_remembers_20 (K : ty_S → Int32 → Prop)  : Nat → Int32 → Int32 → Int32 → Int32 → Int32 → ty_S → Prop
  | 0, _, _, _, _, _, _ => False
  | n + 1, x1, x2, x3, x4, x5, S => (if (40 : Int32) ≤ x5 then K S ((-1 : Int32) - x3) else (if x4 = (0 : Int32) then K S ((-1 : Int32) - x3) else (eX5_trainOf S x5 (fun S2 r2 => (if r2 < (0 : Int32) then ∃ n9, lX5_remembers_65 K (fun a0 a1 a2 a3 a4 S9 => lX5_remembers_20 K  n a0 a1 a2 a3 a4 S9) n9 x1 x2 x3 x4 x5 (0 : Int32) (0 : Int32) S2 else (eX5_rank S2 x5 (fun S4 r4 => (eX5_rank S4 x1 (fun S5 r5 => (if r4 ≤ r5 then ∃ n9, lX5_remembers_65 K (fun a0 a1 a2 a3 a4 S9 => lX5_remembers_20 K  n a0 a1 a2 a3 a4 S9) n9 x1 x2 x3 x4 x5 (0 : Int32) (0 : Int32) S5 else ∃ n9, lX5_remembers_65 K (fun a0 a1 a2 a3 a4 S9 => lX5_remembers_20 K  n a0 a1 a2 a3 a4 S9) n9 x1 x2 x3 x4 x5 (1 : Int32) (0 : Int32) S5))))))))))
def eX5_remembers (S : ty_S) (x1 : Int32) (x2 : Int32) (K : ty_S → Int32 → Prop) : Prop :=
  (eX5_trainOf S x1 (fun S1 r1 => (if r1 < (0 : Int32) then ∃ n9, lX5_remembers_20 K  n9 x1 x2 (0 : Int32) (0 : Int32) (0 : Int32) S1 else ∃ n9, lX5_remembers_20 K  n9 x1 x2 (0 : Int32) (1 : Int32) (0 : Int32) S1)))
def jX5_about_25 (K : ty_S → Int32 → Prop)  (x1 : Int32) (x2 : Int32) (t0 : Int32) (S : ty_S) : Prop :=
  (if t0 ≤ (0 : Int32) then (eX5_trainOf (ty_st S 60 0 t0) x1 (fun S1 r1 => (if x2 = (0 : Int32) then (if (0 : Int32) ≤ r1 then (vp_in r1 41 ∧ K S1 (S1 40 r1.toNatClampNeg)) else K S1 (0 : Int32)) else (if x2 = (1 : Int32) then (vp_in x1 40 ∧ K S1 ((32 : Int32) - (S1 37 x1.toNatClampNeg))) else (if x2 = (2 : Int32) then (vp_in x1 40 ∧ K S1 (S1 38 x1.toNatClampNeg)) else (if x2 = (3 : Int32) then (eX5_remembers S1 x1 (-1 : Int32) (fun S2 r2 => K S2 ((-1 : Int32) - r2))) else (vp_in x1 40 ∧ (if (S1 38 x1.toNatClampNeg) = (0 : Int32) then K S1 (0 : Int32) else (vp_in x1 40 ∧ (vp_in ((((16 : Int32) * x1) + (S1 38 x1.toNatClampNeg)) - (1 : Int32)) 640 ∧ (vp_in (S1 39 ((((16 : Int32) * x1) + (S1 38 x1.toNatClampNeg)) - (1 : Int32)).toNatClampNeg) 640 ∧ K S1 (S1 30 (S1 39 ((((16 : Int32) * x1) + (S1 38 x1.toNatClampNeg)) - (1 : Int32)).toNatClampNeg).toNatClampNeg)))))))))))) else K (ty_st S 60 0 t0) (0 : Int32))
def jX5_about_20 (K : ty_S → Int32 → Prop)  (x1 : Int32) (x2 : Int32) (S : ty_S) : Prop :=
  jX5_about_25 K  x1 x2 (1 : Int32) S
def eX5_about (S : ty_S) (x1 : Int32) (x2 : Int32) (K : ty_S → Int32 → Prop) : Prop :=
  (if x1 < (0 : Int32) then jX5_about_20 K  x1 x2 S else (if (40 : Int32) ≤ x1 then jX5_about_20 K  x1 x2 S else (if x2 < (0 : Int32) then jX5_about_20 K  x1 x2 S else (if x2 ≤ (4 : Int32) then jX5_about_25 K  x1 x2 (0 : Int32) S else jX5_about_20 K  x1 x2 S))))
def jX5_remembered_30 (K : ty_S → Int32 → Prop)   (S : ty_S) : Prop :=
  (if (S 60 0) ≤ (0 : Int32) then K S (-1 : Int32) else K S (0 : Int32))
def jX5_remembered_16 (K : ty_S → Int32 → Prop)  (x1 : Int32) (x2 : Int32) (t0 : Int32) (S : ty_S) : Prop :=
  (if (0 : Int32) < t0 then jX5_remembered_30 K   (ty_st S 60 0 t0) else (if (0 : Int32) ≤ x2 then (eX5_remembers (ty_st S 60 0 t0) x1 x2 (fun S1 r1 => (if (0 : Int32) ≤ r1 then K S1 r1 else K S1 (-1 : Int32)))) else jX5_remembered_30 K   (ty_st S 60 0 t0)))
def jX5_remembered_11 (K : ty_S → Int32 → Prop)  (x1 : Int32) (x2 : Int32) (S : ty_S) : Prop :=
  jX5_remembered_16 K  x1 x2 (1 : Int32) S
def eX5_remembered (S : ty_S) (x1 : Int32) (x2 : Int32) (K : ty_S → Int32 → Prop) : Prop :=
  (if x1 < (0 : Int32) then jX5_remembered_11 K  x1 x2 S else (if x1 < (40 : Int32) then jX5_remembered_16 K  x1 x2 (0 : Int32) S else jX5_remembered_11 K  x1 x2 S))
def jX5_word_134 (K : ty_S → Int32 → Prop)  (x5 : Int32) (x6 : Int32) (x7 : Int32) (t0 : Int32) (S : ty_S) : Prop :=
  (if x6 = (0 : Int32) then (vp_in x5 640 ∧ K S (S 30 x5.toNatClampNeg)) else (if x6 = (1 : Int32) then (vp_in x5 640 ∧ (vp_in x5 640 ∧ K S ((S 33 x5.toNatClampNeg) + ((16 : Int32) * (S 34 x5.toNatClampNeg))))) else (vp_in x5 640 ∧ (if x7 < (S 33 x5.toNatClampNeg) then (if (0 : Int32) ≤ t0 then (eX5_place S t0 (fun S2 r2 => K S2 r2)) else K S (-1 : Int32)) else (vp_in x5 640 ∧ (vp_in ((((12 : Int32) * x5) + x7) - (S 33 x5.toNatClampNeg)) 7680 ∧ K S (S 36 ((((12 : Int32) * x5) + x7) - (S 33 x5.toNatClampNeg)).toNatClampNeg)))))))
def jX5_word_133 (K : ty_S → Int32 → Prop)  (x5 : Int32) (x6 : Int32) (x7 : Int32) (S : ty_S) : Prop :=
  jX5_word_134 K  x5 x6 x7 (-1 : Int32) S
def lX5_word_42 (K : ty_S → Int32 → Prop)  : Nat → Int32 → Int32 → Int32 → ty_S → Prop
  | 0, _, _, _, _ => False
  | n + 1, x2, x3, x4, S => (vp_in x2 40 ∧ (if (S 38 x2.toNatClampNeg) ≤ x4 then K S (0 : Int32) else (vp_in (((16 : Int32) * x2) + x4) 640 ∧ (vp_in (S 39 (((16 : Int32) * x2) + x4).toNatClampNeg) 640 ∧ (if (x3 - (S 32 (S 39 (((16 : Int32) * x2) + x4).toNatClampNeg).toNatClampNeg)) < (0 : Int32) then lX5_word_42 K  n x2 x3 (x4 + (1 : Int32)) S else (eX5_wordsOf S (S 39 (((16 : Int32) * x2) + x4).toNatClampNeg) (fun S1 r1 => (if r1 ≤ (x3 - (S 32 (S 39 (((16 : Int32) * x2) + x4).toNatClampNeg).toNatClampNeg)) then lX5_word_42 K  n x2 x3 (x4 + (1 : Int32)) S1 else (if ((x3 - (S 32 (S 39 (((16 : Int32) * x2) + x4).toNatClampNeg).toNatClampNeg)) - (2 : Int32)) < (0 : Int32) then jX5_word_133 K  (S 39 (((16 : Int32) * x2) + x4).toNatClampNeg) (x3 - (S 32 (S 39 (((16 : Int32) * x2) + x4).toNatClampNeg).toNatClampNeg)) ((x3 - (S 32 (S 39 (((16 : Int32) * x2) + x4).toNatClampNeg).toNatClampNeg)) - (2 : Int32)) S1 else (vp_in (S 39 (((16 : Int32) * x2) + x4).toNatClampNeg) 640 ∧ (if (S1 33 (S 39 (((16 : Int32) * x2) + x4).toNatClampNeg).toNatClampNeg) ≤ ((x3 - (S 32 (S 39 (((16 : Int32) * x2) + x4).toNatClampNeg).toNatClampNeg)) - (2 : Int32)) then jX5_word_133 K  (S 39 (((16 : Int32) * x2) + x4).toNatClampNeg) (x3 - (S 32 (S 39 (((16 : Int32) * x2) + x4).toNatClampNeg).toNatClampNeg)) ((x3 - (S 32 (S 39 (((16 : Int32) * x2) + x4).toNatClampNeg).toNatClampNeg)) - (2 : Int32)) S1 else (vp_in (((12 : Int32) * (S 39 (((16 : Int32) * x2) + x4).toNatClampNeg)) + ((x3 - (S 32 (S 39 (((16 : Int32) * x2) + x4).toNatClampNeg).toNatClampNeg)) - (2 : Int32))) 7680 ∧ jX5_word_134 K  (S 39 (((16 : Int32) * x2) + x4).toNatClampNeg) (x3 - (S 32 (S 39 (((16 : Int32) * x2) + x4).toNatClampNeg).toNatClampNeg)) ((x3 - (S 32 (S 39 (((16 : Int32) * x2) + x4).toNatClampNeg).toNatClampNeg)) - (2 : Int32)) (S1 35 (((12 : Int32) * (S 39 (((16 : Int32) * x2) + x4).toNatClampNeg)) + ((x3 - (S 32 (S 39 (((16 : Int32) * x2) + x4).toNatClampNeg).toNatClampNeg)) - (2 : Int32))).toNatClampNeg) S1))))))))))))
def jX5_word_17 (K : ty_S → Int32 → Prop)  (x1 : Int32) (t0 : Int32) (S : ty_S) : Prop :=
  (if t0 ≤ (0 : Int32) then ∃ n9, lX5_word_42 K  n9 (x1 / (32 : Int32)) (x1 - x1 / (32 : Int32) * (32 : Int32)) (0 : Int32) (ty_st S 60 0 t0) else K (ty_st S 60 0 t0) (0 : Int32))
def jX5_word_12 (K : ty_S → Int32 → Prop)  (x1 : Int32) (S : ty_S) : Prop :=
  jX5_word_17 K  x1 (1 : Int32) S
def eX5_word (S : ty_S) (x1 : Int32) (K : ty_S → Int32 → Prop) : Prop :=
  (if x1 < (0 : Int32) then jX5_word_12 K  x1 S else (if x1 < (1280 : Int32) then jX5_word_17 K  x1 (0 : Int32) S else jX5_word_12 K  x1 S))
def lX5_reached_89 (K : ty_S → Int32 → Prop) (R82 : Int32 → Int32 → ty_S → Prop) : Nat → Int32 → Int32 → Int32 → ty_S → Prop
  | 0, _, _, _, _ => False
  | n + 1, x1, x2, x3, S => (vp_in x2 640 ∧ (vp_in (S 44 x2.toNatClampNeg) 640 ∧ (if (S 33 (S 44 x2.toNatClampNeg).toNatClampNeg) ≤ x3 then R82 x1 (x2 + (1 : Int32)) S else (vp_in x2 640 ∧ (vp_in (((12 : Int32) * (S 44 x2.toNatClampNeg)) + x3) 7680 ∧ (if (S 35 (((12 : Int32) * (S 44 x2.toNatClampNeg)) + x3).toNatClampNeg) < (0 : Int32) then lX5_reached_89 K R82 n x1 x2 (x3 + (1 : Int32)) S else (vp_in (S 35 (((12 : Int32) * (S 44 x2.toNatClampNeg)) + x3).toNatClampNeg) 640 ∧ (if (S 48 (S 35 (((12 : Int32) * (S 44 x2.toNatClampNeg)) + x3).toNatClampNeg).toNatClampNeg) = (0 : Int32) then (vp_in (S 35 (((12 : Int32) * (S 44 x2.toNatClampNeg)) + x3).toNatClampNeg) 640 ∧ (vp_in x1 640 ∧ lX5_reached_89 K R82 n (x1 + (1 : Int32)) x2 (x3 + (1 : Int32)) (ty_st (ty_st S 48 (S 35 (((12 : Int32) * (S 44 x2.toNatClampNeg)) + x3).toNatClampNeg).toNatClampNeg (1 : Int32)) 44 x1.toNatClampNeg (S 35 (((12 : Int32) * (S 44 x2.toNatClampNeg)) + x3).toNatClampNeg)))) else lX5_reached_89 K R82 n x1 x2 (x3 + (1 : Int32)) S))))))))
def lX5_reached_82 (K : ty_S → Int32 → Prop)  : Nat → Int32 → Int32 → ty_S → Prop
  | 0, _, _, _ => False
  | n + 1, x1, x2, S => (if x1 ≤ x2 then K S x1 else ∃ n9, lX5_reached_89 K (fun a0 a1 S9 => lX5_reached_82 K  n a0 a1 S9) n9 x1 x2 (0 : Int32) S)
def lX5_reached_31 (K : ty_S → Int32 → Prop)  : Nat → Int32 → Int32 → ty_S → Prop
  | 0, _, _, _ => False
  | n + 1, x1, x2, S => (if (16 : Int32) ≤ x2 then ∃ n9, lX5_reached_82 K  n9 x1 (0 : Int32) S else (vp_in x2 16 ∧ (if (S 43 x2.toNatClampNeg) < (0 : Int32) then lX5_reached_31 K  n x1 (x2 + (1 : Int32)) S else (vp_in (S 43 x2.toNatClampNeg) 640 ∧ (if (S 48 (S 43 x2.toNatClampNeg).toNatClampNeg) = (0 : Int32) then (vp_in (S 43 x2.toNatClampNeg) 640 ∧ (vp_in x1 640 ∧ lX5_reached_31 K  n (x1 + (1 : Int32)) (x2 + (1 : Int32)) (ty_st (ty_st S 48 (S 43 x2.toNatClampNeg).toNatClampNeg (1 : Int32)) 44 x1.toNatClampNeg (S 43 x2.toNatClampNeg)))) else lX5_reached_31 K  n x1 (x2 + (1 : Int32)) S)))))
def lX5_reached_9 (K : ty_S → Int32 → Prop)  : Nat → Int32 → Int32 → ty_S → Prop
  | 0, _, _, _ => False
  | n + 1, x1, x2, S => (if (640 : Int32) ≤ x2 then ∃ n9, lX5_reached_31 K  n9 x1 (0 : Int32) S else (vp_in x2 640 ∧ lX5_reached_9 K  n x1 (x2 + (1 : Int32)) (ty_st S 48 x2.toNatClampNeg (0 : Int32))))
def eX5_reached (S : ty_S)  (K : ty_S → Int32 → Prop) : Prop :=
  ∃ n9, lX5_reached_9 K  n9 (0 : Int32) (0 : Int32) (ty_st S 60 0 (0 : Int32))
def lX5_told_32 (K : ty_S → Int32 → Prop)  : Nat → Int32 → Int32 → Int32 → ty_S → Prop
  | 0, _, _, _, _ => False
  | n + 1, x1, x2, x3, S => (if (640 : Int32) ≤ x3 then (if x1 = (0 : Int32) then K S (S 50 0) else (if x1 = (1 : Int32) then (eX5_freeCars S  (fun S1 r1 => K S1 r1)) else (if x1 = (2 : Int32) then K S x2 else (if x1 = (3 : Int32) then K S (S 52 0) else (if x1 = (4 : Int32) then K S (S 53 0) else (if x1 = (5 : Int32) then K S (S 54 0) else (if x1 = (6 : Int32) then K S (S 55 0) else (if x1 = (7 : Int32) then K S (S 56 0) else (if x1 = (8 : Int32) then K S (S 57 0) else K S (S 58 0)))))))))) else (vp_in x3 640 ∧ (if (S 30 x3.toNatClampNeg) ≤ (0 : Int32) then lX5_told_32 K  n x1 (x2 + (0 : Int32)) (x3 + (1 : Int32)) S else lX5_told_32 K  n x1 (x2 + (1 : Int32)) (x3 + (1 : Int32)) S)))
def jX5_told_16 (K : ty_S → Int32 → Prop)  (x1 : Int32) (t0 : Int32) (S : ty_S) : Prop :=
  (if t0 ≤ (0 : Int32) then ∃ n9, lX5_told_32 K  n9 x1 (0 : Int32) (0 : Int32) (ty_st S 60 0 t0) else K (ty_st S 60 0 t0) (0 : Int32))
def jX5_told_11 (K : ty_S → Int32 → Prop)  (x1 : Int32) (S : ty_S) : Prop :=
  jX5_told_16 K  x1 (1 : Int32) S
def eX5_told (S : ty_S) (x1 : Int32) (K : ty_S → Int32 → Prop) : Prop :=
  (if x1 < (0 : Int32) then jX5_told_11 K  x1 S else (if x1 ≤ (9 : Int32) then jX5_told_16 K  x1 (0 : Int32) S else jX5_told_11 K  x1 S))
def eX4_length (S : ty_S) (x1 : Int32) (K : ty_S → Int32 → Prop) (KX : Nat → ty_S → Prop) : Prop :=
  (if x1 < (1 : Int32) then KX 2 S else (if x1 ≤ (40 : Int32) then K (ty_st S 23 0 x1) (S 23 0) else KX 2 S))
def eX4_needRegister (S : ty_S) (x0 : Int32) (K : ty_S → Prop) (KX : Nat → ty_S → Prop) : Prop :=
  (if x0 < (0 : Int32) then KX 0 S else (if x0 < (16 : Int32) then K S else KX 0 S))
def jX4_make_93 (K : ty_S → Int32 → Prop) (KX : Nat → ty_S → Prop)  (x1 : Int32) (x2 : Int32) (x3 : Int32) (x4 : Int32) (S : ty_S) : Prop :=
  (eX3_takesNew S x4 (fun S4 r4 => (if r4 = (0 : Int32) then K S4 (-1 : Int32) else (eX3_carForNew S4 x4 (S4 23 0) (fun S5 r5 => (eX0_load (ty_st S5 24 0 ((S5 24 0) + (1 : Int32))) r5 ((S5 24 0) + (1 : Int32)) x2 x3 (fun S6 r6 => (vp_in x1 16 ∧ K (ty_st S6 7 x1.toNatClampNeg r6) (S6 24 0)))))))))
def lX4_make_50 (K : ty_S → Int32 → Prop) (KX : Nat → ty_S → Prop)  : Nat → Int32 → Int32 → Int32 → Int32 → Int32 → Int32 → ty_S → Prop
  | 0, _, _, _, _, _, _, _ => False
  | n + 1, x1, x2, x3, x4, x5, x6, S => (if x5 ≤ x6 then jX4_make_93 K KX  x1 x2 x3 x4 S else (eX3_takesNew S x4 (fun S7 r7 => (if r7 = (0 : Int32) then (eX3_canStep S7  (fun S8 r8 => (if r8 = (0 : Int32) then jX4_make_93 K KX  x1 x2 x3 x4 S8 else (eX3_doStep S8  (fun S9 r9 => lX4_make_50 K KX  n x1 x2 x3 x4 x5 (x6 + (1 : Int32)) S9))))) else jX4_make_93 K KX  x1 x2 x3 x4 S7))))
def eX4_make (S : ty_S) (x1 : Int32) (x2 : Int32) (x3 : Int32) (K : ty_S → Int32 → Prop) (KX : Nat → ty_S → Prop) : Prop :=
  (eX4_needRegister S x1 (fun S1 => (eX4_isAmount S1 x2 (fun S2 r2 => (if r2 = (0 : Int32) then KX 2 S2 else (eX4_isAmount S2 x3 (fun S3 r3 => (if r3 = (0 : Int32) then KX 2 S3 else ∃ n9, lX4_make_50 K KX  n9 x1 x2 x3 (((2 : Int32) + x2) + x3) (S3 13 0) (0 : Int32) S3))))))) KX)
def eX4_copy (S : ty_S) (x1 : Int32) (x2 : Int32) (K : ty_S → Int32 → Prop) (KX : Nat → ty_S → Prop) : Prop :=
  (eX4_needRegister S x1 (fun S1 => (eX4_needRegister S1 x2 (fun S2 => (vp_in x2 16 ∧ (vp_in x1 16 ∧ (vp_in x1 16 ∧ (eX0_labelOf (ty_st S2 7 x1.toNatClampNeg (S2 7 x2.toNatClampNeg)) ((ty_st S2 7 x1.toNatClampNeg (S2 7 x2.toNatClampNeg)) 7 x1.toNatClampNeg) (fun S3 r3 => K S3 r3)))))) KX)) KX)
def eX4_drop (S : ty_S) (x1 : Int32) (K : ty_S → Int32 → Prop) (KX : Nat → ty_S → Prop) : Prop :=
  (eX4_needRegister S x1 (fun S1 => (vp_in x1 16 ∧ (eX0_labelOf S1 (S1 7 x1.toNatClampNeg) (fun S2 r2 => (vp_in x1 16 ∧ K (ty_st S2 7 x1.toNatClampNeg (-1 : Int32)) r2))))) KX)
def eX4_heldThing (S : ty_S) (x1 : Int32) (K : ty_S → Int32 → Prop) (KX : Nat → ty_S → Prop) : Prop :=
  (eX4_needRegister S x1 (fun S1 => (vp_in x1 16 ∧ (if (S1 7 x1.toNatClampNeg) = (-1 : Int32) then KX 1 S1 else K S1 (S1 7 x1.toNatClampNeg)))) KX)
def eX4_placeOfReference (S : ty_S) (x1 : Int32) (x2 : Int32) (K : ty_S → Int32 → Prop) (KX : Nat → ty_S → Prop) : Prop :=
  (eX4_heldThing S x1 (fun S1 r1 => (if x2 < (0 : Int32) then KX 2 S1 else (eX0_references S1 r1 (fun S2 r2 => (if x2 < r2 then K S2 ((r1 + (2 : Int32)) + x2) else KX 2 S2))))) KX)
def eX4_set (S : ty_S) (x1 : Int32) (x2 : Int32) (x3 : Int32) (K : ty_S → Int32 → Prop) (KX : Nat → ty_S → Prop) : Prop :=
  (eX4_needRegister S x3 (fun S1 => (eX4_placeOfReference S1 x1 x2 (fun S2 r2 => (eX0_at S2 r2 (fun S3 r3 => (eX0_labelOf S3 r3 (fun S4 r4 => (vp_in x3 16 ∧ (eX0_write S4 r2 (S4 7 x3.toNatClampNeg) (fun S5 => K S5 r4)))))))) KX)) KX)
def eX4_get (S : ty_S) (x1 : Int32) (x2 : Int32) (x3 : Int32) (K : ty_S → Int32 → Prop) (KX : Nat → ty_S → Prop) : Prop :=
  (eX4_needRegister S x1 (fun S1 => (eX4_placeOfReference S1 x2 x3 (fun S2 r2 => (eX0_at S2 r2 (fun S3 r3 => (vp_in x1 16 ∧ (vp_in x1 16 ∧ (eX0_labelOf (ty_st S3 7 x1.toNatClampNeg r3) ((ty_st S3 7 x1.toNatClampNeg r3) 7 x1.toNatClampNeg) (fun S4 r4 => K S4 r4))))))) KX)) KX)
def eX4_placeOfNumber (S : ty_S) (x1 : Int32) (x2 : Int32) (K : ty_S → Int32 → Prop) (KX : Nat → ty_S → Prop) : Prop :=
  (eX4_heldThing S x1 (fun S1 r1 => (if x2 < (0 : Int32) then KX 2 S1 else (eX0_numbers S1 r1 (fun S2 r2 => (if x2 < r2 then (eX0_references S2 r1 (fun S3 r3 => K S3 (((r1 + (2 : Int32)) + r3) + x2))) else KX 2 S2))))) KX)
def eX4_put (S : ty_S) (x1 : Int32) (x2 : Int32) (x3 : Int32) (K : ty_S → Int32 → Prop) (KX : Nat → ty_S → Prop) : Prop :=
  (eX4_placeOfNumber S x1 x2 (fun S1 r1 => (eX0_at S1 r1 (fun S2 r2 => (eX0_write S2 r1 x3 (fun S3 => K S3 r2))))) KX)
def eX4_number (S : ty_S) (x1 : Int32) (x2 : Int32) (K : ty_S → Int32 → Prop) (KX : Nat → ty_S → Prop) : Prop :=
  (eX4_placeOfNumber S x1 x2 (fun S1 r1 => (eX0_at S1 r1 (fun S2 r2 => K S2 r2))) KX)
def lX4_collect_44 (K : ty_S → Int32 → Prop) (KX : Nat → ty_S → Prop)  : Nat → Int32 → Int32 → Int32 → ty_S → Prop
  | 0, _, _, _, _ => False
  | n + 1, x2, x3, x4, S => (if x2 ≤ x4 then K S x3 else (eX3_canStep S  (fun S1 r1 => (if r1 = (0 : Int32) then K S1 x3 else (eX3_doStep S1  (fun S2 r2 => lX4_collect_44 K KX  n x2 (x3 + r2) (x4 + (1 : Int32)) S2))))))
def eX4_collect (S : ty_S) (x1 : Int32) (K : ty_S → Int32 → Prop) (KX : Nat → ty_S → Prop) : Prop :=
  (if x1 < (0 : Int32) then KX 2 S else (if x1 ≤ (100 : Int32) then (if x1 = (0 : Int32) then ∃ n9, lX4_collect_44 K KX  n9 (S 13 0) (0 : Int32) (0 : Int32) S else ∃ n9, lX4_collect_44 K KX  n9 x1 (0 : Int32) (0 : Int32) S) else KX 2 S))
def eX4_needWhat (S : ty_S) (x0 : Int32) (x1 : Int32) (K : ty_S → Prop) (KX : Nat → ty_S → Prop) : Prop :=
  (if x0 < (0 : Int32) then KX 0 S else (if x0 ≤ x1 then K S else KX 0 S))
def eX4_thing (S : ty_S) (x1 : Int32) (x2 : Int32) (K : ty_S → Int32 → Prop) (KX : Nat → ty_S → Prop) : Prop :=
  (eX4_needWhat S x2 (4 : Int32) (fun S1 => (eX4_heldThing S1 x1 (fun S2 r2 => (if x2 = (0 : Int32) then (eX0_labelOf S2 r2 (fun S3 r3 => K S3 r3)) else (if x2 = (1 : Int32) then K S2 r2 else (if x2 = (2 : Int32) then (eX4_carOf S2 r2 (fun S4 r4 => (eX1_trainOf S4 r4 (fun S5 r5 => K S5 r5)))) else (if x2 = (3 : Int32) then (eX0_references S2 r2 (fun S6 r6 => K S6 r6)) else (eX0_numbers S2 r2 (fun S7 r7 => K S7 r7))))))) KX)) KX)
def eX4_label (S : ty_S) (x1 : Int32) (x2 : Int32) (K : ty_S → Int32 → Prop) (KX : Nat → ty_S → Prop) : Prop :=
  (eX4_placeOfReference S x1 x2 (fun S1 r1 => (eX0_at S1 r1 (fun S2 r2 => (eX0_labelOf S2 r2 (fun S3 r3 => K S3 r3))))) KX)
def eX4_startOfTrain (S : ty_S) (x1 : Int32) (K : ty_S → Int32 → Prop) (KX : Nat → ty_S → Prop) : Prop :=
  (eX1_startOf S x1 (fun S1 r1 => (if r1 = (-1 : Int32) then KX 0 S1 else K S1 r1)))
def eX4_train (S : ty_S) (x1 : Int32) (x2 : Int32) (K : ty_S → Int32 → Prop) (KX : Nat → ty_S → Prop) : Prop :=
  (eX4_needWhat S x2 (2 : Int32) (fun S1 => (eX4_startOfTrain S1 x1 (fun S2 r2 => (eX1_carAt S2 r2 (fun S3 r3 => (eX1_trainOf S3 r3 (fun S4 r4 => (eX1_carsOf S4 r4 (fun S5 r5 => (if x2 = (0 : Int32) then K S5 r4 else (if x2 = (1 : Int32) then K S5 r5 else (eX3_thingsIn S5 r2 r5 (fun S6 r6 => K S6 r6))))))))))) KX)) KX)
def eX4_car (S : ty_S) (x1 : Int32) (x2 : Int32) (K : ty_S → Int32 → Prop) (KX : Nat → ty_S → Prop) : Prop :=
  (eX4_startOfTrain S x1 (fun S1 r1 => (eX1_carAt S1 r1 (fun S2 r2 => (eX1_trainOf S2 r2 (fun S3 r3 => (if x2 < (0 : Int32) then KX 0 S3 else (eX1_carsOf S3 r3 (fun S4 r4 => (if x2 < r4 then (eX1_carAt S4 (r1 + x2) (fun S5 r5 => K S5 r5)) else KX 0 S4))))))))) KX)
def eX4_needCar (S : ty_S) (x0 : Int32) (K : ty_S → Prop) (KX : Nat → ty_S → Prop) : Prop :=
  (eX4_isCar S x0 (fun S1 r1 => (if r1 = (0 : Int32) then KX 0 S1 else K S1)))
def eX4_about (S : ty_S) (x1 : Int32) (x2 : Int32) (K : ty_S → Int32 → Prop) (KX : Nat → ty_S → Prop) : Prop :=
  (eX4_needCar S x1 (fun S1 => (eX4_needWhat S1 x2 (4 : Int32) (fun S2 => (if x2 = (0 : Int32) then (eX1_trainOf S2 x1 (fun S3 r3 => K S3 r3)) else (if x2 = (1 : Int32) then (eX0_room S2 x1 (fun S4 r4 => K S4 r4)) else (if x2 = (2 : Int32) then (eX0_things S2 x1 (fun S5 r5 => K S5 r5)) else (if x2 = (3 : Int32) then (eX3_countRemembered S2 x1 (fun S6 r6 => K S6 r6)) else (eX0_lastLabel S2 x1 (fun S7 r7 => K S7 r7))))))) KX)) KX)
def jX4_remembered_61 (K : ty_S → Int32 → Prop) (KX : Nat → ty_S → Prop)  (x3 : Int32) (S : ty_S) : Prop :=
  (if (1280 : Int32) ≤ x3 then K S (-1 : Int32) else K S x3)
def lX4_remembered_30 (K : ty_S → Int32 → Prop) (KX : Nat → ty_S → Prop)  : Nat → Int32 → Int32 → Int32 → Int32 → ty_S → Prop
  | 0, _, _, _, _, _ => False
  | n + 1, x1, x2, x3, x4, S => (if x2 ≤ x4 then jX4_remembered_61 K KX  x3 S else (if (1280 : Int32) ≤ x3 then jX4_remembered_61 K KX  x3 S else (eX3_nextRemembered S x1 (x3 + (1 : Int32)) (fun S3 r3 => lX4_remembered_30 K KX  n x1 x2 r3 (x4 + (1 : Int32)) S3))))
def eX4_remembered (S : ty_S) (x1 : Int32) (x2 : Int32) (K : ty_S → Int32 → Prop) (KX : Nat → ty_S → Prop) : Prop :=
  (eX4_needCar S x1 (fun S1 => (if x2 < (0 : Int32) then K S1 (-1 : Int32) else (if x2 < (1280 : Int32) then (eX3_nextRemembered S1 x1 (0 : Int32) (fun S2 r2 => ∃ n9, lX4_remembered_30 K KX  n9 x1 x2 r2 (0 : Int32) S2)) else K S1 (-1 : Int32)))) KX)
def eX4_word (S : ty_S) (x1 : Int32) (K : ty_S → Int32 → Prop) (KX : Nat → ty_S → Prop) : Prop :=
  (eX4_isPlace S x1 (fun S1 r1 => (if r1 = (0 : Int32) then KX 0 S1 else (eX0_at S1 x1 (fun S2 r2 => K S2 r2)))))
def eX4_told (S : ty_S) (x1 : Int32) (K : ty_S → Int32 → Prop) (KX : Nat → ty_S → Prop) : Prop :=
  (eX4_needWhat S x1 (9 : Int32) (fun S1 => (if x1 = (0 : Int32) then (eX1_countTrains S1  (fun S2 r2 => K S2 r2)) else (if x1 = (1 : Int32) then (eX1_countFree S1  (fun S3 r3 => K S3 r3)) else (if x1 = (2 : Int32) then (eX3_thingsIn S1 (0 : Int32) (S1 13 0) (fun S4 r4 => K S4 r4)) else (if x1 = (3 : Int32) then K S1 (S1 15 0) else (if x1 = (4 : Int32) then K S1 (S1 16 0) else (if x1 = (5 : Int32) then K S1 (S1 17 0) else (if x1 = (6 : Int32) then K S1 (S1 18 0) else (if x1 = (7 : Int32) then K S1 (S1 19 0) else (if x1 = (8 : Int32) then K S1 (S1 14 0) else K S1 (S1 24 0))))))))))) KX)
def eL_length (S : ty_S) (x1 : Int32) (K : ty_S → Int32 → Prop) : Prop :=
  (eX4_length S x1 (fun S1 r1 => (vp_in (0 : Int32) 1 ∧ K (ty_st S1 12 (0 : Int32).toNatClampNeg r1) (0 : Int32))) (fun k9 S9 => if k9 = 0 then False else if k9 = 1 then False else if k9 = 2 then K S9 (1 : Int32) else False))
def eL_make (S : ty_S) (x1 : Int32) (x2 : Int32) (x3 : Int32) (K : ty_S → Int32 → Prop) : Prop :=
  (eX4_make S x1 x2 x3 (fun S1 r1 => (vp_in (0 : Int32) 1 ∧ K (ty_st S1 12 (0 : Int32).toNatClampNeg r1) (0 : Int32))) (fun k9 S9 => if k9 = 0 then K S9 (1 : Int32) else if k9 = 1 then False else if k9 = 2 then K S9 (2 : Int32) else False))
def eL_copy (S : ty_S) (x1 : Int32) (x2 : Int32) (K : ty_S → Int32 → Prop) : Prop :=
  (eX4_copy S x1 x2 (fun S1 r1 => (vp_in (0 : Int32) 1 ∧ K (ty_st S1 12 (0 : Int32).toNatClampNeg r1) (0 : Int32))) (fun k9 S9 => if k9 = 0 then K S9 (1 : Int32) else if k9 = 1 then False else if k9 = 2 then False else False))
def eL_drop (S : ty_S) (x1 : Int32) (K : ty_S → Int32 → Prop) : Prop :=
  (eX4_drop S x1 (fun S1 r1 => (vp_in (0 : Int32) 1 ∧ K (ty_st S1 12 (0 : Int32).toNatClampNeg r1) (0 : Int32))) (fun k9 S9 => if k9 = 0 then K S9 (1 : Int32) else if k9 = 1 then False else if k9 = 2 then False else False))
def eL_set (S : ty_S) (x1 : Int32) (x2 : Int32) (x3 : Int32) (K : ty_S → Int32 → Prop) : Prop :=
  (eX4_set S x1 x2 x3 (fun S1 r1 => (vp_in (0 : Int32) 1 ∧ K (ty_st S1 12 (0 : Int32).toNatClampNeg r1) (0 : Int32))) (fun k9 S9 => if k9 = 0 then K S9 (1 : Int32) else if k9 = 1 then K S9 (2 : Int32) else if k9 = 2 then K S9 (3 : Int32) else False))
def eL_get (S : ty_S) (x1 : Int32) (x2 : Int32) (x3 : Int32) (K : ty_S → Int32 → Prop) : Prop :=
  (eX4_get S x1 x2 x3 (fun S1 r1 => (vp_in (0 : Int32) 1 ∧ K (ty_st S1 12 (0 : Int32).toNatClampNeg r1) (0 : Int32))) (fun k9 S9 => if k9 = 0 then K S9 (1 : Int32) else if k9 = 1 then K S9 (2 : Int32) else if k9 = 2 then K S9 (3 : Int32) else False))
def eL_put (S : ty_S) (x1 : Int32) (x2 : Int32) (x3 : Int32) (K : ty_S → Int32 → Prop) : Prop :=
  (eX4_put S x1 x2 x3 (fun S1 r1 => (vp_in (0 : Int32) 1 ∧ K (ty_st S1 12 (0 : Int32).toNatClampNeg r1) (0 : Int32))) (fun k9 S9 => if k9 = 0 then K S9 (1 : Int32) else if k9 = 1 then K S9 (2 : Int32) else if k9 = 2 then K S9 (3 : Int32) else False))
def eL_number (S : ty_S) (x1 : Int32) (x2 : Int32) (K : ty_S → Int32 → Prop) : Prop :=
  (eX4_number S x1 x2 (fun S1 r1 => (vp_in (0 : Int32) 1 ∧ K (ty_st S1 12 (0 : Int32).toNatClampNeg r1) (0 : Int32))) (fun k9 S9 => if k9 = 0 then K S9 (1 : Int32) else if k9 = 1 then K S9 (2 : Int32) else if k9 = 2 then K S9 (3 : Int32) else False))
def eL_collect (S : ty_S) (x1 : Int32) (K : ty_S → Int32 → Prop) : Prop :=
  (eX4_collect S x1 (fun S1 r1 => (vp_in (0 : Int32) 1 ∧ K (ty_st S1 12 (0 : Int32).toNatClampNeg r1) (0 : Int32))) (fun k9 S9 => if k9 = 0 then False else if k9 = 1 then False else if k9 = 2 then K S9 (1 : Int32) else False))
def eL_thing (S : ty_S) (x1 : Int32) (x2 : Int32) (K : ty_S → Int32 → Prop) : Prop :=
  (eX4_thing S x1 x2 (fun S1 r1 => (vp_in (0 : Int32) 1 ∧ K (ty_st S1 12 (0 : Int32).toNatClampNeg r1) (0 : Int32))) (fun k9 S9 => if k9 = 0 then K S9 (1 : Int32) else if k9 = 1 then K S9 (2 : Int32) else if k9 = 2 then False else False))
def eL_label (S : ty_S) (x1 : Int32) (x2 : Int32) (K : ty_S → Int32 → Prop) : Prop :=
  (eX4_label S x1 x2 (fun S1 r1 => (vp_in (0 : Int32) 1 ∧ K (ty_st S1 12 (0 : Int32).toNatClampNeg r1) (0 : Int32))) (fun k9 S9 => if k9 = 0 then K S9 (1 : Int32) else if k9 = 1 then K S9 (2 : Int32) else if k9 = 2 then K S9 (3 : Int32) else False))
def eL_train (S : ty_S) (x1 : Int32) (x2 : Int32) (K : ty_S → Int32 → Prop) : Prop :=
  (eX4_train S x1 x2 (fun S1 r1 => (vp_in (0 : Int32) 1 ∧ K (ty_st S1 12 (0 : Int32).toNatClampNeg r1) (0 : Int32))) (fun k9 S9 => if k9 = 0 then K S9 (1 : Int32) else if k9 = 1 then False else if k9 = 2 then False else False))
def eL_car (S : ty_S) (x1 : Int32) (x2 : Int32) (K : ty_S → Int32 → Prop) : Prop :=
  (eX4_car S x1 x2 (fun S1 r1 => (vp_in (0 : Int32) 1 ∧ K (ty_st S1 12 (0 : Int32).toNatClampNeg r1) (0 : Int32))) (fun k9 S9 => if k9 = 0 then K S9 (1 : Int32) else if k9 = 1 then False else if k9 = 2 then False else False))
def eL_about (S : ty_S) (x1 : Int32) (x2 : Int32) (K : ty_S → Int32 → Prop) : Prop :=
  (eX4_about S x1 x2 (fun S1 r1 => (vp_in (0 : Int32) 1 ∧ K (ty_st S1 12 (0 : Int32).toNatClampNeg r1) (0 : Int32))) (fun k9 S9 => if k9 = 0 then K S9 (1 : Int32) else if k9 = 1 then False else if k9 = 2 then False else False))
def eL_remembered (S : ty_S) (x1 : Int32) (x2 : Int32) (K : ty_S → Int32 → Prop) : Prop :=
  (eX4_remembered S x1 x2 (fun S1 r1 => (vp_in (0 : Int32) 1 ∧ K (ty_st S1 12 (0 : Int32).toNatClampNeg r1) (0 : Int32))) (fun k9 S9 => if k9 = 0 then K S9 (1 : Int32) else if k9 = 1 then False else if k9 = 2 then False else False))
def eL_word (S : ty_S) (x1 : Int32) (K : ty_S → Int32 → Prop) : Prop :=
  (eX4_word S x1 (fun S1 r1 => (vp_in (0 : Int32) 1 ∧ K (ty_st S1 12 (0 : Int32).toNatClampNeg r1) (0 : Int32))) (fun k9 S9 => if k9 = 0 then K S9 (1 : Int32) else if k9 = 1 then False else if k9 = 2 then False else False))
def eL_told (S : ty_S) (x1 : Int32) (K : ty_S → Int32 → Prop) : Prop :=
  (eX4_told S x1 (fun S1 r1 => (vp_in (0 : Int32) 1 ∧ K (ty_st S1 12 (0 : Int32).toNatClampNeg r1) (0 : Int32))) (fun k9 S9 => if k9 = 0 then K S9 (1 : Int32) else if k9 = 1 then False else if k9 = 2 then False else False))
def jL_law_128 (xs : Nat → Int32) (L : Nat) (R : Int32 → ty_S → ty_S → Prop) (x4 : Int32) (S T : ty_S) : Prop :=
  (vp_in (x4 + (1 : Int32)) L ∧ (eL_length S (xs (x4 + (1 : Int32)).toNatClampNeg) (fun S1 r1 => (vp_in (x4 + (1 : Int32)) L ∧ (eX5_length T (xs (x4 + (1 : Int32)).toNatClampNeg) (fun T2 r2 => (eX5_thrown T2  (fun T3 r3 => (if r3 = r1 then (if r1 = (0 : Int32) then (vp_in (0 : Int32) 1 ∧ (if (lg_cmp (S1 12 (0 : Int32).toNatClampNeg).toInt64 r2.toInt64) = (0 : Int32) then R (x4 + (4 : Int32)) S1 T3 else False)) else R (x4 + (4 : Int32)) S1 T3) else False)))))))))
def jL_law_184 (xs : Nat → Int32) (L : Nat) (R : Int32 → ty_S → ty_S → Prop) (x4 : Int32) (S T : ty_S) : Prop :=
  (vp_in (x4 + (1 : Int32)) L ∧ (vp_in (x4 + (2 : Int32)) L ∧ (vp_in (x4 + (3 : Int32)) L ∧ (eL_make S (xs (x4 + (1 : Int32)).toNatClampNeg) (xs (x4 + (2 : Int32)).toNatClampNeg) (xs (x4 + (3 : Int32)).toNatClampNeg) (fun S4 r4 => (vp_in (x4 + (1 : Int32)) L ∧ (vp_in (x4 + (2 : Int32)) L ∧ (vp_in (x4 + (3 : Int32)) L ∧ (eX5_make T (xs (x4 + (1 : Int32)).toNatClampNeg) (xs (x4 + (2 : Int32)).toNatClampNeg) (xs (x4 + (3 : Int32)).toNatClampNeg) (fun T5 r5 => (eX5_thrown T5  (fun T6 r6 => (if r6 = r4 then (if r4 = (0 : Int32) then (vp_in (0 : Int32) 1 ∧ (if (lg_cmp (S4 12 (0 : Int32).toNatClampNeg).toInt64 r5.toInt64) = (0 : Int32) then R (x4 + (4 : Int32)) S4 T6 else False)) else R (x4 + (4 : Int32)) S4 T6) else False)))))))))))))
def jL_law_264 (xs : Nat → Int32) (L : Nat) (R : Int32 → ty_S → ty_S → Prop) (x4 : Int32) (S T : ty_S) : Prop :=
  (vp_in (x4 + (1 : Int32)) L ∧ (vp_in (x4 + (2 : Int32)) L ∧ (eL_copy S (xs (x4 + (1 : Int32)).toNatClampNeg) (xs (x4 + (2 : Int32)).toNatClampNeg) (fun S7 r7 => (vp_in (x4 + (1 : Int32)) L ∧ (vp_in (x4 + (2 : Int32)) L ∧ (eX5_copy T (xs (x4 + (1 : Int32)).toNatClampNeg) (xs (x4 + (2 : Int32)).toNatClampNeg) (fun T8 r8 => (eX5_thrown T8  (fun T9 r9 => (if r9 = r7 then (if r7 = (0 : Int32) then (vp_in (0 : Int32) 1 ∧ (if (lg_cmp (S7 12 (0 : Int32).toNatClampNeg).toInt64 r8.toInt64) = (0 : Int32) then R (x4 + (4 : Int32)) S7 T9 else False)) else R (x4 + (4 : Int32)) S7 T9) else False)))))))))))
def jL_law_332 (xs : Nat → Int32) (L : Nat) (R : Int32 → ty_S → ty_S → Prop) (x4 : Int32) (S T : ty_S) : Prop :=
  (vp_in (x4 + (1 : Int32)) L ∧ (eL_drop S (xs (x4 + (1 : Int32)).toNatClampNeg) (fun S10 r10 => (vp_in (x4 + (1 : Int32)) L ∧ (eX5_drop T (xs (x4 + (1 : Int32)).toNatClampNeg) (fun T11 r11 => (eX5_thrown T11  (fun T12 r12 => (if r12 = r10 then (if r10 = (0 : Int32) then (vp_in (0 : Int32) 1 ∧ (if (lg_cmp (S10 12 (0 : Int32).toNatClampNeg).toInt64 r11.toInt64) = (0 : Int32) then R (x4 + (4 : Int32)) S10 T12 else False)) else R (x4 + (4 : Int32)) S10 T12) else False)))))))))
def jL_law_388 (xs : Nat → Int32) (L : Nat) (R : Int32 → ty_S → ty_S → Prop) (x4 : Int32) (S T : ty_S) : Prop :=
  (vp_in (x4 + (1 : Int32)) L ∧ (vp_in (x4 + (2 : Int32)) L ∧ (vp_in (x4 + (3 : Int32)) L ∧ (eL_set S (xs (x4 + (1 : Int32)).toNatClampNeg) (xs (x4 + (2 : Int32)).toNatClampNeg) (xs (x4 + (3 : Int32)).toNatClampNeg) (fun S13 r13 => (vp_in (x4 + (1 : Int32)) L ∧ (vp_in (x4 + (2 : Int32)) L ∧ (vp_in (x4 + (3 : Int32)) L ∧ (eX5_set T (xs (x4 + (1 : Int32)).toNatClampNeg) (xs (x4 + (2 : Int32)).toNatClampNeg) (xs (x4 + (3 : Int32)).toNatClampNeg) (fun T14 r14 => (eX5_thrown T14  (fun T15 r15 => (if r15 = r13 then (if r13 = (0 : Int32) then (vp_in (0 : Int32) 1 ∧ (if (lg_cmp (S13 12 (0 : Int32).toNatClampNeg).toInt64 r14.toInt64) = (0 : Int32) then R (x4 + (4 : Int32)) S13 T15 else False)) else R (x4 + (4 : Int32)) S13 T15) else False)))))))))))))
def jL_law_468 (xs : Nat → Int32) (L : Nat) (R : Int32 → ty_S → ty_S → Prop) (x4 : Int32) (S T : ty_S) : Prop :=
  (vp_in (x4 + (1 : Int32)) L ∧ (vp_in (x4 + (2 : Int32)) L ∧ (vp_in (x4 + (3 : Int32)) L ∧ (eL_get S (xs (x4 + (1 : Int32)).toNatClampNeg) (xs (x4 + (2 : Int32)).toNatClampNeg) (xs (x4 + (3 : Int32)).toNatClampNeg) (fun S16 r16 => (vp_in (x4 + (1 : Int32)) L ∧ (vp_in (x4 + (2 : Int32)) L ∧ (vp_in (x4 + (3 : Int32)) L ∧ (eX5_get T (xs (x4 + (1 : Int32)).toNatClampNeg) (xs (x4 + (2 : Int32)).toNatClampNeg) (xs (x4 + (3 : Int32)).toNatClampNeg) (fun T17 r17 => (eX5_thrown T17  (fun T18 r18 => (if r18 = r16 then (if r16 = (0 : Int32) then (vp_in (0 : Int32) 1 ∧ (if (lg_cmp (S16 12 (0 : Int32).toNatClampNeg).toInt64 r17.toInt64) = (0 : Int32) then R (x4 + (4 : Int32)) S16 T18 else False)) else R (x4 + (4 : Int32)) S16 T18) else False)))))))))))))
def jL_law_548 (xs : Nat → Int32) (L : Nat) (R : Int32 → ty_S → ty_S → Prop) (x4 : Int32) (S T : ty_S) : Prop :=
  (vp_in (x4 + (1 : Int32)) L ∧ (vp_in (x4 + (2 : Int32)) L ∧ (vp_in (x4 + (3 : Int32)) L ∧ (eL_put S (xs (x4 + (1 : Int32)).toNatClampNeg) (xs (x4 + (2 : Int32)).toNatClampNeg) (xs (x4 + (3 : Int32)).toNatClampNeg) (fun S19 r19 => (vp_in (x4 + (1 : Int32)) L ∧ (vp_in (x4 + (2 : Int32)) L ∧ (vp_in (x4 + (3 : Int32)) L ∧ (eX5_put T (xs (x4 + (1 : Int32)).toNatClampNeg) (xs (x4 + (2 : Int32)).toNatClampNeg) (xs (x4 + (3 : Int32)).toNatClampNeg) (fun T20 r20 => (eX5_thrown T20  (fun T21 r21 => (if r21 = r19 then (if r19 = (0 : Int32) then (vp_in (0 : Int32) 1 ∧ (if (lg_cmp (S19 12 (0 : Int32).toNatClampNeg).toInt64 r20.toInt64) = (0 : Int32) then R (x4 + (4 : Int32)) S19 T21 else False)) else R (x4 + (4 : Int32)) S19 T21) else False)))))))))))))
def jL_law_628 (xs : Nat → Int32) (L : Nat) (R : Int32 → ty_S → ty_S → Prop) (x4 : Int32) (S T : ty_S) : Prop :=
  (vp_in (x4 + (1 : Int32)) L ∧ (vp_in (x4 + (2 : Int32)) L ∧ (eL_number S (xs (x4 + (1 : Int32)).toNatClampNeg) (xs (x4 + (2 : Int32)).toNatClampNeg) (fun S22 r22 => (vp_in (x4 + (1 : Int32)) L ∧ (vp_in (x4 + (2 : Int32)) L ∧ (eX5_number T (xs (x4 + (1 : Int32)).toNatClampNeg) (xs (x4 + (2 : Int32)).toNatClampNeg) (fun T23 r23 => (eX5_thrown T23  (fun T24 r24 => (if r24 = r22 then (if r22 = (0 : Int32) then (vp_in (0 : Int32) 1 ∧ (if (lg_cmp (S22 12 (0 : Int32).toNatClampNeg).toInt64 r23.toInt64) = (0 : Int32) then R (x4 + (4 : Int32)) S22 T24 else False)) else R (x4 + (4 : Int32)) S22 T24) else False)))))))))))
def jL_law_696 (xs : Nat → Int32) (L : Nat) (R : Int32 → ty_S → ty_S → Prop) (x4 : Int32) (S T : ty_S) : Prop :=
  (eX4_step S  (fun S25 r25 => (eX5_step T  (fun T26 r26 => (if r25 = r26 then R (x4 + (4 : Int32)) S25 T26 else False)))))
def jL_law_709 (xs : Nat → Int32) (L : Nat) (R : Int32 → ty_S → ty_S → Prop) (x4 : Int32) (S T : ty_S) : Prop :=
  (vp_in (x4 + (1 : Int32)) L ∧ (eL_collect S (xs (x4 + (1 : Int32)).toNatClampNeg) (fun S27 r27 => (vp_in (x4 + (1 : Int32)) L ∧ (eX5_collect T (xs (x4 + (1 : Int32)).toNatClampNeg) (fun T28 r28 => (eX5_thrown T28  (fun T29 r29 => (if r29 = r27 then (if r27 = (0 : Int32) then (vp_in (0 : Int32) 1 ∧ (if (lg_cmp (S27 12 (0 : Int32).toNatClampNeg).toInt64 r28.toInt64) = (0 : Int32) then R (x4 + (4 : Int32)) S27 T29 else False)) else R (x4 + (4 : Int32)) S27 T29) else False)))))))))
def jL_law_765 (xs : Nat → Int32) (L : Nat) (R : Int32 → ty_S → ty_S → Prop) (x4 : Int32) (S T : ty_S) : Prop :=
  (vp_in (x4 + (1 : Int32)) L ∧ (vp_in (x4 + (2 : Int32)) L ∧ (eL_thing S (xs (x4 + (1 : Int32)).toNatClampNeg) (xs (x4 + (2 : Int32)).toNatClampNeg) (fun S30 r30 => (vp_in (x4 + (1 : Int32)) L ∧ (vp_in (x4 + (2 : Int32)) L ∧ (eX5_thing T (xs (x4 + (1 : Int32)).toNatClampNeg) (xs (x4 + (2 : Int32)).toNatClampNeg) (fun T31 r31 => (eX5_thrown T31  (fun T32 r32 => (if r32 = r30 then (if r30 = (0 : Int32) then (vp_in (0 : Int32) 1 ∧ (if (lg_cmp (S30 12 (0 : Int32).toNatClampNeg).toInt64 r31.toInt64) = (0 : Int32) then R (x4 + (4 : Int32)) S30 T32 else False)) else R (x4 + (4 : Int32)) S30 T32) else False)))))))))))
def jL_law_833 (xs : Nat → Int32) (L : Nat) (R : Int32 → ty_S → ty_S → Prop) (x4 : Int32) (S T : ty_S) : Prop :=
  (vp_in (x4 + (1 : Int32)) L ∧ (vp_in (x4 + (2 : Int32)) L ∧ (eL_label S (xs (x4 + (1 : Int32)).toNatClampNeg) (xs (x4 + (2 : Int32)).toNatClampNeg) (fun S33 r33 => (vp_in (x4 + (1 : Int32)) L ∧ (vp_in (x4 + (2 : Int32)) L ∧ (eX5_label T (xs (x4 + (1 : Int32)).toNatClampNeg) (xs (x4 + (2 : Int32)).toNatClampNeg) (fun T34 r34 => (eX5_thrown T34  (fun T35 r35 => (if r35 = r33 then (if r33 = (0 : Int32) then (vp_in (0 : Int32) 1 ∧ (if (lg_cmp (S33 12 (0 : Int32).toNatClampNeg).toInt64 r34.toInt64) = (0 : Int32) then R (x4 + (4 : Int32)) S33 T35 else False)) else R (x4 + (4 : Int32)) S33 T35) else False)))))))))))
def jL_law_901 (xs : Nat → Int32) (L : Nat) (R : Int32 → ty_S → ty_S → Prop) (x4 : Int32) (S T : ty_S) : Prop :=
  (vp_in (x4 + (1 : Int32)) L ∧ (vp_in (x4 + (2 : Int32)) L ∧ (eL_train S (xs (x4 + (1 : Int32)).toNatClampNeg) (xs (x4 + (2 : Int32)).toNatClampNeg) (fun S36 r36 => (vp_in (x4 + (1 : Int32)) L ∧ (vp_in (x4 + (2 : Int32)) L ∧ (eX5_train T (xs (x4 + (1 : Int32)).toNatClampNeg) (xs (x4 + (2 : Int32)).toNatClampNeg) (fun T37 r37 => (eX5_thrown T37  (fun T38 r38 => (if r38 = r36 then (if r36 = (0 : Int32) then (vp_in (0 : Int32) 1 ∧ (if (lg_cmp (S36 12 (0 : Int32).toNatClampNeg).toInt64 r37.toInt64) = (0 : Int32) then R (x4 + (4 : Int32)) S36 T38 else False)) else R (x4 + (4 : Int32)) S36 T38) else False)))))))))))
def jL_law_969 (xs : Nat → Int32) (L : Nat) (R : Int32 → ty_S → ty_S → Prop) (x4 : Int32) (S T : ty_S) : Prop :=
  (vp_in (x4 + (1 : Int32)) L ∧ (vp_in (x4 + (2 : Int32)) L ∧ (eL_car S (xs (x4 + (1 : Int32)).toNatClampNeg) (xs (x4 + (2 : Int32)).toNatClampNeg) (fun S39 r39 => (vp_in (x4 + (1 : Int32)) L ∧ (vp_in (x4 + (2 : Int32)) L ∧ (eX5_car T (xs (x4 + (1 : Int32)).toNatClampNeg) (xs (x4 + (2 : Int32)).toNatClampNeg) (fun T40 r40 => (eX5_thrown T40  (fun T41 r41 => (if r41 = r39 then (if r39 = (0 : Int32) then (vp_in (0 : Int32) 1 ∧ (if (lg_cmp (S39 12 (0 : Int32).toNatClampNeg).toInt64 r40.toInt64) = (0 : Int32) then R (x4 + (4 : Int32)) S39 T41 else False)) else R (x4 + (4 : Int32)) S39 T41) else False)))))))))))
def jL_law_1037 (xs : Nat → Int32) (L : Nat) (R : Int32 → ty_S → ty_S → Prop) (x4 : Int32) (S T : ty_S) : Prop :=
  (vp_in (x4 + (1 : Int32)) L ∧ (vp_in (x4 + (2 : Int32)) L ∧ (eL_about S (xs (x4 + (1 : Int32)).toNatClampNeg) (xs (x4 + (2 : Int32)).toNatClampNeg) (fun S42 r42 => (vp_in (x4 + (1 : Int32)) L ∧ (vp_in (x4 + (2 : Int32)) L ∧ (eX5_about T (xs (x4 + (1 : Int32)).toNatClampNeg) (xs (x4 + (2 : Int32)).toNatClampNeg) (fun T43 r43 => (eX5_thrown T43  (fun T44 r44 => (if r44 = r42 then (if r42 = (0 : Int32) then (vp_in (0 : Int32) 1 ∧ (if (lg_cmp (S42 12 (0 : Int32).toNatClampNeg).toInt64 r43.toInt64) = (0 : Int32) then R (x4 + (4 : Int32)) S42 T44 else False)) else R (x4 + (4 : Int32)) S42 T44) else False)))))))))))
def jL_law_1105 (xs : Nat → Int32) (L : Nat) (R : Int32 → ty_S → ty_S → Prop) (x4 : Int32) (S T : ty_S) : Prop :=
  (vp_in (x4 + (1 : Int32)) L ∧ (vp_in (x4 + (2 : Int32)) L ∧ (eL_remembered S (xs (x4 + (1 : Int32)).toNatClampNeg) (xs (x4 + (2 : Int32)).toNatClampNeg) (fun S45 r45 => (vp_in (x4 + (1 : Int32)) L ∧ (vp_in (x4 + (2 : Int32)) L ∧ (eX5_remembered T (xs (x4 + (1 : Int32)).toNatClampNeg) (xs (x4 + (2 : Int32)).toNatClampNeg) (fun T46 r46 => (eX5_thrown T46  (fun T47 r47 => (if r47 = r45 then (if r45 = (0 : Int32) then (vp_in (0 : Int32) 1 ∧ (if (lg_cmp (S45 12 (0 : Int32).toNatClampNeg).toInt64 r46.toInt64) = (0 : Int32) then R (x4 + (4 : Int32)) S45 T47 else False)) else R (x4 + (4 : Int32)) S45 T47) else False)))))))))))
def jL_law_1173 (xs : Nat → Int32) (L : Nat) (R : Int32 → ty_S → ty_S → Prop) (x4 : Int32) (S T : ty_S) : Prop :=
  (vp_in (x4 + (1 : Int32)) L ∧ (eL_word S (xs (x4 + (1 : Int32)).toNatClampNeg) (fun S48 r48 => (vp_in (x4 + (1 : Int32)) L ∧ (eX5_word T (xs (x4 + (1 : Int32)).toNatClampNeg) (fun T49 r49 => (eX5_thrown T49  (fun T50 r50 => (if r50 = r48 then (if r48 = (0 : Int32) then (vp_in (0 : Int32) 1 ∧ (if (lg_cmp (S48 12 (0 : Int32).toNatClampNeg).toInt64 r49.toInt64) = (0 : Int32) then R (x4 + (4 : Int32)) S48 T50 else False)) else R (x4 + (4 : Int32)) S48 T50) else False)))))))))
def jL_law_1229 (xs : Nat → Int32) (L : Nat) (R : Int32 → ty_S → ty_S → Prop) (x4 : Int32) (S T : ty_S) : Prop :=
  (eX4_reached S  (fun S51 r51 => (eX5_reached T  (fun T52 r52 => (if r51 = r52 then R (x4 + (4 : Int32)) S51 T52 else False)))))
def jL_law_1242 (xs : Nat → Int32) (L : Nat) (R : Int32 → ty_S → ty_S → Prop) (x4 : Int32) (S T : ty_S) : Prop :=
  (vp_in (x4 + (1 : Int32)) L ∧ (eL_told S (xs (x4 + (1 : Int32)).toNatClampNeg) (fun S53 r53 => (vp_in (x4 + (1 : Int32)) L ∧ (eX5_told T (xs (x4 + (1 : Int32)).toNatClampNeg) (fun T54 r54 => (eX5_thrown T54  (fun T55 r55 => (if r55 = r53 then (if r53 = (0 : Int32) then (vp_in (0 : Int32) 1 ∧ (if (lg_cmp (S53 12 (0 : Int32).toNatClampNeg).toInt64 r54.toInt64) = (0 : Int32) then R (x4 + (4 : Int32)) S53 T55 else False)) else R (x4 + (4 : Int32)) S53 T55) else False)))))))))
def jL_law_23 (xs : Nat → Int32) (L : Nat) (R : Int32 → ty_S → ty_S → Prop) (x4 : Int32) (S T : ty_S) : Prop :=
  (if ((Int32.ofNat L) - (4 : Int32)) < x4 then True else (vp_in x4 L ∧ (if ((xs x4.toNatClampNeg) &&& (31 : Int32)) = (0 : Int32) then jL_law_128 xs L R x4 S T else (if ((xs x4.toNatClampNeg) &&& (31 : Int32)) = (1 : Int32) then jL_law_184 xs L R x4 S T else (if ((xs x4.toNatClampNeg) &&& (31 : Int32)) = (2 : Int32) then jL_law_264 xs L R x4 S T else (if ((xs x4.toNatClampNeg) &&& (31 : Int32)) = (3 : Int32) then jL_law_332 xs L R x4 S T else (if ((xs x4.toNatClampNeg) &&& (31 : Int32)) = (4 : Int32) then jL_law_388 xs L R x4 S T else (if ((xs x4.toNatClampNeg) &&& (31 : Int32)) = (5 : Int32) then jL_law_468 xs L R x4 S T else (if ((xs x4.toNatClampNeg) &&& (31 : Int32)) = (6 : Int32) then jL_law_548 xs L R x4 S T else (if ((xs x4.toNatClampNeg) &&& (31 : Int32)) = (7 : Int32) then jL_law_628 xs L R x4 S T else (if ((xs x4.toNatClampNeg) &&& (31 : Int32)) = (8 : Int32) then jL_law_696 xs L R x4 S T else (if ((xs x4.toNatClampNeg) &&& (31 : Int32)) = (9 : Int32) then jL_law_709 xs L R x4 S T else (if ((xs x4.toNatClampNeg) &&& (31 : Int32)) = (10 : Int32) then jL_law_765 xs L R x4 S T else (if ((xs x4.toNatClampNeg) &&& (31 : Int32)) = (11 : Int32) then jL_law_833 xs L R x4 S T else (if ((xs x4.toNatClampNeg) &&& (31 : Int32)) = (12 : Int32) then jL_law_901 xs L R x4 S T else (if ((xs x4.toNatClampNeg) &&& (31 : Int32)) = (13 : Int32) then jL_law_969 xs L R x4 S T else (if ((xs x4.toNatClampNeg) &&& (31 : Int32)) = (14 : Int32) then jL_law_1037 xs L R x4 S T else (if ((xs x4.toNatClampNeg) &&& (31 : Int32)) = (15 : Int32) then jL_law_1105 xs L R x4 S T else (if ((xs x4.toNatClampNeg) &&& (31 : Int32)) = (16 : Int32) then jL_law_1173 xs L R x4 S T else (if ((xs x4.toNatClampNeg) &&& (31 : Int32)) = (17 : Int32) then jL_law_1229 xs L R x4 S T else (if ((xs x4.toNatClampNeg) &&& (31 : Int32)) = (18 : Int32) then jL_law_1242 xs L R x4 S T else R (x4 + (4 : Int32)) S T)))))))))))))))))))))
def lL_law (xs : Nat → Int32) (L : Nat) : Nat → Int32 → ty_S → ty_S → Prop
  | 0, _, _, _ => False
  | n + 1, x4, S, T => jL_law_23 xs L (fun a S9 T9 => lL_law xs L n a S9 T9) x4 S T
end
section
/-! PURE: whole numbers for ints -/
def py_o (a : Int) : Int32 := Int32.ofInt a
abbrev py_Z : Type := Nat → Nat → Int
def py_O (s : py_Z) : ty_S := fun f i => py_o (s f i)
def py_st (s : py_Z) (f i : Nat) (v : Int) : py_Z := fun g j => if g = f then (if j = i then v else s g j) else s g j
theorem py_add {a b : Int} : py_o a + py_o b = py_o (a + b) := (Int32.ofInt_add a b).symm
theorem py_sub {a b : Int} : py_o a - py_o b = py_o (a - b) := (Int32.ofInt_sub a b).symm
theorem py_mul {a b : Int} : py_o a * py_o b = py_o (a * b) := (Int32.ofInt_mul a b).symm
theorem py_toInt {a : Int} (h : -2147483648 ≤ a ∧ a < 2147483648) : (py_o a).toInt = a := Int32.toInt_ofInt_of_le h.1 h.2
theorem py_lt {a b : Int} (ha : -2147483648 ≤ a ∧ a < 2147483648) (hb : -2147483648 ≤ b ∧ b < 2147483648) : py_o a < py_o b ↔ a < b := by
  rw [Int32.lt_iff_toInt_lt, py_toInt ha, py_toInt hb]
theorem py_le {a b : Int} (ha : -2147483648 ≤ a ∧ a < 2147483648) (hb : -2147483648 ≤ b ∧ b < 2147483648) : py_o a ≤ py_o b ↔ a ≤ b := by
  rw [Int32.le_iff_toInt_le, py_toInt ha, py_toInt hb]
theorem py_eq {a b : Int} (ha : -2147483648 ≤ a ∧ a < 2147483648) (hb : -2147483648 ≤ b ∧ b < 2147483648) : py_o a = py_o b ↔ a = b := by
  rw [← Int32.toInt_inj, py_toInt ha, py_toInt hb]
theorem py_nat {a : Int} (ha : -2147483648 ≤ a ∧ a < 2147483648) : (py_o a).toNatClampNeg = a.toNat := by
  show (py_o a).toInt.toNat = a.toNat
  rw [py_toInt ha]
theorem py_div {a b : Int} (ha : 0 ≤ a ∧ a < 2147483648) (hb : 0 < b ∧ b < 2147483648) : py_o a / py_o b = py_o (a / b) := by
  have h1 : 0 ≤ a / b := Int.ediv_nonneg ha.1 (by omega)
  have h2 : a / b ≤ a := Int.ediv_le_self b ha.1
  apply Int32.toInt_inj.mp
  have hb1 : py_o b ≠ -1 := fun e => by
    have h3 := congrArg Int32.toInt e
    rw [py_toInt (by omega)] at h3
    have h4 : (-1 : Int32).toInt = -1 := rfl
    omega
  rw [Int32.toInt_div_of_ne_right _ _ hb1, py_toInt (by omega), py_toInt (by omega), py_toInt (by omega), Int.tdiv_eq_ediv_of_nonneg ha.1]
theorem py_all (x : Int32) : ∃ a : Int, x = py_o a ∧ -2147483648 ≤ a ∧ a < 2147483648 := by
  refine ⟨x.toInt, (Int32.ofInt_toInt x).symm, ?_, ?_⟩
  · have := x.le_toInt; omega
  · have := x.toInt_lt; omega
theorem py_l0 : (0 : Int32) = py_o 0 := rfl
theorem py_l1 : (1 : Int32) = py_o 1 := rfl
theorem py_l2 : (2 : Int32) = py_o 2 := rfl
theorem py_l3 : (3 : Int32) = py_o 3 := rfl
theorem py_l4 : (4 : Int32) = py_o 4 := rfl
theorem py_l5 : (5 : Int32) = py_o 5 := rfl
theorem py_l6 : (6 : Int32) = py_o 6 := rfl
theorem py_l7 : (7 : Int32) = py_o 7 := rfl
theorem py_l8 : (8 : Int32) = py_o 8 := rfl
theorem py_l9 : (9 : Int32) = py_o 9 := rfl
theorem py_l12 : (12 : Int32) = py_o 12 := rfl
theorem py_l16 : (16 : Int32) = py_o 16 := rfl
theorem py_l32 : (32 : Int32) = py_o 32 := rfl
theorem py_l40 : (40 : Int32) = py_o 40 := rfl
theorem py_l100 : (100 : Int32) = py_o 100 := rfl
theorem py_l640 : (640 : Int32) = py_o 640 := rfl
theorem py_l1280 : (1280 : Int32) = py_o 1280 := rfl
theorem py_lm1 : (-1 : Int32) = py_o (-1) := rfl
theorem py_O_ap {s : py_Z} {f i : Nat} : py_O s f i = py_o (s f i) := rfl
theorem py_stO {s : py_Z} {f i : Nat} {v : Int} : ty_st (py_O s) f i (py_o v) = py_O (py_st s f i v) := by
  funext g j
  show (if g = f then upd (py_O s f) i (py_o v) else py_O s g) j = py_o (py_st s f i v g j)
  unfold py_st
  by_cases h : g = f
  · subst h
    rw [if_pos rfl, if_pos rfl]
    by_cases hj : j = i
    · subst hj; rw [if_pos rfl, pk_us]
    · rw [if_neg hj, pk_un hj]; rfl
  · rw [if_neg h, if_neg h]; rfl
theorem py_fillO {s : py_Z} {f n : Nat} {v : Int} : ty_fill (py_O s) f n (py_o v) = py_O (fun g j => if g = f then (if j < n then v else s g j) else s g j) := by
  funext g j
  show (if g = f then (fun j => if j < n then py_o v else py_O s f j) else py_O s g) j = py_o _
  by_cases h : g = f
  · subst h
    rw [if_pos rfl]
    by_cases hj : j < n
    · simp only [hj, if_true]
    · simp only [hj, if_true, if_false]; rfl
  · simp only [h, if_false]; rfl
theorem py_ss {s : py_Z} {f i j : Nat} {v : Int} : py_st s f i v f j = if j = i then v else s f j := by simp [py_st]
theorem py_se {s : py_Z} {f i : Nat} {v : Int} : py_st s f i v f i = v := by simp [py_st]
theorem py_sj {s : py_Z} {f i j : Nat} {v : Int} (h : j ≠ i) : py_st s f i v f j = s f j := by simp [py_st, h]
theorem py_sn {s : py_Z} {f i g j : Nat} {v : Int} (h : g ≠ f) : py_st s f i v g j = s g j := by simp [py_st, h]
theorem py_and {a : Int} {n : Nat} {P : Prop} (h : P) (h0 : 0 ≤ a := by omega) (h1 : a < (n : Int) := by omega) (h2 : a < 2147483648 := by omega) : vp_in (py_o a) n ∧ P := by
  refine ⟨vp_in_iff.mpr ?_, h⟩
  rw [py_toInt ⟨by omega, h2⟩]
  exact ⟨h0, h1⟩
theorem py_ilt {a b : Int} {A B : Prop} (h1 : a < b → A) (h2 : b ≤ a → B) (ra : -2147483648 ≤ a ∧ a < 2147483648 := by omega) (rb : -2147483648 ≤ b ∧ b < 2147483648 := by omega) : (if py_o a < py_o b then A else B) := by
  by_cases h : a < b
  · rw [if_pos ((py_lt ra rb).mpr h)]; exact h1 h
  · rw [if_neg (fun e => h ((py_lt ra rb).mp e))]; exact h2 (by omega)
theorem py_ile {a b : Int} {A B : Prop} (h1 : a ≤ b → A) (h2 : b < a → B) (ra : -2147483648 ≤ a ∧ a < 2147483648 := by omega) (rb : -2147483648 ≤ b ∧ b < 2147483648 := by omega) : (if py_o a ≤ py_o b then A else B) := by
  by_cases h : a ≤ b
  · rw [if_pos ((py_le ra rb).mpr h)]; exact h1 h
  · rw [if_neg (fun e => h ((py_le ra rb).mp e))]; exact h2 (by omega)
theorem py_ieq {a b : Int} {A B : Prop} (h1 : a = b → A) (h2 : a ≠ b → B) (ra : -2147483648 ≤ a ∧ a < 2147483648 := by omega) (rb : -2147483648 ≤ b ∧ b < 2147483648 := by omega) : (if py_o a = py_o b then A else B) := by
  by_cases h : a = b
  · rw [if_pos ((py_eq ra rb).mpr h)]; exact h1 h
  · rw [if_neg (fun e => h ((py_eq ra rb).mp e))]; exact h2 h
/-- how many of the first n numbers hold -/
def py_cnt (P : Nat → Bool) : Nat → Nat
  | 0 => 0
  | n + 1 => py_cnt P n + (if P n then 1 else 0)
theorem py_cnt_le (P : Nat → Bool) (n : Nat) : py_cnt P n ≤ n := by
  induction n with
  | zero => exact Nat.le_refl _
  | succ n ih => simp only [py_cnt]; split <;> omega
theorem py_cnt_congr {P Q : Nat → Bool} {n : Nat} (h : ∀ k, k < n → P k = Q k) : py_cnt P n = py_cnt Q n := by
  induction n with
  | zero => rfl
  | succ n ih => simp only [py_cnt]; rw [ih (fun k hk => h k (by omega)), h n (by omega)]
theorem py_cnt_all {P : Nat → Bool} {n : Nat} (h : ∀ k, k < n → P k = true) : py_cnt P n = n := by
  induction n with
  | zero => rfl
  | succ n ih => simp only [py_cnt]; rw [ih (fun k hk => h k (by omega)), h n (by omega)]; rfl
theorem py_cnt_none {P : Nat → Bool} {n : Nat} (h : ∀ k, k < n → P k = false) : py_cnt P n = 0 := by
  induction n with
  | zero => rfl
  | succ n ih => simp only [py_cnt]; rw [ih (fun k hk => h k (by omega)), h n (by omega)]; rfl
theorem py_cnt_full {P : Nat → Bool} {n : Nat} (h : py_cnt P n = n) : ∀ k, k < n → P k = true := by
  induction n with
  | zero => intro k hk; omega
  | succ n ih =>
    intro k hk
    have h1 := py_cnt_le P n
    simp only [py_cnt] at h
    cases hP : P n with
    | true =>
      rw [hP, if_pos rfl] at h
      rcases Nat.lt_succ_iff_lt_or_eq.mp hk with h2 | h2
      · exact ih (by omega) k h2
      · rw [h2]; exact hP
    | false => rw [hP] at h; simp at h; omega
theorem py_cnt_lt {P : Nat → Bool} {n k : Nat} (hk : k < n) (h : P k = false) : py_cnt P n < n := by
  have h1 := py_cnt_le P n
  rcases Nat.lt_or_eq_of_le h1 with h2 | h2
  · exact h2
  · have := py_cnt_full h2 k hk; rw [h] at this; cases this
theorem py_cnt_ex {P : Nat → Bool} {n : Nat} (h : py_cnt P n < n) : ∃ k, k < n ∧ P k = false := by
  induction n with
  | zero => omega
  | succ n ih =>
    cases hP : P n with
    | false => exact ⟨n, by omega, hP⟩
    | true =>
      simp only [py_cnt] at h
      rw [hP, if_pos rfl] at h
      obtain ⟨k, h1, h2⟩ := ih (by omega)
      exact ⟨k, by omega, h2⟩
/-- one more holds -/
theorem py_cnt_up {P Q : Nat → Bool} {n k : Nat} (hk : k < n) (h0 : P k = false) (h1 : Q k = true) (h : ∀ j, j < n → j ≠ k → P j = Q j) : py_cnt Q n = py_cnt P n + 1 := by
  induction n with
  | zero => omega
  | succ n ih =>
    simp only [py_cnt]
    by_cases e : k = n
    · subst e
      rw [py_cnt_congr (fun j hj => (h j (by omega) (by omega)).symm), h0, h1]; rfl
    · rw [ih (by omega) (fun j hj hn => h j (by omega) hn), h n (by omega) (fun e2 => e e2.symm)]; omega
/-- the first that holds -/
theorem py_least {P : Nat → Prop} (hd : ∀ k, P k ∨ ¬ P k) {n : Nat} (h : P n) : ∃ k, k ≤ n ∧ P k ∧ ∀ j, j < k → ¬ P j := by
  induction n using Nat.strongRecOn with
  | _ n ih =>
    by_cases e : ∃ j, j < n ∧ P j
    · obtain ⟨j, hj, hP⟩ := e
      obtain ⟨k, h1, h2, h3⟩ := ih j hj hP
      exact ⟨k, by omega, h2, h3⟩
    · exact ⟨n, Nat.le_refl _, h, fun j hj hP => e ⟨j, hj, hP⟩⟩
theorem py_neg {a : Int} : -py_o a = py_o (-a) := (Int32.ofInt_neg a).symm
end
section
/-! PURE: the class's small methods -/
theorem pr_isPlace {s : py_Z} {a : Int} {K : ty_S → Int32 → Prop} (h1 : 0 ≤ a → a < 1280 → K (py_O s) (py_o 1)) (h0 : (a < 0 ∨ 1280 ≤ a) → K (py_O s) (py_o 0)) (ra : -2147483648 ≤ a ∧ a < 2147483648 := by omega) : eX4_isPlace (py_O s) (py_o a) K := by
  unfold eX4_isPlace
  try simp only [py_O_ap, py_l0, py_l1, py_l2, py_l3, py_l4, py_l5, py_l6, py_l7, py_l8, py_l9, py_l12, py_l16, py_l32, py_l40, py_l100, py_l640, py_l1280, py_neg, py_add, py_sub, py_mul, py_stO]
  refine py_ilt (fun c => h0 (by omega)) (fun c => py_ile (fun c2 => h0 (by omega)) (fun c2 => h1 (by omega) (by omega)))
theorem pr_isCar {s : py_Z} {a : Int} {K : ty_S → Int32 → Prop} (h1 : 0 ≤ a → a < 40 → K (py_O s) (py_o 1)) (h0 : (a < 0 ∨ 40 ≤ a) → K (py_O s) (py_o 0)) (ra : -2147483648 ≤ a ∧ a < 2147483648 := by omega) : eX4_isCar (py_O s) (py_o a) K := by
  unfold eX4_isCar
  try simp only [py_O_ap, py_l0, py_l1, py_l2, py_l3, py_l4, py_l5, py_l6, py_l7, py_l8, py_l9, py_l12, py_l16, py_l32, py_l40, py_l100, py_l640, py_l1280, py_neg, py_add, py_sub, py_mul, py_stO]
  refine py_ilt (fun c => h0 (by omega)) (fun c => py_ile (fun c2 => h0 (by omega)) (fun c2 => h1 (by omega) (by omega)))
theorem pr_isAmount {s : py_Z} {a : Int} {K : ty_S → Int32 → Prop} (h1 : 0 ≤ a → a ≤ 12 → K (py_O s) (py_o 1)) (h0 : (a < 0 ∨ 12 < a) → K (py_O s) (py_o 0)) (ra : -2147483648 ≤ a ∧ a < 2147483648 := by omega) : eX4_isAmount (py_O s) (py_o a) K := by
  unfold eX4_isAmount
  try simp only [py_O_ap, py_l0, py_l1, py_l2, py_l3, py_l4, py_l5, py_l6, py_l7, py_l8, py_l9, py_l12, py_l16, py_l32, py_l40, py_l100, py_l640, py_l1280, py_neg, py_add, py_sub, py_mul, py_stO]
  refine py_ilt (fun c => h0 (by omega)) (fun c => py_ilt (fun c2 => h0 (by omega)) (fun c2 => h1 (by omega) (by omega)))
theorem pr_carOf {s : py_Z} {a : Int} {K : ty_S → Int32 → Prop} (h1 : 0 ≤ a → a < 1280 → K (py_O s) (py_o (a / 32))) (h0 : (a < 0 ∨ 1280 ≤ a) → K (py_O s) (py_o (-1))) (ra : -2147483648 ≤ a ∧ a < 2147483648 := by omega) : eX4_carOf (py_O s) (py_o a) K := by
  unfold eX4_carOf
  try simp only [py_O_ap, py_l0, py_l1, py_l2, py_l3, py_l4, py_l5, py_l6, py_l7, py_l8, py_l9, py_l12, py_l16, py_l32, py_l40, py_l100, py_l640, py_l1280, py_neg, py_add, py_sub, py_mul, py_stO]
  refine pr_isPlace (fun c1 c2 => ?_) (fun c => ?_)
  · refine py_ieq (fun e => absurd e (by omega)) (fun _ => ?_)
    rw [py_div (by omega) (by omega)]
    exact h1 c1 c2
  · exact py_ieq (fun _ => h0 c) (fun e => absurd rfl e)
theorem pr_at {s : py_Z} {a : Int} {K : ty_S → Int32 → Prop} (h1 : 0 ≤ a → a < 1280 → K (py_O s) (py_o (s 0 a.toNat))) (h0 : (a < 0 ∨ 1280 ≤ a) → K (py_O s) (py_o 0)) (ra : -2147483648 ≤ a ∧ a < 2147483648 := by omega) : eX0_at (py_O s) (py_o a) K := by
  unfold eX0_at
  try simp only [py_O_ap, py_l0, py_l1, py_l2, py_l3, py_l4, py_l5, py_l6, py_l7, py_l8, py_l9, py_l12, py_l16, py_l32, py_l40, py_l100, py_l640, py_l1280, py_neg, py_add, py_sub, py_mul, py_stO]
  refine py_ilt (fun c => h0 (by omega)) (fun c => py_ile (fun c2 => h0 (by omega)) (fun c2 => py_and ?_))
  rw [py_nat ra]
  exact h1 (by omega) (by omega)
theorem pr_room {s : py_Z} {a : Int} {K : ty_S → Int32 → Prop} (h1 : 0 ≤ a → a < 40 → K (py_O s) (py_o (32 - s 2 a.toNat))) (h0 : (a < 0 ∨ 40 ≤ a) → K (py_O s) (py_o 0)) (ra : -2147483648 ≤ a ∧ a < 2147483648 := by omega) : eX0_room (py_O s) (py_o a) K := by
  unfold eX0_room
  try simp only [py_O_ap, py_l0, py_l1, py_l2, py_l3, py_l4, py_l5, py_l6, py_l7, py_l8, py_l9, py_l12, py_l16, py_l32, py_l40, py_l100, py_l640, py_l1280, py_neg, py_add, py_sub, py_mul, py_stO]
  refine py_ilt (fun c => h0 (by omega)) (fun c => py_ile (fun c2 => h0 (by omega)) (fun c2 => py_and ?_))
  rw [py_nat ra]
  exact h1 (by omega) (by omega)
theorem pr_things {s : py_Z} {a : Int} {K : ty_S → Int32 → Prop} (h1 : 0 ≤ a → a < 40 → K (py_O s) (py_o (s 3 a.toNat))) (h0 : (a < 0 ∨ 40 ≤ a) → K (py_O s) (py_o 0)) (ra : -2147483648 ≤ a ∧ a < 2147483648 := by omega) : eX0_things (py_O s) (py_o a) K := by
  unfold eX0_things
  try simp only [py_O_ap, py_l0, py_l1, py_l2, py_l3, py_l4, py_l5, py_l6, py_l7, py_l8, py_l9, py_l12, py_l16, py_l32, py_l40, py_l100, py_l640, py_l1280, py_neg, py_add, py_sub, py_mul, py_stO]
  refine pr_isCar (fun c1 c2 => ?_) (fun c => ?_)
  · refine py_ieq (fun e => absurd e (by omega)) (fun _ => py_and ?_)
    rw [py_nat ra]
    exact h1 c1 c2
  · exact py_ieq (fun _ => h0 c) (fun e => absurd rfl e)
theorem pr_write {s : py_Z} {a v : Int} {K : ty_S → Prop} (h1 : 0 ≤ a → a < 1280 → K (py_O (py_st s 0 a.toNat v))) (h0 : (a < 0 ∨ 1280 ≤ a) → K (py_O s)) (ra : -2147483648 ≤ a ∧ a < 2147483648 := by omega) : eX0_write (py_O s) (py_o a) (py_o v) K := by
  unfold eX0_write
  try simp only [py_O_ap, py_l0, py_l1, py_l2, py_l3, py_l4, py_l5, py_l6, py_l7, py_l8, py_l9, py_l12, py_l16, py_l32, py_l40, py_l100, py_l640, py_l1280, py_neg, py_add, py_sub, py_mul, py_stO]
  refine py_ilt (fun c => h0 (by omega)) (fun c => py_ile (fun c2 => h0 (by omega)) (fun c2 => py_and ?_))
  rw [py_nat ra]
  exact h1 (by omega) (by omega)
theorem pr_labelOf {s : py_Z} {a : Int} {K : ty_S → Int32 → Prop} (h1 : 0 ≤ a → a < 1280 → K (py_O s) (py_o (s 0 a.toNat))) (h0 : (a < 0 ∨ 1280 ≤ a) → K (py_O s) (py_o 0)) (ra : -2147483648 ≤ a ∧ a < 2147483648 := by omega) : eX0_labelOf (py_O s) (py_o a) K := by
  unfold eX0_labelOf
  exact pr_at h1 h0
/-- a thing's two amounts, out of one word -/
theorem pr_mod {v r n : Int} (hv : v = r + 16 * n) (h0 : 0 ≤ r) (h1 : r < 16) (h2 : 0 ≤ n) (h3 : n < 1000) : py_o v / py_o 16 = py_o n := by
  rw [py_div (by omega) (by omega)]
  have : v / 16 = n := by omega
  rw [this]
theorem pr_references {s : py_Z} {a r n : Int} {K : ty_S → Int32 → Prop} (ha : 0 ≤ a) (ha2 : a < 1279) (hv : s 0 (a + 1).toNat = r + 16 * n) (h0 : 0 ≤ r) (h1 : r < 16) (h2 : 0 ≤ n) (h3 : n < 1000) (h : K (py_O s) (py_o r)) : eX0_references (py_O s) (py_o a) K := by
  unfold eX0_references
  try simp only [py_O_ap, py_l0, py_l1, py_l2, py_l3, py_l4, py_l5, py_l6, py_l7, py_l8, py_l9, py_l12, py_l16, py_l32, py_l40, py_l100, py_l640, py_l1280, py_neg, py_add, py_sub, py_mul, py_stO]
  refine pr_at (fun _ _ => ?_) (fun c => absurd c (by omega))
  rw [pr_mod hv h0 h1 h2 h3]
  try simp only [py_O_ap, py_l0, py_l1, py_l2, py_l3, py_l4, py_l5, py_l6, py_l7, py_l8, py_l9, py_l12, py_l16, py_l32, py_l40, py_l100, py_l640, py_l1280, py_neg, py_add, py_sub, py_mul, py_stO]
  have e : s 0 (a + 1).toNat - n * 16 = r := by omega
  rw [e]; exact h
theorem pr_numbers {s : py_Z} {a r n : Int} {K : ty_S → Int32 → Prop} (ha : 0 ≤ a) (ha2 : a < 1279) (hv : s 0 (a + 1).toNat = r + 16 * n) (h0 : 0 ≤ r) (h1 : r < 16) (h2 : 0 ≤ n) (h3 : n < 1000) (h : K (py_O s) (py_o n)) : eX0_numbers (py_O s) (py_o a) K := by
  unfold eX0_numbers
  try simp only [py_O_ap, py_l0, py_l1, py_l2, py_l3, py_l4, py_l5, py_l6, py_l7, py_l8, py_l9, py_l12, py_l16, py_l32, py_l40, py_l100, py_l640, py_l1280, py_neg, py_add, py_sub, py_mul, py_stO]
  refine pr_at (fun _ _ => ?_) (fun c => absurd c (by omega))
  rw [pr_mod hv h0 h1 h2 h3]
  exact h
theorem pr_size {s : py_Z} {a r n : Int} {K : ty_S → Int32 → Prop} (ha : 0 ≤ a) (ha2 : a < 1279) (hv : s 0 (a + 1).toNat = r + 16 * n) (h0 : 0 ≤ r) (h1 : r < 16) (h2 : 0 ≤ n) (h3 : n < 1000) (h : K (py_O s) (py_o (2 + r + n))) : eX0_size (py_O s) (py_o a) K := by
  unfold eX0_size
  try simp only [py_O_ap, py_l0, py_l1, py_l2, py_l3, py_l4, py_l5, py_l6, py_l7, py_l8, py_l9, py_l12, py_l16, py_l32, py_l40, py_l100, py_l640, py_l1280, py_neg, py_add, py_sub, py_mul, py_stO]
  refine pr_at (fun _ _ => ?_) (fun c => absurd c (by omega))
  rw [pr_mod hv h0 h1 h2 h3]
  try simp only [py_O_ap, py_l0, py_l1, py_l2, py_l3, py_l4, py_l5, py_l6, py_l7, py_l8, py_l9, py_l12, py_l16, py_l32, py_l40, py_l100, py_l640, py_l1280, py_neg, py_add, py_sub, py_mul, py_stO]
  have e : 2 + (s 0 (a + 1).toNat - n * 16) + n = 2 + r + n := by omega
  rw [e]; exact h
theorem pr_lastLabel {s : py_Z} {a : Int} {K : ty_S → Int32 → Prop} (ha : 0 ≤ a) (ha2 : a < 40) (hr : 0 ≤ s 3 a.toNat ∧ s 3 a.toNat < 100) (h0 : s 3 a.toNat = 0 → K (py_O s) (py_o 0)) (h1 : s 3 a.toNat ≠ 0 → (0 ≤ s 4 a.toNat ∧ s 4 a.toNat < 1280) ∧ K (py_O s) (py_o (s 0 (s 4 a.toNat).toNat))) : eX0_lastLabel (py_O s) (py_o a) K := by
  unfold eX0_lastLabel
  try simp only [py_O_ap, py_l0, py_l1, py_l2, py_l3, py_l4, py_l5, py_l6, py_l7, py_l8, py_l9, py_l12, py_l16, py_l32, py_l40, py_l100, py_l640, py_l1280, py_neg, py_add, py_sub, py_mul, py_stO]
  refine pr_things (fun _ _ => ?_) (fun c => absurd c (by omega))
  refine py_ieq h0 (fun c => py_and ?_)
  rw [py_nat (by omega)]
  have := h1 c
  exact pr_labelOf (fun _ _ => this.2) (fun c => absurd c (by omega))
/-! the row -/
theorem pr_carAt {s : py_Z} {a : Int} {K : ty_S → Int32 → Prop} (hc : 0 ≤ s 13 0 ∧ s 13 0 ≤ 40) (h1 : 0 ≤ a → a < s 13 0 → K (py_O s) (py_o (s 5 a.toNat))) (h0 : (a < 0 ∨ s 13 0 ≤ a) → K (py_O s) (py_o (-1))) (ra : -2147483648 ≤ a ∧ a < 2147483648 := by omega) : eX1_carAt (py_O s) (py_o a) K := by
  unfold eX1_carAt
  try simp only [py_O_ap, py_l0, py_l1, py_l2, py_l3, py_l4, py_l5, py_l6, py_l7, py_l8, py_l9, py_l12, py_l16, py_l32, py_l40, py_l100, py_l640, py_l1280, py_neg, py_add, py_sub, py_mul, py_stO]
  refine py_ilt (fun c => h0 (by omega)) (fun c => py_ile (fun c2 => h0 (by omega)) (fun c2 => py_and ?_))
  rw [py_nat ra]
  exact h1 (by omega) (by omega)
theorem pr_trainOf {s : py_Z} {a : Int} {K : ty_S → Int32 → Prop} (h1 : 0 ≤ a → a < 40 → K (py_O s) (py_o (s 6 a.toNat))) (h0 : (a < 0 ∨ 40 ≤ a) → K (py_O s) (py_o 0)) (ra : -2147483648 ≤ a ∧ a < 2147483648 := by omega) : eX1_trainOf (py_O s) (py_o a) K := by
  unfold eX1_trainOf
  try simp only [py_O_ap, py_l0, py_l1, py_l2, py_l3, py_l4, py_l5, py_l6, py_l7, py_l8, py_l9, py_l12, py_l16, py_l32, py_l40, py_l100, py_l640, py_l1280, py_neg, py_add, py_sub, py_mul, py_stO]
  refine py_ilt (fun c => h0 (by omega)) (fun c => py_ile (fun c2 => h0 (by omega)) (fun c2 => py_and ?_))
  rw [py_nat ra]
  exact h1 (by omega) (by omega)
theorem pr_countFree {s : py_Z} {K : ty_S → Int32 → Prop} (h : K (py_O s) (py_o (40 - s 13 0))) : eX1_countFree (py_O s) K := by
  unfold eX1_countFree
  try simp only [py_O_ap, py_l0, py_l1, py_l2, py_l3, py_l4, py_l5, py_l6, py_l7, py_l8, py_l9, py_l12, py_l16, py_l32, py_l40, py_l100, py_l640, py_l1280, py_neg, py_add, py_sub, py_mul, py_stO]
  exact h
theorem pr_leastFree {s : py_Z} {K : ty_S → Int32 → Prop} (h6 : ∀ c : Nat, c < 40 → 0 ≤ s 6 c ∧ s 6 c < 2147483648) (h1 : ∀ c : Nat, c < 40 → s 6 c = 0 → (∀ d : Nat, d < c → s 6 d ≠ 0) → K (py_O s) (py_o c)) (h0 : (∀ d : Nat, d < 40 → s 6 d ≠ 0) → K (py_O s) (py_o (-1))) : eX1_leastFree (py_O s) K := by
  have key : ∀ d c : Nat, c + d = 40 → (∀ e : Nat, e < c → s 6 e ≠ 0) → ∃ n, lX1_leastFree_2 K n (py_o c) (py_O s) := by
    intro d
    induction d with
    | zero =>
      intro c hc hd
      refine ⟨1, ?_⟩
      unfold lX1_leastFree_2
      try simp only [py_O_ap, py_l0, py_l1, py_l2, py_l3, py_l4, py_l5, py_l6, py_l7, py_l8, py_l9, py_l12, py_l16, py_l32, py_l40, py_l100, py_l640, py_l1280, py_neg, py_add, py_sub, py_mul, py_stO]
      refine py_ile (fun _ => h0 (fun e he => hd e (by omega))) (fun c2 => absurd c2 (by omega))
    | succ d ih =>
      intro c hc hd
      by_cases e : s 6 c = 0
      · refine ⟨1, ?_⟩
        unfold lX1_leastFree_2
        try simp only [py_O_ap, py_l0, py_l1, py_l2, py_l3, py_l4, py_l5, py_l6, py_l7, py_l8, py_l9, py_l12, py_l16, py_l32, py_l40, py_l100, py_l640, py_l1280, py_neg, py_add, py_sub, py_mul, py_stO]
        refine py_ile (fun _ => absurd hc (by omega)) (fun c2 => py_and ?_)
        rw [py_nat (by omega)]
        simp only [Int.toNat_natCast]
        have := h6 c (by omega)
        exact py_ieq (fun _ => h1 c (by omega) e hd) (fun c3 => absurd e c3)
      · obtain ⟨n, hn⟩ := ih (c + 1) (by omega) (fun e2 he => by
          by_cases e3 : e2 = c
          · rw [e3]; exact e
          · exact hd e2 (by omega))
        refine ⟨n + 1, ?_⟩
        unfold lX1_leastFree_2
        try simp only [py_O_ap, py_l0, py_l1, py_l2, py_l3, py_l4, py_l5, py_l6, py_l7, py_l8, py_l9, py_l12, py_l16, py_l32, py_l40, py_l100, py_l640, py_l1280, py_neg, py_add, py_sub, py_mul, py_stO]
        refine py_ile (fun _ => absurd hc (by omega)) (fun c2 => py_and ?_)
        rw [py_nat (by omega)]
        simp only [Int.toNat_natCast]
        have := h6 c (by omega)
        exact py_ieq (fun c3 => absurd c3 e) (fun c3 => hn)
  unfold eX1_leastFree
  rw [py_l0]
  exact key 40 0 rfl (fun e he => absurd he (by omega))
end
section
/-! PURE: what lies in the cars -/
def pr_IR (s : py_Z) : Prop := (∀ p : Nat, p < 1280 → (s 1 p = 0 ∨ s 1 p = 1) ∧ (s 1 p ≠ 0 → ((p % 32 : Nat) : Int) < s 2 (p / 32))) ∧ ∀ c : Nat, c < 40 → 0 ≤ s 2 c ∧ s 2 c ≤ 32
theorem pr_next {s : py_Z} {a : Nat} {K : ty_S → Int32 → Prop} (hI : pr_IR s) (ha : a ≤ 1280) (h1 : ∀ q : Nat, a ≤ q → q < 1280 → s 1 q = 1 → (∀ p : Nat, a ≤ p → p < q → s 1 p = 0) → K (py_O s) (py_o q)) (h0 : (∀ p : Nat, a ≤ p → p < 1280 → s 1 p = 0) → K (py_O s) (py_o 1280)) : eX0_nextReference (py_O s) (py_o a) K := by
  have key : ∀ d b : Nat, b ≤ 1280 → 1280 - b ≤ d → a ≤ b → (∀ p : Nat, a ≤ p → p < b → s 1 p = 0) → ∃ n, lX0_nextReference_2 K n (py_o b) (py_O s) := by
    intro d
    induction d with
    | zero =>
      intro b hb hd hab hz
      refine ⟨1, ?_⟩
      unfold lX0_nextReference_2
      try simp only [py_O_ap, py_l0, py_l1, py_l2, py_l3, py_l4, py_l5, py_l6, py_l7, py_l8, py_l9, py_l12, py_l16, py_l32, py_l40, py_l100, py_l640, py_l1280, py_neg, py_add, py_sub, py_mul, py_stO]
      exact py_ilt (fun c => absurd c (by omega)) (fun _ => py_ile (fun _ => h0 (fun p h2 h3 => hz p h2 (by omega))) (fun c => absurd c (by omega)))
    | succ d ih =>
      intro b hb hd hab hz
      by_cases hb2 : b = 1280
      · refine ⟨1, ?_⟩
        unfold lX0_nextReference_2
        try simp only [py_O_ap, py_l0, py_l1, py_l2, py_l3, py_l4, py_l5, py_l6, py_l7, py_l8, py_l9, py_l12, py_l16, py_l32, py_l40, py_l100, py_l640, py_l1280, py_neg, py_add, py_sub, py_mul, py_stO]
        exact py_ilt (fun c => absurd c (by omega)) (fun _ => py_ile (fun _ => h0 (fun p h2 h3 => hz p h2 (by omega))) (fun c => absurd c (by omega)))
      · have hq : b / 32 < 40 := by omega
        have hF := hI.2 (b / 32) hq
        have hR := hI.1 b (by omega)
        have e1 : ((b : Int) / 32).toNat = b / 32 := by omega
        have e2 : (b : Int).toNat = b := by omega
        by_cases c1 : ((b % 32 : Nat) : Int) < s 2 (b / 32)
        · by_cases c2 : s 1 b = 0
          · obtain ⟨n, hn⟩ := ih (b + 1) (by omega) (by omega) (by omega) (fun p h2 h3 => by
              by_cases e : p = b
              · rw [e]; exact c2
              · exact hz p h2 (by omega))
            refine ⟨n + 1, ?_⟩
            unfold lX0_nextReference_2
            try simp only [py_O_ap, py_l0, py_l1, py_l2, py_l3, py_l4, py_l5, py_l6, py_l7, py_l8, py_l9, py_l12, py_l16, py_l32, py_l40, py_l100, py_l640, py_l1280, py_neg, py_add, py_sub, py_mul, py_stO]
            rw [py_div (by omega) (by omega)]
            try simp only [py_O_ap, py_l0, py_l1, py_l2, py_l3, py_l4, py_l5, py_l6, py_l7, py_l8, py_l9, py_l12, py_l16, py_l32, py_l40, py_l100, py_l640, py_l1280, py_neg, py_add, py_sub, py_mul, py_stO]
            rw [py_nat (by omega), py_nat (by omega), e1, e2]
            refine py_ilt (fun c => absurd c (by omega)) (fun _ => py_ile (fun c => absurd c (by omega)) (fun _ => py_and ?_))
            refine py_ilt (fun _ => py_and ?_) (fun c => absurd c (by omega))
            exact py_ieq (fun _ => hn) (fun c => absurd c2 c)
          · refine ⟨1, ?_⟩
            unfold lX0_nextReference_2
            try simp only [py_O_ap, py_l0, py_l1, py_l2, py_l3, py_l4, py_l5, py_l6, py_l7, py_l8, py_l9, py_l12, py_l16, py_l32, py_l40, py_l100, py_l640, py_l1280, py_neg, py_add, py_sub, py_mul, py_stO]
            rw [py_div (by omega) (by omega)]
            try simp only [py_O_ap, py_l0, py_l1, py_l2, py_l3, py_l4, py_l5, py_l6, py_l7, py_l8, py_l9, py_l12, py_l16, py_l32, py_l40, py_l100, py_l640, py_l1280, py_neg, py_add, py_sub, py_mul, py_stO]
            rw [py_nat (by omega), py_nat (by omega), e1, e2]
            refine py_ilt (fun c => absurd c (by omega)) (fun _ => py_ile (fun c => absurd c (by omega)) (fun _ => py_and ?_))
            refine py_ilt (fun _ => py_and ?_) (fun c => absurd c (by omega))
            refine py_ieq (fun c => absurd c c2) (fun _ => h1 b hab (by omega) (by omega) hz)
        · obtain ⟨n, hn⟩ := ih ((b / 32 + 1) * 32) (by omega) (by omega) (by omega) (fun p h2 h3 => by
            by_cases e : p < b
            · exact hz p h2 e
            · by_cases e3 : s 1 p = 0
              · exact e3
              · have := (hI.1 p (by omega)).2 e3
                have e4 : p / 32 = b / 32 := by omega
                rw [e4] at this
                omega)
          refine ⟨n + 1, ?_⟩
          unfold lX0_nextReference_2
          try simp only [py_O_ap, py_l0, py_l1, py_l2, py_l3, py_l4, py_l5, py_l6, py_l7, py_l8, py_l9, py_l12, py_l16, py_l32, py_l40, py_l100, py_l640, py_l1280, py_neg, py_add, py_sub, py_mul, py_stO]
          rw [py_div (by omega) (by omega)]
          try simp only [py_O_ap, py_l0, py_l1, py_l2, py_l3, py_l4, py_l5, py_l6, py_l7, py_l8, py_l9, py_l12, py_l16, py_l32, py_l40, py_l100, py_l640, py_l1280, py_neg, py_add, py_sub, py_mul, py_stO]
          rw [py_nat (by omega), e1]
          refine py_ilt (fun c => absurd c (by omega)) (fun _ => py_ile (fun c => absurd c (by omega)) (fun _ => py_and ?_))
          refine py_ilt (fun c => absurd c (by omega)) (fun c => ?_)
          have e5 : (((b / 32 + 1) * 32 : Nat) : Int) = ((b : Int) / 32 + 1) * 32 := by omega
          rw [e5] at hn
          exact hn
  unfold eX0_nextReference
  exact key 1280 a ha (by omega) (Nat.le_refl _) (fun p h2 h3 => absurd h3 (by omega))
/-- a car is cleared -/
def pr_clr (s : py_Z) (c : Nat) : py_Z := fun g i => if g = 0 ∨ g = 1 then (if i / 32 = c then 0 else s g i) else if g = 2 ∨ g = 3 then (if i = c then 0 else s g i) else s g i
theorem pr_clear {s : py_Z} {c : Nat} {K : ty_S → Prop} (hc : c < 40) (h : K (py_O (pr_clr s c))) : eX0_clear (py_O s) (py_o c) K := by
  have key : ∀ d m : Nat, m + d = 32 → ∃ n, lX0_clear_15 K n (py_o c) (py_o (c * 32)) (py_o ((c * 32 + m : Nat) : Int)) (py_O (fun g i => if g = 0 ∨ g = 1 then (if c * 32 ≤ i ∧ i < c * 32 + m then 0 else s g i) else s g i)) := by
    intro d
    induction d with
    | zero =>
      intro m hm
      refine ⟨1, ?_⟩
      unfold lX0_clear_15
      try simp only [py_O_ap, py_l0, py_l1, py_l2, py_l3, py_l4, py_l5, py_l6, py_l7, py_l8, py_l9, py_l12, py_l16, py_l32, py_l40, py_l100, py_l640, py_l1280, py_neg, py_add, py_sub, py_mul, py_stO]
      refine py_ile (fun _ => ?_) (fun c => absurd c (by omega))
      unfold jX0_clear_50
      try simp only [py_O_ap, py_l0, py_l1, py_l2, py_l3, py_l4, py_l5, py_l6, py_l7, py_l8, py_l9, py_l12, py_l16, py_l32, py_l40, py_l100, py_l640, py_l1280, py_neg, py_add, py_sub, py_mul, py_stO]
      refine py_and (py_and ?_)
      rw [py_nat (by omega)]
      have e : pr_clr s c = py_st (py_st (fun g i => if g = 0 ∨ g = 1 then (if c * 32 ≤ i ∧ i < c * 32 + m then 0 else s g i) else s g i) 2 (c : Int).toNat 0) 3 (c : Int).toNat 0 := by
        funext g i
        simp only [pr_clr, py_st, Int.toNat_natCast]
        grind
      rw [← e]
      exact h
    | succ d ih =>
      intro m hm
      obtain ⟨n, hn⟩ := ih (m + 1) (by omega)
      refine ⟨n + 1, ?_⟩
      unfold lX0_clear_15
      try simp only [py_O_ap, py_l0, py_l1, py_l2, py_l3, py_l4, py_l5, py_l6, py_l7, py_l8, py_l9, py_l12, py_l16, py_l32, py_l40, py_l100, py_l640, py_l1280, py_neg, py_add, py_sub, py_mul, py_stO]
      refine py_ile (fun c => absurd c (by omega)) (fun _ => py_ile (fun c => absurd c (by omega)) (fun _ => py_and (py_and ?_)))
      rw [py_nat (by omega)]
      have e : (fun g i => if g = 0 ∨ g = 1 then (if c * 32 ≤ i ∧ i < c * 32 + (m + 1) then 0 else s g i) else s g i) = py_st (py_st (fun g i => if g = 0 ∨ g = 1 then (if c * 32 ≤ i ∧ i < c * 32 + m then 0 else s g i) else s g i) 0 ((c * 32 + m : Nat) : Int).toNat 0) 1 ((c * 32 + m : Nat) : Int).toNat 0 := by
        funext g i
        simp only [py_st, Int.toNat_natCast]
        grind
      rw [e] at hn
      exact hn
  unfold eX0_clear
  try simp only [py_O_ap, py_l0, py_l1, py_l2, py_l3, py_l4, py_l5, py_l6, py_l7, py_l8, py_l9, py_l12, py_l16, py_l32, py_l40, py_l100, py_l640, py_l1280, py_neg, py_add, py_sub, py_mul, py_stO]
  refine pr_isCar (fun _ _ => ?_) (fun c => absurd c (by omega))
  refine py_ieq (fun c => absurd c (by omega)) (fun _ => ?_)
  have := key 32 0 rfl
  have e : (fun (g i : Nat) => if g = 0 ∨ g = 1 then (if c * 32 ≤ i ∧ i < c * 32 + 0 then 0 else s g i) else s g i) = s := by
    funext g i
    grind
  rw [e] at this
  exact this
/-- a thing is laid -/
def pr_ld (s : py_Z) (c : Nat) (l r n : Int) : py_Z := fun g i =>
  if g = 0 then (if (i : Int) = 32 * c + s 2 c then l else if (i : Int) = 32 * c + s 2 c + 1 then r + 16 * n else if 32 * c + s 2 c + 2 ≤ (i : Int) ∧ (i : Int) < 32 * c + s 2 c + 2 + r then -1 else s 0 i)
  else if g = 1 then (if 32 * c + s 2 c + 2 ≤ (i : Int) ∧ (i : Int) < 32 * c + s 2 c + 2 + r then 1 else s 1 i)
  else if g = 2 then (if i = c then s 2 c + (2 + r + n) else s 2 i)
  else if g = 3 then (if i = c then s 3 c + 1 else s 3 i)
  else if g = 4 then (if i = c then 32 * c + s 2 c else s 4 i)
  else s g i
theorem pr_load {s : py_Z} {c : Nat} {l r n : Int} {K : ty_S → Int32 → Prop} (hc : c < 40) (hF : 0 ≤ s 2 c) (hr : 0 ≤ r) (hn : 0 ≤ n) (hfit : s 2 c + (2 + r + n) ≤ 32) (h : K (py_O (pr_ld s c l r n)) (py_o (32 * c + s 2 c))) : eX0_load (py_O s) (py_o c) (py_o l) (py_o r) (py_o n) K := by
  generalize hF2 : s 2 c = F at *
  have key : ∀ d m : Nat, (m : Int) + d = r → ∃ n9, lX0_load_69 K n9 (py_o c) (py_o (2 + r + n)) (py_o (c * 32 + F)) (py_o (c * 32 + F + 2 + r)) (py_o (c * 32 + F + 2 + m)) (py_O (fun g i =>
      if g = 0 then (if (i : Int) = 32 * c + F then l else if (i : Int) = 32 * c + F + 1 then r + 16 * n else if 32 * c + F + 2 ≤ (i : Int) ∧ (i : Int) < 32 * c + F + 2 + m then -1 else s 0 i)
      else if g = 1 then (if 32 * c + F + 2 ≤ (i : Int) ∧ (i : Int) < 32 * c + F + 2 + m then 1 else s 1 i) else s g i)) := by
    intro d
    induction d with
    | zero =>
      intro m hm
      refine ⟨1, ?_⟩
      unfold lX0_load_69
      try simp only [py_O_ap, py_l0, py_l1, py_l2, py_l3, py_l4, py_l5, py_l6, py_l7, py_l8, py_l9, py_l12, py_l16, py_l32, py_l40, py_l100, py_l640, py_l1280, py_neg, py_add, py_sub, py_mul, py_stO]
      refine py_ile (fun _ => ?_) (fun c => absurd c (by omega))
      unfold jX0_load_106
      try simp only [py_O_ap, py_l0, py_l1, py_l2, py_l3, py_l4, py_l5, py_l6, py_l7, py_l8, py_l9, py_l12, py_l16, py_l32, py_l40, py_l100, py_l640, py_l1280, py_neg, py_add, py_sub, py_mul, py_stO]
      refine py_and (py_and (py_and (py_and (py_and ?_))))
      rw [py_nat (by omega)]
      simp only [Int.toNat_natCast]
      try simp only [py_O_ap, py_l0, py_l1, py_l2, py_l3, py_l4, py_l5, py_l6, py_l7, py_l8, py_l9, py_l12, py_l16, py_l32, py_l40, py_l100, py_l640, py_l1280, py_neg, py_add, py_sub, py_mul, py_stO]
      have hm2 : (m : Int) = r := by omega
      rw [hm2]
      have e0 : (c : Int) * 32 + F = 32 * c + F := by omega
      rw [e0]
      have e : pr_ld s c l r n = py_st (py_st (py_st (fun g i =>
      if g = 0 then (if (i : Int) = 32 * c + F then l else if (i : Int) = 32 * c + F + 1 then r + 16 * n else if 32 * c + F + 2 ≤ (i : Int) ∧ (i : Int) < 32 * c + F + 2 + r then -1 else s 0 i)
      else if g = 1 then (if 32 * c + F + 2 ≤ (i : Int) ∧ (i : Int) < 32 * c + F + 2 + r then 1 else s 1 i) else s g i) 2 c (s 2 c + (2 + r + n))) 3 c (s 3 c + 1)) 4 c (32 * c + F) := by
        funext g i
        simp only [pr_ld, py_st, hF2]
        grind
      rw [e] at h
      exact h
    | succ d ih =>
      intro m hm
      obtain ⟨n9, hn9⟩ := ih (m + 1) (by omega)
      refine ⟨n9 + 1, ?_⟩
      unfold lX0_load_69
      try simp only [py_O_ap, py_l0, py_l1, py_l2, py_l3, py_l4, py_l5, py_l6, py_l7, py_l8, py_l9, py_l12, py_l16, py_l32, py_l40, py_l100, py_l640, py_l1280, py_neg, py_add, py_sub, py_mul, py_stO]
      refine py_ile (fun c => absurd c (by omega)) (fun _ => py_ile (fun c => absurd c (by omega)) (fun _ => py_and (py_and ?_)))
      rw [py_nat (by omega)]
      try simp only [py_O_ap, py_l0, py_l1, py_l2, py_l3, py_l4, py_l5, py_l6, py_l7, py_l8, py_l9, py_l12, py_l16, py_l32, py_l40, py_l100, py_l640, py_l1280, py_neg, py_add, py_sub, py_mul, py_stO]
      have e1 : (c : Int) * 32 + F + 2 + (m + 1 : Nat) = c * 32 + F + 2 + m + 1 := by omega
      rw [e1] at hn9
      have e : (fun (g i : Nat) =>
      if g = 0 then (if (i : Int) = 32 * c + F then l else if (i : Int) = 32 * c + F + 1 then r + 16 * n else if 32 * c + F + 2 ≤ (i : Int) ∧ (i : Int) < 32 * c + F + 2 + (m + 1 : Nat) then -1 else s 0 i)
      else if g = 1 then (if 32 * c + F + 2 ≤ (i : Int) ∧ (i : Int) < 32 * c + F + 2 + (m + 1 : Nat) then 1 else s 1 i) else s g i) = py_st (py_st (fun g i =>
      if g = 0 then (if (i : Int) = 32 * c + F then l else if (i : Int) = 32 * c + F + 1 then r + 16 * n else if 32 * c + F + 2 ≤ (i : Int) ∧ (i : Int) < 32 * c + F + 2 + m then -1 else s 0 i)
      else if g = 1 then (if 32 * c + F + 2 ≤ (i : Int) ∧ (i : Int) < 32 * c + F + 2 + m then 1 else s 1 i) else s g i) 0 ((c : Int) * 32 + F + 2 + m).toNat (-1)) 1 ((c : Int) * 32 + F + 2 + m).toNat 1 := by
        funext g i
        simp only [py_st]
        grind
      rw [e] at hn9
      exact hn9
  unfold eX0_load
  try simp only [py_O_ap, py_l0, py_l1, py_l2, py_l3, py_l4, py_l5, py_l6, py_l7, py_l8, py_l9, py_l12, py_l16, py_l32, py_l40, py_l100, py_l640, py_l1280, py_neg, py_add, py_sub, py_mul, py_stO]
  refine pr_room (fun _ _ => ?_) (fun c => absurd c (by omega))
  simp only [Int.toNat_natCast, hF2]
  refine py_ile (fun _ => py_and ?_) (fun c => absurd c (by omega))
  rw [py_nat (by omega)]
  simp only [Int.toNat_natCast, hF2]
  try simp only [py_O_ap, py_l0, py_l1, py_l2, py_l3, py_l4, py_l5, py_l6, py_l7, py_l8, py_l9, py_l12, py_l16, py_l32, py_l40, py_l100, py_l640, py_l1280, py_neg, py_add, py_sub, py_mul, py_stO]
  refine pr_write (fun _ _ => ?_) (fun c => absurd c (by omega))
  refine pr_write (fun _ _ => ?_) (fun c => absurd c (by omega))
  simp only [hF2]
  have := key r.toNat 0 (by omega)
  have e : (fun (g i : Nat) =>
      if g = 0 then (if (i : Int) = 32 * c + F then l else if (i : Int) = 32 * c + F + 1 then r + 16 * n else if 32 * c + F + 2 ≤ (i : Int) ∧ (i : Int) < 32 * c + F + 2 + (0 : Nat) then -1 else s 0 i)
      else if g = 1 then (if 32 * c + F + 2 ≤ (i : Int) ∧ (i : Int) < 32 * c + F + 2 + (0 : Nat) then 1 else s 1 i) else s g i) = py_st (py_st s 0 ((c : Int) * 32 + F).toNat l) 0 ((c : Int) * 32 + F + 1).toNat (r + 16 * n) := by
    funext g i
    simp only [py_st]
    grind
  rw [e] at this
  have e2 : (c : Int) * 32 + F + 2 + (0 : Nat) = c * 32 + F + 2 := by omega
  rw [e2] at this
  exact this
/-- a thing is brought: laid again elsewhere -/
def pr_br (s : py_Z) (a c : Nat) (r n : Int) : py_Z := fun g i =>
  if g = 0 then (if 32 * c + s 2 c ≤ (i : Int) ∧ (i : Int) < 32 * c + s 2 c + (2 + r + n) then s 0 (a + (i - (32 * c + s 2 c).toNat)) else s 0 i)
  else if g = 1 then (if 32 * c + s 2 c + 2 ≤ (i : Int) ∧ (i : Int) < 32 * c + s 2 c + 2 + r then 1 else s 1 i)
  else if g = 2 then (if i = c then s 2 c + (2 + r + n) else s 2 i)
  else if g = 3 then (if i = c then s 3 c + 1 else s 3 i)
  else if g = 4 then (if i = c then 32 * c + s 2 c else s 4 i)
  else s g i
theorem pr_bring {s : py_Z} {a c : Nat} {r n : Int} {K : ty_S → Int32 → Prop} (hc : c < 40) (hF : 0 ≤ s 2 c) (hr : 0 ≤ r) (hr2 : r ≤ 12) (hn : 0 ≤ n) (hn2 : n ≤ 12) (hfit : s 2 c + (2 + r + n) ≤ 32) (ha : (a : Int) + (2 + r + n) ≤ 1280) (hw : s 0 (a + 1) = r + 16 * n) (hdis : (a : Int) + (2 + r + n) ≤ 32 * c + s 2 c ∨ 32 * c + s 2 c + (2 + r + n) ≤ a) (h : K (py_O (pr_br s a c r n)) (py_o (32 * c + s 2 c))) : eX0_bring (py_O s) (py_o a) (py_o c) K := by
  have hw2 : s 0 ((a : Int) + 1).toNat = r + 16 * n := by
    have e : ((a : Int) + 1).toNat = a + 1 := by omega
    rw [e]; exact hw
  unfold eX0_bring
  try simp only [py_O_ap, py_l0, py_l1, py_l2, py_l3, py_l4, py_l5, py_l6, py_l7, py_l8, py_l9, py_l12, py_l16, py_l32, py_l40, py_l100, py_l640, py_l1280, py_neg, py_add, py_sub, py_mul, py_stO]
  refine pr_labelOf (fun _ _ => ?_) (fun c => absurd c (by omega))
  simp only [Int.toNat_natCast]
  refine pr_references (by omega) (by omega) hw2 hr (by omega) hn (by omega) ?_
  refine pr_numbers (by omega) (by omega) hw2 hr (by omega) hn (by omega) ?_
  refine pr_load hc hF hr hn hfit ?_
  refine py_ieq (fun c => absurd c (by omega)) (fun _ => ?_)
  have hw3 : pr_ld s c (s 0 a) r n 0 ((a : Int) + 1).toNat = r + 16 * n := by
    simp only [pr_ld]
    have e : ((a : Int) + 1).toNat = a + 1 := by omega
    rw [e, hw]
    grind
  refine pr_size (by omega) (by omega) hw3 hr (by omega) hn (by omega) ?_
  have key : ∀ d m : Nat, 2 ≤ m → (m : Int) + d = 2 + r + n → ∃ n9, lX0_bring_38 K n9 (py_o a) (py_o (32 * c + s 2 c)) (py_o (2 + r + n)) (py_o m) (py_O (fun g i => if g = 0 ∧ 32 * c + s 2 c ≤ (i : Int) ∧ (i : Int) < 32 * c + s 2 c + m then s 0 (a + (i - (32 * c + s 2 c).toNat)) else pr_ld s c (s 0 a) r n g i)) := by
    intro d
    induction d with
    | zero =>
      intro m hm0 hm
      refine ⟨1, ?_⟩
      unfold lX0_bring_38
      try simp only [py_O_ap, py_l0, py_l1, py_l2, py_l3, py_l4, py_l5, py_l6, py_l7, py_l8, py_l9, py_l12, py_l16, py_l32, py_l40, py_l100, py_l640, py_l1280, py_neg, py_add, py_sub, py_mul, py_stO]
      refine py_ile (fun _ => ?_) (fun c => absurd c (by omega))
      have e : pr_br s a c r n = (fun (g i : Nat) => if g = 0 ∧ 32 * c + s 2 c ≤ (i : Int) ∧ (i : Int) < 32 * c + s 2 c + m then s 0 (a + (i - (32 * c + s 2 c).toNat)) else pr_ld s c (s 0 a) r n g i) := by
        funext g i
        simp only [pr_br, pr_ld]
        grind
      rw [← e]
      exact h
    | succ d ih =>
      intro m hm0 hm
      obtain ⟨n9, hn9⟩ := ih (m + 1) (by omega) (by omega)
      refine ⟨n9 + 1, ?_⟩
      unfold lX0_bring_38
      try simp only [py_O_ap, py_l0, py_l1, py_l2, py_l3, py_l4, py_l5, py_l6, py_l7, py_l8, py_l9, py_l12, py_l16, py_l32, py_l40, py_l100, py_l640, py_l1280, py_neg, py_add, py_sub, py_mul, py_stO]
      refine py_ile (fun c => absurd c (by omega)) (fun _ => ?_)
      refine pr_at (fun _ _ => ?_) (fun c => absurd c (by omega))
      refine pr_write (fun _ _ => ?_) (fun c => absurd c (by omega))
      have e : (fun (g i : Nat) => if g = 0 ∧ 32 * c + s 2 c ≤ (i : Int) ∧ (i : Int) < 32 * c + s 2 c + (m + 1 : Nat) then s 0 (a + (i - (32 * c + s 2 c).toNat)) else pr_ld s c (s 0 a) r n g i) = py_st (fun g i => if g = 0 ∧ 32 * c + s 2 c ≤ (i : Int) ∧ (i : Int) < 32 * c + s 2 c + m then s 0 (a + (i - (32 * c + s 2 c).toNat)) else pr_ld s c (s 0 a) r n g i) 0 (32 * c + s 2 c + m).toNat (if 0 = 0 ∧ 32 * c + s 2 c ≤ (((a : Int) + m).toNat : Int) ∧ (((a : Int) + m).toNat : Int) < 32 * c + s 2 c + m then s 0 (a + (((a : Int) + m).toNat - (32 * c + s 2 c).toNat)) else pr_ld s c (s 0 a) r n 0 ((a : Int) + m).toNat) := by
        funext g i
        have e1 : ((a : Int) + m).toNat = a + m := by omega
        rw [e1]
        simp only [py_st]
        by_cases hg : g = 0
        · subst hg
          by_cases hi : i = (32 * c + s 2 c + m).toNat
          · have e2 : i - (32 * (c : Int) + s 2 c).toNat = m := by omega
            rw [if_pos rfl, if_pos hi, if_pos (by omega), e2, if_neg (by omega)]
            simp only [pr_ld]
            grind
          · grind
        · grind
      rw [e] at hn9
      exact hn9
  have := key (r + n).toNat 2 (Nat.le_refl _) (by omega)
  have e : (fun (g i : Nat) => if g = 0 ∧ 32 * c + s 2 c ≤ (i : Int) ∧ (i : Int) < 32 * c + s 2 c + (2 : Nat) then s 0 (a + (i - (32 * c + s 2 c).toNat)) else pr_ld s c (s 0 a) r n g i) = pr_ld s c (s 0 a) r n := by
    funext g i
    by_cases hg : g = 0
    · subst hg
      by_cases hi : i = (32 * c + s 2 c).toNat
      · have e2 : i - (32 * (c : Int) + s 2 c).toNat = 0 := by omega
        rw [if_pos ⟨rfl, by omega, by omega⟩, e2]
        simp only [pr_ld]
        grind
      · by_cases hi : i = (32 * c + s 2 c).toNat + 1
        · have e2 : i - (32 * (c : Int) + s 2 c).toNat = 1 := by omega
          rw [if_pos ⟨rfl, by omega, by omega⟩, e2, hw]
          simp only [pr_ld]
          grind
        · rw [if_neg (by omega)]
    · grind
  rw [e] at this
  exact this
end
section
/-! PURE: the row of cars and the rows of trains -/
def pr_off (t : py_Z) : Nat → Nat
  | 0 => 0
  | j + 1 => pr_off t j + (t 41 j).toNat
def pr_RW (s t : py_Z) : Prop :=
  (0 ≤ t 50 0 ∧ t 50 0 ≤ 40) ∧
  (∀ j : Nat, (j : Int) < t 50 0 → 1 ≤ t 41 j ∧ t 41 j ≤ 40) ∧
  ((pr_off t (t 50 0).toNat : Int) = s 13 0 ∧ s 13 0 ≤ 40) ∧
  (∀ j k : Nat, (j : Int) < t 50 0 → (k : Int) < t 41 j → s 5 (pr_off t j + k) = t 42 (40 * j + k) ∧ (0 ≤ t 42 (40 * j + k) ∧ t 42 (40 * j + k) < 40) ∧ s 6 (t 42 (40 * j + k)).toNat = t 40 j) ∧
  (∀ j : Nat, (j : Int) < t 50 0 → 1 ≤ t 40 j ∧ t 40 j ≤ t 57 0) ∧
  (∀ i j : Nat, i < j → (j : Int) < t 50 0 → t 40 i < t 40 j) ∧
  (s 14 0 = t 57 0 ∧ 0 ≤ t 57 0 ∧ t 57 0 ≤ 100000) ∧
  (∀ c : Nat, c < 40 → s 6 c ≠ 0 → ∃ k : Nat, (k : Int) < s 13 0 ∧ s 5 k = c) ∧
  (∀ a b : Nat, a < b → (b : Int) < s 13 0 → s 5 a ≠ s 5 b) ∧
  ((py_cnt (fun c => decide (s 6 c ≠ 0)) 40 : Int) = s 13 0)
theorem pr_off_mono {t : py_Z} : ∀ (d i : Nat), pr_off t i ≤ pr_off t (i + d)
  | 0, i => Nat.le_refl _
  | d + 1, i => by
    have := pr_off_mono (t := t) d i
    show pr_off t i ≤ pr_off t (i + d) + _
    omega
theorem pr_off_le {t : py_Z} {i j : Nat} (h : i ≤ j) : pr_off t i ≤ pr_off t j := by
  have := pr_off_mono (t := t) (j - i) i
  rwa [show i + (j - i) = j by omega] at this
theorem pr_off_dec {t : py_Z} : ∀ (n i : Nat), i < pr_off t n → ∃ j k : Nat, j < n ∧ (k : Int) < t 41 j ∧ i = pr_off t j + k
  | 0, i, h => by simp [pr_off] at h
  | n + 1, i, h => by
    by_cases e : i < pr_off t n
    · obtain ⟨j, k, h1, h2, h3⟩ := pr_off_dec n i e
      exact ⟨j, k, by omega, h2, h3⟩
    · refine ⟨n, i - pr_off t n, by omega, ?_, by omega⟩
      have : pr_off t (n + 1) = pr_off t n + (t 41 n).toNat := rfl
      omega
section PRW
variable {s t : py_Z}
theorem pr_RW.cnt (h : pr_RW s t) : 0 ≤ s 13 0 ∧ s 13 0 ≤ 40 := by
  have := h.2.2.1; omega
/-- a car of the row is the k-th of the j-th train -/
theorem pr_RW.dec (h : pr_RW s t) {i : Nat} (hi : (i : Int) < s 13 0) : ∃ j k : Nat, (j : Int) < t 50 0 ∧ (k : Int) < t 41 j ∧ i = pr_off t j + k := by
  have h1 := h.1
  obtain ⟨j, k, h2, h3, h4⟩ := pr_off_dec (t := t) (t 50 0).toNat i (by have := h.2.2.1; omega)
  exact ⟨j, k, by omega, h3, h4⟩
theorem pr_RW.lt (h : pr_RW s t) {j k : Nat} (hj : (j : Int) < t 50 0) (hk : (k : Int) < t 41 j) : ((pr_off t j + k : Nat) : Int) < s 13 0 := by
  have h1 := pr_off_le (t := t) (show j + 1 ≤ (t 50 0).toNat by omega)
  have h2 : pr_off t (j + 1) = pr_off t j + (t 41 j).toNat := rfl
  have := h.2.2.1
  omega
theorem pr_RW.end_le (h : pr_RW s t) {j : Nat} (hj : (j : Int) < t 50 0) : (pr_off t j : Int) + t 41 j ≤ s 13 0 := by
  have h1 := pr_off_le (t := t) (show j + 1 ≤ (t 50 0).toNat by omega)
  have h2 : pr_off t (j + 1) = pr_off t j + (t 41 j).toNat := rfl
  have := h.2.2.1
  omega
theorem pr_RW.off_ge (h : pr_RW s t) : ∀ (j : Nat), (j : Int) ≤ t 50 0 → j ≤ pr_off t j
  | 0, _ => Nat.zero_le _
  | j + 1, hj => by
    have h1 := pr_RW.off_ge h j (by omega)
    have h2 : pr_off t (j + 1) = pr_off t j + (t 41 j).toNat := rfl
    have := h.2.1 j (by omega)
    omega
/-- what a car of the row is -/
theorem pr_RW.car (h : pr_RW s t) {i : Nat} (hi : (i : Int) < s 13 0) : (0 ≤ s 5 i ∧ s 5 i < 40) ∧ ∃ j k : Nat, (j : Int) < t 50 0 ∧ (k : Int) < t 41 j ∧ i = pr_off t j + k ∧ s 5 i = t 42 (40 * j + k) ∧ s 6 (s 5 i).toNat = t 40 j ∧ 1 ≤ t 40 j ∧ t 40 j ≤ 100000 := by
  obtain ⟨j, k, hj, hk, rfl⟩ := h.dec hi
  obtain ⟨h1, h2, h3⟩ := h.2.2.2.1 j k hj hk
  have h4 := h.2.2.2.2.1 j hj
  have h5 := h.2.2.2.2.2.2.1
  exact ⟨by rw [h1]; exact h2, j, k, hj, hk, rfl, h1, by rw [h1]; exact h3, h4.1, by omega⟩
/-- a car has its place in one train alone -/
theorem pr_RW.num (h : pr_RW s t) {i j : Nat} (hi : (i : Int) < t 50 0) (hj : (j : Int) < t 50 0) (e : t 40 i = t 40 j) : i = j := by
  rcases Nat.lt_trichotomy i j with h1 | h1 | h1
  · have := h.2.2.2.2.2.1 i j h1 hj; omega
  · exact h1
  · have := h.2.2.2.2.2.1 j i h1 hi; omega
theorem pr_RW.num_le (h : pr_RW s t) {i j : Nat} (hi : (i : Int) < t 50 0) (hj : (j : Int) < t 50 0) : t 40 i ≤ t 40 j ↔ i ≤ j := by
  constructor
  · intro e
    rcases Nat.lt_or_ge j i with h1 | h1
    · have := h.2.2.2.2.2.1 j i h1 hi; omega
    · exact h1
  · intro e
    rcases Nat.lt_or_eq_of_le e with h1 | h1
    · have := h.2.2.2.2.2.1 i j h1 hj; omega
    · rw [h1]; omega
theorem pr_RW.inj (h : pr_RW s t) {i j : Nat} (hi : (i : Int) < s 13 0) (hj : (j : Int) < s 13 0) (e : s 5 i = s 5 j) : i = j := by
  rcases Nat.lt_trichotomy i j with h1 | h1 | h1
  · exact absurd e (h.2.2.2.2.2.2.2.2.1 i j h1 hj)
  · exact h1
  · exact absurd e.symm (h.2.2.2.2.2.2.2.2.1 j i h1 hi)
theorem pr_RW.inj2 (h : pr_RW s t) {j k j' k' : Nat} (hj : (j : Int) < t 50 0) (hk : (k : Int) < t 41 j) (hj' : (j' : Int) < t 50 0) (hk' : (k' : Int) < t 41 j') (e : t 42 (40 * j + k) = t 42 (40 * j' + k')) : j = j' ∧ k = k' := by
  obtain ⟨h1, h2, h3⟩ := h.2.2.2.1 j k hj hk
  obtain ⟨h4, h5, h6⟩ := h.2.2.2.1 j' k' hj' hk'
  have h7 : j = j' := h.num hj hj' (by rw [← h3, ← h6, e])
  subst h7
  have := h.inj (h.lt hj hk) (h.lt hj hk') (by rw [h1, h4, e])
  exact ⟨rfl, by omega⟩
/-- the number of a car's train, or 0 -/
theorem pr_RW.six (h : pr_RW s t) {c : Nat} (hc : c < 40) : s 6 c = 0 ∨ ∃ j k : Nat, (j : Int) < t 50 0 ∧ (k : Int) < t 41 j ∧ t 42 (40 * j + k) = c ∧ s 6 c = t 40 j ∧ 1 ≤ t 40 j ∧ t 40 j ≤ 100000 ∧ s 5 (pr_off t j + k) = c := by
  by_cases e : s 6 c = 0
  · exact Or.inl e
  · obtain ⟨i, hi, e2⟩ := h.2.2.2.2.2.2.2.1 c hc e
    obtain ⟨h1, j, k, hj, hk, h2, h3, h4, h5, h6⟩ := h.car hi
    have e3 : (s 5 i).toNat = c := by omega
    exact Or.inr ⟨j, k, hj, hk, by omega, by rw [← e3]; exact h4, h5, h6, by rw [← h2]; exact e2⟩
theorem pr_RW.six_b (h : pr_RW s t) {c : Nat} (hc : c < 40) : 0 ≤ s 6 c ∧ s 6 c ≤ 100000 := by
  rcases h.six hc with e | ⟨j, k, hj, hk, h1, h2, h3, h4, h5⟩ <;> omega
/-- a free car there is, unless all are in the row -/
theorem pr_RW.free (h : pr_RW s t) (hf : s 13 0 < 40) : ∃ c : Nat, c < 40 ∧ s 6 c = 0 := by
  have h1 := h.2.2.2.2.2.2.2.2.2
  obtain ⟨c, h2, h3⟩ := py_cnt_ex (P := fun c => decide (s 6 c ≠ 0)) (n := 40) (by omega)
  exact ⟨c, h2, by simpa using h3⟩
theorem pr_RW.nofree (h : pr_RW s t) (hf : 40 ≤ s 13 0) : ∀ c : Nat, c < 40 → s 6 c ≠ 0 := by
  intro c hc
  have h1 := h.2.2.2.2.2.2.2.2.2
  have h0 := h.cnt
  have := py_cnt_full (P := fun c => decide (s 6 c ≠ 0)) (n := 40) (by omega) c hc
  simpa using this
end PRW
end
section
/-! PURE: what the class's row answers -/
section PRC
variable {s t : py_Z} {K : ty_S → Int32 → Prop}
theorem pr_RW.some (h : pr_RW s t) : 0 < t 50 0 ↔ 0 < s 13 0 := by
  have h1 := h.off_ge (t 50 0).toNat (by have := h.1; omega)
  have h2 := h.2.2.1
  constructor
  · intro e; omega
  · intro e
    obtain ⟨j, k, hj, hk, -⟩ := h.dec (i := 0) (by omega)
    omega
theorem pr_RW.last (h : pr_RW s t) (hn : 0 < t 50 0) : (pr_off t ((t 50 0).toNat - 1) : Int) + t 41 ((t 50 0).toNat - 1) = s 13 0 := by
  have h1 : pr_off t ((t 50 0).toNat - 1 + 1) = pr_off t ((t 50 0).toNat - 1) + (t 41 ((t 50 0).toNat - 1)).toNat := rfl
  have h2 := h.2.1 ((t 50 0).toNat - 1) (by omega)
  have h3 := h.2.2.1
  rw [show (t 50 0).toNat - 1 + 1 = (t 50 0).toNat by omega] at h1
  omega
/-- which train a place of the row is in -/
theorem pr_RW.in_iff (h : pr_RW s t) {j k : Nat} (hj : (j : Int) < t 50 0) (hk : (k : Int) < s 13 0) : s 6 (s 5 k).toNat = t 40 j ↔ pr_off t j ≤ k ∧ (k : Int) < pr_off t j + t 41 j := by
  obtain ⟨h1, j', k', hj', hk', h2, h3, h4, h5, h6⟩ := h.car hk
  rw [h4]
  constructor
  · intro e
    have := h.num hj' hj e
    subst this
    omega
  · intro ⟨e1, e2⟩
    rcases Nat.lt_trichotomy j' j with h7 | h7 | h7
    · have h8 := pr_off_le (t := t) (show j' + 1 ≤ j by omega)
      have h9 : pr_off t (j' + 1) = pr_off t j' + (t 41 j').toNat := rfl
      omega
    · rw [h7]
    · have h8 := pr_off_le (t := t) (show j + 1 ≤ j' by omega)
      have h9 : pr_off t (j + 1) = pr_off t j + (t 41 j).toNat := rfl
      omega
theorem pr_RW.next (h : pr_RW s t) {j i j' k' : Nat} (hj : (j : Int) < t 50 0) (hi : (i : Int) < t 41 j) (hj' : (j' : Int) < t 50 0) (hk' : (k' : Int) < t 41 j') (e : pr_off t j + i + 1 = pr_off t j' + k') : (j' = j ∧ k' = i + 1) ∨ (j' = j + 1 ∧ k' = 0) := by
  have h9 : pr_off t (j + 1) = pr_off t j + (t 41 j).toNat := rfl
  have h10 : pr_off t (j' + 1) = pr_off t j' + (t 41 j').toNat := rfl
  rcases Nat.lt_trichotomy j' j with h7 | h7 | h7
  · have h8 := pr_off_le (t := t) (show j' + 1 ≤ j by omega)
    omega
  · subst h7; exact Or.inl ⟨rfl, by omega⟩
  · rcases Nat.lt_or_eq_of_le (show j + 1 ≤ j' from h7) with h8 | h8
    · have h11 := pr_off_le (t := t) (show j + 1 + 1 ≤ j' by omega)
      have h12 : pr_off t (j + 1 + 1) = pr_off t (j + 1) + (t 41 (j + 1)).toNat := rfl
      have := h.2.1 (j + 1) (by omega)
      omega
    · subst h8; exact Or.inr ⟨rfl, by omega⟩
theorem pr_firstTrain (h : pr_RW s t) (h1 : 0 < t 50 0 → K (py_O s) (py_o (t 40 0))) (h0 : t 50 0 = 0 → K (py_O s) (py_o 0)) : eX1_firstTrain (py_O s) K := by
  unfold eX1_firstTrain
  try simp only [py_O_ap, py_l0, py_l1, py_l2, py_l3, py_l4, py_l5, py_l6, py_l7, py_l8, py_l9, py_l12, py_l16, py_l32, py_l40, py_l100, py_l640, py_l1280, py_neg, py_add, py_sub, py_mul, py_stO]
  have hs := h.some
  have hn := h.1
  refine pr_carAt h.cnt (fun _ c => ?_) (fun c => ?_)
  · have hc := h.car (i := 0) (by omega)
    refine pr_trainOf (fun _ _ => ?_) (fun c => absurd c (by simp only [Int.toNat_zero]; omega)) (by simp only [Int.toNat_zero]; omega)
    have := (h.in_iff (j := 0) (k := 0) (by omega) (by omega)).mpr ⟨Nat.zero_le _, by have := h.2.1 0 (by omega); simp [pr_off]; omega⟩
    simp only [Int.toNat_zero]
    rw [this]
    exact h1 (by omega)
  · exact pr_trainOf (fun c => absurd c (by omega)) (fun _ => h0 (by omega))
theorem pr_lastTrain (h : pr_RW s t) (h1 : 0 < t 50 0 → K (py_O s) (py_o (t 40 ((t 50 0).toNat - 1)))) (h0 : t 50 0 = 0 → K (py_O s) (py_o 0)) : eX1_lastTrain (py_O s) K := by
  unfold eX1_lastTrain
  try simp only [py_O_ap, py_l0, py_l1, py_l2, py_l3, py_l4, py_l5, py_l6, py_l7, py_l8, py_l9, py_l12, py_l16, py_l32, py_l40, py_l100, py_l640, py_l1280, py_neg, py_add, py_sub, py_mul, py_stO]
  have hs := h.some
  have hn := h.1
  have hc0 := h.cnt
  refine pr_carAt h.cnt (fun _ c => ?_) (fun c => ?_)
  · have hc := h.car (i := (s 13 0 - 1).toNat) (by omega)
    refine pr_trainOf (fun _ _ => ?_) (fun c => absurd c (by omega))
    have hl := h.last (by omega)
    have h2 := h.2.1 ((t 50 0).toNat - 1) (by omega)
    have := (h.in_iff (j := (t 50 0).toNat - 1) (k := (s 13 0 - 1).toNat) (by omega) (by omega)).mpr ⟨by omega, by omega⟩
    rw [this]
    exact h1 (by omega)
  · exact pr_trainOf (fun c => absurd c (by omega)) (fun _ => h0 (by omega))
theorem pr_countTrains (h : pr_RW s t) (hK : K (py_O s) (py_o (t 50 0))) : eX1_countTrains (py_O s) K := by
  have hc0 := h.cnt
  have key : ∀ d k f : Nat, (k : Int) + d = s 13 0 → ((k = 0 ∧ f = 0) ∨ ∃ j i : Nat, (j : Int) < t 50 0 ∧ (i : Int) < t 41 j ∧ k = pr_off t j + i + 1 ∧ f = j + 1) → ∃ n9, lX1_countTrains_4 K n9 (py_o f) (py_o k) (py_O s) := by
    intro d
    induction d with
    | zero =>
      intro k f hk hf
      refine ⟨1, ?_⟩
      unfold lX1_countTrains_4
      try simp only [py_O_ap, py_l0, py_l1, py_l2, py_l3, py_l4, py_l5, py_l6, py_l7, py_l8, py_l9, py_l12, py_l16, py_l32, py_l40, py_l100, py_l640, py_l1280, py_neg, py_add, py_sub, py_mul, py_stO]
      refine py_ile (fun _ => ?_) (fun c => absurd c (by omega))
      have e : (f : Int) = t 50 0 := by
        have hs := h.some
        have hn := h.1
        rcases hf with ⟨h1, h2⟩ | ⟨j, i, hj, hi, h1, h2⟩
        · omega
        · rcases Int.lt_or_le (((j + 1 : Nat) : Int)) (t 50 0) with h3 | h3
          · have h4 := h.lt (j := j + 1) (k := 0) h3 (by have := h.2.1 (j + 1) h3; omega)
            have h9 : pr_off t (j + 1) = pr_off t j + (t 41 j).toNat := rfl
            omega
          · omega
      rw [e]; exact hK
    | succ d ih =>
      intro k f hk hf
      obtain ⟨hb, j', k', hj', hk', h2, h3, h4, h5, h6⟩ := h.car (i := k) (by omega)
      have hstep : ∀ f' : Nat, f' = j' + 1 → ∃ n9, lX1_countTrains_4 K n9 (py_o f') (py_o (k + 1)) (py_O s) := fun f' hf' => ih (k + 1) f' (by omega) (Or.inr ⟨j', k', hj', hk', by omega, hf'⟩)
      rcases hf with ⟨h7, h8⟩ | ⟨j, i, hj, hi, h7, h8⟩
      · obtain ⟨n, hn⟩ := hstep (f + 1) (by
          have h9 := h.off_ge j' (by omega)
          omega)
        refine ⟨n + 1, ?_⟩
        unfold lX1_countTrains_4
        try simp only [py_O_ap, py_l0, py_l1, py_l2, py_l3, py_l4, py_l5, py_l6, py_l7, py_l8, py_l9, py_l12, py_l16, py_l32, py_l40, py_l100, py_l640, py_l1280, py_neg, py_add, py_sub, py_mul, py_stO]
        refine py_ile (fun c => absurd c (by omega)) (fun _ => ?_)
        refine pr_carAt h.cnt (fun _ _ => ?_) (fun c => absurd c (by omega))
        simp only [Int.toNat_natCast]
        refine pr_trainOf (fun _ _ => ?_) (fun c => absurd c (by omega))
        refine pr_carAt h.cnt (fun c => absurd c (by omega)) (fun _ => ?_)
        refine pr_trainOf (fun c => absurd c (by omega)) (fun _ => ?_)
        refine py_ieq (fun c => absurd c (by omega)) (fun _ => hn)
      · have h9 := h.next hj hi hj' hk' (by omega)
        have e1 : ((k : Int) - 1).toNat = k - 1 := by omega
        have hp := (h.in_iff (j := j) (k := k - 1) hj (by omega)).mpr ⟨by omega, by omega⟩
        have hcp := h.car (i := k - 1) (by omega)
        rcases h9 with ⟨e2, e3⟩ | ⟨e2, e3⟩
        · obtain ⟨n, hn⟩ := hstep f (by omega)
          refine ⟨n + 1, ?_⟩
          unfold lX1_countTrains_4
          try simp only [py_O_ap, py_l0, py_l1, py_l2, py_l3, py_l4, py_l5, py_l6, py_l7, py_l8, py_l9, py_l12, py_l16, py_l32, py_l40, py_l100, py_l640, py_l1280, py_neg, py_add, py_sub, py_mul, py_stO]
          refine py_ile (fun c => absurd c (by omega)) (fun _ => ?_)
          refine pr_carAt h.cnt (fun _ _ => ?_) (fun c => absurd c (by omega))
          simp only [Int.toNat_natCast]
          refine pr_trainOf (fun _ _ => ?_) (fun c => absurd c (by omega))
          refine pr_carAt h.cnt (fun _ _ => ?_) (fun c => absurd c (by omega))
          rw [e1]
          refine pr_trainOf (fun _ _ => ?_) (fun c => absurd c (by omega))
          rw [hp, h4, e2]
          rw [e2] at h6 h5
          refine py_ieq (fun _ => hn) (fun c => absurd rfl c)
        · obtain ⟨n, hn⟩ := hstep (f + 1) (by omega)
          refine ⟨n + 1, ?_⟩
          unfold lX1_countTrains_4
          try simp only [py_O_ap, py_l0, py_l1, py_l2, py_l3, py_l4, py_l5, py_l6, py_l7, py_l8, py_l9, py_l12, py_l16, py_l32, py_l40, py_l100, py_l640, py_l1280, py_neg, py_add, py_sub, py_mul, py_stO]
          refine py_ile (fun c => absurd c (by omega)) (fun _ => ?_)
          refine pr_carAt h.cnt (fun _ _ => ?_) (fun c => absurd c (by omega))
          simp only [Int.toNat_natCast]
          refine pr_trainOf (fun _ _ => ?_) (fun c => absurd c (by omega))
          refine pr_carAt h.cnt (fun _ _ => ?_) (fun c => absurd c (by omega))
          rw [e1]
          refine pr_trainOf (fun _ _ => ?_) (fun c => absurd c (by omega))
          rw [hp, h4]
          have h10 := h.2.2.2.2.2.1 j j' (by omega) hj'
          have h11 := h.2.2.2.2.1 j hj
          refine py_ieq (fun c => absurd c (by omega)) (fun _ => hn)
  unfold eX1_countTrains
  rw [py_l0]
  exact key (s 13 0).toNat 0 0 (by omega) (Or.inl ⟨rfl, rfl⟩)
theorem pr_startOf (h : pr_RW s t) {a : Int} (ra : -2147483648 ≤ a ∧ a < 2147483648) (h1 : 0 ≤ a → a < t 50 0 → K (py_O s) (py_o (pr_off t a.toNat))) (h0 : (a < 0 ∨ t 50 0 ≤ a) → K (py_O s) (py_o (-1))) : eX1_startOf (py_O s) (py_o a) K := by
  have hc0 := h.cnt
  have key : ∀ d k f : Nat, (k : Int) + d = s 13 0 → ((k = 0 ∧ f = 0) ∨ ∃ j i : Nat, (j : Int) < t 50 0 ∧ (i : Int) < t 41 j ∧ k = pr_off t j + i + 1 ∧ f = j + 1) → (0 ≤ a → a < t 50 0 → (f : Int) ≤ a) → ∃ n9, lX1_startOf_4 K n9 (py_o a) (py_o f) (py_o k) (py_O s) := by
    intro d
    induction d with
    | zero =>
      intro k f hk hf hfa
      refine ⟨1, ?_⟩
      unfold lX1_startOf_4
      try simp only [py_O_ap, py_l0, py_l1, py_l2, py_l3, py_l4, py_l5, py_l6, py_l7, py_l8, py_l9, py_l12, py_l16, py_l32, py_l40, py_l100, py_l640, py_l1280, py_neg, py_add, py_sub, py_mul, py_stO]
      refine py_ile (fun _ => ?_) (fun c => absurd c (by omega))
      have e : (f : Int) = t 50 0 := by
        have hs := h.some
        have hn := h.1
        rcases hf with ⟨h1, h2⟩ | ⟨j, i, hj, hi, h1, h2⟩
        · omega
        · rcases Int.lt_or_le (((j + 1 : Nat) : Int)) (t 50 0) with h3 | h3
          · have h4 := h.lt (j := j + 1) (k := 0) h3 (by have := h.2.1 (j + 1) h3; omega)
            have h9 : pr_off t (j + 1) = pr_off t j + (t 41 j).toNat := rfl
            omega
          · omega
      exact h0 (by omega)
    | succ d ih =>
      intro k f hk hf hfa
      obtain ⟨hb, j', k', hj', hk', h2, h3, h4, h5, h6⟩ := h.car (i := k) (by omega)
      have hstep : ∀ f' : Nat, f' = j' + 1 → (0 ≤ a → a < t 50 0 → (f' : Int) ≤ a) → ∃ n9, lX1_startOf_4 K n9 (py_o a) (py_o f') (py_o (k + 1)) (py_O s) := fun f' hf' ha' => ih (k + 1) f' (by omega) (Or.inr ⟨j', k', hj', hk', by omega, hf'⟩) ha'
      have hn0 := h.1
      rcases hf with ⟨h7, h8⟩ | ⟨j, i, hj, hi, h7, h8⟩
      · have h9 := h.off_ge j' (by omega)
        by_cases ea : (f : Int) = a
        · refine ⟨1, ?_⟩
          unfold lX1_startOf_4
          try simp only [py_O_ap, py_l0, py_l1, py_l2, py_l3, py_l4, py_l5, py_l6, py_l7, py_l8, py_l9, py_l12, py_l16, py_l32, py_l40, py_l100, py_l640, py_l1280, py_neg, py_add, py_sub, py_mul, py_stO]
          refine py_ile (fun c => absurd c (by omega)) (fun _ => ?_)
          refine pr_carAt h.cnt (fun _ _ => ?_) (fun c => absurd c (by omega))
          simp only [Int.toNat_natCast]
          refine pr_trainOf (fun _ _ => ?_) (fun c => absurd c (by omega))
          refine pr_carAt h.cnt (fun c => absurd c (by omega)) (fun _ => ?_)
          refine pr_trainOf (fun c => absurd c (by omega)) (fun _ => ?_)
          refine py_ieq (fun c => absurd c (by omega)) (fun _ => ?_)
          refine py_ieq (fun _ => ?_) (fun c => absurd ea c)
          have e2 : (k : Int) = (pr_off t a.toNat : Nat) := by
            rw [← ea, Int.toNat_natCast, h8]
            simp only [pr_off]; omega
          rw [e2]
          exact h1 (by omega) (by omega)
        · obtain ⟨n, hn⟩ := hstep (f + 1) (by omega) (fun h11 h12 => by have := hfa h11 h12; omega)
          refine ⟨n + 1, ?_⟩
          unfold lX1_startOf_4
          try simp only [py_O_ap, py_l0, py_l1, py_l2, py_l3, py_l4, py_l5, py_l6, py_l7, py_l8, py_l9, py_l12, py_l16, py_l32, py_l40, py_l100, py_l640, py_l1280, py_neg, py_add, py_sub, py_mul, py_stO]
          refine py_ile (fun c => absurd c (by omega)) (fun _ => ?_)
          refine pr_carAt h.cnt (fun _ _ => ?_) (fun c => absurd c (by omega))
          simp only [Int.toNat_natCast]
          refine pr_trainOf (fun _ _ => ?_) (fun c => absurd c (by omega))
          refine pr_carAt h.cnt (fun c => absurd c (by omega)) (fun _ => ?_)
          refine pr_trainOf (fun c => absurd c (by omega)) (fun _ => ?_)
          refine py_ieq (fun c => absurd c (by omega)) (fun _ => ?_)
          refine py_ieq (fun c => absurd c ea) (fun c => hn)
      · have h9 := h.next hj hi hj' hk' (by omega)
        have e1 : ((k : Int) - 1).toNat = k - 1 := by omega
        have hp := (h.in_iff (j := j) (k := k - 1) hj (by omega)).mpr ⟨by omega, by omega⟩
        have hcp := h.car (i := k - 1) (by omega)
        rcases h9 with ⟨e2, e3⟩ | ⟨e2, e3⟩
        · obtain ⟨n, hn⟩ := hstep f (by omega) hfa
          refine ⟨n + 1, ?_⟩
          unfold lX1_startOf_4
          try simp only [py_O_ap, py_l0, py_l1, py_l2, py_l3, py_l4, py_l5, py_l6, py_l7, py_l8, py_l9, py_l12, py_l16, py_l32, py_l40, py_l100, py_l640, py_l1280, py_neg, py_add, py_sub, py_mul, py_stO]
          refine py_ile (fun c => absurd c (by omega)) (fun _ => ?_)
          refine pr_carAt h.cnt (fun _ _ => ?_) (fun c => absurd c (by omega))
          simp only [Int.toNat_natCast]
          refine pr_trainOf (fun _ _ => ?_) (fun c => absurd c (by omega))
          refine pr_carAt h.cnt (fun _ _ => ?_) (fun c => absurd c (by omega))
          rw [e1]
          refine pr_trainOf (fun _ _ => ?_) (fun c => absurd c (by omega))
          rw [hp, h4, e2]
          rw [e2] at h6 h5
          refine py_ieq (fun _ => hn) (fun c => absurd rfl c)
        · have h10 := h.2.2.2.2.2.1 j j' (by omega) hj'
          have h11 := h.2.2.2.2.1 j hj
          by_cases ea : (f : Int) = a
          · refine ⟨1, ?_⟩
            unfold lX1_startOf_4
            try simp only [py_O_ap, py_l0, py_l1, py_l2, py_l3, py_l4, py_l5, py_l6, py_l7, py_l8, py_l9, py_l12, py_l16, py_l32, py_l40, py_l100, py_l640, py_l1280, py_neg, py_add, py_sub, py_mul, py_stO]
            refine py_ile (fun c => absurd c (by omega)) (fun _ => ?_)
            refine pr_carAt h.cnt (fun _ _ => ?_) (fun c => absurd c (by omega))
            simp only [Int.toNat_natCast]
            refine pr_trainOf (fun _ _ => ?_) (fun c => absurd c (by omega))
            refine pr_carAt h.cnt (fun _ _ => ?_) (fun c => absurd c (by omega))
            rw [e1]
            refine pr_trainOf (fun _ _ => ?_) (fun c => absurd c (by omega))
            rw [hp, h4]
            refine py_ieq (fun c => absurd c (by omega)) (fun _ => ?_)
            refine py_ieq (fun _ => ?_) (fun c => absurd ea c)
            have e2 : (k : Int) = (pr_off t a.toNat : Nat) := by
              rw [← ea, Int.toNat_natCast, h8, ← e2]
              omega
            rw [e2]
            exact h1 (by omega) (by omega)
          · obtain ⟨n, hn⟩ := hstep (f + 1) (by omega) (fun h11 h12 => by have := hfa h11 h12; omega)
            refine ⟨n + 1, ?_⟩
            unfold lX1_startOf_4
            try simp only [py_O_ap, py_l0, py_l1, py_l2, py_l3, py_l4, py_l5, py_l6, py_l7, py_l8, py_l9, py_l12, py_l16, py_l32, py_l40, py_l100, py_l640, py_l1280, py_neg, py_add, py_sub, py_mul, py_stO]
            refine py_ile (fun c => absurd c (by omega)) (fun _ => ?_)
            refine pr_carAt h.cnt (fun _ _ => ?_) (fun c => absurd c (by omega))
            simp only [Int.toNat_natCast]
            refine pr_trainOf (fun _ _ => ?_) (fun c => absurd c (by omega))
            refine pr_carAt h.cnt (fun _ _ => ?_) (fun c => absurd c (by omega))
            rw [e1]
            refine pr_trainOf (fun _ _ => ?_) (fun c => absurd c (by omega))
            rw [hp, h4]
            refine py_ieq (fun c => absurd c (by omega)) (fun _ => ?_)
            exact py_ieq (fun c => absurd c ea) (fun _ => hn)
  unfold eX1_startOf
  rw [py_l0]
  exact key (s 13 0).toNat 0 0 (by omega) (Or.inl ⟨rfl, rfl⟩) (fun c _ => c)
theorem pr_carsOf (h : pr_RW s t) {j : Nat} (hj : (j : Int) < t 50 0) (hK : K (py_O s) (py_o (t 41 j))) : eX1_carsOf (py_O s) (py_o (t 40 j)) K := by
  have hc0 := h.cnt
  have he := h.end_le hj
  have hsz := h.2.1 j hj
  have hnj := h.2.2.2.2.1 j hj
  have hmade := h.2.2.2.2.2.2.1
  have key : ∀ d k f : Nat, (k : Int) + d = s 13 0 → ((k ≤ pr_off t j ∧ f = 0) ∨ (pr_off t j ≤ k ∧ (k : Int) ≤ pr_off t j + t 41 j ∧ (f : Int) = k - pr_off t j) ∨ (pr_off t j + t 41 j ≤ (k : Int) ∧ (f : Int) = t 41 j)) → ∃ n9, lX1_carsOf_4 K n9 (py_o (t 40 j)) (py_o f) (py_o k) (py_O s) := by
    intro d
    induction d with
    | zero =>
      intro k f hk hf
      refine ⟨1, ?_⟩
      unfold lX1_carsOf_4
      try simp only [py_O_ap, py_l0, py_l1, py_l2, py_l3, py_l4, py_l5, py_l6, py_l7, py_l8, py_l9, py_l12, py_l16, py_l32, py_l40, py_l100, py_l640, py_l1280, py_neg, py_add, py_sub, py_mul, py_stO]
      refine py_ile (fun _ => ?_) (fun c => absurd c (by omega))
      have e : (f : Int) = t 41 j := by omega
      rw [e]; exact hK
    | succ d ih =>
      intro k f hk hf
      obtain ⟨hb, j', k', hj', hk', h2, h3, h4, h5, h6⟩ := h.car (i := k) (by omega)
      have hin := h.in_iff (j := j) (k := k) hj (by omega)
      by_cases e : s 6 (s 5 k).toNat = t 40 j
      · have e2 := hin.mp e
        obtain ⟨n, hn⟩ := ih (k + 1) (f + 1) (by omega) (by omega)
        refine ⟨n + 1, ?_⟩
        unfold lX1_carsOf_4
        try simp only [py_O_ap, py_l0, py_l1, py_l2, py_l3, py_l4, py_l5, py_l6, py_l7, py_l8, py_l9, py_l12, py_l16, py_l32, py_l40, py_l100, py_l640, py_l1280, py_neg, py_add, py_sub, py_mul, py_stO]
        refine py_ile (fun c => absurd c (by omega)) (fun _ => py_and ?_)
        rw [py_nat (by omega)]
        simp only [Int.toNat_natCast]
        refine pr_trainOf (fun _ _ => ?_) (fun c => absurd c (by omega))
        exact py_ieq (fun _ => hn) (fun c => absurd e c)
      · have e2 : ¬ (pr_off t j ≤ k ∧ (k : Int) < pr_off t j + t 41 j) := fun c => e (hin.mpr c)
        obtain ⟨n, hn⟩ := ih (k + 1) f (by omega) (by omega)
        refine ⟨n + 1, ?_⟩
        unfold lX1_carsOf_4
        try simp only [py_O_ap, py_l0, py_l1, py_l2, py_l3, py_l4, py_l5, py_l6, py_l7, py_l8, py_l9, py_l12, py_l16, py_l32, py_l40, py_l100, py_l640, py_l1280, py_neg, py_add, py_sub, py_mul, py_stO]
        refine py_ile (fun c => absurd c (by omega)) (fun _ => py_and ?_)
        rw [py_nat (by omega)]
        simp only [Int.toNat_natCast]
        refine pr_trainOf (fun _ _ => ?_) (fun c => absurd c (by omega))
        exact py_ieq (fun c => absurd c e) (fun _ => hn)
  unfold eX1_carsOf
  rw [py_l0]
  exact key (s 13 0).toNat 0 0 (by omega) (Or.inl ⟨Nat.zero_le _, rfl⟩)
theorem pr_lastCarOf (h : pr_RW s t) {j : Nat} (hj : (j : Int) < t 50 0) (hK : K (py_O s) (py_o (t 42 (40 * j + ((t 41 j).toNat - 1))))) : eX1_lastCarOf (py_O s) (py_o (t 40 j)) K := by
  have hc0 := h.cnt
  have he := h.end_le hj
  have hsz := h.2.1 j hj
  have hnj := h.2.2.2.2.1 j hj
  have hmade := h.2.2.2.2.2.2.1
  have key : ∀ d k : Nat, pr_off t j + (t 41 j).toNat - 1 + d = k → (k : Int) < s 13 0 → ∃ n9, lX1_lastCarOf_7 K n9 (py_o (t 40 j)) (py_o k) (py_O s) := by
    intro d
    induction d with
    | zero =>
      intro k hk hk2
      obtain ⟨hb, j', k', hj', hk', h2, h3, h4, h5, h6⟩ := h.car (i := k) (by omega)
      have hin := (h.in_iff (j := j) (k := k) hj (by omega)).mpr ⟨by omega, by omega⟩
      refine ⟨1, ?_⟩
      unfold lX1_lastCarOf_7
      try simp only [py_O_ap, py_l0, py_l1, py_l2, py_l3, py_l4, py_l5, py_l6, py_l7, py_l8, py_l9, py_l12, py_l16, py_l32, py_l40, py_l100, py_l640, py_l1280, py_neg, py_add, py_sub, py_mul, py_stO]
      refine py_ilt (fun c => absurd c (by omega)) (fun _ => py_and ?_)
      rw [py_nat (by omega)]
      simp only [Int.toNat_natCast]
      refine pr_trainOf (fun _ _ => ?_) (fun c => absurd c (by omega))
      rw [hin]
      refine py_ieq (fun _ => py_and ?_) (fun c => absurd rfl c)
      have e : s 5 k = t 42 (40 * j + ((t 41 j).toNat - 1)) := by
        have := (h.2.2.2.1 j ((t 41 j).toNat - 1) hj (by omega)).1
        rw [← this]
        congr 1
        omega
      simp only [py_O_ap]
      rw [e]; exact hK
    | succ d ih =>
      intro k hk hk2
      obtain ⟨hb, j', k', hj', hk', h2, h3, h4, h5, h6⟩ := h.car (i := k) (by omega)
      have hin : s 6 (s 5 k).toNat ≠ t 40 j := fun c => by
        have := (h.in_iff (j := j) (k := k) hj (by omega)).mp c
        omega
      obtain ⟨n, hn⟩ := ih (k - 1) (by omega) (by omega)
      refine ⟨n + 1, ?_⟩
      unfold lX1_lastCarOf_7
      try simp only [py_O_ap, py_l0, py_l1, py_l2, py_l3, py_l4, py_l5, py_l6, py_l7, py_l8, py_l9, py_l12, py_l16, py_l32, py_l40, py_l100, py_l640, py_l1280, py_neg, py_add, py_sub, py_mul, py_stO]
      refine py_ilt (fun c => absurd c (by omega)) (fun _ => py_and ?_)
      rw [py_nat (by omega)]
      simp only [Int.toNat_natCast]
      refine pr_trainOf (fun _ _ => ?_) (fun c => absurd c (by omega))
      refine py_ieq (fun c => absurd c hin) (fun _ => ?_)
      have e : ((k - 1 : Nat) : Int) = (k : Int) + -1 := by omega
      rw [e] at hn
      exact hn
  unfold eX1_lastCarOf
  try simp only [py_O_ap, py_l0, py_l1, py_l2, py_l3, py_l4, py_l5, py_l6, py_l7, py_l8, py_l9, py_l12, py_l16, py_l32, py_l40, py_l100, py_l640, py_l1280, py_neg, py_add, py_sub, py_mul, py_stO]
  have e : s 13 0 - 1 = (((s 13 0).toNat - 1 : Nat) : Int) := by omega
  rw [e]
  exact key ((s 13 0).toNat - 1 - (pr_off t j + (t 41 j).toNat - 1)) ((s 13 0).toNat - 1) (by omega) (by omega)
/-- where in the row a car stands -/
theorem pr_indexOf (h : pr_RW s t) {c : Int} (rc : -1 ≤ c ∧ c < 40) (h1 : ∀ i : Nat, (i : Int) < s 13 0 → s 5 i = c → K (py_O s) (py_o i)) (h0 : (∀ i : Nat, (i : Int) < s 13 0 → s 5 i ≠ c) → K (py_O s) (py_o (-1))) : eX1_indexOf (py_O s) (py_o c) K := by
  have hc0 := h.cnt
  have key : ∀ d k : Nat, (k : Int) + d = s 13 0 → (∀ i : Nat, i < k → s 5 i ≠ c) → ∃ n9, lX1_indexOf_2 K n9 (py_o c) (py_o k) (py_O s) := by
    intro d
    induction d with
    | zero =>
      intro k hk hz
      refine ⟨1, ?_⟩
      unfold lX1_indexOf_2
      try simp only [py_O_ap, py_l0, py_l1, py_l2, py_l3, py_l4, py_l5, py_l6, py_l7, py_l8, py_l9, py_l12, py_l16, py_l32, py_l40, py_l100, py_l640, py_l1280, py_neg, py_add, py_sub, py_mul, py_stO]
      exact py_ile (fun _ => h0 (fun i hi => hz i (by omega))) (fun c => absurd c (by omega))
    | succ d ih =>
      intro k hk hz
      have hb := (h.car (i := k) (by omega)).1
      by_cases e : s 5 k = c
      · refine ⟨1, ?_⟩
        unfold lX1_indexOf_2
        try simp only [py_O_ap, py_l0, py_l1, py_l2, py_l3, py_l4, py_l5, py_l6, py_l7, py_l8, py_l9, py_l12, py_l16, py_l32, py_l40, py_l100, py_l640, py_l1280, py_neg, py_add, py_sub, py_mul, py_stO]
        refine py_ile (fun c => absurd c (by omega)) (fun _ => py_and ?_)
        rw [py_nat (by omega)]
        simp only [Int.toNat_natCast]
        exact py_ieq (fun _ => h1 k (by omega) e) (fun c => absurd e c)
      · obtain ⟨n, hn⟩ := ih (k + 1) (by omega) (fun i hi => by
          by_cases e2 : i = k
          · rw [e2]; exact e
          · exact hz i (by omega))
        refine ⟨n + 1, ?_⟩
        unfold lX1_indexOf_2
        try simp only [py_O_ap, py_l0, py_l1, py_l2, py_l3, py_l4, py_l5, py_l6, py_l7, py_l8, py_l9, py_l12, py_l16, py_l32, py_l40, py_l100, py_l640, py_l1280, py_neg, py_add, py_sub, py_mul, py_stO]
        refine py_ile (fun c => absurd c (by omega)) (fun _ => py_and ?_)
        rw [py_nat (by omega)]
        simp only [Int.toNat_natCast]
        exact py_ieq (fun c => absurd c e) (fun _ => hn)
  unfold eX1_indexOf
  rw [py_l0]
  exact key (s 13 0).toNat 0 (by omega) (fun i hi => absurd hi (by omega))
end PRC
end
section
/-! PURE: what the reference's trains answer -/
section PRM
variable {s t : py_Z} {K : ty_S → Int32 → Prop}
theorem pm_trainOf (h : pr_RW s t) {c : Nat} (hc : c < 40) (h1 : ∀ j : Nat, (j : Int) < t 50 0 → s 6 c = t 40 j → K (py_O t) (py_o j)) (h0 : s 6 c = 0 → K (py_O t) (py_o (-1))) : eX5_trainOf (py_O t) (py_o c) K := by
  have hn := h.1
  have hin : ∀ j : Nat, (j : Int) < t 50 0 → ∀ (R : Int32 → Int32 → ty_S → Prop), ((∀ k : Nat, (k : Int) < t 41 j → t 42 (40 * j + k) ≠ c) → R (py_o c) (py_o (j + 1)) (py_O t)) → ∀ d k : Nat, (k : Int) + d = t 41 j → (∀ i : Nat, i < k → t 42 (40 * j + i) ≠ c) → ∃ n9, lX5_trainOf_12 K R n9 (py_o c) (py_o j) (py_o k) (py_O t) := by
    intro j hj R hR d
    have hs := h.2.1 j hj
    induction d with
    | zero =>
      intro k hk hz
      refine ⟨1, ?_⟩
      unfold lX5_trainOf_12
      try simp only [py_O_ap, py_l0, py_l1, py_l2, py_l3, py_l4, py_l5, py_l6, py_l7, py_l8, py_l9, py_l12, py_l16, py_l32, py_l40, py_l100, py_l640, py_l1280, py_neg, py_add, py_sub, py_mul, py_stO]
      refine py_and ?_
      rw [py_nat (by omega)]
      simp only [Int.toNat_natCast]
      exact py_ile (fun _ => hR (fun i hi => hz i (by omega))) (fun c => absurd c (by omega))
    | succ d ih =>
      intro k hk hz
      obtain ⟨e1, e2, e3⟩ := h.2.2.2.1 j k hj (by omega)
      have e4 : ((40 : Int) * j + k).toNat = 40 * j + k := by omega
      by_cases e : t 42 (40 * j + k) = c
      · refine ⟨1, ?_⟩
        unfold lX5_trainOf_12
        try simp only [py_O_ap, py_l0, py_l1, py_l2, py_l3, py_l4, py_l5, py_l6, py_l7, py_l8, py_l9, py_l12, py_l16, py_l32, py_l40, py_l100, py_l640, py_l1280, py_neg, py_add, py_sub, py_mul, py_stO]
        refine py_and ?_
        rw [py_nat (by omega), py_nat (by omega), e4]
        simp only [Int.toNat_natCast]
        refine py_ile (fun c => absurd c (by omega)) (fun _ => py_and ?_)
        refine py_ieq (fun _ => h1 j hj ?_) (fun c => absurd e c)
        rw [e] at e3
        simpa using e3
      · obtain ⟨n, hn⟩ := ih (k + 1) (by omega) (fun i hi => by
          by_cases e5 : i = k
          · rw [e5]; exact e
          · exact hz i (by omega))
        refine ⟨n + 1, ?_⟩
        unfold lX5_trainOf_12
        try simp only [py_O_ap, py_l0, py_l1, py_l2, py_l3, py_l4, py_l5, py_l6, py_l7, py_l8, py_l9, py_l12, py_l16, py_l32, py_l40, py_l100, py_l640, py_l1280, py_neg, py_add, py_sub, py_mul, py_stO]
        refine py_and ?_
        rw [py_nat (by omega), py_nat (by omega), e4]
        simp only [Int.toNat_natCast]
        refine py_ile (fun c => absurd c (by omega)) (fun _ => py_and ?_)
        exact py_ieq (fun c => absurd c e) (fun _ => hn)
  have key : ∀ d j : Nat, (j : Int) + d = t 50 0 → (∀ i k : Nat, i < j → (k : Int) < t 41 i → t 42 (40 * i + k) ≠ c) → ∃ n9, lX5_trainOf_2 K n9 (py_o c) (py_o j) (py_O t) := by
    intro d
    induction d with
    | zero =>
      intro j hj hz
      refine ⟨1, ?_⟩
      unfold lX5_trainOf_2
      try simp only [py_O_ap, py_l0, py_l1, py_l2, py_l3, py_l4, py_l5, py_l6, py_l7, py_l8, py_l9, py_l12, py_l16, py_l32, py_l40, py_l100, py_l640, py_l1280, py_neg, py_add, py_sub, py_mul, py_stO]
      refine py_ile (fun _ => ?_) (fun c => absurd c (by omega))
      rcases h.six hc with e | ⟨j2, k, hj2, hk, e1, e2, e3, e4, e5⟩
      · exact h0 e
      · exact absurd e1 (hz j2 k (by omega) hk)
    | succ d ih =>
      intro j hj hz
      by_cases e : ∃ k : Nat, (k : Int) < t 41 j ∧ t 42 (40 * j + k) = c
      · obtain ⟨n, hn⟩ := hin j (by omega) (fun a0 a1 S9 => lX5_trainOf_2 K 0 a0 a1 S9) (fun hx => by
          obtain ⟨k, hk, e⟩ := e
          exact absurd e (hx k hk)) (t 41 j).toNat 0 (by have := h.2.1 j (by omega); omega) (fun i hi => absurd hi (by omega))
        refine ⟨1, ?_⟩
        unfold lX5_trainOf_2
        try simp only [py_O_ap, py_l0, py_l1, py_l2, py_l3, py_l4, py_l5, py_l6, py_l7, py_l8, py_l9, py_l12, py_l16, py_l32, py_l40, py_l100, py_l640, py_l1280, py_neg, py_add, py_sub, py_mul, py_stO]
        exact py_ile (fun c => absurd c (by omega)) (fun _ => ⟨n, hn⟩)
      · obtain ⟨n0, hn0⟩ := ih (j + 1) (by omega) (fun i k hi hk e2 => by
          by_cases e3 : i = j
          · subst e3; exact e ⟨k, hk, e2⟩
          · exact hz i k (by omega) hk e2)
        obtain ⟨n, hn⟩ := hin j (by omega) (fun a0 a1 S9 => lX5_trainOf_2 K n0 a0 a1 S9) (fun _ => hn0) (t 41 j).toNat 0 (by have := h.2.1 j (by omega); omega) (fun i hi => absurd hi (by omega))
        refine ⟨n0 + 1, ?_⟩
        unfold lX5_trainOf_2
        try simp only [py_O_ap, py_l0, py_l1, py_l2, py_l3, py_l4, py_l5, py_l6, py_l7, py_l8, py_l9, py_l12, py_l16, py_l32, py_l40, py_l100, py_l640, py_l1280, py_neg, py_add, py_sub, py_mul, py_stO]
        exact py_ile (fun c => absurd c (by omega)) (fun _ => ⟨n, hn⟩)
  unfold eX5_trainOf
  rw [py_l0]
  exact key (t 50 0).toNat 0 (by omega) (fun i k hi => absurd hi (by omega))
theorem pm_freeCar (h : pr_RW s t) (h1 : ∀ c : Nat, c < 40 → s 6 c = 0 → (∀ d : Nat, d < c → s 6 d ≠ 0) → K (py_O t) (py_o c)) (h0 : (∀ d : Nat, d < 40 → s 6 d ≠ 0) → K (py_O t) (py_o (-1))) : eX5_freeCar (py_O t) K := by
  have key : ∀ d c : Nat, c + d = 40 → (∀ e : Nat, e < c → s 6 e ≠ 0) → ∃ n, lX5_freeCar_2 K n (py_o c) (py_O t) := by
    intro d
    induction d with
    | zero =>
      intro c hc hd
      refine ⟨1, ?_⟩
      unfold lX5_freeCar_2
      try simp only [py_O_ap, py_l0, py_l1, py_l2, py_l3, py_l4, py_l5, py_l6, py_l7, py_l8, py_l9, py_l12, py_l16, py_l32, py_l40, py_l100, py_l640, py_l1280, py_neg, py_add, py_sub, py_mul, py_stO]
      exact py_ile (fun _ => h0 (fun e he => hd e (by omega))) (fun c2 => absurd c2 (by omega))
    | succ d ih =>
      intro c hc hd
      have hn := h.1
      by_cases e : s 6 c = 0
      · refine ⟨1, ?_⟩
        unfold lX5_freeCar_2
        try simp only [py_O_ap, py_l0, py_l1, py_l2, py_l3, py_l4, py_l5, py_l6, py_l7, py_l8, py_l9, py_l12, py_l16, py_l32, py_l40, py_l100, py_l640, py_l1280, py_neg, py_add, py_sub, py_mul, py_stO]
        refine py_ile (fun _ => absurd hc (by omega)) (fun c2 => ?_)
        refine pm_trainOf h (by omega) (fun j hj e2 => ?_) (fun _ => ?_)
        · have := h.2.2.2.2.1 j hj; omega
        · exact py_ile (fun c => absurd c (by omega)) (fun _ => h1 c (by omega) e hd)
      · obtain ⟨n, hn⟩ := ih (c + 1) (by omega) (fun e2 he => by
          by_cases e3 : e2 = c
          · rw [e3]; exact e
          · exact hd e2 (by omega))
        refine ⟨n + 1, ?_⟩
        unfold lX5_freeCar_2
        try simp only [py_O_ap, py_l0, py_l1, py_l2, py_l3, py_l4, py_l5, py_l6, py_l7, py_l8, py_l9, py_l12, py_l16, py_l32, py_l40, py_l100, py_l640, py_l1280, py_neg, py_add, py_sub, py_mul, py_stO]
        refine py_ile (fun _ => absurd hc (by omega)) (fun c2 => ?_)
        refine pm_trainOf h (by omega) (fun j hj e2 => ?_) (fun c => absurd c e)
        exact py_ile (fun _ => hn) (fun c => absurd c (by omega))
  unfold eX5_freeCar
  rw [py_l0]
  exact key 40 0 rfl (fun e he => absurd he (by omega))
theorem pm_freeCars (h : pr_RW s t) (hK : K (py_O t) (py_o (40 - s 13 0))) : eX5_freeCars (py_O t) K := by
  have hn := h.1
  have hc := h.2.2.1
  have key : ∀ d j : Nat, (j : Int) + d = t 50 0 → ∃ n, lX5_freeCars_5 K n (py_o (40 - pr_off t j)) (py_o j) (py_O t) := by
    intro d
    induction d with
    | zero =>
      intro j hj
      refine ⟨1, ?_⟩
      unfold lX5_freeCars_5
      try simp only [py_O_ap, py_l0, py_l1, py_l2, py_l3, py_l4, py_l5, py_l6, py_l7, py_l8, py_l9, py_l12, py_l16, py_l32, py_l40, py_l100, py_l640, py_l1280, py_neg, py_add, py_sub, py_mul, py_stO]
      refine py_ile (fun _ => ?_) (fun c2 => absurd c2 (by omega))
      have e : (t 50 0).toNat = j := by omega
      rw [e] at hc
      rw [hc.1]
      exact hK
    | succ d ih =>
      intro j hj
      obtain ⟨n, hn⟩ := ih (j + 1) (by omega)
      have hs := h.2.1 j (by omega)
      refine ⟨n + 1, ?_⟩
      unfold lX5_freeCars_5
      try simp only [py_O_ap, py_l0, py_l1, py_l2, py_l3, py_l4, py_l5, py_l6, py_l7, py_l8, py_l9, py_l12, py_l16, py_l32, py_l40, py_l100, py_l640, py_l1280, py_neg, py_add, py_sub, py_mul, py_stO]
      refine py_ile (fun c => absurd c (by omega)) (fun _ => py_and ?_)
      rw [py_nat (by omega)]
      simp only [Int.toNat_natCast]
      try simp only [py_O_ap, py_l0, py_l1, py_l2, py_l3, py_l4, py_l5, py_l6, py_l7, py_l8, py_l9, py_l12, py_l16, py_l32, py_l40, py_l100, py_l640, py_l1280, py_neg, py_add, py_sub, py_mul, py_stO]
      have e : (40 : Int) - (pr_off t (j + 1) : Nat) = 40 - pr_off t j - t 41 j := by
        have h2 : pr_off t (j + 1) = pr_off t j + (t 41 j).toNat := rfl
        omega
      rw [e] at hn
      exact hn
  unfold eX5_freeCars
  try simp only [py_O_ap, py_l0, py_l1, py_l2, py_l3, py_l4, py_l5, py_l6, py_l7, py_l8, py_l9, py_l12, py_l16, py_l32, py_l40, py_l100, py_l640, py_l1280, py_neg, py_add, py_sub, py_mul, py_stO]
  exact key (t 50 0).toNat 0 (by omega)
theorem pm_lastCar (h : pr_RW s t) {j : Nat} (hj : (j : Int) < t 50 0) (hK : K (py_O t) (py_o (t 42 (40 * j + ((t 41 j).toNat - 1))))) : eX5_lastCar (py_O t) (py_o j) K := by
  have hs := h.2.1 j hj
  have hn := h.1
  unfold eX5_lastCar
  try simp only [py_O_ap, py_l0, py_l1, py_l2, py_l3, py_l4, py_l5, py_l6, py_l7, py_l8, py_l9, py_l12, py_l16, py_l32, py_l40, py_l100, py_l640, py_l1280, py_neg, py_add, py_sub, py_mul, py_stO]
  refine py_and ?_
  rw [py_nat (by omega)]
  simp only [Int.toNat_natCast]
  try simp only [py_O_ap, py_l0, py_l1, py_l2, py_l3, py_l4, py_l5, py_l6, py_l7, py_l8, py_l9, py_l12, py_l16, py_l32, py_l40, py_l100, py_l640, py_l1280, py_neg, py_add, py_sub, py_mul, py_stO]
  refine py_and ?_
  rw [py_nat (by omega)]
  have e : ((40 : Int) * j + t 41 j - 1).toNat = 40 * j + ((t 41 j).toNat - 1) := by omega
  rw [e]
  exact hK
theorem pm_rank (h : pr_RW s t) {j k : Nat} (hj : (j : Int) < t 50 0) (hk : (k : Int) < t 41 j) (hK : K (py_O t) (py_o (pr_off t j + k : Nat))) : eX5_rank (py_O t) (py_o (t 42 (40 * j + k))) K := by
  have hn := h.1
  have hcn := h.cnt
  obtain ⟨e1, e2, e3⟩ := h.2.2.2.1 j k hj hk
  have hin : ∀ i : Nat, (i : Int) < t 50 0 → ∀ (R : Int32 → Int32 → Int32 → ty_S → Prop), (i < j → R (py_o (t 42 (40 * j + k))) (py_o (pr_off t (i + 1))) (py_o (i + 1)) (py_O t)) → i ≤ j → ∀ d x : Nat, (x : Int) + d = t 41 i → (i = j → x ≤ k) → ∃ n9, lX5_rank_15 K R n9 (py_o (t 42 (40 * j + k))) (py_o (pr_off t i + x : Nat)) (py_o i) (py_o x) (py_O t) := by
    intro i hi R hR hij d
    have hs := h.2.1 i hi
    have hel := h.end_le hi
    induction d with
    | zero =>
      intro x hx hz
      refine ⟨1, ?_⟩
      unfold lX5_rank_15
      try simp only [py_O_ap, py_l0, py_l1, py_l2, py_l3, py_l4, py_l5, py_l6, py_l7, py_l8, py_l9, py_l12, py_l16, py_l32, py_l40, py_l100, py_l640, py_l1280, py_neg, py_add, py_sub, py_mul, py_stO]
      refine py_and ?_
      rw [py_nat (by omega)]
      simp only [Int.toNat_natCast]
      refine py_ile (fun _ => ?_) (fun c => absurd c (by omega))
      have e5 : i < j := by
        rcases Nat.lt_or_eq_of_le hij with e6 | e6
        · exact e6
        · have := hz e6; subst e6; omega
      have e6 : pr_off t i + x = pr_off t (i + 1) := by
        have h2 : pr_off t (i + 1) = pr_off t i + (t 41 i).toNat := rfl
        omega
      rw [e6]
      exact hR e5
    | succ d ih =>
      intro x hx hz
      obtain ⟨f1, f2, f3⟩ := h.2.2.2.1 i x hi (by omega)
      have e4 : ((40 : Int) * i + x).toNat = 40 * i + x := by omega
      by_cases e : t 42 (40 * i + x) = t 42 (40 * j + k)
      · obtain ⟨e5, e6⟩ := h.inj2 hi (by omega) hj hk e
        refine ⟨1, ?_⟩
        unfold lX5_rank_15
        try simp only [py_O_ap, py_l0, py_l1, py_l2, py_l3, py_l4, py_l5, py_l6, py_l7, py_l8, py_l9, py_l12, py_l16, py_l32, py_l40, py_l100, py_l640, py_l1280, py_neg, py_add, py_sub, py_mul, py_stO]
        refine py_and ?_
        rw [py_nat (by omega), py_nat (by omega), e4]
        simp only [Int.toNat_natCast]
        refine py_ile (fun c => absurd c (by omega)) (fun _ => py_and ?_)
        refine py_ieq (fun _ => ?_) (fun c => absurd e c)
        rw [e5, e6]; exact hK
      · obtain ⟨n, hn⟩ := ih (x + 1) (by omega) (fun e7 => by
          have := hz e7
          rcases Nat.lt_or_eq_of_le this with e8 | e8
          · omega
          · subst e7; subst e8; exact absurd rfl e)
        refine ⟨n + 1, ?_⟩
        unfold lX5_rank_15
        try simp only [py_O_ap, py_l0, py_l1, py_l2, py_l3, py_l4, py_l5, py_l6, py_l7, py_l8, py_l9, py_l12, py_l16, py_l32, py_l40, py_l100, py_l640, py_l1280, py_neg, py_add, py_sub, py_mul, py_stO]
        refine py_and ?_
        rw [py_nat (by omega), py_nat (by omega), e4]
        simp only [Int.toNat_natCast]
        refine py_ile (fun c => absurd c (by omega)) (fun _ => py_and ?_)
        refine py_ieq (fun c => absurd c e) (fun _ => ?_)
        have e5 : ((pr_off t i + (x + 1) : Nat) : Int) = ((pr_off t i + x : Nat) : Int) + 1 := by omega
        rw [e5] at hn
        exact hn
  have key : ∀ d i : Nat, i + d = j → ∃ n9, lX5_rank_4 K n9 (py_o (t 42 (40 * j + k))) (py_o (pr_off t i)) (py_o i) (py_O t) := by
    intro d
    induction d with
    | zero =>
      intro i hi
      obtain ⟨n, hn⟩ := hin i (by omega) (fun a0 a1 a2 S9 => lX5_rank_4 K 0 a0 a1 a2 S9) (fun c => absurd c (by omega)) (by omega) (t 41 i).toNat 0 (by have := h.2.1 i (by omega); omega) (fun _ => Nat.zero_le _)
      refine ⟨1, ?_⟩
      unfold lX5_rank_4
      try simp only [py_O_ap, py_l0, py_l1, py_l2, py_l3, py_l4, py_l5, py_l6, py_l7, py_l8, py_l9, py_l12, py_l16, py_l32, py_l40, py_l100, py_l640, py_l1280, py_neg, py_add, py_sub, py_mul, py_stO]
      exact py_ile (fun c => absurd c (by omega)) (fun _ => ⟨n, hn⟩)
    | succ d ih =>
      intro i hi
      obtain ⟨n0, hn0⟩ := ih (i + 1) (by omega)
      obtain ⟨n, hn⟩ := hin i (by omega) (fun a0 a1 a2 S9 => lX5_rank_4 K n0 a0 a1 a2 S9) (fun _ => hn0) (by omega) (t 41 i).toNat 0 (by have := h.2.1 i (by omega); omega) (fun _ => Nat.zero_le _)
      refine ⟨n0 + 1, ?_⟩
      unfold lX5_rank_4
      try simp only [py_O_ap, py_l0, py_l1, py_l2, py_l3, py_l4, py_l5, py_l6, py_l7, py_l8, py_l9, py_l12, py_l16, py_l32, py_l40, py_l100, py_l640, py_l1280, py_neg, py_add, py_sub, py_mul, py_stO]
      exact py_ile (fun c => absurd c (by omega)) (fun _ => ⟨n, hn⟩)
  unfold eX5_rank
  rw [py_l0]
  exact key j 0 (by omega)
end PRM
end
section
/-! PURE: the row changes -/
def pr_RV (s t : py_Z) : Prop :=
  (0 ≤ t 50 0 ∧ t 50 0 ≤ 40) ∧
  (∀ j : Nat, (j : Int) < t 50 0 → 0 ≤ t 41 j ∧ t 41 j ≤ 40) ∧
  ((pr_off t (t 50 0).toNat : Int) = s 13 0 ∧ s 13 0 ≤ 40) ∧
  (∀ j k : Nat, (j : Int) < t 50 0 → (k : Int) < t 41 j → s 5 (pr_off t j + k) = t 42 (40 * j + k) ∧ (0 ≤ t 42 (40 * j + k) ∧ t 42 (40 * j + k) < 40) ∧ s 6 (t 42 (40 * j + k)).toNat = t 40 j) ∧
  (∀ j : Nat, (j : Int) < t 50 0 → 1 ≤ t 40 j ∧ t 40 j ≤ t 57 0) ∧
  (∀ i j : Nat, i < j → (j : Int) < t 50 0 → t 40 i < t 40 j) ∧
  (s 14 0 = t 57 0 ∧ 0 ≤ t 57 0 ∧ t 57 0 ≤ 100000) ∧
  (∀ c : Nat, c < 40 → s 6 c ≠ 0 → ∃ k : Nat, (k : Int) < s 13 0 ∧ s 5 k = c) ∧
  (∀ a b : Nat, a < b → (b : Int) < s 13 0 → s 5 a ≠ s 5 b) ∧
  ((py_cnt (fun c => decide (s 6 c ≠ 0)) 40 : Int) = s 13 0)
theorem pr_RW.rv {s t : py_Z} (h : pr_RW s t) : pr_RV s t := ⟨h.1, fun j hj => by have := h.2.1 j hj; omega, h.2.2⟩
theorem pr_RV.rw {s t : py_Z} (h : pr_RV s t) (hp : ∀ j : Nat, (j : Int) < t 50 0 → 1 ≤ t 41 j) : pr_RW s t := ⟨h.1, fun j hj => ⟨hp j hj, (h.2.1 j hj).2⟩, h.2.2⟩
theorem pr_RV.car {s t : py_Z} (h : pr_RV s t) {i : Nat} (hi : (i : Int) < s 13 0) : (0 ≤ s 5 i ∧ s 5 i < 40) ∧ 1 ≤ s 6 (s 5 i).toNat ∧ s 6 (s 5 i).toNat ≤ t 57 0 := by
  obtain ⟨j, k, h2, h3, h4⟩ := pr_off_dec (t := t) (t 50 0).toNat i (by have := h.2.2.1; omega)
  obtain ⟨h5, h6, h7⟩ := h.2.2.2.1 j k (by omega) h3
  have := h.2.2.2.2.1 j (by omega)
  subst h4
  rw [h5]
  exact ⟨h6, by omega, by omega⟩
theorem pr_RV.lt {s t : py_Z} (h : pr_RV s t) {j : Nat} (hj : (j : Int) < t 50 0) : (pr_off t j : Int) + t 41 j ≤ s 13 0 := by
  have h1 := pr_off_le (t := t) (show j + 1 ≤ (t 50 0).toNat by omega)
  have h2 : pr_off t (j + 1) = pr_off t j + (t 41 j).toNat := rfl
  have := h.2.2.1
  have := h.2.1 j hj
  omega
/-- a car comes in, at a place of the row -/
def pr_ins (s : py_Z) (a c : Nat) (num : Int) : py_Z := fun g i =>
  if g = 5 then (if i < a then s 5 i else if i = a then c else if (i : Int) ≤ s 13 0 then s 5 (i - 1) else s 5 i)
  else if g = 6 then (if i = c then num else s 6 i) else if g = 13 then (if i = 0 then s 13 0 + 1 else s 13 i) else s g i
/-- a car comes behind the last one of a train -/
def pm_cpl (t : py_Z) (j c : Nat) : py_Z := fun g i =>
  if g = 42 then (if i = 40 * j + (t 41 j).toNat then c else t 42 i)
  else if g = 41 then (if i = j then t 41 j + 1 else t 41 i)
  else if g = 37 ∨ g = 38 then (if i = c then 0 else t g i) else t g i
theorem pm_couple {t : py_Z} {j c : Nat} {K : ty_S → Prop} (hj : j < 41) (hs : 0 ≤ t 41 j ∧ t 41 j < 40) (hc : c < 40) (hK : K (py_O (pm_cpl t j c))) : eX5_couple (py_O t) (py_o j) (py_o c) K := by
  unfold eX5_couple
  try simp only [py_O_ap, py_l0, py_l1, py_l2, py_l3, py_l4, py_l5, py_l6, py_l7, py_l8, py_l9, py_l12, py_l16, py_l32, py_l40, py_l100, py_l640, py_l1280, py_neg, py_add, py_sub, py_mul, py_stO]
  refine py_and ?_
  rw [py_nat (by omega)]
  simp only [Int.toNat_natCast]
  try simp only [py_O_ap, py_l0, py_l1, py_l2, py_l3, py_l4, py_l5, py_l6, py_l7, py_l8, py_l9, py_l12, py_l16, py_l32, py_l40, py_l100, py_l640, py_l1280, py_neg, py_add, py_sub, py_mul, py_stO]
  refine py_and (py_and (py_and (py_and (py_and ?_))))
  rw [py_nat (by omega), py_nat (by omega)]
  simp only [Int.toNat_natCast]
  have e : pm_cpl t j c = py_st (py_st (py_st (py_st t 42 (40 * (j : Int) + t 41 j).toNat c) 41 j (t 41 j + 1)) 37 c 0) 38 c 0 := by
    funext g i
    simp only [pm_cpl, py_st]
    grind
  rw [← e]
  exact hK
def pr_shf (s : py_Z) (m : Nat) : py_Z := fun g i => if g = 5 ∧ m < i ∧ (i : Int) ≤ s 13 0 then s 5 (i - 1) else s g i
theorem pr_shf_n {s : py_Z} {m g i : Nat} (h : g ≠ 5) : pr_shf s m g i = s g i := by simp [pr_shf, h]
theorem pr_shf_5 {s : py_Z} {m i : Nat} (h : i ≤ m) : pr_shf s m 5 i = s 5 i := by
  unfold pr_shf
  rw [if_neg (by omega)]
theorem pr_shf_st {s : py_Z} {m : Nat} (h0 : 0 < m) (h : (m : Int) ≤ s 13 0) : pr_shf s (m - 1) = py_st (pr_shf s m) 5 m (s 5 (m - 1)) := by
  funext g i
  simp only [py_st, pr_shf]
  grind
theorem pr_shf_fin {s : py_Z} {a c : Nat} {num : Int} (h : (a : Int) ≤ s 13 0) : pr_ins s a c num = py_st (py_st (py_st (pr_shf s a) 5 a c) 6 c num) 13 0 (s 13 0 + 1) := by
  funext g i
  simp only [pr_ins, py_st, pr_shf]
  grind
theorem pr_addCar {s : py_Z} {a c : Nat} {num : Int} {K : ty_S → Int32 → Prop} (hN : 0 ≤ s 13 0 ∧ s 13 0 < 40) (hb : ∀ k : Nat, (k : Int) < s 13 0 → (0 ≤ s 5 k ∧ s 5 k < 40)) (h6 : ∀ c : Nat, c < 40 → 0 ≤ s 6 c ∧ s 6 c < 2147483648) (hc : c < 40) (hfree : s 6 c = 0) (hleast : ∀ d : Nat, d < c → s 6 d ≠ 0) (ha : (a : Int) ≤ s 13 0) (hgt : ∀ k : Nat, a ≤ k → (k : Int) < s 13 0 → num < s 6 (s 5 k).toNat) (hle : 0 < a → s 6 (s 5 (a - 1)).toNat ≤ num) (hnum : 0 ≤ num ∧ num < 2147483648) (hK : K (py_O (pr_ins s a c num)) (py_o c)) : eX1_addCar (py_O s) (py_o num) K := by
  have hfin : ∃ n9, lX1_addCar_26 K n9 (py_o num) (py_o c) (py_o a) (py_O (pr_shf s a)) := by
    rw [pr_shf_fin ha] at hK
    have hj : jX1_addCar_66 K (py_o num) (py_o c) (py_o a) (py_O (pr_shf s a)) := by
      unfold jX1_addCar_66
      try simp only [py_O_ap, py_l0, py_l1, py_l2, py_l3, py_l4, py_l5, py_l6, py_l7, py_l8, py_l9, py_l12, py_l16, py_l32, py_l40, py_l100, py_l640, py_l1280, py_neg, py_add, py_sub, py_mul, py_stO]
      refine py_and (py_and ?_)
      rw [py_nat (by omega), py_nat (by omega)]
      simp only [Int.toNat_natCast]
      exact hK
    refine ⟨1, ?_⟩
    unfold lX1_addCar_26
    try simp only [py_O_ap, py_l0, py_l1, py_l2, py_l3, py_l4, py_l5, py_l6, py_l7, py_l8, py_l9, py_l12, py_l16, py_l32, py_l40, py_l100, py_l640, py_l1280, py_neg, py_add, py_sub, py_mul, py_stO]
    refine py_ile (fun _ => hj) (fun c1 => py_and ?_)
    have e1 : ((a : Int) - 1).toNat = a - 1 := by omega
    rw [py_nat (by omega), e1, pr_shf_5 (by omega)]
    have := hb (a - 1) (by omega)
    have h62 := h6 (s 5 (a - 1)).toNat (by omega)
    refine pr_trainOf (fun _ _ => ?_) (fun c => absurd c (by omega))
    rw [pr_shf_n (by decide)]
    have := hle (by omega)
    exact py_ile (fun _ => hj) (fun c => absurd c (by omega))
  have key : ∀ d m : Nat, a + d = m → (m : Int) ≤ s 13 0 → ∃ n9, lX1_addCar_26 K n9 (py_o num) (py_o c) (py_o m) (py_O (pr_shf s m)) := by
    intro d
    induction d with
    | zero => intro m hm _; rw [show m = a by omega]; exact hfin
    | succ d ih =>
      intro m hm hm2
      obtain ⟨n, hn⟩ := ih (m - 1) (by omega) (by omega)
      refine ⟨n + 1, ?_⟩
      unfold lX1_addCar_26
      try simp only [py_O_ap, py_l0, py_l1, py_l2, py_l3, py_l4, py_l5, py_l6, py_l7, py_l8, py_l9, py_l12, py_l16, py_l32, py_l40, py_l100, py_l640, py_l1280, py_neg, py_add, py_sub, py_mul, py_stO]
      refine py_ile (fun c => absurd c (by omega)) (fun c1 => py_and ?_)
      have e1 : ((m : Int) - 1).toNat = m - 1 := by omega
      rw [py_nat (by omega), py_nat (by omega), e1, pr_shf_5 (by omega)]
      simp only [Int.toNat_natCast]
      have := hb (m - 1) (by omega)
      have h62 := h6 (s 5 (m - 1)).toNat (by omega)
      refine pr_trainOf (fun _ _ => ?_) (fun c => absurd c (by omega))
      rw [pr_shf_n (by decide)]
      have := hgt (m - 1) (by omega) (by omega)
      refine py_ile (fun c => absurd c (by omega)) (fun _ => py_and (py_and ?_))
      try simp only [py_O_ap, py_l0, py_l1, py_l2, py_l3, py_l4, py_l5, py_l6, py_l7, py_l8, py_l9, py_l12, py_l16, py_l32, py_l40, py_l100, py_l640, py_l1280, py_neg, py_add, py_sub, py_mul, py_stO]
      rw [pr_shf_5 (by omega)]
      have e4 : ((m - 1 : Nat) : Int) = (m : Int) + -1 := by omega
      rw [e4] at hn
      rw [pr_shf_st (by omega) hm2] at hn
      exact hn
  unfold eX1_addCar
  try simp only [py_O_ap, py_l0, py_l1, py_l2, py_l3, py_l4, py_l5, py_l6, py_l7, py_l8, py_l9, py_l12, py_l16, py_l32, py_l40, py_l100, py_l640, py_l1280, py_neg, py_add, py_sub, py_mul, py_stO]
  refine pr_leastFree h6 (fun c' hc' h1 h2 => ?_) (fun h1 => absurd hfree (h1 c hc))
  have e : c' = c := by
    rcases Nat.lt_trichotomy c' c with e | e | e
    · exact absurd h1 (hleast c' e)
    · exact e
    · exact absurd hfree (h2 c e)
  subst e
  refine py_ieq (fun c => absurd c (by omega)) (fun _ => ?_)
  refine py_ilt (fun _ => ?_) (fun c => absurd c (by omega))
  have := key ((s 13 0).toNat - a) (s 13 0).toNat (by omega) (by omega)
  have e : pr_shf s (s 13 0).toNat = s := by
    funext g i
    unfold pr_shf
    rw [if_neg (by omega)]
  rw [e] at this
  have e2 : (((s 13 0).toNat : Nat) : Int) = s 13 0 := by omega
  rw [e2] at this
  exact this
theorem pr_RV.add {s t : py_Z} (h : pr_RV s t) (hN : s 13 0 < 40) {j c : Nat} (hj : (j : Int) < t 50 0) (hc : c < 40) (hfree : s 6 c = 0) : pr_RV (pr_ins s (pr_off t j + (t 41 j).toNat) c (t 40 j)) (pm_cpl t j c) := by
  have hend := h.lt hj
  have hsz := h.2.1 j hj
  have hnj := h.2.2.2.2.1 j hj
  have hcar := fun {i : Nat} => h.car (i := i)
  have hne : ∀ k : Nat, (k : Int) < s 13 0 → s 5 k ≠ c := fun k hk e => by
    have := hcar hk
    rw [e] at this
    simp only [Int.toNat_natCast] at this
    omega
  have hcnt0 : 0 ≤ s 13 0 := by have := h.2.2.1; omega
  have hoff : ∀ i : Nat, pr_off (pm_cpl t j c) i = pr_off t i + (if j < i then 1 else 0) := by
    intro i
    induction i with
    | zero => rfl
    | succ i ih =>
      have e1 : pr_off (pm_cpl t j c) (i + 1) = pr_off (pm_cpl t j c) i + (pm_cpl t j c 41 i).toNat := rfl
      have e2 : pr_off t (i + 1) = pr_off t i + (t 41 i).toNat := rfl
      have e3 : pm_cpl t j c 41 i = if i = j then t 41 j + 1 else t 41 i := by simp [pm_cpl]
      rw [e1, e2, e3, ih]
      by_cases e : i = j
      · subst e; rw [if_pos rfl, if_neg (by omega), if_pos (by omega)]; omega
      · rw [if_neg e]
        by_cases e4 : j < i
        · rw [if_pos e4, if_pos (by omega)]; omega
        · rw [if_neg e4, if_neg (by omega)]; omega
  have e50 : pm_cpl t j c 50 0 = t 50 0 := by simp [pm_cpl]
  have e40 : ∀ i, pm_cpl t j c 40 i = t 40 i := fun i => by simp [pm_cpl]
  have e57 : pm_cpl t j c 57 0 = t 57 0 := by simp [pm_cpl]
  have e41 : ∀ i, pm_cpl t j c 41 i = if i = j then t 41 j + 1 else t 41 i := fun i => by simp [pm_cpl]
  have e42 : ∀ i, pm_cpl t j c 42 i = if i = 40 * j + (t 41 j).toNat then (c : Int) else t 42 i := fun i => by simp [pm_cpl]
  have s13 : pr_ins s (pr_off t j + (t 41 j).toNat) c (t 40 j) 13 0 = s 13 0 + 1 := by simp [pr_ins]
  have s14 : pr_ins s (pr_off t j + (t 41 j).toNat) c (t 40 j) 14 0 = s 14 0 := by simp [pr_ins]
  have s6 : ∀ i, pr_ins s (pr_off t j + (t 41 j).toNat) c (t 40 j) 6 i = if i = c then t 40 j else s 6 i := fun i => by simp [pr_ins]
  have s5 : ∀ i, pr_ins s (pr_off t j + (t 41 j).toNat) c (t 40 j) 5 i = if i < pr_off t j + (t 41 j).toNat then s 5 i else if i = pr_off t j + (t 41 j).toNat then (c : Int) else if (i : Int) ≤ s 13 0 then s 5 (i - 1) else s 5 i := fun i => by simp [pr_ins]
  generalize pr_ins s (pr_off t j + (t 41 j).toNat) c (t 40 j) = s' at *
  generalize pm_cpl t j c = t' at *
  have hsz2 : t 41 j < 40 := by omega
  refine ⟨by rw [e50]; exact h.1, ?_, ?_, ?_, ?_, ?_, ?_, ?_, ?_, ?_⟩
  · intro i hi
    rw [e50] at hi
    rw [e41]
    have := h.2.1 i hi
    split <;> omega
  · rw [hoff, e50, s13, if_pos (by omega)]
    have := h.2.2.1
    omega
  · intro i k hi hk
    rw [e50] at hi
    rw [e41] at hk
    rw [e40]
    have hsi := h.2.1 i hi
    have ho1 : i ≤ j → pr_off t' i = pr_off t i := fun e => by rw [hoff, if_neg (by omega)]; rfl
    have ho2 : j < i → pr_off t' i = pr_off t i + 1 := fun e => by rw [hoff, if_pos e]
    by_cases e : i = j ∧ k = (t 41 j).toNat
    · obtain ⟨e1, e2⟩ := e
      subst e1; subst e2
      rw [ho1 (Nat.le_refl _), e42, if_pos rfl, s5, if_neg (by omega), if_pos rfl, s6]
      refine ⟨rfl, by omega, ?_⟩
      rw [if_pos (by omega)]
    · have hk2 : (k : Int) < t 41 i := by
        by_cases e1 : i = j
        · subst e1; rw [if_pos rfl] at hk; omega
        · rwa [if_neg e1] at hk
      obtain ⟨h1, h2, h3⟩ := h.2.2.2.1 i k hi hk2
      have h4 := h.lt hi
      have hidx : 40 * i + k ≠ 40 * j + (t 41 j).toNat := by omega
      rw [e42, if_neg hidx]
      refine ⟨?_, h2, ?_⟩
      · rw [← h1, s5]
        rcases Nat.lt_trichotomy i j with h5 | h5 | h5
        · have h6 := pr_off_le (t := t) (show i + 1 ≤ j by omega)
          have h7 : pr_off t (i + 1) = pr_off t i + (t 41 i).toNat := rfl
          rw [ho1 (by omega), if_pos (by omega)]
        · subst h5
          rw [ho1 (by omega), if_pos (by omega)]
        · have h6 := pr_off_le (t := t) (show j + 1 ≤ i by omega)
          have h7 : pr_off t (j + 1) = pr_off t j + (t 41 j).toNat := rfl
          rw [ho2 h5, if_neg (by omega), if_neg (by omega), if_pos (by omega)]
          congr 1
          omega
      · rw [s6, if_neg, h3]
        intro e2
        have := hne (pr_off t i + k) (by omega)
        rw [h1] at this
        omega
  · intro i hi
    rw [e50] at hi
    rw [e40, e57]; exact h.2.2.2.2.1 i hi
  · intro i i' hii hi
    rw [e50] at hi
    rw [e40, e40]; exact h.2.2.2.2.2.1 i i' hii hi
  · rw [s14, e57]; exact h.2.2.2.2.2.2.1
  · intro c' hc' h1
    rw [s6] at h1
    rw [s13]
    by_cases e : c' = c
    · refine ⟨pr_off t j + (t 41 j).toNat, by omega, ?_⟩
      rw [s5, if_neg (by omega), if_pos rfl, e]
    · rw [if_neg e] at h1
      obtain ⟨k, h2, h3⟩ := h.2.2.2.2.2.2.2.1 c' hc' h1
      by_cases e2 : k < pr_off t j + (t 41 j).toNat
      · exact ⟨k, by omega, by rw [s5, if_pos e2]; exact h3⟩
      · exact ⟨k + 1, by omega, by rw [s5, if_neg (by omega), if_neg (by omega), if_pos (by omega)]; exact h3⟩
  · intro x y hxy hy
    rw [s13] at hy
    have hinj := h.2.2.2.2.2.2.2.2.1
    have hx1 := hne x
    have hx2 := hne (y - 1)
    have ey1 : y < pr_off t j + (t 41 j).toNat → s' 5 y = s 5 y := fun e => by rw [s5, if_pos e]
    have ey2 : y = pr_off t j + (t 41 j).toNat → s' 5 y = c := fun e => by rw [s5, if_neg (by omega), if_pos e]
    have ey3 : pr_off t j + (t 41 j).toNat < y → s' 5 y = s 5 (y - 1) := fun e => by rw [s5, if_neg (by omega), if_neg (by omega), if_pos (by omega)]
    have ex1 : x < pr_off t j + (t 41 j).toNat → s' 5 x = s 5 x := fun e => by rw [s5, if_pos e]
    have ex2 : x = pr_off t j + (t 41 j).toNat → s' 5 x = c := fun e => by rw [s5, if_neg (by omega), if_pos e]
    have ex3 : pr_off t j + (t 41 j).toNat < x → s' 5 x = s 5 (x - 1) := fun e => by rw [s5, if_neg (by omega), if_neg (by omega), if_pos (by omega)]
    rcases Nat.lt_trichotomy y (pr_off t j + (t 41 j).toNat) with e1 | e1 | e1
    · rw [ey1 e1, ex1 (by omega)]
      exact hinj x y hxy (by omega)
    · rw [ey2 e1, ex1 (by omega)]
      exact hx1 (by omega)
    · rw [ey3 e1]
      rcases Nat.lt_trichotomy x (pr_off t j + (t 41 j).toNat) with e3 | e3 | e3
      · rw [ex1 e3]
        exact hinj x (y - 1) (by omega) (by omega)
      · rw [ex2 e3]
        exact fun e => hx2 (by omega) e.symm
      · rw [ex3 e3]
        exact hinj (x - 1) (y - 1) (by omega) (by omega)
  · rw [s13, py_cnt_up (P := fun c => decide (s 6 c ≠ 0)) hc (by simp [hfree]) (by rw [s6, if_pos rfl]; simp; omega) (fun i hi hne2 => by rw [s6, if_neg hne2])]
    have := h.2.2.2.2.2.2.2.2.2
    omega
end
section
/-! PURE: trains begin and end -/
theorem pr_off_congr {t t' : py_Z} : ∀ (n : Nat), (∀ i : Nat, i < n → t' 41 i = t 41 i) → pr_off t' n = pr_off t n
  | 0, _ => rfl
  | n + 1, h => by
    show pr_off t' n + _ = pr_off t n + _
    rw [pr_off_congr n (fun i hi => h i (by omega)), h n (by omega)]
theorem pr_addCar_in {s t : py_Z} {K : ty_S → Int32 → Prop} (h : pr_RW s t) (hN : s 13 0 < 40) {j c : Nat} (hj : (j : Int) < t 50 0) (hc : c < 40) (hfree : s 6 c = 0) (hleast : ∀ d : Nat, d < c → s 6 d ≠ 0) (hK : K (py_O (pr_ins s (pr_off t j + (t 41 j).toNat) c (t 40 j))) (py_o c)) : eX1_addCar (py_O s) (py_o (t 40 j)) K := by
  have hend := h.end_le hj
  have hsz := h.2.1 j hj
  have hnj := h.2.2.2.2.1 j hj
  have hm := h.2.2.2.2.2.2.1
  refine pr_addCar ⟨h.cnt.1, hN⟩ (fun k hk => (h.car hk).1) (fun c hc => by have := h.six_b hc; omega) hc hfree hleast (by omega) (fun k hk1 hk2 => ?_) (fun h0 => ?_) (by omega) hK
  · obtain ⟨hb, j', k', hj', hk', h2, h3, h4, h5, h6⟩ := h.car hk2
    rw [h4]
    refine h.2.2.2.2.2.1 j j' ?_ hj'
    rcases Nat.lt_or_ge j j' with e | e
    · exact e
    · have h8 := pr_off_le (t := t) (show j' + 1 ≤ j + 1 by omega)
      have h9 : pr_off t (j + 1) = pr_off t j + (t 41 j).toNat := rfl
      have h10 : pr_off t (j' + 1) = pr_off t j' + (t 41 j').toNat := rfl
      omega
  · rw [(h.in_iff (j := j) (k := pr_off t j + (t 41 j).toNat - 1) hj (by omega)).mpr ⟨by omega, by omega⟩]
    exact Int.le_refl _
theorem pr_RW.add {s t : py_Z} (h : pr_RW s t) (hN : s 13 0 < 40) {j c : Nat} (hj : (j : Int) < t 50 0) (hc : c < 40) (hfree : s 6 c = 0) : pr_RW (pr_ins s (pr_off t j + (t 41 j).toNat) c (t 40 j)) (pm_cpl t j c) := by
  refine (h.rv.add hN hj hc hfree).rw (fun i hi => ?_)
  have e50 : pm_cpl t j c 50 0 = t 50 0 := by simp [pm_cpl]
  have e41 : pm_cpl t j c 41 i = if i = j then t 41 j + 1 else t 41 i := by simp [pm_cpl]
  rw [e50] at hi
  rw [e41]
  have := h.2.1 i hi
  have := h.2.1 j hj
  split <;> omega
/-- a new train, with no car yet -/
def pm_nt (t : py_Z) : py_Z := fun g i =>
  if g = 57 then (if i = 0 then t 57 0 + 1 else t 57 i) else if g = 40 then (if i = (t 50 0).toNat then t 57 0 + 1 else t 40 i)
  else if g = 41 then (if i = (t 50 0).toNat then 0 else t 41 i) else if g = 50 then (if i = 0 then t 50 0 + 1 else t 50 i) else t g i
theorem pr_RW.nt {s t : py_Z} (h : pr_RW s t) (hn : t 50 0 < 40) (hm : t 57 0 < 100000) : pr_RV (py_st s 14 0 (s 14 0 + 1)) (pm_nt t) ∧ pr_off (pm_nt t) (t 50 0).toNat = (s 13 0).toNat := by
  have h0 := h.1
  have ht := h.2.2.1
  have e50 : pm_nt t 50 0 = t 50 0 + 1 := by simp [pm_nt]
  have e57 : pm_nt t 57 0 = t 57 0 + 1 := by simp [pm_nt]
  have e40 : ∀ i, pm_nt t 40 i = if i = (t 50 0).toNat then t 57 0 + 1 else t 40 i := fun i => by simp [pm_nt]
  have e41 : ∀ i, pm_nt t 41 i = if i = (t 50 0).toNat then 0 else t 41 i := fun i => by simp [pm_nt]
  have e42 : ∀ i, pm_nt t 42 i = t 42 i := fun i => by simp [pm_nt]
  have s5 : ∀ i, py_st s 14 0 (s 14 0 + 1) 5 i = s 5 i := fun i => py_sn (by decide)
  have s6 : ∀ i, py_st s 14 0 (s 14 0 + 1) 6 i = s 6 i := fun i => py_sn (by decide)
  have s13 : ∀ i, py_st s 14 0 (s 14 0 + 1) 13 i = s 13 i := fun i => py_sn (by decide)
  have s14 : py_st s 14 0 (s 14 0 + 1) 14 0 = s 14 0 + 1 := py_se
  generalize py_st s 14 0 (s 14 0 + 1) = s' at *
  generalize pm_nt t = t' at *
  have hoff : ∀ i : Nat, (i : Int) ≤ t 50 0 → pr_off t' i = pr_off t i := fun i hi => pr_off_congr i (fun k hk => by rw [e41, if_neg (by omega)])
  have hoff2 : pr_off t' (t 50 0).toNat = (s 13 0).toNat := by rw [hoff _ (by omega)]; omega
  refine ⟨⟨by omega, ?_, ?_, ?_, ?_, ?_, ?_, ?_, ?_, ?_⟩, hoff2⟩
  · intro i hi
    rw [e41]
    split
    · omega
    · have := h.2.1 i (by omega); omega
  · rw [e50, show (t 50 0 + 1).toNat = (t 50 0).toNat + 1 by omega, s13]
    have e : pr_off t' ((t 50 0).toNat + 1) = pr_off t' (t 50 0).toNat + (t' 41 (t 50 0).toNat).toNat := rfl
    rw [e, e41, if_pos rfl, hoff2]
    omega
  · intro j k hj hk
    rw [e41] at hk
    by_cases e : j = (t 50 0).toNat
    · rw [if_pos e] at hk; omega
    · rw [if_neg e] at hk
      have := h.2.2.2.1 j k (by omega) hk
      rw [hoff j (by omega), e42, s5, s6, e40, if_neg e]
      exact this
  · intro j hj
    rw [e40, e57]
    have hmm := h.2.2.2.2.2.2.1
    split
    · omega
    · have := h.2.2.2.2.1 j (by omega); omega
  · intro i j hij hj
    rw [e40, e40, if_neg (by omega)]
    have h1 := h.2.2.2.2.1 i (by omega)
    split
    · omega
    · exact h.2.2.2.2.2.1 i j hij (by omega)
  · rw [s14, e57]; have := h.2.2.2.2.2.2.1; omega
  · intro c hc h1
    rw [s6] at h1
    rw [s13]
    obtain ⟨k, h2, h3⟩ := h.2.2.2.2.2.2.2.1 c hc h1
    exact ⟨k, h2, by rw [s5]; exact h3⟩
  · intro a b hab hb
    rw [s13] at hb
    rw [s5, s5]
    exact h.2.2.2.2.2.2.2.2.1 a b hab hb
  · rw [s13, ← h.2.2.2.2.2.2.2.2.2]
    rw [py_cnt_congr (fun k _ => by rw [s6])]
/-- the class's state behind a new train -/
def pr_new (s : py_Z) (c : Nat) : py_Z := pr_ins (py_st s 14 0 (s 14 0 + 1)) (s 13 0).toNat c (s 14 0 + 1)
def pm_new (t : py_Z) (c : Nat) : py_Z := pm_cpl (pm_nt t) (t 50 0).toNat c
theorem pr_addTrain {s t : py_Z} {K : ty_S → Int32 → Prop} (h : pr_RW s t) (hN : s 13 0 < 40) {c : Nat} (hc : c < 40) (hfree : s 6 c = 0) (hleast : ∀ d : Nat, d < c → s 6 d ≠ 0) (hK : K (py_O (pr_new s c)) (py_o c)) : eX1_addTrain (py_O s) K := by
  have hm := h.2.2.2.2.2.2.1
  have hc0 := h.cnt
  unfold eX1_addTrain
  try simp only [py_O_ap, py_l0, py_l1, py_l2, py_l3, py_l4, py_l5, py_l6, py_l7, py_l8, py_l9, py_l12, py_l16, py_l32, py_l40, py_l100, py_l640, py_l1280, py_neg, py_add, py_sub, py_mul, py_stO]
  refine pr_countFree ?_
  refine py_ieq (fun c => absurd c (by omega)) (fun _ => ?_)
  try simp only [py_O_ap, py_l0, py_l1, py_l2, py_l3, py_l4, py_l5, py_l6, py_l7, py_l8, py_l9, py_l12, py_l16, py_l32, py_l40, py_l100, py_l640, py_l1280, py_neg, py_add, py_sub, py_mul, py_stO]
  refine pr_addCar (a := (s 13 0).toNat) (c := c) ?_ (fun k hk => ?_) (fun c hc => ?_) hc ?_ (fun d hd => ?_) ?_ (fun k hk1 hk2 => ?_) (fun h0 => ?_) (by omega) hK
  · rw [py_sn (by decide)]; exact ⟨h.cnt.1, hN⟩
  · rw [py_sn (by decide)] at hk
    rw [py_sn (by decide)]; exact (h.car hk).1
  · rw [py_sn (by decide)]; have := h.six_b hc; omega
  · rw [py_sn (by decide)]; exact hfree
  · rw [py_sn (by decide)]; exact hleast d hd
  · rw [py_sn (by decide)]; omega
  · rw [py_sn (by decide)] at hk2; omega
  · rw [py_sn (by decide), py_sn (by decide)]
    have := h.rv.car (i := (s 13 0).toNat - 1) (by omega)
    omega
theorem pm_newTrain {s t : py_Z} {K : ty_S → Prop} (h : pr_RW s t) (hN : t 50 0 < 40) {c : Nat} (hc : c < 40) (hfree : s 6 c = 0) (hleast : ∀ d : Nat, d < c → s 6 d ≠ 0) (hK : K (py_O (pm_new t c))) : eX5_newTrain (py_O t) K := by
  have h0 := h.1
  unfold eX5_newTrain
  try simp only [py_O_ap, py_l0, py_l1, py_l2, py_l3, py_l4, py_l5, py_l6, py_l7, py_l8, py_l9, py_l12, py_l16, py_l32, py_l40, py_l100, py_l640, py_l1280, py_neg, py_add, py_sub, py_mul, py_stO]
  refine pm_freeCar h (fun c' hc' h1 h2 => ?_) (fun h1 => absurd hfree (h1 c hc))
  have e : c' = c := by
    rcases Nat.lt_trichotomy c' c with e | e | e
    · exact absurd h1 (hleast c' e)
    · exact e
    · exact absurd hfree (h2 c e)
  subst e
  try simp only [py_O_ap, py_l0, py_l1, py_l2, py_l3, py_l4, py_l5, py_l6, py_l7, py_l8, py_l9, py_l12, py_l16, py_l32, py_l40, py_l100, py_l640, py_l1280, py_neg, py_add, py_sub, py_mul, py_stO]
  refine py_and (py_and ?_)
  rw [py_nat (by omega)]
  have e1 : t 50 0 + 1 - 1 = ((t 50 0).toNat : Nat) := by omega
  rw [e1]
  have e2 : py_st (py_st (py_st (py_st t 57 0 (t 57 0 + 1)) 40 (t 50 0).toNat (t 57 0 + 1)) 41 (t 50 0).toNat 0) 50 0 (t 50 0 + 1) = pm_nt t := by
    funext g i
    simp only [py_st, pm_nt]
    grind
  rw [e2]
  refine pm_couple (by omega) ?_ hc hK
  simp [pm_nt]
theorem pr_RW.trains_le {s t : py_Z} (h : pr_RW s t) : t 50 0 ≤ s 13 0 := by
  have h1 := h.off_ge (t 50 0).toNat (by have := h.1; omega)
  have := h.2.2.1
  have := h.1
  omega
theorem pr_RW.new {s t : py_Z} (h : pr_RW s t) (hN : s 13 0 < 40) (hm : t 57 0 < 100000) {c : Nat} (hc : c < 40) (hfree : s 6 c = 0) : pr_RW (pr_new s c) (pm_new t c) := by
  have h0 := h.1
  have hl := h.trains_le
  obtain ⟨h1, h2⟩ := h.nt (by omega) hm
  have e50 : pm_nt t 50 0 = t 50 0 + 1 := by simp [pm_nt]
  have e41 : pm_nt t 41 (t 50 0).toNat = 0 := by simp [pm_nt]
  have e40 : pm_nt t 40 (t 50 0).toNat = s 14 0 + 1 := by simp [pm_nt]; have := h.2.2.2.2.2.2.1; omega
  have h3 := h1.add (j := (t 50 0).toNat) (c := c) (by rw [py_sn (by decide)]; exact hN) (by omega) hc (by rw [py_sn (by decide)]; exact hfree)
  rw [h2, e41, e40] at h3
  refine pr_RV.rw h3 (fun i hi => ?_)
  have f50 : pm_new t c 50 0 = t 50 0 + 1 := by simp [pm_new, pm_cpl, pm_nt]
  rw [f50] at hi
  have f41 : pm_new t c 41 i = if i = (t 50 0).toNat then 1 else t 41 i := by
    simp only [pm_new, pm_cpl, pm_nt]; grind
  rw [f41]
  split
  · omega
  · have := h.2.1 i (by omega); omega
/-! the first car goes -/
def pr_rem (s : py_Z) : py_Z := fun g i =>
  if g = 5 then (if (i : Int) + 1 < s 13 0 then s 5 (i + 1) else s 5 i) else if g = 6 then (if i = (s 5 0).toNat then 0 else s 6 i)
  else if g = 13 then (if i = 0 then s 13 0 - 1 else s 13 i) else s g i
def pr_rs (s : py_Z) (m : Nat) : py_Z := fun g i => if g = 5 then (if i + 1 < m then s 5 (i + 1) else s 5 i) else if g = 6 then (if i = (s 5 0).toNat then 0 else s 6 i) else s g i
theorem pr_rs_st {s : py_Z} {m : Nat} (h0 : 0 < m) : pr_rs s (m + 1) = py_st (pr_rs s m) 5 (m - 1) (s 5 m) := by
  funext g i
  simp only [py_st, pr_rs]
  grind
theorem pr_rs_fin {s : py_Z} {m : Nat} (h : (m : Int) = s 13 0) : pr_rem s = py_st (pr_rs s m) 13 0 (s 13 0 - 1) := by
  funext g i
  simp only [py_st, pr_rs, pr_rem]
  grind
theorem pr_rs_1 {s : py_Z} : pr_rs s 1 = py_st s 6 (s 5 0).toNat 0 := by
  funext g i
  simp only [py_st, pr_rs]
  grind
theorem pr_removeFirstCar {s : py_Z} {K : ty_S → Prop} (hN : 0 < s 13 0 ∧ s 13 0 ≤ 40) (hb : 0 ≤ s 5 0 ∧ s 5 0 < 40) (hK : K (py_O (pr_rem s))) : eX1_removeFirstCar (py_O s) K := by
  have key : ∀ d m : Nat, 0 < m → (m : Int) + d = s 13 0 → ∃ n9, lX1_removeFirstCar_23 K n9 (py_o m) (py_O (pr_rs s m)) := by
    intro d
    induction d with
    | zero =>
      intro m h0 hm
      refine ⟨1, ?_⟩
      unfold lX1_removeFirstCar_23
      try simp only [py_O_ap, py_l0, py_l1, py_l2, py_l3, py_l4, py_l5, py_l6, py_l7, py_l8, py_l9, py_l12, py_l16, py_l32, py_l40, py_l100, py_l640, py_l1280, py_neg, py_add, py_sub, py_mul, py_stO]
      have e : pr_rs s m 13 0 = s 13 0 := by simp [pr_rs]
      rw [e]
      refine py_ile (fun _ => ?_) (fun c => absurd c (by omega))
      rw [pr_rs_fin (m := m) (by omega)] at hK
      exact hK
    | succ d ih =>
      intro m h0 hm
      obtain ⟨n, hn⟩ := ih (m + 1) (by omega) (by omega)
      refine ⟨n + 1, ?_⟩
      unfold lX1_removeFirstCar_23
      try simp only [py_O_ap, py_l0, py_l1, py_l2, py_l3, py_l4, py_l5, py_l6, py_l7, py_l8, py_l9, py_l12, py_l16, py_l32, py_l40, py_l100, py_l640, py_l1280, py_neg, py_add, py_sub, py_mul, py_stO]
      have e : pr_rs s m 13 0 = s 13 0 := by simp [pr_rs]
      rw [e]
      refine py_ile (fun c => absurd c (by omega)) (fun _ => py_and (py_and ?_))
      have e1 : ((m : Int) - 1).toNat = m - 1 := by omega
      have e2 : pr_rs s m 5 m = s 5 m := by simp only [pr_rs]; grind
      rw [py_nat (by omega), py_nat (by omega), e1]
      simp only [Int.toNat_natCast]
      rw [e2]
      rw [pr_rs_st h0] at hn
      exact hn
  unfold eX1_removeFirstCar
  try simp only [py_O_ap, py_l0, py_l1, py_l2, py_l3, py_l4, py_l5, py_l6, py_l7, py_l8, py_l9, py_l12, py_l16, py_l32, py_l40, py_l100, py_l640, py_l1280, py_neg, py_add, py_sub, py_mul, py_stO]
  refine pr_carAt (by omega) (fun _ _ => ?_) (fun c => absurd c (by omega))
  simp only [Int.toNat_zero]
  refine pr_isCar (fun _ _ => ?_) (fun c => absurd c (by omega))
  refine py_ieq (fun c => absurd c (by omega)) (fun _ => py_and ?_)
  rw [py_nat (by omega)]
  try simp only [py_O_ap, py_l0, py_l1, py_l2, py_l3, py_l4, py_l5, py_l6, py_l7, py_l8, py_l9, py_l12, py_l16, py_l32, py_l40, py_l100, py_l640, py_l1280, py_neg, py_add, py_sub, py_mul, py_stO]
  rw [← pr_rs_1]
  exact key ((s 13 0).toNat - 1) 1 (by omega) (by omega)
/-- the reference's first train loses its first car -/
def pm_sh (t : py_Z) : py_Z := fun g i => if g = 41 then (if i = 0 then t 41 0 - 1 else t 41 i) else if g = 42 then (if (i : Int) + 1 < t 41 0 then t 42 (i + 1) else t 42 i) else t g i
theorem pr_RV.rem {s t : py_Z} (h : pr_RV s t) (hn : 0 < t 50 0) (hs : 0 < t 41 0) : pr_RV (pr_rem s) (pm_sh t) := by
  have h0 := h.1
  have hs0 := h.2.1 0 (by omega)
  have hl0 := h.lt (j := 0) (by omega)
  have ho0 : pr_off t 0 = 0 := rfl
  have hc0 := h.car (i := 0) (by omega)
  have hinj := h.2.2.2.2.2.2.2.2.1
  have e50 : pm_sh t 50 0 = t 50 0 := by simp [pm_sh]
  have e57 : pm_sh t 57 0 = t 57 0 := by simp [pm_sh]
  have e40 : ∀ i, pm_sh t 40 i = t 40 i := fun i => by simp [pm_sh]
  have e41 : ∀ i, pm_sh t 41 i = if i = 0 then t 41 0 - 1 else t 41 i := fun i => by simp [pm_sh]
  have e42 : ∀ i, pm_sh t 42 i = if (i : Int) + 1 < t 41 0 then t 42 (i + 1) else t 42 i := fun i => by simp [pm_sh]
  have s5 : ∀ i, pr_rem s 5 i = if (i : Int) + 1 < s 13 0 then s 5 (i + 1) else s 5 i := fun i => by simp [pr_rem]
  have s6 : ∀ i, pr_rem s 6 i = if i = (s 5 0).toNat then 0 else s 6 i := fun i => by simp [pr_rem]
  have s13 : pr_rem s 13 0 = s 13 0 - 1 := by simp [pr_rem]
  have s14 : pr_rem s 14 0 = s 14 0 := by simp [pr_rem]
  generalize pr_rem s = s' at *
  generalize pm_sh t = t' at *
  have hoff : ∀ i : Nat, pr_off t' i + (if i = 0 then 0 else 1) = pr_off t i := by
    intro i
    induction i with
    | zero => rfl
    | succ i ih =>
      have e1 : pr_off t' (i + 1) = pr_off t' i + (t' 41 i).toNat := rfl
      have e2 : pr_off t (i + 1) = pr_off t i + (t 41 i).toNat := rfl
      rw [e1, e2, e41, ← ih]
      by_cases e : i = 0
      · subst e; rw [if_pos rfl, if_pos rfl, if_neg (by omega)]; omega
      · rw [if_neg e, if_neg e, if_neg (by omega)]; omega
  refine ⟨by omega, ?_, ?_, ?_, ?_, ?_, ?_, ?_, ?_, ?_⟩
  · intro i hi
    rw [e50] at hi
    rw [e41]
    have := h.2.1 i hi
    split <;> omega
  · have h1 := hoff (t 50 0).toNat
    rw [if_neg (by omega)] at h1
    have := h.2.2.1
    rw [e50, s13]
    omega
  · intro j k hj hk
    rw [e50] at hj
    rw [e41] at hk
    have hsj := h.2.1 j hj
    have hlj := h.lt hj
    by_cases e : j = 0
    · subst e
      rw [if_pos rfl] at hk
      obtain ⟨h1, h2, h3⟩ := h.2.2.2.1 0 (k + 1) hj (by omega)
      simp only [pr_off, Nat.mul_zero, Nat.zero_add] at h1 h2 h3 ⊢
      rw [e42, if_pos (by omega), s5, if_pos (by omega), e40, s6, if_neg, h3]
      · exact ⟨h1, h2, rfl⟩
      · have := hinj 0 (k + 1) (by omega) (by omega)
        omega
    · rw [if_neg e] at hk
      obtain ⟨h1, h2, h3⟩ := h.2.2.2.1 j k hj hk
      have h4 := hoff j
      rw [if_neg e] at h4
      rw [e42, if_neg (by omega), s5, if_pos (by omega), e40, s6, if_neg, h3]
      · refine ⟨?_, h2, rfl⟩
        rw [← h1]; congr 1; omega
      · have := hinj 0 (pr_off t j + k) (by omega) (by omega)
        omega
  · intro i hi
    rw [e50] at hi
    rw [e40, e57]; exact h.2.2.2.2.1 i hi
  · intro i i' hii hi
    rw [e50] at hi
    rw [e40, e40]; exact h.2.2.2.2.2.1 i i' hii hi
  · rw [s14, e57]; exact h.2.2.2.2.2.2.1
  · intro c hc h1
    rw [s6] at h1
    rw [s13]
    by_cases e : c = (s 5 0).toNat
    · rw [if_pos e] at h1; exact absurd rfl h1
    · rw [if_neg e] at h1
      obtain ⟨k, h2, h3⟩ := h.2.2.2.2.2.2.2.1 c hc h1
      have hk0 : k ≠ 0 := fun e2 => by subst e2; omega
      refine ⟨k - 1, by omega, ?_⟩
      rw [s5, if_pos (by omega), show k - 1 + 1 = k by omega]; exact h3
  · intro a b hab hb
    rw [s13] at hb
    rw [s5, s5, if_pos (by omega), if_pos (by omega)]
    exact hinj (a + 1) (b + 1) (by omega) (by omega)
  · have h1 := h.2.2.2.2.2.2.2.2.2
    rw [py_cnt_up (P := fun c => decide (s' 6 c ≠ 0)) (Q := fun c => decide (s 6 c ≠ 0)) (k := (s 5 0).toNat) (by omega) (by rw [s6, if_pos rfl]; rfl) (by simp; omega) (fun i hi hne => by rw [s6, if_neg hne])] at h1
    rw [s13]; omega
/-- the reference's first train goes -/
def pm_rt (t : py_Z) : py_Z := fun g i =>
  if g = 50 then (if i = 0 then t 50 0 - 1 else t 50 i) else if g = 40 ∨ g = 41 then (if (i : Int) < t 50 0 - 1 then t g (i + 1) else t g i)
  else if g = 42 then (if ((i / 40 : Nat) : Int) < t 50 0 - 1 then t 42 (i + 40) else t 42 i) else t g i
theorem pr_off_shift {t t' : py_Z} (h0 : t 41 0 = 0) : ∀ n : Nat, (∀ i : Nat, i < n → t' 41 i = t 41 (i + 1)) → pr_off t' n = pr_off t (n + 1)
  | 0, _ => by show 0 = 0 + (t 41 0).toNat; rw [h0]; rfl
  | n + 1, h => by
    show pr_off t' n + _ = pr_off t (n + 1) + _
    rw [pr_off_shift h0 n (fun i hi => h i (by omega)), h n (by omega)]
theorem pr_RV.rt {s t : py_Z} (h : pr_RV s t) (hn : 0 < t 50 0) (hs : t 41 0 = 0) : pr_RV s (pm_rt t) := by
  have h0 := h.1
  have e50 : pm_rt t 50 0 = t 50 0 - 1 := by simp [pm_rt]
  have e57 : pm_rt t 57 0 = t 57 0 := by simp [pm_rt]
  have e40 : ∀ i : Nat, (i : Int) < t 50 0 - 1 → pm_rt t 40 i = t 40 (i + 1) := fun i hi => by simp [pm_rt, hi]
  have e41 : ∀ i : Nat, (i : Int) < t 50 0 - 1 → pm_rt t 41 i = t 41 (i + 1) := fun i hi => by simp [pm_rt, hi]
  have e42 : ∀ j k : Nat, (j : Int) < t 50 0 - 1 → k < 40 → pm_rt t 42 (40 * j + k) = t 42 (40 * (j + 1) + k) := fun j k hj hk => by
    have e1 : (40 * j + k) / 40 = j := by omega
    have e2 : 40 * j + k + 40 = 40 * (j + 1) + k := by omega
    simp [pm_rt, e1, hj, e2]
  generalize pm_rt t = t' at *
  have hoff : ∀ i : Nat, (i : Int) ≤ t 50 0 - 1 → pr_off t' i = pr_off t (i + 1) := fun i hi => pr_off_shift hs i (fun k hk => e41 k (by omega))
  refine ⟨by omega, ?_, ?_, ?_, ?_, ?_, ?_, ?_, ?_, ?_⟩
  · intro i hi
    rw [e50] at hi
    rw [e41 i hi]
    exact h.2.1 (i + 1) (by omega)
  · rw [e50, hoff _ (by omega), show (t 50 0 - 1).toNat + 1 = (t 50 0).toNat by omega]
    exact h.2.2.1
  · intro j k hj hk
    rw [e50] at hj
    rw [e41 j hj] at hk
    have hsj := h.2.1 (j + 1) (by omega)
    rw [e42 j k hj (by omega), e40 j hj, hoff j (by omega)]
    exact h.2.2.2.1 (j + 1) k (by omega) hk
  · intro i hi
    rw [e50] at hi
    rw [e40 i hi, e57]; exact h.2.2.2.2.1 (i + 1) (by omega)
  · intro i i' hii hi
    rw [e50] at hi
    rw [e40 i (by omega), e40 i' hi]; exact h.2.2.2.2.2.1 (i + 1) (i' + 1) (by omega) (by omega)
  · rw [e57]; exact h.2.2.2.2.2.2.1
  · exact h.2.2.2.2.2.2.2.1
  · exact h.2.2.2.2.2.2.2.2.1
  · exact h.2.2.2.2.2.2.2.2.2
/-- only what lies in the trains counts -/
theorem pr_RV.congr {s t t' : py_Z} (h : pr_RV s t) (e50 : t' 50 0 = t 50 0) (e57 : t' 57 0 = t 57 0) (e40 : ∀ j : Nat, (j : Int) < t 50 0 → t' 40 j = t 40 j) (e41 : ∀ j : Nat, (j : Int) < t 50 0 → t' 41 j = t 41 j) (e42 : ∀ j k : Nat, (j : Int) < t 50 0 → (k : Int) < t 41 j → t' 42 (40 * j + k) = t 42 (40 * j + k)) : pr_RV s t' := by
  have h0 := h.1
  have hoff : ∀ i : Nat, (i : Int) ≤ t 50 0 → pr_off t' i = pr_off t i := fun i hi => pr_off_congr i (fun k hk => e41 k (by omega))
  refine ⟨by omega, ?_, ?_, ?_, ?_, ?_, ?_, h.2.2.2.2.2.2.2⟩
  · intro j hj; rw [e50] at hj; rw [e41 j hj]; exact h.2.1 j hj
  · rw [e50, hoff _ (by omega)]; exact h.2.2.1
  · intro j k hj hk
    rw [e50] at hj
    rw [e41 j hj] at hk
    rw [hoff j (by omega), e42 j k hj hk, e40 j hj]; exact h.2.2.2.1 j k hj hk
  · intro j hj; rw [e50] at hj; rw [e40 j hj, e57]; exact h.2.2.2.2.1 j hj
  · intro i j hij hj; rw [e50] at hj; rw [e40 i (by omega), e40 j hj]; exact h.2.2.2.2.2.1 i j hij hj
  · rw [e57]; exact h.2.2.2.2.2.2.1
/-- only three arrays and two numbers of the class count -/
theorem pr_RV.congrS {s s' t : py_Z} (h : pr_RV s t) (e5 : ∀ i, s' 5 i = s 5 i) (e6 : ∀ i, s' 6 i = s 6 i) (e13 : s' 13 0 = s 13 0) (e14 : s' 14 0 = s 14 0) : pr_RV s' t := by
  refine ⟨h.1, h.2.1, by rw [e13]; exact h.2.2.1, ?_, h.2.2.2.2.1, h.2.2.2.2.2.1, by rw [e14]; exact h.2.2.2.2.2.2.1, ?_, ?_, ?_⟩
  · intro j k hj hk; rw [e5, e6]; exact h.2.2.2.1 j k hj hk
  · intro c hc h1
    rw [e6] at h1
    obtain ⟨k, h2, h3⟩ := h.2.2.2.2.2.2.2.1 c hc h1
    exact ⟨k, by rw [e13]; exact h2, by rw [e5]; exact h3⟩
  · intro a b hab hb; rw [e13] at hb; rw [e5, e5]; exact h.2.2.2.2.2.2.2.2.1 a b hab hb
  · rw [e13, ← h.2.2.2.2.2.2.2.2.2, py_cnt_congr (fun k _ => by rw [e6])]
theorem pr_RW.congr {s t s' t' : py_Z} (h : pr_RW s t) (e5 : ∀ i, s' 5 i = s 5 i) (e6 : ∀ i, s' 6 i = s 6 i) (e13 : s' 13 0 = s 13 0) (e14 : s' 14 0 = s 14 0) (e50 : t' 50 0 = t 50 0) (e57 : t' 57 0 = t 57 0) (e40 : ∀ j : Nat, t' 40 j = t 40 j) (e41 : ∀ j : Nat, t' 41 j = t 41 j) (e42 : ∀ j, t' 42 j = t 42 j) : pr_RW s' t' := by
  refine ((h.rv.congrS e5 e6 e13 e14).congr e50 e57 (fun j _ => e40 j) (fun j _ => e41 j) (fun j k _ _ => e42 _)).rw (fun j hj => ?_)
  rw [e50] at hj; rw [e41]; exact (h.2.1 j hj).1
end
section
/-! PURE: the reference's small methods -/
section PMS
variable {t : py_Z} {K : ty_S → Int32 → Prop}
def pm_rts (t : py_Z) (a b : Nat) : py_Z := fun g x =>
  if g = 50 then (if x = 0 then t 50 0 - 1 else t 50 x) else if g = 40 ∨ g = 41 then (if x < a then t g (x + 1) else t g x)
  else if g = 42 then (if x < b then t 42 (x + 40) else t 42 x) else t g x
theorem pm_rts_0 {t : py_Z} : pm_rts t 0 0 = py_st t 50 0 (t 50 0 - 1) := by
  funext g x
  simp only [py_st, pm_rts]
  grind
theorem pm_rts_a {t : py_Z} {a b : Nat} : pm_rts t (a + 1) b = py_st (py_st (pm_rts t a b) 40 a (t 40 (a + 1))) 41 a (t 41 (a + 1)) := by
  funext g x
  simp only [py_st, pm_rts]
  grind
theorem pm_rts_b {t : py_Z} {a b : Nat} : pm_rts t a (b + 1) = py_st (pm_rts t a b) 42 b (t 42 (b + 40)) := by
  funext g x
  simp only [py_st, pm_rts]
  grind
theorem pm_rts_fin {t : py_Z} {n : Nat} (h : (n : Int) = t 50 0 - 1) : pm_rts t n (40 * n) = pm_rt t := by
  funext g x
  have e : ((x / 40 : Nat) : Int) < t 50 0 - 1 ↔ x < 40 * n := by omega
  have e2 : (x : Int) < t 50 0 - 1 ↔ x < n := by omega
  simp only [pm_rts, pm_rt, e, e2]
theorem pm_removeTrain {t : py_Z} {K : ty_S → Prop} (hn : 0 < t 50 0 ∧ t 50 0 ≤ 40) (hK : K (py_O (pm_rt t))) : eX5_removeTrain (py_O t) (py_o 0) K := by
  have hin : ∀ k : Nat, (k : Int) < t 50 0 - 1 → ∀ R : Int32 → ty_S → Prop, R (py_o (k + 1)) (py_O (pm_rts t (k + 1) (40 * (k + 1)))) → ∀ d i : Nat, i + d = 40 → ∃ n9, lX5_removeTrain_50 K R n9 (py_o k) (py_o i) (py_O (pm_rts t (k + 1) (40 * k + i))) := by
    intro k hk R hR d
    induction d with
    | zero =>
      intro i hi
      refine ⟨1, ?_⟩
      unfold lX5_removeTrain_50
      try simp only [py_O_ap, py_l0, py_l1, py_l2, py_l3, py_l4, py_l5, py_l6, py_l7, py_l8, py_l9, py_l12, py_l16, py_l32, py_l40, py_l100, py_l640, py_l1280, py_neg, py_add, py_sub, py_mul, py_stO]
      refine py_ile (fun _ => ?_) (fun c => absurd c (by omega))
      rw [show 40 * k + i = 40 * (k + 1) by omega]
      exact hR
    | succ d ih =>
      intro i hi
      obtain ⟨n, hn⟩ := ih (i + 1) (by omega)
      refine ⟨n + 1, ?_⟩
      unfold lX5_removeTrain_50
      try simp only [py_O_ap, py_l0, py_l1, py_l2, py_l3, py_l4, py_l5, py_l6, py_l7, py_l8, py_l9, py_l12, py_l16, py_l32, py_l40, py_l100, py_l640, py_l1280, py_neg, py_add, py_sub, py_mul, py_stO]
      refine py_ile (fun c => absurd c (by omega)) (fun _ => py_and (py_and ?_))
      rw [py_nat (by omega), py_nat (by omega)]
      have e1 : ((40 : Int) * k + i).toNat = 40 * k + i := by omega
      have e2 : ((40 : Int) * (k + 1) + i).toNat = 40 * k + i + 40 := by omega
      have e3 : pm_rts t (k + 1) (40 * k + i) 42 (40 * k + i + 40) = t 42 (40 * k + i + 40) := by
        simp [pm_rts]
        intro c; omega
      rw [e1, e2, e3]
      rw [show 40 * k + (i + 1) = 40 * k + i + 1 by omega, pm_rts_b] at hn
      exact hn
  have key : ∀ d k : Nat, (k : Int) + d = t 50 0 - 1 → ∃ n9, lX5_removeTrain_12 K n9 (py_o k) (py_O (pm_rts t k (40 * k))) := by
    intro d
    induction d with
    | zero =>
      intro k hk
      refine ⟨1, ?_⟩
      unfold lX5_removeTrain_12
      try simp only [py_O_ap, py_l0, py_l1, py_l2, py_l3, py_l4, py_l5, py_l6, py_l7, py_l8, py_l9, py_l12, py_l16, py_l32, py_l40, py_l100, py_l640, py_l1280, py_neg, py_add, py_sub, py_mul, py_stO]
      have e : pm_rts t k (40 * k) 50 0 = t 50 0 - 1 := by simp [pm_rts]
      rw [e]
      refine py_ile (fun _ => ?_) (fun c => absurd c (by omega))
      rw [pm_rts_fin (by omega)]
      exact hK
    | succ d ih =>
      intro k hk
      obtain ⟨n0, hn0⟩ := ih (k + 1) (by omega)
      obtain ⟨n, hn1⟩ := hin k (by omega) (fun a0 S9 => lX5_removeTrain_12 K n0 a0 S9) hn0 40 0 rfl
      refine ⟨n0 + 1, ?_⟩
      unfold lX5_removeTrain_12
      try simp only [py_O_ap, py_l0, py_l1, py_l2, py_l3, py_l4, py_l5, py_l6, py_l7, py_l8, py_l9, py_l12, py_l16, py_l32, py_l40, py_l100, py_l640, py_l1280, py_neg, py_add, py_sub, py_mul, py_stO]
      have e : pm_rts t k (40 * k) 50 0 = t 50 0 - 1 := by simp [pm_rts]
      rw [e]
      refine py_ile (fun c => absurd c (by omega)) (fun _ => py_and (py_and (py_and (py_and ?_))))
      have e1 : ((k : Int) + 1).toNat = k + 1 := by omega
      rw [py_nat (by omega), py_nat (by omega), e1]
      have e2 : pm_rts t k (40 * k) 40 (k + 1) = t 40 (k + 1) := by
        simp [pm_rts]
        intro c; omega
      have e3 : pm_rts t k (40 * k) 41 (k + 1) = t 41 (k + 1) := by
        simp [pm_rts]
        intro c; omega
      rw [e2, e3]
      simp only [Int.toNat_natCast]
      rw [← pm_rts_a]
      exact ⟨n, hn1⟩
  unfold eX5_removeTrain
  try simp only [py_O_ap, py_l0, py_l1, py_l2, py_l3, py_l4, py_l5, py_l6, py_l7, py_l8, py_l9, py_l12, py_l16, py_l32, py_l40, py_l100, py_l640, py_l1280, py_neg, py_add, py_sub, py_mul, py_stO]
  rw [← pm_rts_0]
  exact key (t 50 0 - 1).toNat 0 (by omega)
theorem pm_hasRoom {c : Nat} {n : Int} (hc : c < 40) (hu : 0 ≤ t 37 c ∧ t 37 c ≤ 32) (hn : -2147483648 ≤ n ∧ n < 2147483648) (h1 : n ≤ 32 - t 37 c → K (py_O t) (py_o 1)) (h0 : 32 - t 37 c < n → K (py_O t) (py_o 0)) : eX5_hasRoom (py_O t) (py_o c) (py_o n) K := by
  unfold eX5_hasRoom
  try simp only [py_O_ap, py_l0, py_l1, py_l2, py_l3, py_l4, py_l5, py_l6, py_l7, py_l8, py_l9, py_l12, py_l16, py_l32, py_l40, py_l100, py_l640, py_l1280, py_neg, py_add, py_sub, py_mul, py_stO]
  refine py_and ?_
  rw [py_nat (by omega)]
  simp only [Int.toNat_natCast]
  try simp only [py_O_ap, py_l0, py_l1, py_l2, py_l3, py_l4, py_l5, py_l6, py_l7, py_l8, py_l9, py_l12, py_l16, py_l32, py_l40, py_l100, py_l640, py_l1280, py_neg, py_add, py_sub, py_mul, py_stO]
  exact py_ilt h0 h1
theorem pm_wordsOf {x : Nat} (hx : x < 640) (hK : K (py_O t) (py_o (2 + t 33 x + t 34 x))) : eX5_wordsOf (py_O t) (py_o x) K := by
  unfold eX5_wordsOf
  try simp only [py_O_ap, py_l0, py_l1, py_l2, py_l3, py_l4, py_l5, py_l6, py_l7, py_l8, py_l9, py_l12, py_l16, py_l32, py_l40, py_l100, py_l640, py_l1280, py_neg, py_add, py_sub, py_mul, py_stO]
  refine py_and (py_and ?_)
  rw [py_nat (by omega)]
  simp only [Int.toNat_natCast]
  try simp only [py_O_ap, py_l0, py_l1, py_l2, py_l3, py_l4, py_l5, py_l6, py_l7, py_l8, py_l9, py_l12, py_l16, py_l32, py_l40, py_l100, py_l640, py_l1280, py_neg, py_add, py_sub, py_mul, py_stO]
  exact hK
/-- a thing lies in a car -/
def pm_lay (t : py_Z) (x c : Nat) : py_Z := fun g i =>
  if g = 31 then (if i = x then (c : Int) else t 31 i) else if g = 32 then (if i = x then t 37 c else t 32 i)
  else if g = 39 then (if i = 16 * c + (t 38 c).toNat then (x : Int) else t 39 i)
  else if g = 38 then (if i = c then t 38 c + 1 else t 38 i)
  else if g = 37 then (if i = c then t 37 c + (2 + t 33 x + t 34 x) else t 37 i) else t g i
theorem pm_layM {x c : Nat} {K : ty_S → Prop} (hx : x < 640) (hc : c < 40) (hk : 0 ≤ t 38 c ∧ t 38 c < 16) (hK : K (py_O (pm_lay t x c))) : eX5_lay (py_O t) (py_o x) (py_o c) K := by
  unfold eX5_lay
  try simp only [py_O_ap, py_l0, py_l1, py_l2, py_l3, py_l4, py_l5, py_l6, py_l7, py_l8, py_l9, py_l12, py_l16, py_l32, py_l40, py_l100, py_l640, py_l1280, py_neg, py_add, py_sub, py_mul, py_stO]
  refine py_and (py_and (py_and (py_and ?_)))
  rw [py_nat (by omega), py_nat (by omega)]
  simp only [Int.toNat_natCast]
  try simp only [py_O_ap, py_l0, py_l1, py_l2, py_l3, py_l4, py_l5, py_l6, py_l7, py_l8, py_l9, py_l12, py_l16, py_l32, py_l40, py_l100, py_l640, py_l1280, py_neg, py_add, py_sub, py_mul, py_stO]
  refine py_and (py_and (py_and (py_and ?_)))
  rw [py_nat (by omega)]
  refine pm_wordsOf hx (py_and ?_)
  try simp only [py_O_ap, py_l0, py_l1, py_l2, py_l3, py_l4, py_l5, py_l6, py_l7, py_l8, py_l9, py_l12, py_l16, py_l32, py_l40, py_l100, py_l640, py_l1280, py_neg, py_add, py_sub, py_mul, py_stO]
  have e : pm_lay t x c = py_st (py_st (py_st (py_st (py_st t 31 x c) 32 x (t 37 c)) 39 (16 * (c : Int) + t 38 c).toNat x) 38 c (t 38 c + 1)) 37 c (t 37 c + (2 + py_st (py_st (py_st (py_st t 31 x c) 32 x (t 37 c)) 39 (16 * (c : Int) + t 38 c).toNat x) 38 c (t 38 c + 1) 33 x + py_st (py_st (py_st (py_st t 31 x c) 32 x (t 37 c)) 39 (16 * (c : Int) + t 38 c).toNat x) 38 c (t 38 c + 1) 34 x)) := by
    have e1 : (16 * (c : Int) + t 38 c).toNat = 16 * c + (t 38 c).toNat := by omega
    rw [e1]
    funext g i
    simp only [pm_lay, py_st]
    grind
  rw [← e]
  exact hK
theorem pm_place {x : Nat} (hx : x < 640) (hK : K (py_O t) (py_o (32 * t 31 x + t 32 x))) : eX5_place (py_O t) (py_o x) K := by
  unfold eX5_place
  try simp only [py_O_ap, py_l0, py_l1, py_l2, py_l3, py_l4, py_l5, py_l6, py_l7, py_l8, py_l9, py_l12, py_l16, py_l32, py_l40, py_l100, py_l640, py_l1280, py_neg, py_add, py_sub, py_mul, py_stO]
  refine py_and (py_and ?_)
  rw [py_nat (by omega)]
  simp only [Int.toNat_natCast]
  try simp only [py_O_ap, py_l0, py_l1, py_l2, py_l3, py_l4, py_l5, py_l6, py_l7, py_l8, py_l9, py_l12, py_l16, py_l32, py_l40, py_l100, py_l640, py_l1280, py_neg, py_add, py_sub, py_mul, py_stO]
  exact hK
theorem pm_isInCar {y : Int} (ry : -1 ≤ y ∧ y < 640) (hl : ∀ x : Nat, x < 640 → 0 ≤ t 30 x ∧ t 30 x < 2147483648) (hh : ∀ x : Nat, x < 640 → 0 < t 30 x → -1 ≤ t 31 x ∧ t 31 x < 40) (he : -1 ≤ t 59 0 ∧ t 59 0 < 40) (h1 : 0 ≤ y → 0 < t 30 y.toNat → t 31 y.toNat = t 59 0 → K (py_O t) (py_o 1)) (h0 : ¬ (0 ≤ y ∧ 0 < t 30 y.toNat ∧ t 31 y.toNat = t 59 0) → K (py_O t) (py_o 0)) : eX5_isInCar (py_O t) (py_o y) K := by
  unfold eX5_isInCar
  try simp only [py_O_ap, py_l0, py_l1, py_l2, py_l3, py_l4, py_l5, py_l6, py_l7, py_l8, py_l9, py_l12, py_l16, py_l32, py_l40, py_l100, py_l640, py_l1280, py_neg, py_add, py_sub, py_mul, py_stO]
  refine py_ilt (fun c => h0 (by omega)) (fun c => py_and ?_)
  rw [py_nat (by omega)]
  have hl2 := hl y.toNat (by omega)
  refine py_ile (fun c2 => h0 (by omega)) (fun c2 => py_and ?_)
  have hh2 := hh y.toNat (by omega) (by omega)
  exact py_ieq (fun c3 => h1 (by omega) (by omega) c3) (fun c3 => h0 (fun e => c3 e.2.2))
/-- what is forgotten with a car -/
def pm_fgl (t : py_Z) (c : Nat) : Nat → Nat → Int
  | 0 => t 30
  | m + 1 => fun y => if y = (t 39 (16 * c + m)).toNat ∧ t 31 y = c then 0 else pm_fgl t c m y
def pm_fgn (t : py_Z) (c m : Nat) : Nat := py_cnt (fun k => decide (t 31 (t 39 (16 * c + k)).toNat = c)) m
def pm_fg (t : py_Z) (c : Nat) : py_Z := fun g i =>
  if g = 30 then pm_fgl t c (t 38 c).toNat i else if g = 37 ∨ g = 38 then (if i = c then 0 else t g i)
  else if g = 54 then (if i = 0 then t 54 0 + pm_fgn t c (t 38 c).toNat else t 54 i) else t g i
def pm_fgs (t : py_Z) (c m : Nat) : py_Z := fun g i => if g = 30 then pm_fgl t c m i else t g i
theorem pm_fgl_keep {c : Nat} : ∀ (m : Nat) {y : Nat}, (∀ k : Nat, k < m → (t 39 (16 * c + k)).toNat ≠ y) → pm_fgl t c m y = t 30 y
  | 0, _, _ => rfl
  | m + 1, y, h => by
    show (if y = (t 39 (16 * c + m)).toNat ∧ t 31 y = c then 0 else pm_fgl t c m y) = _
    rw [if_neg (fun e => h m (by omega) e.1.symm), pm_fgl_keep m (fun k hk => h k (by omega))]
theorem pm_fgl_gone {c : Nat} : ∀ (m : Nat) {y k : Nat}, k < m → (t 39 (16 * c + k)).toNat = y → t 31 y = c → pm_fgl t c m y = 0
  | m + 1, y, k, hk, h1, h2 => by
    show (if y = (t 39 (16 * c + m)).toNat ∧ t 31 y = c then 0 else pm_fgl t c m y) = _
    by_cases e : k = m
    · subst e; rw [if_pos ⟨h1.symm, h2⟩]
    · split
      · rfl
      · exact pm_fgl_gone m (by omega) h1 h2
theorem pm_fgl_other {c : Nat} : ∀ (m : Nat) {y : Nat}, t 31 y ≠ c → pm_fgl t c m y = t 30 y
  | 0, _, _ => rfl
  | m + 1, y, h => by
    show (if y = (t 39 (16 * c + m)).toNat ∧ t 31 y = c then 0 else pm_fgl t c m y) = _
    rw [if_neg (fun e => h e.2), pm_fgl_other m h]
theorem pm_forget {c : Nat} (hc : c < 40) (hk : 0 ≤ t 38 c ∧ t 38 c ≤ 16) (hx : ∀ k : Nat, (k : Int) < t 38 c → (0 ≤ t 39 (16 * c + k) ∧ t 39 (16 * c + k) < 640) ∧ (0 < t 30 (t 39 (16 * c + k)).toNat ∧ t 30 (t 39 (16 * c + k)).toNat < 2147483648) ∧ -2147483648 ≤ t 31 (t 39 (16 * c + k)).toNat ∧ t 31 (t 39 (16 * c + k)).toNat < 2147483648) (hinj : ∀ k m : Nat, k < m → (m : Int) < t 38 c → t 39 (16 * c + k) ≠ t 39 (16 * c + m)) (hK : K (py_O (pm_fg t c)) (py_o (pm_fgn t c (t 38 c).toNat))) : eX5_forget (py_O t) (py_o c) K := by
  have key : ∀ d m : Nat, (m : Int) + d = t 38 c → ∃ n9, lX5_forget_4 K n9 (py_o c) (py_o (pm_fgn t c m)) (py_o m) (py_O (pm_fgs t c m)) := by
    intro d
    induction d with
    | zero =>
      intro m hm
      refine ⟨1, ?_⟩
      unfold lX5_forget_4
      try simp only [py_O_ap, py_l0, py_l1, py_l2, py_l3, py_l4, py_l5, py_l6, py_l7, py_l8, py_l9, py_l12, py_l16, py_l32, py_l40, py_l100, py_l640, py_l1280, py_neg, py_add, py_sub, py_mul, py_stO]
      refine py_and ?_
      rw [py_nat (by omega)]
      simp only [Int.toNat_natCast]
      have e : pm_fgs t c m 38 c = t 38 c := by simp [pm_fgs]
      have e54 : pm_fgs t c m 54 0 = t 54 0 := by simp [pm_fgs]
      rw [e, e54]
      refine py_ile (fun _ => py_and (py_and ?_)) (fun c => absurd c (by omega))
      have e2 : pm_fg t c = py_st (py_st (py_st (pm_fgs t c m) 38 c 0) 37 c 0) 54 0 (t 54 0 + pm_fgn t c m) := by
        have e3 : (t 38 c).toNat = m := by omega
        funext g i
        simp only [pm_fg, pm_fgs, py_st, e3]
        grind
      rw [e2, show (t 38 c).toNat = m by omega] at hK
      exact hK
    | succ d ih =>
      intro m hm
      obtain ⟨n, hn⟩ := ih (m + 1) (by omega)
      obtain ⟨h1, h2, h3⟩ := hx m (by omega)
      have e : pm_fgs t c m 38 c = t 38 c := by simp [pm_fgs]
      have e39 : ∀ i, pm_fgs t c m 39 i = t 39 i := fun i => by simp [pm_fgs]
      have e31 : ∀ i, pm_fgs t c m 31 i = t 31 i := fun i => by simp [pm_fgs]
      have e30 : pm_fgs t c m 30 (t 39 (16 * c + m)).toNat = t 30 (t 39 (16 * c + m)).toNat := by
        show pm_fgl t c m _ = _
        refine pm_fgl_keep m (fun k hk => ?_)
        have h4 := hx k (by omega)
        have h5 := hinj k m hk (by omega)
        omega
      have e1 : ((16 : Int) * c + m).toNat = 16 * c + m := by omega
      have hcn : pm_fgn t c (m + 1) = pm_fgn t c m + (if decide (t 31 (t 39 (16 * c + m)).toNat = c) = true then 1 else 0) := rfl
      refine ⟨n + 1, ?_⟩
      unfold lX5_forget_4
      try simp only [py_O_ap, py_l0, py_l1, py_l2, py_l3, py_l4, py_l5, py_l6, py_l7, py_l8, py_l9, py_l12, py_l16, py_l32, py_l40, py_l100, py_l640, py_l1280, py_neg, py_add, py_sub, py_mul, py_stO]
      refine py_and ?_
      rw [py_nat (by omega)]
      simp only [Int.toNat_natCast]
      rw [e]
      refine py_ile (fun c => absurd c (by omega)) (fun _ => py_and ?_)
      rw [py_nat (by omega), e1, e39]
      refine py_and ?_
      rw [py_nat (by omega), e30]
      refine py_ile (fun c => absurd c (by omega)) (fun _ => py_and ?_)
      rw [e31]
      by_cases e5 : t 31 (t 39 (16 * c + m)).toNat = c
      · refine py_ieq (fun _ => py_and ?_) (fun c => absurd e5 c)
        rw [hcn, if_pos (by simpa using e5)] at hn
        have e6 : pm_fgs t c (m + 1) = py_st (pm_fgs t c m) 30 (t 39 (16 * c + m)).toNat 0 := by
          funext g i
          simp only [pm_fgs, py_st, pm_fgl]
          grind
        rw [e6] at hn
        exact hn
      · refine py_ieq (fun c => absurd c e5) (fun _ => ?_)
        rw [hcn, if_neg (by simpa using e5)] at hn
        have e6 : pm_fgs t c (m + 1) = pm_fgs t c m := by
          funext g i
          simp only [pm_fgs, pm_fgl]
          grind
        rw [e6] at hn
        exact hn
  unfold eX5_forget
  rw [py_l0]
  have e : pm_fgs t c 0 = t := by
    funext g i
    simp only [pm_fgs, pm_fgl]
    grind
  have := key (t 38 c).toNat 0 (by omega)
  rw [e] at this
  exact this
end PMS
end
section
/-! PURE: the car that a thing is put to -/
theorem py_greatest {P : Nat → Prop} (hd : ∀ k, P k ∨ ¬ P k) : ∀ {n k : Nat}, k < n → P k → ∃ m, m < n ∧ P m ∧ ∀ j, m < j → j < n → ¬ P j
  | 0, k, h, _ => absurd h (by omega)
  | n + 1, k, h, hP => by
    rcases hd n with e | e
    · exact ⟨n, by omega, e, fun j h1 h2 => absurd h1 (by omega)⟩
    · by_cases e2 : k = n
      · subst e2; exact absurd hP e
      · obtain ⟨m, h1, h2, h3⟩ := py_greatest hd (n := n) (k := k) (by omega) hP
        refine ⟨m, by omega, h2, fun j h4 h5 => ?_⟩
        by_cases e3 : j = n
        · rw [e3]; exact e
        · exact h3 j h4 (by omega)
theorem pr_roomInStep {s : py_Z} {a : Int} {K : ty_S → Int32 → Prop} (ra : 0 ≤ a ∧ a < 40) (re : -1 ≤ s 20 0 ∧ s 20 0 < 40) (h1 : a = s 20 0 → K (py_O s) (py_o 0)) (h0 : a ≠ s 20 0 → K (py_O s) (py_o (32 - s 2 a.toNat))) : eX3_roomInStep (py_O s) (py_o a) K := by
  unfold eX3_roomInStep
  try simp only [py_O_ap, py_l0, py_l1, py_l2, py_l3, py_l4, py_l5, py_l6, py_l7, py_l8, py_l9, py_l12, py_l16, py_l32, py_l40, py_l100, py_l640, py_l1280, py_neg, py_add, py_sub, py_mul, py_stO]
  exact py_ieq h1 (fun c => pr_room (fun _ _ => h0 c) (fun c => absurd c (by omega)))
theorem pp_least {s t : py_Z} (h : pr_RW s t) (hN : s 13 0 < 40) : ∃ c : Nat, c < 40 ∧ s 6 c = 0 ∧ ∀ d : Nat, d < c → s 6 d ≠ 0 := by
  obtain ⟨c, h1, h2⟩ := h.free hN
  obtain ⟨k, h3, h4, h5⟩ := py_least (P := fun c => s 6 c = 0) (fun k => Classical.em _) h2
  exact ⟨k, by omega, h4, h5⟩
theorem pp_scanC {s t : py_Z} (h : pr_RW s t) {e n : Int} (hes : s 20 0 = e) (he : -1 ≤ e ∧ e < 40) (hn : 1 ≤ n ∧ n ≤ 32) (hfil : ∀ c : Nat, c < 40 → s 2 c = t 37 c ∧ 0 ≤ t 37 c ∧ t 37 c ≤ 32) {m : Nat} (hm : (m : Int) < s 13 0) (hP : s 5 m ≠ e ∧ t 37 (s 5 m).toNat + n ≤ 32) (hl : ∀ k : Nat, m < k → (k : Int) < s 13 0 → ¬ (s 5 k ≠ e ∧ t 37 (s 5 k).toNat + n ≤ 32)) {K : ty_S → Int32 → Prop} (hK : K (py_O s) (py_o (s 5 m))) : ∃ n9, lX3_carInto_50 K n9 (py_o n) (py_o (s 13 0 - 1)) (py_O s) := by
  have hc0 := h.cnt
  have key : ∀ d k : Nat, m + d = k → (k : Int) < s 13 0 → ∃ n9, lX3_carInto_50 K n9 (py_o n) (py_o k) (py_O s) := by
    intro d
    induction d with
    | zero =>
      intro k hk hk2
      have e1 : k = m := by omega
      subst e1
      have hb := (h.car hk2).1
      have hf := hfil (s 5 k).toNat (by omega)
      refine ⟨1, ?_⟩
      unfold lX3_carInto_50
      try simp only [py_O_ap, py_l0, py_l1, py_l2, py_l3, py_l4, py_l5, py_l6, py_l7, py_l8, py_l9, py_l12, py_l16, py_l32, py_l40, py_l100, py_l640, py_l1280, py_neg, py_add, py_sub, py_mul, py_stO]
      refine py_ilt (fun c => absurd c (by omega)) (fun _ => ?_)
      refine pr_carAt hc0 (fun _ _ => ?_) (fun c => absurd c (by omega))
      simp only [Int.toNat_natCast]
      refine pr_roomInStep hb (by omega) (fun c => absurd c (by omega)) (fun _ => ?_)
      refine py_ilt (fun c => absurd c (by omega)) (fun _ => ?_)
      refine pr_carAt hc0 (fun _ _ => ?_) (fun c => absurd c (by omega))
      simp only [Int.toNat_natCast]
      exact hK
    | succ d ih =>
      intro k hk hk2
      have hb := (h.car hk2).1
      have hf := hfil (s 5 k).toNat (by omega)
      have hk3 := hl k (by omega) hk2
      obtain ⟨n9, hn9⟩ := ih (k - 1) (by omega) (by omega)
      have e4 : ((k - 1 : Nat) : Int) = (k : Int) + -1 := by omega
      rw [e4] at hn9
      refine ⟨n9 + 1, ?_⟩
      unfold lX3_carInto_50
      try simp only [py_O_ap, py_l0, py_l1, py_l2, py_l3, py_l4, py_l5, py_l6, py_l7, py_l8, py_l9, py_l12, py_l16, py_l32, py_l40, py_l100, py_l640, py_l1280, py_neg, py_add, py_sub, py_mul, py_stO]
      refine py_ilt (fun c => absurd c (by omega)) (fun _ => ?_)
      refine pr_carAt hc0 (fun _ _ => ?_) (fun c => absurd c (by omega))
      simp only [Int.toNat_natCast]
      refine pr_roomInStep hb (by omega) (fun c => ?_) (fun c => ?_)
      · exact py_ilt (fun _ => hn9) (fun c => absurd c (by omega))
      · exact py_ilt (fun _ => hn9) (fun c2 => absurd (⟨by omega, by omega⟩ : s 5 k ≠ e ∧ t 37 (s 5 k).toNat + n ≤ 32) hk3)
  have := key ((s 13 0 - 1).toNat - m) (s 13 0 - 1).toNat (by omega) (by omega)
  have e : (((s 13 0 - 1).toNat : Nat) : Int) = s 13 0 - 1 := by omega
  rw [e] at this
  exact this
theorem pp_scanM {s t : py_Z} (h : pr_RW s t) {e n : Int} (het : t 59 0 = e) (he : -1 ≤ e ∧ e < 40) (hn : 1 ≤ n ∧ n ≤ 32) (hfil : ∀ c : Nat, c < 40 → s 2 c = t 37 c ∧ 0 ≤ t 37 c ∧ t 37 c ≤ 32) {m : Nat} (hm : (m : Int) < s 13 0) (hP : s 5 m ≠ e ∧ t 37 (s 5 m).toNat + n ≤ 32) (hl : ∀ k : Nat, m < k → (k : Int) < s 13 0 → ¬ (s 5 k ≠ e ∧ t 37 (s 5 k).toNat + n ≤ 32)) {K : ty_S → Int32 → Prop} (hK : K (py_O t) (py_o (s 5 m))) : ∃ n9, lX5_carFor_52 K n9 (py_o n) (py_o (-1)) (py_o 0) (py_O t) := by
  have hc0 := h.cnt
  have h0 := h.1
  have hin : ∀ j : Nat, (j : Int) < t 50 0 → ∀ R : Int32 → Int32 → Int32 → ty_S → Prop, (∀ f : Int, (m < pr_off t (j + 1) → f = s 5 m) → (-1 ≤ f ∧ f < 40) → R (py_o n) (py_o f) (py_o (j + 1)) (py_O t)) → ∀ d i : Nat, (i : Int) + d = t 41 j → ∀ f : Int, (m < pr_off t j + i → f = s 5 m) → (-1 ≤ f ∧ f < 40) → ∃ n9, lX5_carFor_64 K R n9 (py_o n) (py_o f) (py_o j) (py_o i) (py_O t) := by
    intro j hj R hR d
    have hsz := h.2.1 j hj
    induction d with
    | zero =>
      intro i hi f hf hfb
      refine ⟨1, ?_⟩
      unfold lX5_carFor_64
      try simp only [py_O_ap, py_l0, py_l1, py_l2, py_l3, py_l4, py_l5, py_l6, py_l7, py_l8, py_l9, py_l12, py_l16, py_l32, py_l40, py_l100, py_l640, py_l1280, py_neg, py_add, py_sub, py_mul, py_stO]
      refine py_and ?_
      rw [py_nat (by omega)]
      simp only [Int.toNat_natCast]
      refine py_ile (fun _ => hR f (fun c => hf ?_) hfb) (fun c => absurd c (by omega))
      have h9 : pr_off t (j + 1) = pr_off t j + (t 41 j).toNat := rfl
      omega
    | succ d ih =>
      intro i hi f hf hfb
      obtain ⟨h1, h2, h3⟩ := h.2.2.2.1 j i hj (by omega)
      have hlt := h.lt hj (k := i) (by omega)
      have e1 : ((40 : Int) * j + i).toNat = 40 * j + i := by omega
      have hfi := hfil (t 42 (40 * j + i)).toNat (by omega)
      have hskip : ¬ (t 42 (40 * j + i) ≠ e ∧ t 37 (t 42 (40 * j + i)).toNat + n ≤ 32) → ∃ n9, lX5_carFor_64 K R n9 (py_o n) (py_o f) (py_o j) (py_o (i + 1)) (py_O t) := fun hno => ih (i + 1) (by omega) f (fun c => by
        rcases Nat.lt_or_eq_of_le (show m ≤ pr_off t j + i by omega) with e2 | e2
        · exact hf e2
        · rw [e2, h1] at hP; exact absurd hP hno) hfb
      have htake : t 42 (40 * j + i) ≠ e ∧ t 37 (t 42 (40 * j + i)).toNat + n ≤ 32 → ∃ n9, lX5_carFor_64 K R n9 (py_o n) (py_o (t 42 (40 * j + i))) (py_o j) (py_o (i + 1)) (py_O t) := fun hyes => ih (i + 1) (by omega) _ (fun c => by
        rcases Nat.lt_or_eq_of_le (show m ≤ pr_off t j + i by omega) with e2 | e2
        · have := hl (pr_off t j + i) e2 hlt
          rw [h1] at this
          exact absurd hyes this
        · rw [e2, h1]) (by omega)
      by_cases c1 : t 42 (40 * j + i) = e
      · obtain ⟨n9, hn9⟩ := hskip (fun c => c.1 c1)
        refine ⟨n9 + 1, ?_⟩
        unfold lX5_carFor_64
        try simp only [py_O_ap, py_l0, py_l1, py_l2, py_l3, py_l4, py_l5, py_l6, py_l7, py_l8, py_l9, py_l12, py_l16, py_l32, py_l40, py_l100, py_l640, py_l1280, py_neg, py_add, py_sub, py_mul, py_stO]
        refine py_and ?_
        rw [py_nat (by omega), py_nat (by omega), e1]
        simp only [Int.toNat_natCast]
        refine py_ile (fun c => absurd c (by omega)) (fun _ => py_and ?_)
        exact py_ieq (fun _ => hn9) (fun c => absurd c1 (by omega))
      · have e2 : t 42 (40 * j + i) = ((t 42 (40 * j + i)).toNat : Nat) := by omega
        by_cases c2 : t 37 (t 42 (40 * j + i)).toNat + n ≤ 32
        · obtain ⟨n9, hn9⟩ := htake ⟨c1, c2⟩
          refine ⟨n9 + 1, ?_⟩
          unfold lX5_carFor_64
          try simp only [py_O_ap, py_l0, py_l1, py_l2, py_l3, py_l4, py_l5, py_l6, py_l7, py_l8, py_l9, py_l12, py_l16, py_l32, py_l40, py_l100, py_l640, py_l1280, py_neg, py_add, py_sub, py_mul, py_stO]
          refine py_and ?_
          rw [py_nat (by omega), py_nat (by omega), e1]
          simp only [Int.toNat_natCast]
          refine py_ile (fun c => absurd c (by omega)) (fun _ => py_and ?_)
          refine py_ieq (fun c => absurd c (by omega)) (fun _ => ?_)
          rw [e2] at hn9 ⊢
          refine pm_hasRoom (by omega) hfi.2 (by omega) (fun _ => ?_) (fun c => absurd c (by omega))
          exact py_ieq (fun c => absurd c (by omega)) (fun _ => hn9)
        · obtain ⟨n9, hn9⟩ := hskip (fun c => c2 c.2)
          refine ⟨n9 + 1, ?_⟩
          unfold lX5_carFor_64
          try simp only [py_O_ap, py_l0, py_l1, py_l2, py_l3, py_l4, py_l5, py_l6, py_l7, py_l8, py_l9, py_l12, py_l16, py_l32, py_l40, py_l100, py_l640, py_l1280, py_neg, py_add, py_sub, py_mul, py_stO]
          refine py_and ?_
          rw [py_nat (by omega), py_nat (by omega), e1]
          simp only [Int.toNat_natCast]
          refine py_ile (fun c => absurd c (by omega)) (fun _ => py_and ?_)
          refine py_ieq (fun c => absurd c (by omega)) (fun _ => ?_)
          rw [e2]
          refine pm_hasRoom (by omega) hfi.2 (by omega) (fun c => absurd c (by omega)) (fun _ => ?_)
          exact py_ieq (fun _ => hn9) (fun c => absurd rfl c)
  have key : ∀ d j : Nat, (j : Int) + d = t 50 0 → ∀ f : Int, (m < pr_off t j → f = s 5 m) → (-1 ≤ f ∧ f < 40) → lX5_carFor_52 K (d + 1) (py_o n) (py_o f) (py_o j) (py_O t) := by
    intro d
    induction d with
    | zero =>
      intro j hj f hf hfb
      unfold lX5_carFor_52
      try simp only [py_O_ap, py_l0, py_l1, py_l2, py_l3, py_l4, py_l5, py_l6, py_l7, py_l8, py_l9, py_l12, py_l16, py_l32, py_l40, py_l100, py_l640, py_l1280, py_neg, py_add, py_sub, py_mul, py_stO]
      refine py_ile (fun _ => ?_) (fun c => absurd c (by omega))
      have e1 := h.2.2.1
      rw [show (t 50 0).toNat = j by omega] at e1
      rw [hf (by omega)]
      exact hK
    | succ d ih =>
      intro j hj f hf hfb
      obtain ⟨n9, hn9⟩ := hin j (by omega) (fun a0 a1 a2 S9 => lX5_carFor_52 K (d + 1) a0 a1 a2 S9) (fun f hf hfb => ih (j + 1) (by omega) f hf hfb) (t 41 j).toNat 0 (by have := h.2.1 j (by omega); omega) f (fun c => hf (by omega)) hfb
      unfold lX5_carFor_52
      try simp only [py_O_ap, py_l0, py_l1, py_l2, py_l3, py_l4, py_l5, py_l6, py_l7, py_l8, py_l9, py_l12, py_l16, py_l32, py_l40, py_l100, py_l640, py_l1280, py_neg, py_add, py_sub, py_mul, py_stO]
      exact py_ile (fun c => absurd c (by omega)) (fun _ => ⟨n9, hn9⟩)
  try simp only [py_O_ap, py_l0, py_l1, py_l2, py_l3, py_l4, py_l5, py_l6, py_l7, py_l8, py_l9, py_l12, py_l16, py_l32, py_l40, py_l100, py_l640, py_l1280, py_neg, py_add, py_sub, py_mul, py_stO]
  exact ⟨_, key (t 50 0).toNat 0 (by omega) (-1) (fun c => absurd c (by simp [pr_off])) (by omega)⟩
/-- both put it to the same car -/
theorem pp_put {s t : py_Z} (h : pr_RW s t) {j : Nat} (hj : (j : Int) < t 50 0) {e n : Int} (hes : s 20 0 = e) (het : t 59 0 = e) (he : -1 ≤ e ∧ e < 40) (hse : 0 ≤ e → s 6 e.toNat ≠ 0) (hn : 1 ≤ n ∧ n ≤ 32) (hfil : ∀ c : Nat, c < 40 → s 2 c = t 37 c ∧ 0 ≤ t 37 c ∧ t 37 c ≤ 32) (hfree0 : ∀ c : Nat, c < 40 → s 6 c = 0 → t 37 c = 0 ∧ t 38 c = 0) (hroom : s 13 0 < 40 ∨ ∃ f : Nat, f < 40 ∧ s 6 f ≠ 0 ∧ (f : Int) ≠ e ∧ t 37 f + n ≤ 32) :
    ∃ (c : Nat) (s' t' : py_Z), c < 40 ∧ (c : Int) ≠ e ∧ t 37 c + n ≤ 32 ∧
      (∀ K : ty_S → Int32 → Prop, K (py_O s') (py_o c) → eX3_carInto (py_O s) (py_o (t 40 j)) (py_o n) K) ∧
      (∀ K : ty_S → Int32 → Prop, K (py_O t') (py_o c) → eX5_carFor (py_O t) (py_o j) (py_o n) K) ∧
      pr_RW s' t' ∧ (∀ g i, g ≠ 5 → g ≠ 6 → g ≠ 13 → s' g i = s g i) ∧ (∀ g i, g ≠ 41 → g ≠ 42 → t' g i = t g i) ∧
      s' 6 c ≠ 0 ∧ (∀ c' : Nat, s 6 c' ≠ 0 → s' 6 c' = s 6 c') ∧ (s 13 0 < 40 → s' 13 0 < 40 ∨ t 37 c = 0) ∧ (s' 5 0 = s 5 0 ∧ t' 42 0 = t 42 0 ∧ t 41 0 ≤ t' 41 0) := by
  have h0 := h.1
  have hc0 := h.cnt
  have hsz := h.2.1 j hj
  have hl := h.end_le hj
  obtain ⟨l1, l2, l3⟩ := h.2.2.2.1 j ((t 41 j).toNat - 1) hj (by omega)
  have hn40 := h.2.2.2.2.1 j hj
  have hm57 := h.2.2.2.2.2.2.1
  generalize hlc : t 42 (40 * j + ((t 41 j).toNat - 1)) = lc at l1 l2 l3
  have hfl := hfil lc.toNat (by omega)
  have elc : lc = (lc.toNat : Nat) := by omega
  by_cases hA : lc ≠ e ∧ t 37 lc.toNat + n ≤ 32
  · refine ⟨lc.toNat, s, t, by omega, by omega, hA.2, fun K hK => ?_, fun K hK => ?_, h, fun g i _ _ _ => rfl, fun g i _ _ => rfl, by omega, fun c' _ => rfl, fun c => Or.inl c, rfl, rfl, Int.le_refl _⟩
    · unfold eX3_carInto
      try simp only [py_O_ap, py_l0, py_l1, py_l2, py_l3, py_l4, py_l5, py_l6, py_l7, py_l8, py_l9, py_l12, py_l16, py_l32, py_l40, py_l100, py_l640, py_l1280, py_neg, py_add, py_sub, py_mul, py_stO]
      refine pr_lastCarOf h hj ?_
      rw [hlc]
      refine pr_roomInStep l2 (by omega) (fun c => absurd c (by omega)) (fun _ => ?_)
      refine py_ilt (fun c => absurd c (by omega)) (fun _ => ?_)
      rw [elc]; exact hK
    · unfold eX5_carFor
      try simp only [py_O_ap, py_l0, py_l1, py_l2, py_l3, py_l4, py_l5, py_l6, py_l7, py_l8, py_l9, py_l12, py_l16, py_l32, py_l40, py_l100, py_l640, py_l1280, py_neg, py_add, py_sub, py_mul, py_stO]
      refine pm_lastCar h hj ?_
      rw [hlc]
      try simp only [py_O_ap, py_l0, py_l1, py_l2, py_l3, py_l4, py_l5, py_l6, py_l7, py_l8, py_l9, py_l12, py_l16, py_l32, py_l40, py_l100, py_l640, py_l1280, py_neg, py_add, py_sub, py_mul, py_stO]
      refine py_ieq (fun c => absurd c (by omega)) (fun _ => ?_)
      rw [elc]
      refine pm_hasRoom (by omega) hfl.2 (by omega) (fun _ => ?_) (fun c => absurd c (by omega))
      exact py_ieq (fun c => absurd c (by omega)) (fun _ => hK)
  · have hcls : ∀ K : ty_S → Int32 → Prop, eX1_countFree (py_O s) (fun S3 r3 => if r3 ≤ py_o 0 then ∃ n9, lX3_carInto_50 K n9 (py_o n) (S3 13 0 - py_o 1) S3 else eX1_addCar S3 (py_o (t 40 j)) fun S7 r7 => K S7 r7) → eX3_carInto (py_O s) (py_o (t 40 j)) (py_o n) K := fun K hK => by
      unfold eX3_carInto
      try simp only [py_O_ap, py_l0, py_l1, py_l2, py_l3, py_l4, py_l5, py_l6, py_l7, py_l8, py_l9, py_l12, py_l16, py_l32, py_l40, py_l100, py_l640, py_l1280, py_neg, py_add, py_sub, py_mul, py_stO]
      refine pr_lastCarOf h hj ?_
      rw [hlc]
      refine pr_roomInStep l2 (by omega) (fun c => ?_) (fun c => ?_)
      · exact py_ilt (fun _ => hK) (fun c => absurd c (by omega))
      · exact py_ilt (fun _ => hK) (fun c2 => absurd (⟨by omega, by omega⟩ : lc ≠ e ∧ t 37 lc.toNat + n ≤ 32) hA)
    have hmod : ∀ K : ty_S → Int32 → Prop, jX5_carFor_25 K (py_o j) (py_o n) (py_O t) → eX5_carFor (py_O t) (py_o j) (py_o n) K := fun K hK => by
      unfold eX5_carFor
      try simp only [py_O_ap, py_l0, py_l1, py_l2, py_l3, py_l4, py_l5, py_l6, py_l7, py_l8, py_l9, py_l12, py_l16, py_l32, py_l40, py_l100, py_l640, py_l1280, py_neg, py_add, py_sub, py_mul, py_stO]
      refine pm_lastCar h hj ?_
      rw [hlc]
      try simp only [py_O_ap, py_l0, py_l1, py_l2, py_l3, py_l4, py_l5, py_l6, py_l7, py_l8, py_l9, py_l12, py_l16, py_l32, py_l40, py_l100, py_l640, py_l1280, py_neg, py_add, py_sub, py_mul, py_stO]
      refine py_ieq (fun _ => hK) (fun c => ?_)
      rw [elc]
      refine pm_hasRoom (by omega) hfl.2 (by omega) (fun c2 => absurd (⟨by omega, by omega⟩ : lc ≠ e ∧ t 37 lc.toNat + n ≤ 32) hA) (fun _ => ?_)
      exact py_ieq (fun _ => hK) (fun c => absurd rfl c)
    by_cases hN : s 13 0 < 40
    · obtain ⟨c, hc, hf, hlst⟩ := pp_least h hN
      have hce : (c : Int) ≠ e := fun c2 => hse (by omega) (by rw [← c2]; simpa using hf)
      obtain ⟨z1, z2⟩ := hfree0 c hc hf
      have hpos0 : pr_off t j + (t 41 j).toNat ≠ 0 := by omega
      have h41 := h.2.1 0 (by omega)
      refine ⟨c, pr_ins s (pr_off t j + (t 41 j).toNat) c (t 40 j), pm_cpl t j c, hc, hce, by omega, fun K hK => hcls K ?_, fun K hK => hmod K ?_, h.add hN hj hc hf, fun g i h5 h6 h13 => ?_, fun g i h41 h42 => ?_, ?_, fun c' hc' => ?_, fun _ => Or.inr z1, ?_, ?_, ?_⟩
      · refine pr_countFree ?_
        refine py_ile (fun c => absurd c (by omega)) (fun _ => ?_)
        exact pr_addCar_in h hN hj hc hf hlst hK
      · unfold jX5_carFor_25
        try simp only [py_O_ap, py_l0, py_l1, py_l2, py_l3, py_l4, py_l5, py_l6, py_l7, py_l8, py_l9, py_l12, py_l16, py_l32, py_l40, py_l100, py_l640, py_l1280, py_neg, py_add, py_sub, py_mul, py_stO]
        refine pm_freeCar h (fun c' hc' h1 h2 => ?_) (fun h1 => absurd hf (h1 c hc))
        have e : c' = c := by
          rcases Nat.lt_trichotomy c' c with e | e | e
          · exact absurd h1 (hlst c' e)
          · exact e
          · exact absurd hf (h2 c e)
        subst e
        refine py_ilt (fun c => absurd c (by omega)) (fun _ => ?_)
        exact pm_couple (by omega) (by omega) hc hK
      · simp [pr_ins, h5, h6, h13]
      · simp only [pm_cpl, h41, h42, if_false]
        by_cases e3 : g = 37 ∨ g = 38
        · rw [if_pos e3]
          by_cases e4 : i = c
          · rw [if_pos e4, e4]
            rcases e3 with e3 | e3 <;> rw [e3] <;> omega
          · rw [if_neg e4]
        · rw [if_neg e3]
      · simp [pr_ins]; omega
      · have : c' ≠ c := fun e => hc' (by rw [e]; exact hf)
        simp [pr_ins, this]
      · have : 0 < pr_off t j + (t 41 j).toNat := by omega
        simp [pr_ins, this]
      · have : 0 ≠ 40 * j + (t 41 j).toNat := by omega
        simp [pm_cpl, this]
      · simp only [pm_cpl]
        by_cases e3 : 0 = j
        · simp [← e3]; omega
        · simp [e3]
    · rcases hroom with hr | ⟨f, hf1, hf2, hf3, hf4⟩
      · exact absurd hr hN
      · obtain ⟨k, hk1, hk2⟩ := h.2.2.2.2.2.2.2.1 f hf1 hf2
        obtain ⟨m, hm1, hm2, hm3⟩ := py_greatest (P := fun k => s 5 k ≠ e ∧ t 37 (s 5 k).toNat + n ≤ 32) (fun k => Classical.em _) (n := (s 13 0).toNat) (k := k) (by omega) ⟨by omega, by rw [hk2]; simpa using hf4⟩
        have hcm := h.car (i := m) (by omega)
        have em : s 5 m = ((s 5 m).toNat : Nat) := by omega
        refine ⟨(s 5 m).toNat, s, t, by omega, by omega, hm2.2, fun K hK => hcls K ?_, fun K hK => hmod K ?_, h, fun g i _ _ _ => rfl, fun g i _ _ => rfl, ?_, fun c' _ => rfl, fun c => Or.inl c, rfl, rfl, Int.le_refl _⟩
        · refine pr_countFree ?_
          refine py_ile (fun _ => ?_) (fun c => absurd c (by omega))
          try simp only [py_O_ap, py_l0, py_l1, py_l2, py_l3, py_l4, py_l5, py_l6, py_l7, py_l8, py_l9, py_l12, py_l16, py_l32, py_l40, py_l100, py_l640, py_l1280, py_neg, py_add, py_sub, py_mul, py_stO]
          exact pp_scanC h hes he hn hfil (by omega) hm2 (fun k h1 h2 => hm3 k h1 (by omega)) (by rw [em]; exact hK)
        · unfold jX5_carFor_25
          try simp only [py_O_ap, py_l0, py_l1, py_l2, py_l3, py_l4, py_l5, py_l6, py_l7, py_l8, py_l9, py_l12, py_l16, py_l32, py_l40, py_l100, py_l640, py_l1280, py_neg, py_add, py_sub, py_mul, py_stO]
          refine pm_freeCar h (fun c' hc' h1 h2 => absurd h1 (h.nofree (by omega) c' hc')) (fun _ => ?_)
          refine py_ilt (fun _ => ?_) (fun c => absurd c (by omega))
          exact pp_scanM h het he hn hfil (by omega) hm2 (fun k h1 h2 => hm3 k h1 (by omega)) (by rw [em]; exact hK)
        · obtain ⟨-, j', k', hj', hk', h2, h3, h4, h5, h6⟩ := hcm
          omega
end
section
/-! PURE: what lies in the cars, on both sides -/
def ph_x (t : py_Z) (c k : Nat) : Nat := (t 39 (16 * c + k)).toNat
def ph_sz (t : py_Z) (x : Nat) : Nat := 2 + (t 33 x).toNat + (t 34 x).toNat
def ph_pos (t : py_Z) (c : Nat) : Nat → Nat
  | 0 => 0
  | k + 1 => ph_pos t c k + ph_sz t (ph_x t c k)
/-- the same words in a car -/
def ph_W (s t : py_Z) (E : Int → Int) (c k : Nat) : Prop :=
  (0 ≤ t 39 (16 * c + k) ∧ t 39 (16 * c + k) < 640) ∧ (0 ≤ t 33 (ph_x t c k) ∧ t 33 (ph_x t c k) ≤ 12) ∧ (0 ≤ t 34 (ph_x t c k) ∧ t 34 (ph_x t c k) ≤ 12) ∧
  s 0 (32 * c + ph_pos t c k) = t 30 (ph_x t c k) ∧ s 0 (32 * c + ph_pos t c k + 1) = t 33 (ph_x t c k) + 16 * t 34 (ph_x t c k) ∧
  (∀ i : Nat, (i : Int) < t 33 (ph_x t c k) → s 0 (32 * c + ph_pos t c k + 2 + i) = E (t 35 (12 * ph_x t c k + i)) ∧ s 1 (32 * c + ph_pos t c k + 2 + i) = 1) ∧
  (∀ i : Nat, (i : Int) < t 34 (ph_x t c k) → s 0 (32 * c + ph_pos t c k + 2 + (t 33 (ph_x t c k)).toNat + i) = t 36 (12 * ph_x t c k + i))
/-- the amounts of a car -/
def ph_C (s t : py_Z) (c : Nat) : Prop :=
  s 3 c = t 38 c ∧ s 2 c = t 37 c ∧ (0 ≤ t 38 c ∧ t 38 c ≤ 16) ∧ t 37 c = ph_pos t c (t 38 c).toNat ∧ t 37 c ≤ 32 ∧ (s 6 c = 0 → t 38 c = 0) ∧
  (0 < t 38 c → s 4 c = 32 * c + ph_pos t c ((t 38 c).toNat - 1)) ∧ (∀ w : Nat, w < 32 → t 37 c ≤ (w : Int) → s 0 (32 * c + w) = 0)
def ph_TH (s t : py_Z) (E : Int → Int) : Prop :=
  (∀ c : Nat, c < 40 → ph_C s t c) ∧
  (∀ c k : Nat, c < 40 → (k : Int) < t 38 c → ph_W s t E c k) ∧
  (∀ p : Nat, p < 1280 → s 1 p = 0 ∨ (s 1 p = 1 ∧ ∃ c k i : Nat, c < 40 ∧ (k : Int) < t 38 c ∧ (i : Int) < t 33 (ph_x t c k) ∧ p = 32 * c + ph_pos t c k + 2 + i))
theorem ph_pos_mono {t : py_Z} {c : Nat} : ∀ (d k : Nat), ph_pos t c k ≤ ph_pos t c (k + d)
  | 0, k => Nat.le_refl _
  | d + 1, k => by
    have := ph_pos_mono (t := t) (c := c) d k
    show ph_pos t c k ≤ ph_pos t c (k + d) + _
    omega
theorem ph_pos_le {t : py_Z} {c k m : Nat} (h : k ≤ m) : ph_pos t c k ≤ ph_pos t c m := by
  have := ph_pos_mono (t := t) (c := c) (m - k) k
  rwa [show k + (m - k) = m by omega] at this
theorem ph_pos_lt {t : py_Z} {c k m : Nat} (h : k < m) : ph_pos t c k + ph_sz t (ph_x t c k) ≤ ph_pos t c m := ph_pos_le (t := t) (c := c) (show k + 1 ≤ m from h)
theorem ph_pos_two {t : py_Z} {c : Nat} : ∀ (k : Nat), 2 * k ≤ ph_pos t c k
  | 0 => Nat.le_refl _
  | k + 1 => by
    have := ph_pos_two (t := t) (c := c) k
    show 2 * (k + 1) ≤ ph_pos t c k + ph_sz t (ph_x t c k)
    unfold ph_sz; omega
theorem ph_pos_dec {t : py_Z} {c : Nat} : ∀ (n w : Nat), w < ph_pos t c n → ∃ k : Nat, k < n ∧ ph_pos t c k ≤ w ∧ w < ph_pos t c k + ph_sz t (ph_x t c k)
  | 0, w, h => absurd h (by simp [ph_pos])
  | n + 1, w, h => by
    by_cases e : w < ph_pos t c n
    · obtain ⟨k, h1, h2⟩ := ph_pos_dec n w e
      exact ⟨k, by omega, h2⟩
    · exact ⟨n, by omega, by omega, h⟩
theorem ph_pos_congr {t t' : py_Z} {c : Nat} : ∀ (n : Nat), (∀ k : Nat, k < n → ph_x t' c k = ph_x t c k ∧ ph_sz t' (ph_x t c k) = ph_sz t (ph_x t c k)) → ph_pos t' c n = ph_pos t c n
  | 0, _ => rfl
  | n + 1, h => by
    show ph_pos t' c n + ph_sz t' (ph_x t' c n) = ph_pos t c n + ph_sz t (ph_x t c n)
    rw [ph_pos_congr n (fun k hk => h k (by omega)), (h n (by omega)).1, (h n (by omega)).2]
section PH
variable {s t : py_Z} {E : Int → Int}
/-- where a thing lies ends within its car -/
theorem ph_TH.fit (h : ph_TH s t E) {c k : Nat} (hc : c < 40) (hk : (k : Int) < t 38 c) : ph_pos t c k + ph_sz t (ph_x t c k) ≤ (t 37 c).toNat ∧ (t 37 c).toNat ≤ 32 ∧ 0 ≤ t 37 c ∧ (ph_sz t (ph_x t c k) : Int) = 2 + t 33 (ph_x t c k) + t 34 (ph_x t c k) := by
  obtain ⟨h1, h2, h3, h4, h5, h6, h7⟩ := h.1 c hc
  obtain ⟨w1, w2, w3, w4⟩ := h.2.1 c k hc hk
  have := ph_pos_lt (t := t) (c := c) (k := k) (m := (t 38 c).toNat) (by omega)
  unfold ph_sz at *
  omega
theorem ph_TH.ir (h : ph_TH s t E) : pr_IR s := by
  refine ⟨fun p hp => ?_, fun c hc => ?_⟩
  · rcases h.2.2 p hp with e | ⟨e, c, k, i, hc, hk, hi, hp2⟩
    · exact ⟨Or.inl e, fun e2 => absurd e e2⟩
    · refine ⟨Or.inr e, fun _ => ?_⟩
      obtain ⟨f1, f2, f3, f4⟩ := h.fit hc hk
      obtain ⟨w1, w2, w3, w4⟩ := h.2.1 c k hc hk
      have e1 : p / 32 = c := by omega
      rw [e1, (h.1 c hc).2.1]
      omega
  · obtain ⟨h1, h2, h3, h4, h5, h6⟩ := h.1 c hc
    omega
/-- a reference's place tells it -/
theorem ph_TH.refinj (h : ph_TH s t E) {c k i c' k' i' : Nat} (hc : c < 40) (hk : (k : Int) < t 38 c) (hi : (i : Int) < t 33 (ph_x t c k)) (hc' : c' < 40) (hk' : (k' : Int) < t 38 c') (hi' : (i' : Int) < t 33 (ph_x t c' k')) (e : 32 * c + ph_pos t c k + 2 + i = 32 * c' + ph_pos t c' k' + 2 + i') : c = c' ∧ k = k' ∧ i = i' := by
  obtain ⟨f1, f2, f3, f4⟩ := h.fit hc hk
  obtain ⟨g1, g2, g3, g4⟩ := h.fit hc' hk'
  obtain ⟨w1, w2, w3, w4⟩ := h.2.1 c k hc hk
  obtain ⟨v1, v2, v3, v4⟩ := h.2.1 c' k' hc' hk'
  have e1 : c = c' := by omega
  subst e1
  have e2 : k = k' := by
    rcases Nat.lt_trichotomy k k' with e2 | e2 | e2
    · have := ph_pos_lt (t := t) (c := c) e2; omega
    · exact e2
    · have := ph_pos_lt (t := t) (c := c) e2; omega
  subst e2
  exact ⟨rfl, rfl, by omega⟩
/-- the pointers' code may change where no pointer is -/
theorem ph_TH.code {E' : Int → Int} (h : ph_TH s t E) (hE : ∀ c k i : Nat, c < 40 → (k : Int) < t 38 c → (i : Int) < t 33 (ph_x t c k) → E' (t 35 (12 * ph_x t c k + i)) = E (t 35 (12 * ph_x t c k + i))) : ph_TH s t E' := by
  refine ⟨h.1, fun c k hc hk => ?_, h.2.2⟩
  obtain ⟨w1, w2, w3, w4, w5, w6, w7⟩ := h.2.1 c k hc hk
  exact ⟨w1, w2, w3, w4, w5, fun i hi => ⟨by rw [hE c k i hc hk hi]; exact (w6 i hi).1, (w6 i hi).2⟩, w7⟩
/-- only these fields count -/
theorem ph_TH.congr {s' t' : py_Z} (h : ph_TH s t E) (hs : ∀ g i, g ≤ 4 → s' g i = s g i) (h6 : ∀ c : Nat, c < 40 → s' 6 c = 0 → s 6 c = 0) (ht : ∀ g i, 30 ≤ g → g ≤ 39 → g ≠ 31 → g ≠ 32 → t' g i = t g i) : ph_TH s' t' E := by
  have ex : ∀ c k, ph_x t' c k = ph_x t c k := fun c k => by unfold ph_x; rw [ht 39 _ (by omega) (by omega) (by omega) (by omega)]
  have ep : ∀ c k, ph_pos t' c k = ph_pos t c k := fun c k => ph_pos_congr k (fun m _ => ⟨ex c m, by unfold ph_sz; rw [ht 33 _ (by omega) (by omega) (by omega) (by omega), ht 34 _ (by omega) (by omega) (by omega) (by omega)]⟩)
  have t30 : ∀ i, t' 30 i = t 30 i := fun i => ht 30 i (by omega) (by omega) (by omega) (by omega)
  have t33 : ∀ i, t' 33 i = t 33 i := fun i => ht 33 i (by omega) (by omega) (by omega) (by omega)
  have t34 : ∀ i, t' 34 i = t 34 i := fun i => ht 34 i (by omega) (by omega) (by omega) (by omega)
  have t35 : ∀ i, t' 35 i = t 35 i := fun i => ht 35 i (by omega) (by omega) (by omega) (by omega)
  have t36 : ∀ i, t' 36 i = t 36 i := fun i => ht 36 i (by omega) (by omega) (by omega) (by omega)
  have t37 : ∀ i, t' 37 i = t 37 i := fun i => ht 37 i (by omega) (by omega) (by omega) (by omega)
  have t38 : ∀ i, t' 38 i = t 38 i := fun i => ht 38 i (by omega) (by omega) (by omega) (by omega)
  have t39 : ∀ i, t' 39 i = t 39 i := fun i => ht 39 i (by omega) (by omega) (by omega) (by omega)
  have s0 : ∀ i, s' 0 i = s 0 i := fun i => hs 0 i (by omega)
  have s1 : ∀ i, s' 1 i = s 1 i := fun i => hs 1 i (by omega)
  have s2 : ∀ i, s' 2 i = s 2 i := fun i => hs 2 i (by omega)
  have s3 : ∀ i, s' 3 i = s 3 i := fun i => hs 3 i (by omega)
  have s4 : ∀ i, s' 4 i = s 4 i := fun i => hs 4 i (by omega)
  refine ⟨fun c hc => ?_, fun c k hc hk => ?_, fun p hp => ?_⟩
  · have := h.1 c hc
    unfold ph_C at this ⊢
    simp only [s0, s2, s3, s4, t37, t38, ep]
    exact ⟨this.1, this.2.1, this.2.2.1, this.2.2.2.1, this.2.2.2.2.1, fun e => this.2.2.2.2.2.1 (h6 c hc e), this.2.2.2.2.2.2⟩
  · rw [t38] at hk
    have := h.2.1 c k hc hk
    unfold ph_W at this ⊢
    simp only [s0, s1, t30, t33, t34, t35, t36, t39, ep, ex]
    exact this
  · have := h.2.2 p hp
    simp only [s1, t33, t38, ep, ex]
    exact this
/-- a thing is laid behind the last one of a car -/
theorem ph_TH.lay {s' : py_Z} (h : ph_TH s t E) {x c : Nat} (hx : x < 640) (hc : c < 40) (hr : 0 ≤ t 33 x ∧ t 33 x ≤ 12) (hn : 0 ≤ t 34 x ∧ t 34 x ≤ 12) (hfit : t 37 c + (2 + t 33 x + t 34 x) ≤ 32)
    (s0 : ∀ q : Nat, ¬ (32 * (c : Int) + t 37 c ≤ q ∧ (q : Int) < 32 * c + t 37 c + (2 + t 33 x + t 34 x)) → s' 0 q = s 0 q)
    (s1 : ∀ q : Nat, s' 1 q = if 32 * (c : Int) + t 37 c + 2 ≤ q ∧ (q : Int) < 32 * c + t 37 c + 2 + t 33 x then 1 else s 1 q)
    (s2 : ∀ d : Nat, s' 2 d = if d = c then t 37 c + (2 + t 33 x + t 34 x) else s 2 d)
    (s3 : ∀ d : Nat, s' 3 d = if d = c then t 38 c + 1 else s 3 d)
    (s4 : ∀ d : Nat, s' 4 d = if d = c then 32 * (c : Int) + t 37 c else s 4 d)
    (s6 : ∀ d : Nat, d < 40 → s' 6 d = 0 → d ≠ c ∧ s 6 d = 0)
    (w0 : s' 0 (32 * c + (t 37 c).toNat) = t 30 x) (w1 : s' 0 (32 * c + (t 37 c).toNat + 1) = t 33 x + 16 * t 34 x)
    (w2 : ∀ i : Nat, (i : Int) < t 33 x → s' 0 (32 * c + (t 37 c).toNat + 2 + i) = E (t 35 (12 * x + i)))
    (w3 : ∀ i : Nat, (i : Int) < t 34 x → s' 0 (32 * c + (t 37 c).toNat + 2 + (t 33 x).toNat + i) = t 36 (12 * x + i)) : ph_TH s' (pm_lay t x c) E := by
  obtain ⟨c1, c2, c3, c4, c5, c6, c7, c8⟩ := h.1 c hc
  have htwo := ph_pos_two (t := t) (c := c) (t 38 c).toNat
  have hcnt : t 38 c ≤ 15 := by omega
  have t30 : ∀ i, pm_lay t x c 30 i = t 30 i := fun i => by simp [pm_lay]
  have t33 : ∀ i, pm_lay t x c 33 i = t 33 i := fun i => by simp [pm_lay]
  have t34 : ∀ i, pm_lay t x c 34 i = t 34 i := fun i => by simp [pm_lay]
  have t35 : ∀ i, pm_lay t x c 35 i = t 35 i := fun i => by simp [pm_lay]
  have t36 : ∀ i, pm_lay t x c 36 i = t 36 i := fun i => by simp [pm_lay]
  have t37 : ∀ i, pm_lay t x c 37 i = if i = c then t 37 c + (2 + t 33 x + t 34 x) else t 37 i := fun i => by simp [pm_lay]
  have t38 : ∀ i, pm_lay t x c 38 i = if i = c then t 38 c + 1 else t 38 i := fun i => by simp [pm_lay]
  have t39 : ∀ i, pm_lay t x c 39 i = if i = 16 * c + (t 38 c).toNat then (x : Int) else t 39 i := fun i => by simp [pm_lay]
  generalize pm_lay t x c = t' at *
  have esz : ∀ y, ph_sz t' y = ph_sz t y := fun y => by unfold ph_sz; rw [t33, t34]
  have ex : ∀ d k : Nat, d < 40 → (k : Int) < t 38 d → ph_x t' d k = ph_x t d k := fun d k hd hk => by
    unfold ph_x
    have := (h.1 d hd).2.2.1
    rw [t39, if_neg]
    intro e
    have e2 : d = c := by omega
    subst e2
    omega
  have exn : ph_x t' c (t 38 c).toNat = x := by
    unfold ph_x
    rw [t39, if_pos rfl]; rfl
  have ep : ∀ d k : Nat, d < 40 → (k : Int) ≤ t 38 d → ph_pos t' d k = ph_pos t d k := fun d k hd hk => ph_pos_congr k (fun m hm => ⟨ex d m hd (by omega), esz _⟩)
  have epn : ph_pos t' c ((t 38 c).toNat + 1) = (t 37 c).toNat + (2 + (t 33 x).toNat + (t 34 x).toNat) := by
    show ph_pos t' c (t 38 c).toNat + ph_sz t' (ph_x t' c (t 38 c).toNat) = _
    rw [ep c _ hc (by omega), exn, esz]
    unfold ph_sz
    omega
  refine ⟨fun d hd => ?_, fun d k hd hk => ?_, fun p hp => ?_⟩
  · by_cases e : d = c
    · subst e
      refine ⟨by rw [s3, t38, if_pos rfl, if_pos rfl], by rw [s2, t37, if_pos rfl, if_pos rfl], by rw [t38, if_pos rfl]; omega, ?_, by rw [t37, if_pos rfl]; exact hfit, fun e2 => absurd rfl (s6 d hd e2).1, fun _ => ?_, fun w hw hw2 => ?_⟩
      · rw [t37, if_pos rfl, t38, if_pos rfl, show (t 38 d + 1).toNat = (t 38 d).toNat + 1 by omega, epn]
        omega
      · rw [s4, if_pos rfl, t38, if_pos rfl, show (t 38 d + 1).toNat - 1 = (t 38 d).toNat by omega, ep d _ hd (by omega)]
        omega
      · rw [t37, if_pos rfl] at hw2
        rw [s0 _ (by omega)]
        exact c8 w hw (by omega)
    · obtain ⟨d1, d2, d3, d4, d5, d6, d7, d8⟩ := h.1 d hd
      refine ⟨by rw [s3, t38, if_neg e, if_neg e]; exact d1, by rw [s2, t37, if_neg e, if_neg e]; exact d2, by rw [t38, if_neg e]; exact d3, ?_, by rw [t37, if_neg e]; exact d5, fun e2 => by rw [t38, if_neg e]; exact d6 (s6 d hd e2).2, fun e2 => ?_, fun w hw hw2 => ?_⟩
      · rw [t37, if_neg e, t38, if_neg e, ep d _ hd (by omega)]; exact d4
      · rw [t38, if_neg e] at e2
        rw [s4, if_neg e, t38, if_neg e, ep d _ hd (by omega)]; exact d7 e2
      · rw [t37, if_neg e] at hw2
        rw [s0 _ (by omega)]
        exact d8 w hw hw2
  · by_cases e : d = c ∧ k = (t 38 c).toNat
    · obtain ⟨e1, e2⟩ := e
      subst e1; subst e2
      have e3 : ph_pos t' d (t 38 d).toNat = (t 37 d).toNat := by rw [ep d _ hd (by omega)]; omega
      unfold ph_W
      simp only [exn, e3, t30, t33, t34, t35, t36]
      refine ⟨by rw [t39, if_pos rfl]; omega, hr, hn, w0, w1, fun i hi => ⟨w2 i hi, ?_⟩, w3⟩
      rw [s1, if_pos (by omega)]
    · have hk2 : (k : Int) < t 38 d := by
        rw [t38] at hk
        by_cases e1 : d = c
        · subst e1; rw [if_pos rfl] at hk; omega
        · rwa [if_neg e1] at hk
      obtain ⟨w1, w2, w3, w4, w5, w6, w7⟩ := h.2.1 d k hd hk2
      obtain ⟨f1, f2, f3, f4⟩ := h.fit hd hk2
      have hout : ∀ q : Nat, 32 * d + ph_pos t d k ≤ q → q < 32 * d + ph_pos t d k + ph_sz t (ph_x t d k) → ¬ (32 * (c : Int) + t 37 c ≤ q ∧ (q : Int) < 32 * c + t 37 c + (2 + t 33 x + t 34 x)) := fun q h1 h2 => by
        by_cases e1 : d = c
        · subst e1; omega
        · omega
      unfold ph_W
      simp only [ex d k hd hk2, ep d k hd (by omega), t30, t33, t34, t35, t36]
      refine ⟨?_, w2, w3, ?_, ?_, fun i hi => ⟨?_, ?_⟩, fun i hi => ?_⟩
      · rw [t39, if_neg]
        · exact w1
        · intro e1
          have := (h.1 d hd).2.2.1
          have e2 : d = c := by omega
          exact e ⟨e2, by omega⟩
      · rw [s0 _ (hout _ (by omega) (by omega))]; exact w4
      · rw [s0 _ (hout _ (by omega) (by omega))]; exact w5
      · rw [s0 _ (hout _ (by omega) (by omega))]; exact (w6 i hi).1
      · rw [s1]
        split
        · rfl
        · exact (w6 i hi).2
      · rw [s0 _ (hout _ (by omega) (by omega))]; exact w7 i hi
  · rw [s1]
    by_cases e : 32 * (c : Int) + t 37 c + 2 ≤ p ∧ (p : Int) < 32 * c + t 37 c + 2 + t 33 x
    · rw [if_pos e]
      refine Or.inr ⟨rfl, c, (t 38 c).toNat, p - (32 * c + (t 37 c).toNat + 2), hc, by rw [t38, if_pos rfl]; omega, ?_, ?_⟩
      · rw [exn, t33]; omega
      · rw [ep c _ hc (by omega)]; omega
    · rw [if_neg e]
      rcases h.2.2 p hp with e1 | ⟨e1, d, k, i, hd, hk, hi, hp2⟩
      · exact Or.inl e1
      · refine Or.inr ⟨e1, d, k, i, hd, ?_, by rw [ex d k hd hk, t33]; exact hi, by rw [ep d k hd (by omega)]; exact hp2⟩
        rw [t38]
        split
        · rename_i e2; subst e2; omega
        · exact hk
/-- a car is cleared -/
theorem ph_TH.clear {s' t' : py_Z} (h : ph_TH s t E) {c : Nat} (hc : c < 40)
    (s0 : ∀ q : Nat, s' 0 q = if q / 32 = c then 0 else s 0 q) (s1 : ∀ q : Nat, s' 1 q = if q / 32 = c then 0 else s 1 q)
    (s2 : ∀ d : Nat, s' 2 d = if d = c then 0 else s 2 d) (s3 : ∀ d : Nat, s' 3 d = if d = c then 0 else s 3 d) (s4 : ∀ d : Nat, s' 4 d = s 4 d)
    (s6 : ∀ d : Nat, d < 40 → s' 6 d = 0 → d = c ∨ s 6 d = 0)
    (t30 : ∀ d k : Nat, d < 40 → d ≠ c → (k : Int) < t 38 d → t' 30 (ph_x t d k) = t 30 (ph_x t d k))
    (t37 : ∀ d : Nat, t' 37 d = if d = c then 0 else t 37 d) (t38 : ∀ d : Nat, t' 38 d = if d = c then 0 else t 38 d)
    (ht : ∀ g i, g = 33 ∨ g = 34 ∨ g = 35 ∨ g = 36 ∨ g = 39 → t' g i = t g i) : ph_TH s' t' E := by
  have ex : ∀ c k, ph_x t' c k = ph_x t c k := fun c k => by unfold ph_x; rw [ht 39 _ (by omega)]
  have esz : ∀ y, ph_sz t' y = ph_sz t y := fun y => by unfold ph_sz; rw [ht 33 _ (by omega), ht 34 _ (by omega)]
  have ep : ∀ c k, ph_pos t' c k = ph_pos t c k := fun c k => ph_pos_congr k (fun m _ => ⟨ex c m, esz _⟩)
  have t33 : ∀ i, t' 33 i = t 33 i := fun i => ht 33 i (by omega)
  have t34 : ∀ i, t' 34 i = t 34 i := fun i => ht 34 i (by omega)
  have t35 : ∀ i, t' 35 i = t 35 i := fun i => ht 35 i (by omega)
  have t36 : ∀ i, t' 36 i = t 36 i := fun i => ht 36 i (by omega)
  have t39 : ∀ i, t' 39 i = t 39 i := fun i => ht 39 i (by omega)
  refine ⟨fun d hd => ?_, fun d k hd hk => ?_, fun p hp => ?_⟩
  · by_cases e : d = c
    · subst e
      refine ⟨by rw [s3, t38, if_pos rfl, if_pos rfl], by rw [s2, t37, if_pos rfl, if_pos rfl], by rw [t38, if_pos rfl]; omega, by rw [t37, t38, if_pos rfl, if_pos rfl]; rfl, by rw [t37, if_pos rfl]; omega, fun _ => by rw [t38, if_pos rfl], fun e2 => by rw [t38, if_pos rfl] at e2; omega, fun w hw _ => ?_⟩
      rw [s0, if_pos (by omega)]
    · obtain ⟨d1, d2, d3, d4, d5, d6, d7, d8⟩ := h.1 d hd
      refine ⟨by rw [s3, t38, if_neg e, if_neg e]; exact d1, by rw [s2, t37, if_neg e, if_neg e]; exact d2, by rw [t38, if_neg e]; exact d3, by rw [t37, t38, if_neg e, if_neg e, ep]; exact d4, by rw [t37, if_neg e]; exact d5, fun e2 => by rw [t38, if_neg e]; exact d6 ((s6 d hd e2).resolve_left e), fun e2 => ?_, fun w hw hw2 => ?_⟩
      · rw [t38, if_neg e] at e2
        rw [s4, t38, if_neg e, ep]; exact d7 e2
      · rw [t37, if_neg e] at hw2
        rw [s0, if_neg (by omega)]
        exact d8 w hw hw2
  · rw [t38] at hk
    by_cases e : d = c
    · rw [if_pos e] at hk; omega
    · rw [if_neg e] at hk
      obtain ⟨w1, w2, w3, w4, w5, w6, w7⟩ := h.2.1 d k hd hk
      obtain ⟨f1, f2, f3, f4⟩ := h.fit hd hk
      unfold ph_W
      simp only [ex, ep, t33, t34, t35, t36, t39, t30 d k hd e hk]
      refine ⟨w1, w2, w3, ?_, ?_, fun i hi => ⟨?_, ?_⟩, fun i hi => ?_⟩
      · rw [s0, if_neg (by omega)]; exact w4
      · rw [s0, if_neg (by omega)]; exact w5
      · rw [s0, if_neg (by omega)]; exact (w6 i hi).1
      · rw [s1, if_neg (by omega)]; exact (w6 i hi).2
      · rw [s0, if_neg (by omega)]; exact w7 i hi
  · rw [s1]
    by_cases e : p / 32 = c
    · rw [if_pos e]; exact Or.inl rfl
    · rw [if_neg e]
      rcases h.2.2 p hp with e1 | ⟨e1, d, k, i, hd, hk, hi, hp2⟩
      · exact Or.inl e1
      · obtain ⟨f1, f2, f3, f4⟩ := h.fit hd hk
        obtain ⟨w1, w2, w3, w4⟩ := h.2.1 d k hd hk
        refine Or.inr ⟨e1, d, k, i, hd, ?_, by rw [ex, t33]; exact hi, by rw [ep]; exact hp2⟩
        rw [t38, if_neg]
        · exact hk
        · intro e2; omega
end PH
end
section
/-! PURE: in the middle of a step -/
def ph_PV (t : py_Z) (y : Int) : Prop := y = -1 ∨ ((0 ≤ y ∧ y < 640) ∧ 0 < t 30 y.toNat)
def ph_E (t : py_Z) (y : Int) : Int := if y < 0 then -1 else 32 * t 31 y.toNat + t 32 y.toNat
def ph_MH (t : py_Z) (e : Int) : Prop :=
  (0 ≤ t 58 0 ∧ t 58 0 ≤ 600) ∧
  (∀ x : Nat, x < 640 → 0 ≤ t 30 x ∧ t 30 x ≤ t 58 0 ∧ (t 58 0 ≤ x → t 30 x = 0)) ∧
  (∀ x : Nat, x < 640 → 0 < t 30 x → ∃ c k : Nat, c < 40 ∧ (k : Int) < t 38 c ∧ ph_x t c k = x ∧ t 31 x = c ∧ t 32 x = ph_pos t c k) ∧
  (∀ c k : Nat, c < 40 → (c : Int) ≠ e → (k : Int) < t 38 c → 0 < t 30 (ph_x t c k) ∧ t 31 (ph_x t c k) = c ∧ t 32 (ph_x t c k) = ph_pos t c k) ∧
  (∀ r : Nat, r < 16 → ph_PV t (t 43 r)) ∧
  (∀ x : Nat, x < 640 → 0 < t 30 x → ∀ i : Nat, (i : Int) < t 33 x → ph_PV t (t 35 (12 * x + i)))
/-- what has been moved out of a car, and how many words -/
def ph_mc (t : py_Z) (e : Nat) (m : Nat) : Nat := py_cnt (fun k => decide (t 31 (ph_x t e k) ≠ e)) m
def ph_mw (t : py_Z) (e : Nat) : Nat → Nat
  | 0 => 0
  | m + 1 => ph_mw t e m + (if t 31 (ph_x t e m) = e then 0 else ph_sz t (ph_x t e m))
theorem ph_mw_le {t : py_Z} {e : Nat} : ∀ m : Nat, ph_mw t e m ≤ ph_pos t e m
  | 0 => Nat.le_refl _
  | m + 1 => by
    have := ph_mw_le (t := t) (e := e) m
    show ph_mw t e m + (if t 31 (ph_x t e m) = e then 0 else ph_sz t (ph_x t e m)) ≤ ph_pos t e m + ph_sz t (ph_x t e m)
    split <;> omega
theorem ph_mw_un {t : py_Z} {e k : Nat} (hu : t 31 (ph_x t e k) = e) : ∀ m : Nat, k < m → ph_mw t e m + ph_sz t (ph_x t e k) ≤ ph_pos t e m
  | 0, h => absurd h (by omega)
  | m + 1, h => by
    show ph_mw t e m + (if t 31 (ph_x t e m) = e then 0 else ph_sz t (ph_x t e m)) + _ ≤ ph_pos t e m + ph_sz t (ph_x t e m)
    by_cases e2 : k = m
    · subst e2
      have := ph_mw_le (t := t) (e := e) k
      rw [if_pos hu]; omega
    · have := ph_mw_un hu m (by omega)
      split <;> omega
theorem ph_mw_up {t t' : py_Z} {e k : Nat} (hx : ∀ j, ph_x t' e j = ph_x t e j) (hs : ∀ y, ph_sz t' y = ph_sz t y) (hu : t 31 (ph_x t e k) = e) (hm : t' 31 (ph_x t e k) ≠ e) (ho : ∀ j : Nat, j ≠ k → ph_x t e j ≠ ph_x t e k → t' 31 (ph_x t e j) = t 31 (ph_x t e j)) : ∀ m : Nat, (∀ j : Nat, j < m → j ≠ k → ph_x t e j ≠ ph_x t e k) → ph_mw t' e m = ph_mw t e m + (if k < m then ph_sz t (ph_x t e k) else 0)
  | 0, _ => rfl
  | m + 1, hi => by
    show ph_mw t' e m + (if t' 31 (ph_x t' e m) = e then 0 else ph_sz t' (ph_x t' e m)) = ph_mw t e m + (if t 31 (ph_x t e m) = e then 0 else ph_sz t (ph_x t e m)) + _
    rw [ph_mw_up hx hs hu hm ho m (fun j hj => hi j (by omega)), hx, hs]
    by_cases e2 : m = k
    · subst e2
      rw [if_neg (by omega), if_neg hm, if_pos hu, if_pos (by omega)]
    · rw [ho m e2 (hi m (by omega) e2)]
      by_cases e3 : k < m
      · rw [if_pos e3, if_pos (show k < m + 1 by omega)]; omega
      · rw [if_neg e3, if_neg (show ¬ k < m + 1 by omega)]; omega
def ph_Mid (s t s0 t0 : py_Z) (e : Nat) : Prop :=
  pr_RW s t ∧ ph_TH s t (ph_E t0) ∧ ph_MH t e ∧
  (∀ r : Nat, r < 16 → s 7 r = ph_E t0 (t 43 r)) ∧
  (s 20 0 = e ∧ t 59 0 = e ∧ e < 40 ∧ t 42 0 = e ∧ 0 < t 50 0) ∧
  (s 18 0 = t 55 0 ∧ s 19 0 = t 56 0) ∧
  ((∀ g i, (g = 7 ∨ (10 ≤ g ∧ g ≤ 12) ∨ (15 ≤ g ∧ g ≤ 17) ∨ 23 ≤ g) → s g i = s0 g i) ∧ (∀ g i, (g = 30 ∨ (33 ≤ g ∧ g ≤ 36) ∨ g = 43 ∨ (45 ≤ g ∧ g ≤ 48) ∨ (51 ≤ g ∧ g ≤ 54) ∨ 58 ≤ g) → t g i = t0 g i)) ∧
  (t 38 e = t0 38 e ∧ t 37 e = t0 37 e ∧ ∀ k : Nat, k < 16 → t 39 (16 * e + k) = t0 39 (16 * e + k)) ∧
  (∀ x : Nat, x < 640 → 0 < t 30 x → (0 ≤ t0 31 x ∧ t0 31 x < 40) ∧ (0 ≤ t0 32 x ∧ t0 32 x < 31) ∧ (t0 31 x ≠ e → t 31 x = t0 31 x ∧ t 32 x = t0 32 x) ∧ (t0 31 x = e → ∃ k : Nat, (k : Int) < t 38 e ∧ ph_x t e k = x)) ∧
  (∀ k : Nat, (k : Int) < t 38 e → 0 < t 30 (ph_x t e k) ∧ t0 31 (ph_x t e k) = e ∧ t0 32 (ph_x t e k) = ph_pos t e k ∧ ((t 31 (ph_x t e k) = e ∧ t 32 (ph_x t e k) = ph_pos t e k ∧ s 8 (ph_pos t e k) = -1) ∨ (t 31 (ph_x t e k) ≠ e ∧ s 8 (ph_pos t e k) = 32 * t 31 (ph_x t e k) + t 32 (ph_x t e k)))) ∧
  (s 21 0 = ph_mc t e (t 38 e).toNat) ∧
  (s 13 0 < 40 ∨ ∃ f : Nat, f < 40 ∧ s 6 f ≠ 0 ∧ f ≠ e ∧ t 37 f ≤ ph_mw t e (t 38 e).toNat) ∧
  (t0 57 0 < 99999 ∧ ((t 50 0 = t0 50 0 ∧ t 57 0 = t0 57 0) ∨ (t0 50 0 = 1 ∧ t 50 0 = 2 ∧ t 57 0 = t0 57 0 + 1))) ∧
  (∀ c : Nat, s0 6 c ≠ 0 → s 6 c = s0 6 c)
section PMID
variable {s t s0 t0 : py_Z} {e : Nat}
/-- things of the car lie at places of their own -/
theorem ph_Mid.inj (h : ph_Mid s t s0 t0 e) {k m : Nat} (hk : (k : Int) < t 38 e) (hm : (m : Int) < t 38 e) (hne : k ≠ m) : ph_x t e k ≠ ph_x t e m ∧ ph_pos t e k ≠ ph_pos t e m := by
  obtain ⟨a1, a2, a3, a4, a5, a6, a7, a8, a9, a10, a11⟩ := h
  obtain ⟨b1, b2, b3, b4⟩ := a10 k hk
  obtain ⟨c1, c2, c3, c4⟩ := a10 m hm
  have h2 : ph_pos t e k ≠ ph_pos t e m := by
    rcases Nat.lt_or_gt_of_ne hne with h2 | h2
    · have := ph_pos_lt (t := t) (c := e) h2; unfold ph_sz at this; omega
    · have := ph_pos_lt (t := t) (c := e) h2; unfold ph_sz at this; omega
  exact ⟨fun e2 => by rw [e2] at b3; omega, h2⟩
/-- where a thing is, to the class: its place of before -/
theorem ph_Mid.E (h : ph_Mid s t s0 t0 e) {y : Int} (hy : ph_PV t y) : (y = -1 ∧ ph_E t0 y = -1) ∨ (0 ≤ y ∧ y < 640 ∧ 0 < t 30 y.toNat ∧ ph_E t0 y = 32 * t0 31 y.toNat + t0 32 y.toNat ∧ (0 ≤ t0 31 y.toNat ∧ t0 31 y.toNat < 40) ∧ (0 ≤ t0 32 y.toNat ∧ t0 32 y.toNat < 31)) := by
  obtain ⟨a1, a2, a3, a4, a5, a6, a7, a8, a9, a10, a11⟩ := h
  rcases hy with e1 | ⟨e1, e2⟩
  · subst e1; exact Or.inl ⟨rfl, by simp [ph_E]⟩
  · have := a9 y.toNat (by omega) e2
    exact Or.inr ⟨e1.1, e1.2, e2, by unfold ph_E; rw [if_neg (by omega)], this.1, this.2.1⟩
theorem ph_Mid.still (h : ph_Mid s t s0 t0 e) {y : Int} (hy : ph_PV t y) {K : ty_S → Int32 → Prop} (h1 : 0 ≤ y → t 31 y.toNat = e → K (py_O s) (py_o 1)) (h0 : ¬ (0 ≤ y ∧ t 31 y.toNat = e) → K (py_O s) (py_o 0)) : eX3_isStillThere (py_O s) (py_o (ph_E t0 y)) K := by
  obtain ⟨a1, a2, a3, a4, a5, a6, a7, a8, a9, a10, a11⟩ := id h
  rcases h.E hy with ⟨e1, e2⟩ | ⟨e1, e2, e3, e4, e5, e6⟩
  · rw [e2]
    unfold eX3_isStillThere
    try simp only [py_O_ap, py_l0, py_l1, py_l2, py_l3, py_l4, py_l5, py_l6, py_l7, py_l8, py_l9, py_l12, py_l16, py_l32, py_l40, py_l100, py_l640, py_l1280, py_neg, py_add, py_sub, py_mul, py_stO]
    exact py_ilt (fun _ => h0 (by omega)) (fun c => absurd c (by omega))
  · rw [e4]
    obtain ⟨b1, b2, b3, b4⟩ := a9 y.toNat (by omega) e3
    unfold eX3_isStillThere
    try simp only [py_O_ap, py_l0, py_l1, py_l2, py_l3, py_l4, py_l5, py_l6, py_l7, py_l8, py_l9, py_l12, py_l16, py_l32, py_l40, py_l100, py_l640, py_l1280, py_neg, py_add, py_sub, py_mul, py_stO]
    refine py_ilt (fun c => absurd c (by omega)) (fun _ => ?_)
    refine pr_carOf (fun _ _ => ?_) (fun c => absurd c (by omega))
    try simp only [py_O_ap, py_l0, py_l1, py_l2, py_l3, py_l4, py_l5, py_l6, py_l7, py_l8, py_l9, py_l12, py_l16, py_l32, py_l40, py_l100, py_l640, py_l1280, py_neg, py_add, py_sub, py_mul, py_stO]
    rw [py_div (by omega) (by omega)]
    try simp only [py_O_ap, py_l0, py_l1, py_l2, py_l3, py_l4, py_l5, py_l6, py_l7, py_l8, py_l9, py_l12, py_l16, py_l32, py_l40, py_l100, py_l640, py_l1280, py_neg, py_add, py_sub, py_mul, py_stO]
    rw [a5.1, show (32 * t0 31 y.toNat + t0 32 y.toNat) / 32 = t0 31 y.toNat by omega]
    have e7 : 32 * t0 31 y.toNat + t0 32 y.toNat - t0 31 y.toNat * 32 = t0 32 y.toNat := by omega
    rw [e7]
    refine py_ieq (fun c => py_and ?_) (fun c => h0 (fun c2 => c (by have := (b3 c).1; omega)))
    rw [py_nat (by omega)]
    obtain ⟨k, hk, hk2⟩ := b4 c
    obtain ⟨c1, c2, c3, c4⟩ := a10 k hk
    rw [hk2] at c1 c2 c3 c4
    have e8 : (t0 32 y.toNat).toNat = ph_pos t e k := by omega
    rw [e8]
    have hh : (0 < t 30 y.toNat → ∃ c k : Nat, c < 40 ∧ (k : Int) < t 38 c ∧ ph_x t c k = y.toNat ∧ t 31 y.toNat = c ∧ t 32 y.toNat = ph_pos t c k) := a3.2.2.1 y.toNat (by omega)
    obtain ⟨d, m, hd, hm, hm2, hm3, hm4⟩ := hh e3
    have hf := a2.fit hd hm
    rcases c4 with ⟨c5, c6, c7⟩ | ⟨c5, c6⟩
    · rw [c7]
      exact py_ieq (fun _ => h1 (by omega) c5) (fun c => absurd rfl c)
    · rw [c6]
      refine py_ieq (fun c => absurd c (by omega)) (fun _ => h0 (fun c => c5 c.2)) (by omega)
theorem ph_Mid.inCar (h : ph_Mid s t s0 t0 e) {y : Int} (hy : ph_PV t y) {K : ty_S → Int32 → Prop} (h1 : 0 ≤ y → t 31 y.toNat = e → K (py_O t) (py_o 1)) (h0 : ¬ (0 ≤ y ∧ t 31 y.toNat = e) → K (py_O t) (py_o 0)) : eX5_isInCar (py_O t) (py_o y) K := by
  obtain ⟨a1, a2, a3, a4, a5, a6, a7, a8, a9, a10, a11⟩ := id h
  refine pm_isInCar ?_ (fun x hx => by have := a3.2.1 x hx; have := a3.1; omega) (fun x hx hl => ?_) (by omega) (fun e1 e2 e3 => h1 e1 (by omega)) (fun c => h0 (fun c2 => c ⟨c2.1, ?_, by omega⟩))
  · rcases hy with e1 | ⟨e1, e2⟩ <;> omega
  · obtain ⟨c, k, hc, hk, h1, h2, h3⟩ := a3.2.2.1 x hx hl
    omega
  · rcases hy with e1 | ⟨e1, e2⟩
    · omega
    · exact e2
/-- one thing is moved -/
theorem ph_Mid.move (h : ph_Mid s t s0 t0 e) {y j : Nat} (hy : y < 640) (hl : 0 < t 30 y) (hin : t 31 y = e) (hj : (j : Int) < t 50 0) :
    ∃ s' t' : py_Z, (∀ K : ty_S → Prop, K (py_O s') → eX3_moveOne (py_O s) (py_o (ph_E t0 y)) (py_o (t 40 j)) K) ∧ (∀ K : ty_S → Prop, K (py_O t') → eX5_move (py_O t) (py_o y) (py_o j) K) ∧
      ph_Mid s' t' s0 t0 e ∧ t' 31 y ≠ e ∧ (∀ x : Nat, x ≠ y → t' 31 x = t 31 x ∧ t' 32 x = t 32 x) ∧ s' 22 0 = s 22 0 ∧ s' 21 0 = s 21 0 + 1 ∧ (0 ≤ s 21 0 ∧ s 21 0 < 16) ∧
      (∀ i : Nat, s' 9 i = if (i : Int) = s 21 0 then 32 * t' 31 y + t' 32 y else s 9 i) ∧ (∀ i, t' 44 i = t 44 i) ∧ (t' 50 0 = t 50 0 ∧ ∀ i, t' 40 i = t 40 i) := by
  obtain ⟨a1, a2, a3, a4, a5, a6, a7, a8, a9, a10, a11, a12, a13⟩ := id h
  have h0 := a1.1
  have hPV : ph_PV t y := Or.inr ⟨by omega, by simpa using hl⟩
  obtain ⟨b1, b2, b3, b4⟩ := a9 y hy hl
  have ht0 : t0 31 y = e := by
    by_cases c : t0 31 y = e
    · exact c
    · have := (b3 c).1; omega
  obtain ⟨k, hk, hky⟩ := b4 ht0
  obtain ⟨c1, c2, c3, c4⟩ := a10 k hk
  obtain ⟨w1, w2, w3, w4, w5, w6, w7⟩ := a2.2.1 e k a5.2.2.1 hk
  obtain ⟨f1, f2, f3, f4⟩ := a2.fit a5.2.2.1 hk
  rw [hky] at c1 c2 c3 c4 w2 w3 w4 w5 w6 w7 f1 f4
  have hC := a2.1 e a5.2.2.1
  have hEy : ph_E t0 y = ((32 * e + ph_pos t e k : Nat) : Int) := by
    unfold ph_E
    rw [if_neg (by omega)]
    simp only [Int.toNat_natCast]
    omega
  have hcm : ph_mc t e (t 38 e).toNat < (t 38 e).toNat := py_cnt_lt (k := k) (by omega) (by rw [hky, hin]; simp)
  have hmw := ph_mw_un (t := t) (e := e) (k := k) (by rw [hky]; exact hin) (t 38 e).toNat (by omega)
  rw [hky] at hmw
  have hpos4 := hC.2.2.2.1
  have hC16 := hC.2.2.1
  obtain ⟨c, s1, t1, p1, p2, p3, p4, p5, p6, p7, p8, p9, p10, p11, p12⟩ := pp_put a1 hj (e := e) (n := 2 + t 33 y + t 34 y) a5.1 a5.2.1 (by omega) (fun _ e2 => by
      simp only [Int.toNat_natCast] at e2
      have := (a1.2.2.2.1 0 0 (by omega) (by have := a1.2.1 0 (by omega); omega)).2.2
      simp only [Nat.mul_zero, Nat.add_zero] at this
      rw [a5.2.2.2.1] at this
      simp only [Int.toNat_natCast] at this
      have := a1.2.2.2.2.1 0 (by omega)
      omega) (by omega) (fun d hd => by have := a2.1 d hd; unfold ph_C at this; omega) (fun d hd hz => by
      have := a2.1 d hd
      have h6 := this.2.2.2.2.2.1 hz
      have h7 := this.2.2.2.1
      rw [h6] at h7
      exact ⟨h7, h6⟩) (by
      rcases a12 with e1 | ⟨f, g1, g2, g3, g4⟩
      · exact Or.inl e1
      · exact Or.inr ⟨f, g1, g2, by omega, by omega⟩)
  have q0 : ∀ i, s1 0 i = s 0 i := fun i => p7 0 i (by decide) (by decide) (by decide)
  have q1 : ∀ i, s1 1 i = s 1 i := fun i => p7 1 i (by decide) (by decide) (by decide)
  have q2 : ∀ i, s1 2 i = s 2 i := fun i => p7 2 i (by decide) (by decide) (by decide)
  have q3 : ∀ i, s1 3 i = s 3 i := fun i => p7 3 i (by decide) (by decide) (by decide)
  have q4 : ∀ i, s1 4 i = s 4 i := fun i => p7 4 i (by decide) (by decide) (by decide)
  have hCc := a2.1 c p1
  have r30 : ∀ i, t1 30 i = t 30 i := fun i => p8 30 i (by decide) (by decide)
  have r31 : ∀ i, t1 31 i = t 31 i := fun i => p8 31 i (by decide) (by decide)
  have r32 : ∀ i, t1 32 i = t 32 i := fun i => p8 32 i (by decide) (by decide)
  have r33 : ∀ i, t1 33 i = t 33 i := fun i => p8 33 i (by decide) (by decide)
  have r34 : ∀ i, t1 34 i = t 34 i := fun i => p8 34 i (by decide) (by decide)
  have r35 : ∀ i, t1 35 i = t 35 i := fun i => p8 35 i (by decide) (by decide)
  have r36 : ∀ i, t1 36 i = t 36 i := fun i => p8 36 i (by decide) (by decide)
  have r37 : ∀ i, t1 37 i = t 37 i := fun i => p8 37 i (by decide) (by decide)
  have r38 : ∀ i, t1 38 i = t 38 i := fun i => p8 38 i (by decide) (by decide)
  have r39 : ∀ i, t1 39 i = t 39 i := fun i => p8 39 i (by decide) (by decide)
  have hcnt2 := ph_pos_two (t := t) (c := c) (t 38 c).toNat
  have hcpos := hCc.2.2.2.1
  have hccnt := hCc.2.2.1
  have hc15 : t 38 c ≤ 15 := by omega
  have hcc : (((t 38 c).toNat : Nat) : Int) = t 38 c := Int.toNat_of_nonneg hccnt.1
  have hce : c ≠ e := by omega
  have hbr := hCc.2.1
  obtain ⟨X, hX⟩ : ∃ X, X = py_st (py_st (py_st (py_st (py_st (pr_br s1 (32 * e + ph_pos t e k) c (t 33 y) (t 34 y)) 8 (ph_pos t e k) (32 * c + t 37 c)) 9 (s 21 0).toNat (32 * c + t 37 c)) 21 0 (s 21 0 + 1)) 18 0 (s 18 0 + 1)) 19 0 (s 19 0 + (2 + t 33 y + t 34 y)) := ⟨_, rfl⟩
  obtain ⟨Y, hY⟩ : ∃ Y, Y = py_st (py_st (pm_lay t1 y c) 55 0 (t 55 0 + 1)) 56 0 (t 56 0 + (2 + t 33 y + t 34 y)) := ⟨_, rfl⟩
  have hb2 : s1 2 c = t 37 c := by rw [q2]; exact hbr
  have x0 : ∀ q : Nat, X 0 q = if 32 * (c : Int) + t 37 c ≤ q ∧ (q : Int) < 32 * c + t 37 c + (2 + t 33 y + t 34 y) then s 0 (32 * e + ph_pos t e k + (q - (32 * (c : Int) + t 37 c).toNat)) else s 0 q := fun q => by rw [hX]; simp [py_st, pr_br, hb2, q0]
  have x1 : ∀ q : Nat, X 1 q = if 32 * (c : Int) + t1 37 c + 2 ≤ q ∧ (q : Int) < 32 * c + t1 37 c + 2 + t1 33 y then 1 else s1 1 q := fun q => by rw [hX]; simp [py_st, pr_br, hb2, r37, r33]
  have x2 : ∀ d : Nat, X 2 d = if d = c then t1 37 c + (2 + t1 33 y + t1 34 y) else s1 2 d := fun d => by rw [hX]; simp [py_st, pr_br, hb2, r37, r33, r34]
  have x3 : ∀ d : Nat, X 3 d = if d = c then t1 38 c + 1 else s1 3 d := fun d => by rw [hX]; simp [py_st, pr_br, q3, hCc.1, r38]
  have x4 : ∀ d : Nat, X 4 d = if d = c then 32 * (c : Int) + t1 37 c else s1 4 d := fun d => by rw [hX]; simp [py_st, pr_br, hb2, r37]
  have x8 : ∀ i : Nat, X 8 i = if i = ph_pos t e k then 32 * (c : Int) + t 37 c else s 8 i := fun i => by
    rw [hX]; simp [py_st, pr_br]; rw [p7 8 i (by decide) (by decide) (by decide)]
  have x9 : ∀ i : Nat, X 9 i = if i = (s 21 0).toNat then 32 * (c : Int) + t 37 c else s 9 i := fun i => by
    rw [hX]; simp [py_st, pr_br]; rw [p7 9 i (by decide) (by decide) (by decide)]
  have x21 : X 21 0 = s 21 0 + 1 := by rw [hX]; simp [py_st]
  have x18 : X 18 0 = s 18 0 + 1 := by rw [hX]; simp [py_st]
  have x19 : X 19 0 = s 19 0 + (2 + t 33 y + t 34 y) := by rw [hX]; simp [py_st]
  have xg : ∀ g i, 4 < g → g ≠ 8 → g ≠ 9 → g ≠ 18 → g ≠ 19 → g ≠ 21 → X g i = s1 g i := fun g i h1 h2 h3 h4 h5 h6 => by
    rw [hX]
    simp only [py_st, pr_br, h2, h3, h4, h5, h6, if_false]
    rw [if_neg (by omega), if_neg (by omega), if_neg (by omega), if_neg (by omega), if_neg (by omega)]
  have y31 : ∀ x, Y 31 x = if x = y then (c : Int) else t 31 x := fun x => by rw [hY]; simp [py_st, pm_lay, r31]
  have y32 : ∀ x, Y 32 x = if x = y then t 37 c else t 32 x := fun x => by rw [hY]; simp [py_st, pm_lay, r32, r37]
  have y37 : ∀ d, Y 37 d = if d = c then t 37 c + (2 + t 33 y + t 34 y) else t 37 d := fun d => by rw [hY]; simp [py_st, pm_lay, r37, r33, r34]
  have y38 : ∀ d, Y 38 d = if d = c then t 38 c + 1 else t 38 d := fun d => by rw [hY]; simp [py_st, pm_lay, r38]
  have y39 : ∀ i, Y 39 i = if i = 16 * c + (t 38 c).toNat then (y : Int) else t 39 i := fun i => by rw [hY]; simp [py_st, pm_lay, r38, r39]
  have y55 : Y 55 0 = t 55 0 + 1 := by rw [hY]; simp [py_st]
  have y56 : Y 56 0 = t 56 0 + (2 + t 33 y + t 34 y) := by rw [hY]; simp [py_st]
  have yg : ∀ g i, g ≠ 31 → g ≠ 32 → g ≠ 37 → g ≠ 38 → g ≠ 39 → g ≠ 55 → g ≠ 56 → Y g i = t1 g i := fun g i h1 h2 h3 h4 h5 h6 h7 => by
    rw [hY]; simp [py_st, pm_lay, h1, h2, h3, h4, h5, h6, h7]
  have ylay : ∀ g i, 30 ≤ g → g ≤ 39 → Y g i = pm_lay t1 y c g i := fun g i h1 h2 => by
    rw [hY, py_sn (by omega), py_sn (by omega)]
  have esz : ∀ z, ph_sz Y z = ph_sz t z := fun z => by unfold ph_sz; rw [yg 33 z (by decide) (by decide) (by decide) (by decide) (by decide) (by decide) (by decide), yg 34 z (by decide) (by decide) (by decide) (by decide) (by decide) (by decide) (by decide), r33, r34]
  have ex : ∀ d m : Nat, d < 40 → (m : Int) < t 38 d → ph_x Y d m = ph_x t d m := fun d m hd hm => by
    unfold ph_x
    have hd3 := (a2.1 d hd).2.2.1
    rw [y39, if_neg]
    intro e9
    have e10 : d = c := by omega
    subst e10
    omega
  have exn : ph_x Y c (t 38 c).toNat = y := by unfold ph_x; rw [y39, if_pos rfl]; simp
  have ep : ∀ d m : Nat, d < 40 → (m : Int) ≤ t 38 d → ph_pos Y d m = ph_pos t d m := fun d m hd hm => ph_pos_congr m (fun i hi => ⟨ex d i hd (by omega), esz _⟩)
  have hTH : ph_TH X Y (ph_E t0) := by
    have h1 := ph_TH.lay (s' := X) (x := y) (c := c) (a2.congr (s' := s1) (t' := t1) (fun g i hg => p7 g i (by omega) (by omega) (by omega)) (fun d _ hz => by
        by_cases e9 : s 6 d = 0
        · exact e9
        · rw [p10 d e9] at hz; exact absurd hz e9) (fun g i _ _ _ _ => p8 g i (by omega) (by omega))) hy p1 (by rw [r33]; exact w2) (by rw [r34]; exact w3) (by rw [r37, r33, r34]; exact p3) (fun q hq => by
        rw [r37, r33, r34] at hq
        rw [x0, if_neg hq, q0]) x1 x2 x3 x4 (fun d _ hz => by
        rw [xg 6 d (by decide) (by decide) (by decide) (by decide) (by decide) (by decide)] at hz
        exact ⟨fun e9 => p9 (by rw [← e9]; exact hz), hz⟩) (by
        rw [x0, r37, if_pos (by omega), r30, ← w4]
        congr 1; omega) (by
        rw [x0, r37, if_pos (by omega), r33, r34, ← w5]
        congr 1; omega) (fun i hi => by
        rw [r33] at hi
        rw [x0, r37, if_pos (by omega), r35, ← (w6 i hi).1]
        congr 1; omega) (fun i hi => by
        rw [r34] at hi
        rw [x0, r37, r33, if_pos (by omega), r36, ← w7 i hi]
        congr 1; omega)
    exact h1.congr (fun g i _ => rfl) (fun _ _ hz => hz) (fun g i h1 h2 _ _ => ylay g i h1 h2)
  have hyne : Y 31 y ≠ e := by rw [y31, if_pos rfl]; omega
  have yo : ∀ x : Nat, x ≠ y → Y 31 x = t 31 x ∧ Y 32 x = t 32 x := fun x hx => by rw [y31, y32, if_neg hx, if_neg hx]; exact ⟨rfl, rfl⟩
  have y38e : Y 38 e = t 38 e := by rw [y38, if_neg (fun e9 => hce e9.symm)]
  have hexe : ∀ m : Nat, (m : Int) < t 38 e → ph_x Y e m = ph_x t e m := fun m hm => ex e m a5.2.2.1 hm
  have y30 : ∀ i, Y 30 i = t 30 i := fun i => by rw [yg 30 i (by decide) (by decide) (by decide) (by decide) (by decide) (by decide) (by decide), r30]
  have y33 : ∀ i, Y 33 i = t 33 i := fun i => by rw [yg 33 i (by decide) (by decide) (by decide) (by decide) (by decide) (by decide) (by decide), r33]
  have y35 : ∀ i, Y 35 i = t 35 i := fun i => by rw [yg 35 i (by decide) (by decide) (by decide) (by decide) (by decide) (by decide) (by decide), r35]
  have y43 : ∀ i, Y 43 i = t 43 i := fun i => by rw [yg 43 i (by decide) (by decide) (by decide) (by decide) (by decide) (by decide) (by decide), p8 43 i (by decide) (by decide)]
  have hMH : ph_MH Y e := by
    have e58 : Y 58 0 = t 58 0 := by rw [yg 58 0 (by decide) (by decide) (by decide) (by decide) (by decide) (by decide) (by decide), p8 58 0 (by decide) (by decide)]
    unfold ph_MH
    simp only [e58, y30, y33, y35, y43, ph_PV]
    refine ⟨a3.1, a3.2.1, fun x hx hlx => ?_, fun d m hd hde hm => ?_, a3.2.2.2.2.1, a3.2.2.2.2.2⟩
    · by_cases e9 : x = y
      · subst e9
        exact ⟨c, (t 38 c).toNat, p1, by rw [y38, if_pos rfl, hcc]; exact Int.lt_add_one_of_le (Int.le_refl _), exn, by rw [y31, if_pos rfl], by rw [y32, if_pos rfl, ep c _ p1 (Int.le_of_eq hcc)]; exact hcpos⟩
      · obtain ⟨d, m, hd, hm, hm1, hm2, hm3⟩ := a3.2.2.1 x hx hlx
        refine ⟨d, m, hd, ?_, by rw [ex d m hd hm]; exact hm1, by rw [(yo x e9).1]; exact hm2, by rw [(yo x e9).2, ep d m hd (by omega)]; exact hm3⟩
        rw [y38]
        split
        · rename_i e10; subst e10; omega
        · exact hm
    · by_cases e9 : d = c ∧ m = (t 38 c).toNat
      · obtain ⟨e10, e11⟩ := e9
        subst e10; subst e11
        rw [exn, y31, y32, if_pos rfl, if_pos rfl, ep d _ hd (by omega)]
        exact ⟨hl, rfl, hcpos⟩
      · have hm2 : (m : Int) < t 38 d := by
          rw [y38] at hm
          by_cases e10 : d = c
          · subst e10; rw [if_pos rfl] at hm; omega
          · rwa [if_neg e10] at hm
        obtain ⟨g1, g2, g3⟩ := a3.2.2.2.1 d m hd hde hm2
        have hne : ph_x t d m ≠ y := fun e10 => by rw [e10] at g2; omega
        rw [ex d m hd hm2, ep d m hd (by omega), (yo _ hne).1, (yo _ hne).2]
        exact ⟨g1, g2, g3⟩
  refine ⟨X, Y, fun K hK => ?_, fun K hK => ?_, ⟨?_, hTH, hMH, ?_, ?_, ?_, ⟨?_, ?_⟩, ?_, ?_, ?_, ?_, ?_, ?_, ?_⟩, hyne, yo, ?_, x21, ⟨by omega, by omega⟩, fun i => ?_, fun i => ?_, ?_, fun i => ?_⟩
  · unfold eX3_moveOne
    try simp only [py_O_ap, py_l0, py_l1, py_l2, py_l3, py_l4, py_l5, py_l6, py_l7, py_l8, py_l9, py_l12, py_l16, py_l32, py_l40, py_l100, py_l640, py_l1280, py_neg, py_add, py_sub, py_mul, py_stO]
    refine h.still hPV (fun _ _ => ?_) (fun c => absurd ⟨by omega, by simpa using hin⟩ c)
    refine py_ieq (fun c => absurd c (by omega)) (fun _ => ?_)
    try simp only [py_O_ap, py_l0, py_l1, py_l2, py_l3, py_l4, py_l5, py_l6, py_l7, py_l8, py_l9, py_l12, py_l16, py_l32, py_l40, py_l100, py_l640, py_l1280, py_neg, py_add, py_sub, py_mul, py_stO]
    refine py_ilt (fun _ => ?_) (fun c => absurd c (by omega))
    rw [hEy]
    refine pr_size (r := t 33 y) (n := t 34 y) (by omega) (by omega) (by rw [show (((32 * e + ph_pos t e k : Nat) : Int) + 1).toNat = 32 * e + ph_pos t e k + 1 by omega]; exact w5) (by omega) (by omega) (by omega) (by omega) ?_
    refine p4 _ ?_
    refine pr_bring (r := t 33 y) (n := t 34 y) p1 (by rw [q2]; omega) (by omega) (by omega) (by omega) (by omega) (by rw [q2]; omega) (by omega) (by rw [q0]; exact w5) (by rw [q2]; omega) ?_
    rw [q2, hbr]
    refine py_ieq (fun c => absurd c (by omega)) (fun _ => ?_)
    rw [py_div (by omega) (by omega)]
    try simp only [py_O_ap, py_l0, py_l1, py_l2, py_l3, py_l4, py_l5, py_l6, py_l7, py_l8, py_l9, py_l12, py_l16, py_l32, py_l40, py_l100, py_l640, py_l1280, py_neg, py_add, py_sub, py_mul, py_stO]
    have e1 : ((32 * e + ph_pos t e k : Nat) : Int) - ((32 * e + ph_pos t e k : Nat) : Int) / 32 * 32 = (ph_pos t e k : Nat) := by omega
    rw [e1]
    have e2 : pr_br s1 (32 * e + ph_pos t e k) c (t 33 y) (t 34 y) 21 0 = s 21 0 := by
      show s1 21 0 = s 21 0
      exact p7 21 0 (by decide) (by decide) (by decide)
    have e3 : pr_br s1 (32 * e + ph_pos t e k) c (t 33 y) (t 34 y) 18 0 = s 18 0 := by
      show s1 18 0 = s 18 0
      exact p7 18 0 (by decide) (by decide) (by decide)
    have e4 : pr_br s1 (32 * e + ph_pos t e k) c (t 33 y) (t 34 y) 19 0 = s 19 0 := by
      show s1 19 0 = s 19 0
      exact p7 19 0 (by decide) (by decide) (by decide)
    rw [e2, e3, e4]
    refine py_and (py_and ?_)
    rw [py_nat (by omega), py_nat (by omega)]
    simp only [Int.toNat_natCast]
    try simp only [py_O_ap, py_l0, py_l1, py_l2, py_l3, py_l4, py_l5, py_l6, py_l7, py_l8, py_l9, py_l12, py_l16, py_l32, py_l40, py_l100, py_l640, py_l1280, py_neg, py_add, py_sub, py_mul, py_stO]
    rw [hX] at hK
    exact hK
  · unfold eX5_move
    try simp only [py_O_ap, py_l0, py_l1, py_l2, py_l3, py_l4, py_l5, py_l6, py_l7, py_l8, py_l9, py_l12, py_l16, py_l32, py_l40, py_l100, py_l640, py_l1280, py_neg, py_add, py_sub, py_mul, py_stO]
    refine pm_wordsOf hy ?_
    refine p5 _ ?_
    refine pm_layM hy p1 (by rw [r38]; omega) ?_
    try simp only [py_O_ap, py_l0, py_l1, py_l2, py_l3, py_l4, py_l5, py_l6, py_l7, py_l8, py_l9, py_l12, py_l16, py_l32, py_l40, py_l100, py_l640, py_l1280, py_neg, py_add, py_sub, py_mul, py_stO]
    refine pm_wordsOf hy ?_
    try simp only [py_O_ap, py_l0, py_l1, py_l2, py_l3, py_l4, py_l5, py_l6, py_l7, py_l8, py_l9, py_l12, py_l16, py_l32, py_l40, py_l100, py_l640, py_l1280, py_neg, py_add, py_sub, py_mul, py_stO]
    have e1 : pm_lay t1 y c 55 0 = t 55 0 := by
      show t1 55 0 = t 55 0
      exact p8 55 0 (by decide) (by decide)
    have e2 : pm_lay t1 y c 56 0 = t 56 0 := by
      show t1 56 0 = t 56 0
      exact p8 56 0 (by decide) (by decide)
    have e3 : ∀ v, py_st (pm_lay t1 y c) 55 0 v 33 y = t 33 y := fun v => by
      rw [py_sn (by decide)]
      exact r33 y
    have e4 : ∀ v, py_st (pm_lay t1 y c) 55 0 v 34 y = t 34 y := fun v => by
      rw [py_sn (by decide)]
      exact r34 y
    rw [e1, e2, e3, e4]
    rw [hY] at hK
    exact hK
  · exact p6.congr (fun i => xg 5 i (by decide) (by decide) (by decide) (by decide) (by decide) (by decide)) (fun i => xg 6 i (by decide) (by decide) (by decide) (by decide) (by decide) (by decide)) (xg 13 0 (by decide) (by decide) (by decide) (by decide) (by decide) (by decide)) (xg 14 0 (by decide) (by decide) (by decide) (by decide) (by decide) (by decide)) (yg 50 0 (by decide) (by decide) (by decide) (by decide) (by decide) (by decide) (by decide)) (yg 57 0 (by decide) (by decide) (by decide) (by decide) (by decide) (by decide) (by decide)) (fun i => yg 40 i (by decide) (by decide) (by decide) (by decide) (by decide) (by decide) (by decide)) (fun i => yg 41 i (by decide) (by decide) (by decide) (by decide) (by decide) (by decide) (by decide)) (fun i => yg 42 i (by decide) (by decide) (by decide) (by decide) (by decide) (by decide) (by decide))
  · intro r hr
    rw [xg 7 r (by decide) (by decide) (by decide) (by decide) (by decide) (by decide), p7 7 r (by decide) (by decide) (by decide), y43]
    exact a4 r hr
  · rw [xg 20 0 (by decide) (by decide) (by decide) (by decide) (by decide) (by decide), p7 20 0 (by decide) (by decide) (by decide), yg 59 0 (by decide) (by decide) (by decide) (by decide) (by decide) (by decide) (by decide), p8 59 0 (by decide) (by decide), yg 42 0 (by decide) (by decide) (by decide) (by decide) (by decide) (by decide) (by decide), p12.2.1, yg 50 0 (by decide) (by decide) (by decide) (by decide) (by decide) (by decide) (by decide), p8 50 0 (by decide) (by decide)]
    exact a5
  · rw [x18, x19, y55, y56, a6.1, a6.2]
    exact ⟨rfl, rfl⟩
  · intro g i hg
    rw [xg g i (by omega) (by omega) (by omega) (by omega) (by omega) (by omega), p7 g i (by omega) (by omega) (by omega)]
    exact a7.1 g i hg
  · intro g i hg
    rw [yg g i (by omega) (by omega) (by omega) (by omega) (by omega) (by omega) (by omega), p8 g i (by omega) (by omega)]
    exact a7.2 g i hg
  · refine ⟨by rw [y38e]; exact a8.1, by rw [y37, if_neg (fun e9 => hce e9.symm)]; exact a8.2.1, fun m hm => ?_⟩
    rw [y39, if_neg (by omega)]
    exact a8.2.2 m hm
  · intro x hx hlx
    rw [y30] at hlx
    obtain ⟨g1, g2, g3, g4⟩ := a9 x hx hlx
    refine ⟨g1, g2, fun e9 => ?_, fun e9 => ?_⟩
    · have hne : x ≠ y := fun e10 => e9 (by rw [e10]; exact ht0)
      rw [(yo x hne).1, (yo x hne).2]
      exact g3 e9
    · obtain ⟨m, hm, hm2⟩ := g4 e9
      exact ⟨m, by rw [y38e]; exact hm, by rw [hexe m hm]; exact hm2⟩
  · intro m hm
    rw [y38e] at hm
    obtain ⟨g1, g2, g3, g4⟩ := a10 m hm
    rw [hexe m hm, ep e m a5.2.2.1 (by omega), y30]
    refine ⟨g1, g2, g3, ?_⟩
    by_cases e9 : m = k
    · subst e9
      rw [hky]
      refine Or.inr ⟨hyne, ?_⟩
      rw [x8, if_pos rfl, y31, y32, if_pos rfl, if_pos rfl]
    · obtain ⟨i1, i2⟩ := h.inj hm hk e9
      rw [hky] at i1
      rw [(yo _ i1).1, (yo _ i1).2, x8, if_neg i2]
      exact g4
  · rw [x21, y38e, a11]
    have := py_cnt_up (P := fun m => decide (t 31 (ph_x t e m) ≠ e)) (Q := fun m => decide (Y 31 (ph_x Y e m) ≠ e)) (n := (t 38 e).toNat) (k := k) (by omega) (by rw [hky, hin]; simp) (by rw [hexe k hk, hky]; simpa using hyne) (fun m hm hne => by
      obtain ⟨i1, i2⟩ := h.inj (k := m) (by omega) hk hne
      rw [hky] at i1
      rw [hexe m (by omega), (yo _ i1).1])
    unfold ph_mc
    omega
  · rw [y38e, xg 13 0 (by decide) (by decide) (by decide) (by decide) (by decide) (by decide)]
    have hup := ph_mw_up (t := t) (t' := fun g i => if g = 39 then t 39 i else Y g i) (e := e) (k := k) (fun m => rfl) (fun z => by
      have := esz z
      unfold ph_sz at this ⊢
      simpa using this) (by rw [hky]; exact hin) (by rw [hky]; simpa using hyne) (fun m hm hne => by
      rw [hky] at hne
      simpa using (yo _ hne).1) (t 38 e).toNat (fun m hm hne => (h.inj (k := m) (by omega) hk hne).1)
    rw [hky, if_pos (by omega)] at hup
    have hmw2 : ∀ n : Nat, (n : Int) ≤ t 38 e → ph_mw Y e n = ph_mw (fun g i => if g = 39 then t 39 i else Y g i) e n := by
      intro n
      induction n with
      | zero => intro _; rfl
      | succ n ih =>
        intro hn
        have e9 : ph_x (fun g i => if g = 39 then t 39 i else Y g i) e n = ph_x t e n := by simp [ph_x]
        have e10 : ∀ z, ph_sz (fun g i => if g = 39 then t 39 i else Y g i) z = ph_sz Y z := fun z => by simp [ph_sz]
        simp only [ph_mw]
        rw [ih (by omega), hexe n (by omega), e9, e10]
        simp
    rw [hmw2 _ (by omega), hup]
    have x6 : ∀ f, X 6 f = s1 6 f := fun f => xg 6 f (by decide) (by decide) (by decide) (by decide) (by decide) (by decide)
    by_cases e9 : s1 13 0 < 40
    · exact Or.inl e9
    · refine Or.inr ?_
      rcases a12 with e10 | ⟨f, g1, g2, g3, g4⟩
      · rcases p11 e10 with e11 | e11
        · exact absurd e11 e9
        · refine ⟨c, p1, by rw [x6]; exact p9, hce, ?_⟩
          rw [y37, if_pos rfl]; omega
      · refine ⟨f, g1, by rw [x6, p10 f g2]; exact g2, g3, ?_⟩
        rw [y37]
        split
        · rename_i e11; subst e11; omega
        · omega
  · rw [yg 50 0 (by decide) (by decide) (by decide) (by decide) (by decide) (by decide) (by decide), p8 50 0 (by decide) (by decide), yg 57 0 (by decide) (by decide) (by decide) (by decide) (by decide) (by decide) (by decide), p8 57 0 (by decide) (by decide)]
    exact a13.1
  · intro c9 h9
    rw [xg 6 c9 (by decide) (by decide) (by decide) (by decide) (by decide) (by decide), p10 c9 (by rw [a13.2 c9 h9]; exact h9)]
    exact a13.2 c9 h9
  · rw [xg 22 0 (by decide) (by decide) (by decide) (by decide) (by decide) (by decide), p7 22 0 (by decide) (by decide) (by decide)]
  · rw [x9, y31, y32, if_pos rfl, if_pos rfl]
    by_cases e9 : i = (s 21 0).toNat
    · rw [if_pos e9, if_pos (by omega)]
    · rw [if_neg e9, if_neg (by omega)]
  · rw [yg 44 i (by decide) (by decide) (by decide) (by decide) (by decide) (by decide) (by decide), p8 44 i (by decide) (by decide)]
  · rw [yg 50 0 (by decide) (by decide) (by decide) (by decide) (by decide) (by decide) (by decide), p8 50 0 (by decide) (by decide)]
  · rw [yg 40 i (by decide) (by decide) (by decide) (by decide) (by decide) (by decide) (by decide), p8 40 i (by decide) (by decide)]
end PMID
end
section
/-! PURE: a thing is moved, and behind it what it leads to -/
/-- what was elsewhere stays where it is -/
def ph_Mono (t t' : py_Z) (e : Nat) : Prop := (∀ x : Nat, t 31 x ≠ e → t' 31 x = t 31 x ∧ t' 32 x = t 32 x) ∧ t' 50 0 = t 50 0 ∧ ∀ i, t' 40 i = t 40 i
theorem ph_Mono.refl {t : py_Z} {e : Nat} : ph_Mono t t e := ⟨fun _ _ => ⟨rfl, rfl⟩, rfl, fun _ => rfl⟩
theorem ph_Mono.trans {t t1 t2 : py_Z} {e : Nat} (h1 : ph_Mono t t1 e) (h2 : ph_Mono t1 t2 e) : ph_Mono t t2 e := by
  refine ⟨fun x hx => ?_, h2.2.1.trans h1.2.1, fun i => (h2.2.2 i).trans (h1.2.2 i)⟩
  obtain ⟨a, b⟩ := h1.1 x hx
  obtain ⟨c, d⟩ := h2.1 x (by rw [a]; exact hx)
  exact ⟨c.trans a, d.trans b⟩
/-- what has been moved has its references followed, but for some things -/
def ph_CL (t t0 : py_Z) (e : Nat) (X : Nat → Prop) : Prop := ∀ x : Nat, x < 640 → 0 < t0 30 x → t0 31 x = e → t 31 x ≠ e → ¬ X x → ∀ i : Nat, (i : Int) < t0 33 x → t0 35 (12 * x + i) < 0 ∨ t 31 (t0 35 (12 * x + i)).toNat ≠ e
def ph_Q (s t s0 t0 : py_Z) (e m0 k n : Nat) : Prop :=
  ph_Mid s t s0 t0 e ∧ s 21 0 = m0 + n ∧ s 22 0 = m0 + k ∧ k ≤ n ∧
  (∀ i : Nat, i < n → (0 ≤ t 44 i ∧ t 44 i < 640) ∧ 0 < t0 30 (t 44 i).toNat ∧ t0 31 (t 44 i).toNat = e ∧ t 31 (t 44 i).toNat ≠ e ∧ s 9 (m0 + i) = 32 * t 31 (t 44 i).toNat + t 32 (t 44 i).toNat)
theorem ph_MH.congr {t t' : py_Z} {e : Int} (h : ph_MH t e) (ht : ∀ g i, g = 30 ∨ g = 31 ∨ g = 32 ∨ g = 33 ∨ g = 34 ∨ g = 35 ∨ g = 38 ∨ g = 39 ∨ g = 43 ∨ g = 58 → t' g i = t g i) : ph_MH t' e := by
  have t30 : ∀ i, t' 30 i = t 30 i := fun i => ht 30 i (by omega)
  have t31 : ∀ i, t' 31 i = t 31 i := fun i => ht 31 i (by omega)
  have t32 : ∀ i, t' 32 i = t 32 i := fun i => ht 32 i (by omega)
  have t33 : ∀ i, t' 33 i = t 33 i := fun i => ht 33 i (by omega)
  have t34 : ∀ i, t' 34 i = t 34 i := fun i => ht 34 i (by omega)
  have t35 : ∀ i, t' 35 i = t 35 i := fun i => ht 35 i (by omega)
  have t38 : ∀ i, t' 38 i = t 38 i := fun i => ht 38 i (by omega)
  have t43 : ∀ i, t' 43 i = t 43 i := fun i => ht 43 i (by omega)
  have t58 : ∀ i, t' 58 i = t 58 i := fun i => ht 58 i (by omega)
  have ex : ∀ c k, ph_x t' c k = ph_x t c k := fun c k => by unfold ph_x; rw [ht 39 _ (by omega)]
  have ep : ∀ c k, ph_pos t' c k = ph_pos t c k := fun c k => ph_pos_congr k (fun m _ => ⟨ex c m, by unfold ph_sz; rw [t33, t34]⟩)
  unfold ph_MH at h ⊢
  simp only [ph_PV, t30, t31, t32, t33, t35, t38, t43, t58, ex, ep] at h ⊢
  exact h
theorem ph_Mid.congr {s t s' t' s0 t0 : py_Z} {e : Nat} (h : ph_Mid s t s0 t0 e) (hs : ∀ g i, g ≠ 9 → g ≠ 22 → s' g i = s g i) (ht : ∀ g i, g ≠ 44 → t' g i = t g i) : ph_Mid s' t' s0 t0 e := by
  obtain ⟨a1, a2, a3, a4, a5, a6, a7, a8, a9, a10, a11, a12, a13⟩ := h
  have t30 : ∀ i, t' 30 i = t 30 i := fun i => ht 30 i (by omega)
  have t31 : ∀ i, t' 31 i = t 31 i := fun i => ht 31 i (by omega)
  have t32 : ∀ i, t' 32 i = t 32 i := fun i => ht 32 i (by omega)
  have t33 : ∀ i, t' 33 i = t 33 i := fun i => ht 33 i (by omega)
  have t34 : ∀ i, t' 34 i = t 34 i := fun i => ht 34 i (by omega)
  have t37 : ∀ i, t' 37 i = t 37 i := fun i => ht 37 i (by omega)
  have t38 : ∀ i, t' 38 i = t 38 i := fun i => ht 38 i (by omega)
  have t39 : ∀ i, t' 39 i = t 39 i := fun i => ht 39 i (by omega)
  have t43 : ∀ i, t' 43 i = t 43 i := fun i => ht 43 i (by omega)
  have ex : ∀ c k, ph_x t' c k = ph_x t c k := fun c k => by unfold ph_x; rw [ht 39 _ (by omega)]
  have esz : ∀ y, ph_sz t' y = ph_sz t y := fun y => by unfold ph_sz; rw [t33, t34]
  have ep : ∀ c k, ph_pos t' c k = ph_pos t c k := fun c k => ph_pos_congr k (fun m _ => ⟨ex c m, esz _⟩)
  have emc : ∀ m, ph_mc t' e m = ph_mc t e m := fun m => py_cnt_congr (fun k _ => by rw [ex, t31])
  have emw : ∀ m, ph_mw t' e m = ph_mw t e m := by
    intro m
    induction m with
    | zero => rfl
    | succ m ih => simp only [ph_mw]; rw [ih, ex, t31, esz]
  refine ⟨a1.congr (fun i => hs 5 i (by omega) (by omega)) (fun i => hs 6 i (by omega) (by omega)) (hs 13 0 (by omega) (by omega)) (hs 14 0 (by omega) (by omega)) (ht 50 0 (by omega)) (ht 57 0 (by omega)) (fun i => ht 40 i (by omega)) (fun i => ht 41 i (by omega)) (fun i => ht 42 i (by omega)), a2.congr (fun g i hg => hs g i (by omega) (by omega)) (fun c _ hz => by rw [hs 6 c (by omega) (by omega)] at hz; exact hz) (fun g i _ _ _ _ => ht g i (by omega)), a3.congr (fun g i hg => ht g i (by omega)), ?_, ?_, ?_, ⟨?_, ?_⟩, ?_, ?_, ?_, ?_, ?_, ?_, ?_⟩
  · intro r hr; rw [hs 7 r (by omega) (by omega), t43]; exact a4 r hr
  · rw [hs 20 0 (by omega) (by omega), ht 59 0 (by omega), ht 42 0 (by omega), ht 50 0 (by omega)]; exact a5
  · rw [hs 18 0 (by omega) (by omega), hs 19 0 (by omega) (by omega), ht 55 0 (by omega), ht 56 0 (by omega)]; exact a6
  · intro g i hg; rw [hs g i (by omega) (by omega)]; exact a7.1 g i hg
  · intro g i hg; rw [ht g i (by omega)]; exact a7.2 g i hg
  · rw [t38, t37]; exact ⟨a8.1, a8.2.1, fun k hk => by rw [t39]; exact a8.2.2 k hk⟩
  · intro x hx hl
    rw [t30] at hl
    have := a9 x hx hl
    simp only [t31, t32, t38, ex]; exact this
  · intro k hk
    rw [t38] at hk
    have := a10 k hk
    simp only [t30, t31, t32, ex, ep, hs 8 _ (show 8 ≠ 9 by decide) (show 8 ≠ 22 by decide)]; exact this
  · rw [hs 21 0 (by omega) (by omega), t38, emc]; exact a11
  · rw [hs 13 0 (by omega) (by omega), t38, emw]
    rcases a12 with e1 | ⟨f, g1, g2, g3, g4⟩
    · exact Or.inl e1
    · exact Or.inr ⟨f, g1, by rw [hs 6 f (by omega) (by omega)]; exact g2, g3, by rw [t37]; exact g4⟩
  · rw [ht 50 0 (by omega), ht 57 0 (by omega)]; exact a13.1
  · intro c hc; rw [hs 6 c (by omega) (by omega)]; exact a13.2 c hc
section PMA
variable {s t s0 t0 : py_Z} {e : Nat}
theorem ph_Mid.no (h : ph_Mid s t s0 t0 e) {y : Int} (hy : ph_PV t y) (hno : ¬ (0 ≤ y ∧ t 31 y.toNat = e)) {v : Int32} {K : ty_S → Prop} (hK : K (py_O s)) : eX3_moveOne (py_O s) (py_o (ph_E t0 y)) v K := by
  unfold eX3_moveOne
  try simp only [py_O_ap, py_l0, py_l1, py_l2, py_l3, py_l4, py_l5, py_l6, py_l7, py_l8, py_l9, py_l12, py_l16, py_l32, py_l40, py_l100, py_l640, py_l1280, py_neg, py_add, py_sub, py_mul, py_stO]
  refine h.still hy (fun a b => absurd ⟨a, b⟩ hno) (fun _ => ?_)
  exact py_ieq (fun _ => hK) (fun c => absurd rfl c)
theorem ph_Mid.f (h : ph_Mid s t s0 t0 e) (g i : Nat) (hg : g = 30 ∨ (33 ≤ g ∧ g ≤ 36) ∨ g = 43 ∨ (45 ≤ g ∧ g ≤ 48) ∨ (51 ≤ g ∧ g ≤ 54) ∨ 58 ≤ g) : t g i = t0 g i := h.2.2.2.2.2.2.1.2 g i hg
/-- where a live thing lies now -/
theorem ph_Mid.at (h : ph_Mid s t s0 t0 e) {x : Nat} (hx : x < 640) (hl : 0 < t0 30 x) : ∃ c k : Nat, c < 40 ∧ (k : Int) < t 38 c ∧ ph_x t c k = x ∧ t 31 x = c ∧ t 32 x = ph_pos t c k ∧ s 6 c ≠ 0 := by
  obtain ⟨c, k, hc, hk, h1, h2, h3⟩ := h.2.2.1.2.2.1 x hx (by rw [h.f 30 x (Or.inl rfl)]; exact hl)
  refine ⟨c, k, hc, hk, h1, h2, h3, fun e1 => ?_⟩
  have := (h.2.1.1 c hc).2.2.2.2.2.1 e1
  omega
theorem ph_inner (m0 k : Nat) : ∀ (d i n : Nat) (s t : py_Z), ph_Q s t s0 t0 e m0 k n → k < n → (i : Int) + d = t0 33 (t 44 k).toNat →
    ph_CL t t0 e (fun x => ∃ i : Nat, k ≤ i ∧ i < n ∧ (t 44 i).toNat = x) → (∀ a : Nat, a < i → t0 35 (12 * (t 44 k).toNat + a) < 0 ∨ t 31 (t0 35 (12 * (t 44 k).toNat + a)).toNat ≠ e) →
    ∃ (s' t' : py_Z) (n' : Nat),
      (∀ (K : ty_S → Prop) (R : ty_S → Prop), R (py_O (py_st s' 22 0 (s' 22 0 + 1))) → ∃ n9, lX3_moveWithOthers_58 K R n9 (py_o (s 9 (m0 + k))) (py_o (s 9 (m0 + k) + 2 + t0 33 (t 44 k).toNat)) (py_o (s 9 (m0 + k) + 2 + i)) (py_O s)) ∧
      (∀ (K : ty_S → Prop) (R : Int32 → Int32 → ty_S → Prop), R (py_o n') (py_o (k + 1)) (py_O t') → ∃ n9, lX5_moveAll_36 K R n9 (py_o n) (py_o k) (py_o (t 44 k).toNat) (py_o i) (py_O t)) ∧
      ph_Q s' t' s0 t0 e m0 k n' ∧ n ≤ n' ∧ ph_Mono t t' e ∧ (∀ a : Nat, a < n → t' 44 a = t 44 a) ∧
      ph_CL t' t0 e (fun x => ∃ i : Nat, k ≤ i ∧ i < n' ∧ (t' 44 i).toNat = x) ∧ (∀ a : Nat, (a : Int) < t0 33 (t 44 k).toNat → t0 35 (12 * (t 44 k).toNat + a) < 0 ∨ t' 31 (t0 35 (12 * (t 44 k).toNat + a)).toNat ≠ e) := by
  intro d
  induction d with
  | zero =>
    intro i n s t hQ hkn hi hCL hfo
    obtain ⟨hM, q1, q2, q3, q4⟩ := id hQ
    obtain ⟨z1, z2, z3, z4, z5⟩ := q4 k hkn
    obtain ⟨c, m, hc, hm, hm1, hm2, hm3, hm4⟩ := hM.at (x := (t 44 k).toNat) (by omega) z2
    obtain ⟨f1, f2, f3, f4⟩ := hM.2.1.fit hc hm
    obtain ⟨w1, w2, w3, w4⟩ := hM.2.1.2.1 c m hc hm
    rw [hm1] at w2 w3
    have g33 := hM.f 33 (t 44 k).toNat (by omega)
    refine ⟨s, t, n, fun K R hR => ⟨1, ?_⟩, fun K R hR => ⟨1, ?_⟩, hQ, Nat.le_refl _, ph_Mono.refl, fun _ _ => rfl, hCL, fun a ha => hfo a (by omega)⟩
    · unfold lX3_moveWithOthers_58
      try simp only [py_O_ap, py_l0, py_l1, py_l2, py_l3, py_l4, py_l5, py_l6, py_l7, py_l8, py_l9, py_l12, py_l16, py_l32, py_l40, py_l100, py_l640, py_l1280, py_neg, py_add, py_sub, py_mul, py_stO]
      exact py_ile (fun _ => hR) (fun c => absurd c (by omega))
    · unfold lX5_moveAll_36
      try simp only [py_O_ap, py_l0, py_l1, py_l2, py_l3, py_l4, py_l5, py_l6, py_l7, py_l8, py_l9, py_l12, py_l16, py_l32, py_l40, py_l100, py_l640, py_l1280, py_neg, py_add, py_sub, py_mul, py_stO]
      refine py_and ?_
      rw [py_nat (by omega)]
      simp only [Int.toNat_natCast]
      rw [g33]
      exact py_ile (fun _ => hR) (fun c => absurd c (by omega))
  | succ d ih =>
    intro i n s t hQ hkn hi hCL hfo
    obtain ⟨hM, q1, q2, q3, q4⟩ := id hQ
    obtain ⟨z1, z2, z3, z4, z5⟩ := q4 k hkn
    obtain ⟨c, m, hc, hm, hm1, hm2, hm3, hm4⟩ := hM.at (x := (t 44 k).toNat) (by omega) z2
    obtain ⟨f1, f2, f3, f4⟩ := hM.2.1.fit hc hm
    obtain ⟨w1, w2, w3, w4, w5, w6, w7⟩ := hM.2.1.2.1 c m hc hm
    rw [hm1] at w2 w3 w4 w5 w6 w7 f1 f4
    have g33 := hM.f 33 (t 44 k).toNat (by omega)
    have g35 := hM.f 35 (12 * (t 44 k).toNat + i) (by omega)
    have hxl : 0 < t 30 (t 44 k).toNat := by rw [hM.f 30 _ (Or.inl rfl)]; exact z2
    have hPV : ph_PV t (t0 35 (12 * (t 44 k).toNat + i)) := by
      have := hM.2.2.1.2.2.2.2.2 (t 44 k).toNat (by omega) hxl i (by omega)
      rwa [g35] at this
    have hword : s 0 (32 * c + ph_pos t c m + 2 + i) = ph_E t0 (t0 35 (12 * (t 44 k).toNat + i)) := by
      rw [(w6 i (by omega)).1, g35]
    have hfrom : s 9 (m0 + k) = ((32 * c + ph_pos t c m : Nat) : Int) := by rw [z5, hm2, hm3]; omega
    have he1 : (s 9 (m0 + k) + 2 + i).toNat = 32 * c + ph_pos t c m + 2 + i := by omega
    have he2 : ((12 : Int) * (t 44 k).toNat + i).toNat = 12 * (t 44 k).toNat + i := by omega
    have hEb := hM.E hPV
    have h6b := hM.1.six_b hc
    -- what both do up to the move
    have hcls : ∀ (K : ty_S → Prop) (R : ty_S → Prop), (∃ n9, eX3_moveOne (py_O s) (py_o (ph_E t0 (t0 35 (12 * (t 44 k).toNat + i)))) (py_o (s 6 c)) (fun S6 => lX3_moveWithOthers_58 K R n9 (py_o (s 9 (m0 + k))) (py_o (s 9 (m0 + k) + 2 + t0 33 (t 44 k).toNat)) (py_o (s 9 (m0 + k) + 2 + (i + 1 : Nat))) S6)) → ∃ n9, lX3_moveWithOthers_58 K R n9 (py_o (s 9 (m0 + k))) (py_o (s 9 (m0 + k) + 2 + t0 33 (t 44 k).toNat)) (py_o (s 9 (m0 + k) + 2 + i)) (py_O s) := fun K R ⟨n9, hn9⟩ => by
      refine ⟨n9 + 1, ?_⟩
      unfold lX3_moveWithOthers_58
      try simp only [py_O_ap, py_l0, py_l1, py_l2, py_l3, py_l4, py_l5, py_l6, py_l7, py_l8, py_l9, py_l12, py_l16, py_l32, py_l40, py_l100, py_l640, py_l1280, py_neg, py_add, py_sub, py_mul, py_stO]
      refine py_ile (fun c => absurd c (by omega)) (fun _ => ?_)
      refine pr_at (fun _ _ => ?_) (fun c => absurd c (by omega))
      rw [he1, hword]
      refine pr_carOf (fun _ _ => ?_) (fun c => absurd c (by omega))
      rw [show s 9 (m0 + k) / 32 = c by omega]
      refine pr_trainOf (fun _ _ => ?_) (fun c => absurd c (by omega))
      simp only [Int.toNat_natCast]
      rw [show s 9 (m0 + k) + 2 + ((i + 1 : Nat) : Int) = s 9 (m0 + k) + 2 + i + 1 by omega] at hn9
      exact hn9
    by_cases hin : 0 ≤ t0 35 (12 * (t 44 k).toNat + i) ∧ t 31 (t0 35 (12 * (t 44 k).toNat + i)).toNat = e
    · -- it is moved
      obtain ⟨y1, y2, y3, y4⟩ := (hEb.resolve_left (by omega))
      have y5 := y4.1
      obtain ⟨j, kk, hj, hkk, j1, j2, j3, j4, j5⟩ := (hM.1.six hc).resolve_left hm4
      have hyc : t0 35 (12 * (t 44 k).toNat + i) = ((t0 35 (12 * (t 44 k).toNat + i)).toNat : Nat) := by omega
      obtain ⟨s1, t1, p1, p2, p3, p4, p5, p6, p7, p8, p9, p10, p11⟩ := hM.move (y := (t0 35 (12 * (t 44 k).toNat + i)).toNat) (by omega) y3 hin.2 hj
      have hMo : ph_Mono t t1 e := ⟨fun x hx => p5 x (fun e9 => hx (by rw [e9]; exact hin.2)), p11.1, p11.2⟩
      generalize hy : (t0 35 (12 * (t 44 k).toNat + i)).toNat = y at *
      have h44 : ∀ a : Nat, py_st t1 44 n y 44 a = if a = n then (y : Int) else t 44 a := fun a => by rw [py_ss, p10]
      have h31 : ∀ a, py_st t1 44 n y 31 a = t1 31 a := fun a => py_sn (by decide)
      have h32 : ∀ a, py_st t1 44 n y 32 a = t1 32 a := fun a => py_sn (by decide)
      have hyl : 0 < t0 30 y := by rw [← hM.f 30 _ (Or.inl rfl)]; exact y3
      have hy0 : t0 31 y = e := by
        by_cases e9 : t0 31 y = e
        · exact e9
        · have := (hM.2.2.2.2.2.2.2.2.1 y (by omega) y3).2.2.1 e9
          exact absurd (this.1.symm.trans hin.2) e9
      have hmv : ∀ x : Nat, t 31 x ≠ e → t1 31 x ≠ e := fun x hx => by rw [(hMo.1 x hx).1]; exact hx
      have hQ1 : ph_Q s1 (py_st t1 44 n y) s0 t0 e m0 k (n + 1) := by
        refine ⟨p3.congr (fun g i _ _ => rfl) (fun g i hg => py_sn hg), by omega, by omega, by omega, fun a ha => ?_⟩
        rw [h44, h31, h32]
        by_cases e9 : a = n
        · subst e9
          rw [if_pos rfl]
          simp only [Int.toNat_natCast]
          refine ⟨by omega, hyl, hy0, p4, ?_⟩
          rw [p9, if_pos (by omega)]
        · rw [if_neg e9]
          obtain ⟨b1, b2, b3, b4, b5⟩ := q4 a (by omega)
          refine ⟨b1, b2, b3, hmv _ b4, ?_⟩
          rw [p9, if_neg (by omega), (hMo.1 _ b4).1, (hMo.1 _ b4).2]
          exact b5
      have hk44 : py_st t1 44 n y 44 k = t 44 k := by rw [h44, if_neg (by omega)]
      obtain ⟨s', t', n', o1, o2, o3, o4, o5, o6, o7, o8⟩ := ih (i + 1) (n + 1) s1 (py_st t1 44 n y) hQ1 (by omega) (by
        rw [hk44]; omega) (by
        intro x hx hl h0e hme hX a ha
        rw [h31] at hme ⊢
        have hxn : x ≠ y := fun e9 => hX ⟨n, by omega, by omega, by rw [h44, if_pos rfl]; simpa using e9.symm⟩
        have h9 : t 31 x ≠ e := by rw [← (p5 x hxn).1]; exact hme
        rcases hCL x hx hl h0e h9 (fun ⟨b, hb1, hb2, hb3⟩ => hX ⟨b, hb1, by omega, by rw [h44, if_neg (by omega)]; exact hb3⟩) a ha with e10 | e10
        · exact Or.inl e10
        · exact Or.inr (hmv _ e10)) (by
        intro a ha
        rw [hk44, h31]
        by_cases e9 : a = i
        · subst e9
          rw [hy]; exact Or.inr p4
        · rcases hfo a (by omega) with e10 | e10
          · exact Or.inl e10
          · exact Or.inr (hmv _ e10))
      have hMo2 : ph_Mono t (py_st t1 44 n y) e := ⟨fun x hx => by rw [h31, h32]; exact hMo.1 x hx, by rw [py_sn (by decide)]; exact hMo.2.1, fun a => by rw [py_sn (by decide)]; exact hMo.2.2 a⟩
      refine ⟨s', t', n', fun K R hR => hcls K R ?_, fun K R hR => ?_, o3, by omega, hMo2.trans o5, fun a ha => ?_, o7, fun a ha => ?_⟩
      · obtain ⟨n9, hn9⟩ := o1 K R hR
        refine ⟨n9, ?_⟩
        rw [j2, hyc]
        refine p1 _ ?_
        rw [hk44, p9, if_neg (by omega)] at hn9
        exact hn9
      · rw [hk44] at o2
        obtain ⟨n9, hn9⟩ := o2 K R hR
        refine ⟨n9 + 1, ?_⟩
        unfold lX5_moveAll_36
        try simp only [py_O_ap, py_l0, py_l1, py_l2, py_l3, py_l4, py_l5, py_l6, py_l7, py_l8, py_l9, py_l12, py_l16, py_l32, py_l40, py_l100, py_l640, py_l1280, py_neg, py_add, py_sub, py_mul, py_stO]
        refine py_and ?_
        rw [py_nat (by omega), py_nat (by omega), he2]
        simp only [Int.toNat_natCast]
        rw [g33, g35]
        refine py_ile (fun c => absurd c (by omega)) (fun _ => py_and ?_)
        refine hM.inCar hPV (fun _ _ => ?_) (fun a => absurd (by rw [hy]; exact hin) a)
        refine py_ieq (fun c => absurd c (by omega)) (fun _ => py_and ?_)
        try simp only [py_O_ap, py_l0, py_l1, py_l2, py_l3, py_l4, py_l5, py_l6, py_l7, py_l8, py_l9, py_l12, py_l16, py_l32, py_l40, py_l100, py_l640, py_l1280, py_neg, py_add, py_sub, py_mul, py_stO]
        rw [hm2]
        have hj5 := hM.1.2.2.2.2.1
        refine pm_trainOf hM.1 hc (fun j8 hj8 e9 => ?_) (fun e9 => absurd e9 hm4)
        have e10 : j8 = j := hM.1.num hj8 hj (by rw [← e9, j2])
        subst e10
        rw [hyc]
        refine p2 _ ?_
        have hc16 := (hM.2.1.1 e hM.2.2.2.2.1.2.2.1).2.2.1
        have hn16 : (m0 + n : Int) < 16 := by omega
        refine py_and ?_
        rw [py_nat (by omega)]
        simp only [Int.toNat_natCast]
        try simp only [py_O_ap, py_l0, py_l1, py_l2, py_l3, py_l4, py_l5, py_l6, py_l7, py_l8, py_l9, py_l12, py_l16, py_l32, py_l40, py_l100, py_l640, py_l1280, py_neg, py_add, py_sub, py_mul, py_stO]
        exact hn9
      · rw [o6 a (by omega), h44, if_neg (by omega)]
      · have := o8 a (by rw [hk44]; exact ha)
        rwa [hk44] at this
    · -- it is not there any more
      obtain ⟨s', t', n', o1, o2, o3, o4, o5, o6, o7, o8⟩ := ih (i + 1) n s t hQ hkn (by omega) hCL (fun a ha => by
        by_cases e9 : a = i
        · subst e9
          by_cases e10 : t0 35 (12 * (t 44 k).toNat + a) < 0
          · exact Or.inl e10
          · exact Or.inr (fun e11 => hin ⟨by omega, e11⟩)
        · exact hfo a (by omega))
      refine ⟨s', t', n', fun K R hR => hcls K R ?_, fun K R hR => ?_, o3, o4, o5, o6, o7, o8⟩
      · obtain ⟨n9, hn9⟩ := o1 K R hR
        exact ⟨n9, hM.no hPV hin hn9⟩
      · obtain ⟨n9, hn9⟩ := o2 K R hR
        refine ⟨n9 + 1, ?_⟩
        unfold lX5_moveAll_36
        try simp only [py_O_ap, py_l0, py_l1, py_l2, py_l3, py_l4, py_l5, py_l6, py_l7, py_l8, py_l9, py_l12, py_l16, py_l32, py_l40, py_l100, py_l640, py_l1280, py_neg, py_add, py_sub, py_mul, py_stO]
        refine py_and ?_
        rw [py_nat (by omega), py_nat (by omega), he2]
        simp only [Int.toNat_natCast]
        rw [g33, g35]
        refine py_ile (fun c => absurd c (by omega)) (fun _ => py_and ?_)
        refine hM.inCar hPV (fun a b => absurd ⟨a, b⟩ hin) (fun _ => ?_)
        exact py_ieq (fun _ => hn9) (fun c => absurd rfl c)
theorem ph_outer (m0 : Nat) : ∀ (d k n : Nat) (s t : py_Z), ph_Q s t s0 t0 e m0 k n → m0 + k + d = 17 →
    ph_CL t t0 e (fun x => ∃ i : Nat, k ≤ i ∧ i < n ∧ (t 44 i).toNat = x) →
    ∃ (s' t' : py_Z),
      (∀ (K : ty_S → Prop), K (py_O s') → ∃ n9, lX3_moveWithOthers_6 K n9 (py_O s)) ∧
      (∀ (K : ty_S → Prop), K (py_O t') → ∃ n9, lX5_moveAll_18 K n9 (py_o n) (py_o k) (py_O t)) ∧
      ph_Mid s' t' s0 t0 e ∧ s' 22 0 = s' 21 0 ∧ ph_CL t' t0 e (fun _ => False) ∧ ph_Mono t t' e := by
  intro d
  induction d with
  | zero =>
    intro k n s t hQ hd hCL
    obtain ⟨hM, q1, q2, q3, q4⟩ := hQ
    have hc16 := (hM.2.1.1 e hM.2.2.2.2.1.2.2.1).2.2.1
    have h21 := hM.2.2.2.2.2.2.2.2.2.2.1
    have := py_cnt_le (fun k => decide (t 31 (ph_x t e k) ≠ e)) (t 38 e).toNat
    unfold ph_mc at h21
    omega
  | succ d ih =>
    intro k n s t hQ hd hCL
    obtain ⟨hM, q1, q2, q3, q4⟩ := id hQ
    have hc16 := (hM.2.1.1 e hM.2.2.2.2.1.2.2.1).2.2.1
    have h21 := hM.2.2.2.2.2.2.2.2.2.2.1
    have hle := py_cnt_le (fun k => decide (t 31 (ph_x t e k) ≠ e)) (t 38 e).toNat
    unfold ph_mc at h21
    by_cases hkn : k = n
    · refine ⟨s, t, fun K hK => ⟨1, ?_⟩, fun K hK => ⟨1, ?_⟩, hM, by omega, fun x hx hl h0 hme _ => hCL x hx hl h0 hme (fun ⟨i, h1, h2, h3⟩ => absurd h1 (by omega)), ph_Mono.refl⟩
      · unfold lX3_moveWithOthers_6
        try simp only [py_O_ap, py_l0, py_l1, py_l2, py_l3, py_l4, py_l5, py_l6, py_l7, py_l8, py_l9, py_l12, py_l16, py_l32, py_l40, py_l100, py_l640, py_l1280, py_neg, py_add, py_sub, py_mul, py_stO]
        exact py_ile (fun _ => hK) (fun c => absurd c (by omega))
      · unfold lX5_moveAll_18
        try simp only [py_O_ap, py_l0, py_l1, py_l2, py_l3, py_l4, py_l5, py_l6, py_l7, py_l8, py_l9, py_l12, py_l16, py_l32, py_l40, py_l100, py_l640, py_l1280, py_neg, py_add, py_sub, py_mul, py_stO]
        exact py_ile (fun _ => hK) (fun c => absurd c (by omega))
    · obtain ⟨z1, z2, z3, z4, z5⟩ := q4 k (by omega)
      obtain ⟨c, m, hc, hm, hm1, hm2, hm3, hm4⟩ := hM.at (x := (t 44 k).toNat) (by omega) z2
      obtain ⟨f1, f2, f3, f4⟩ := hM.2.1.fit hc hm
      obtain ⟨w1, w2, w3, w4, w5, w6, w7⟩ := hM.2.1.2.1 c m hc hm
      rw [hm1] at w2 w3 w4 w5 w6 w7 f1 f4
      have g33 := hM.f 33 (t 44 k).toNat (by omega)
      have hfrom : s 9 (m0 + k) = ((32 * c + ph_pos t c m : Nat) : Int) := by rw [z5, hm2, hm3]; omega
      obtain ⟨s1, t1, n1, o1, o2, o3, o4, o5, o6, o7, o8⟩ := ph_inner m0 k (t0 33 (t 44 k).toNat).toNat 0 n s t hQ (by omega) (by omega) hCL (fun a ha => absurd ha (by omega))
      obtain ⟨hM1, r1, r2, r3, r4⟩ := o3
      have hQ2 : ph_Q (py_st s1 22 0 (s1 22 0 + 1)) t1 s0 t0 e m0 (k + 1) n1 := by
        refine ⟨hM1.congr (fun g i _ hg => py_sn hg) (fun _ _ _ => rfl), by rw [py_sn (by decide)]; exact r1, by rw [py_se]; omega, by omega, fun i hi => ?_⟩
        rw [py_sn (by decide)]
        exact r4 i hi
      obtain ⟨s', t', u1, u2, u3, u4, u5, u6⟩ := ih (k + 1) n1 _ t1 hQ2 (by omega) (by
        intro x hx hl h0 hme hX a ha
        by_cases e9 : (t1 44 k).toNat = x
        · have := o8 a (by rw [← o6 k (by omega), e9]; exact ha)
          rw [← o6 k (by omega), e9] at this
          exact this
        · refine o7 x hx hl h0 hme (fun ⟨i, h1, h2, h3⟩ => hX ⟨i, ?_, h2, h3⟩) a ha
          have : i ≠ k := fun e10 => e9 (by rw [← e10]; exact h3)
          omega)
      refine ⟨s', t', fun K hK => ?_, fun K hK => ?_, u3, u4, u5, o5.trans u6⟩
      · obtain ⟨n0, hn0⟩ := u1 K hK
        obtain ⟨n9, hn9⟩ := o1 K (fun S9 => lX3_moveWithOthers_6 K n0 S9) hn0
        refine ⟨n0 + 1, ?_⟩
        unfold lX3_moveWithOthers_6
        try simp only [py_O_ap, py_l0, py_l1, py_l2, py_l3, py_l4, py_l5, py_l6, py_l7, py_l8, py_l9, py_l12, py_l16, py_l32, py_l40, py_l100, py_l640, py_l1280, py_neg, py_add, py_sub, py_mul, py_stO]
        refine py_ile (fun c => absurd c (by omega)) (fun _ => py_ile (fun c => absurd c (by omega)) (fun _ => py_and ?_))
        have e9 : (s 22 0).toNat = m0 + k := by omega
        rw [py_nat (by omega), e9]
        rw [hfrom] at hn9 ⊢
        refine pr_references (r := t0 33 (t 44 k).toNat) (n := t 34 (t 44 k).toNat) (by omega) (by omega) ?_ (by omega) (by omega) (by omega) (by omega) ?_
        · rw [show (((32 * c + ph_pos t c m : Nat) : Int) + 1).toNat = 32 * c + ph_pos t c m + 1 by omega, w5, g33]
        · refine ⟨n9, ?_⟩
          try simp only [py_O_ap, py_l0, py_l1, py_l2, py_l3, py_l4, py_l5, py_l6, py_l7, py_l8, py_l9, py_l12, py_l16, py_l32, py_l40, py_l100, py_l640, py_l1280, py_neg, py_add, py_sub, py_mul, py_stO]
          rw [show ((32 * c + ph_pos t c m : Nat) : Int) + 2 + (0 : Nat) = ((32 * c + ph_pos t c m : Nat) : Int) + 2 by omega] at hn9
          exact hn9
      · obtain ⟨n0, hn0⟩ := u2 K hK
        obtain ⟨n9, hn9⟩ := o2 K (fun a0 a1 S9 => lX5_moveAll_18 K n0 a0 a1 S9) hn0
        refine ⟨n0 + 1, ?_⟩
        unfold lX5_moveAll_18
        try simp only [py_O_ap, py_l0, py_l1, py_l2, py_l3, py_l4, py_l5, py_l6, py_l7, py_l8, py_l9, py_l12, py_l16, py_l32, py_l40, py_l100, py_l640, py_l1280, py_neg, py_add, py_sub, py_mul, py_stO]
        refine py_ile (fun c => absurd c (by omega)) (fun _ => py_and ?_)
        rw [py_nat (by omega)]
        simp only [Int.toNat_natCast]
        have e9 : t 44 k = ((t 44 k).toNat : Nat) := by omega
        rw [e9]
        exact ⟨n9, hn9⟩
/-- a thing of the car, and what can be come to from it -/
theorem ph_Mid.moveAll (h : ph_Mid s t s0 t0 e) (h22 : s 22 0 = s 21 0) (hCL : ph_CL t t0 e (fun _ => False)) {y j : Nat} (hy : y < 640) (hl : 0 < t 30 y) (hin : t 31 y = e) (hj : (j : Int) < t 50 0) :
    ∃ s' t' : py_Z, (∀ K : ty_S → Prop, K (py_O s') → eX3_moveWithOthers (py_O s) (py_o (ph_E t0 y)) (py_o (t 40 j)) K) ∧ (∀ K : ty_S → Prop, K (py_O t') → eX5_moveAll (py_O t) (py_o y) (py_o j) K) ∧
      ph_Mid s' t' s0 t0 e ∧ s' 22 0 = s' 21 0 ∧ ph_CL t' t0 e (fun _ => False) ∧ ph_Mono t t' e ∧ t' 31 y ≠ e := by
  have h2 : ph_Mid s (py_st t 44 0 y) s0 t0 e := h.congr (fun _ _ _ _ => rfl) (fun g i hg => py_sn hg)
  obtain ⟨s1, t1, p1, p2, p3, p4, p5, p6, p7, p8, p9, p10, p11⟩ := h2.move (y := y) (j := j) hy (by rw [py_sn (by decide)]; exact hl) (by rw [py_sn (by decide)]; exact hin) (by rw [py_sn (by decide)]; exact hj)
  have hMo : ph_Mono t t1 e := ⟨fun x hx => by
    have := p5 x (fun e9 => hx (by rw [e9]; exact hin))
    rw [py_sn (by decide), py_sn (by decide)] at this
    exact this, by rw [p11.1, py_sn (by decide)], fun i => by rw [p11.2, py_sn (by decide)]⟩
  have h44 : t1 44 0 = y := by rw [p10, py_se]
  have hyl : 0 < t0 30 y := by rw [← h.f 30 _ (Or.inl rfl)]; exact hl
  have hy0 : t0 31 y = e := by
    by_cases e9 : t0 31 y = e
    · exact e9
    · have := (h.2.2.2.2.2.2.2.2.1 y hy hl).2.2.1 e9
      exact absurd (this.1.symm.trans hin) e9
  have h21 : s 21 0 = ((s 21 0).toNat : Nat) := by omega
  have hQ : ph_Q s1 t1 s0 t0 e (s 21 0).toNat 0 1 := by
    refine ⟨p3, by omega, by omega, by omega, fun i hi => ?_⟩
    have : i = 0 := by omega
    subst this
    rw [h44]
    simp only [Int.toNat_natCast]
    refine ⟨by omega, hyl, hy0, p4, ?_⟩
    rw [p9, if_pos (by omega)]
  obtain ⟨s', t', u1, u2, u3, u4, u5, u6⟩ := ph_outer (s 21 0).toNat (17 - (s 21 0).toNat) 0 1 s1 t1 hQ (by omega) (by
    intro x hx hl2 h0 hme hX a ha
    have hxy : x ≠ y := fun e9 => hX ⟨0, by omega, by omega, by rw [h44, e9]; rfl⟩
    have := p5 x hxy
    rw [py_sn (by decide)] at this
    rcases hCL x hx hl2 h0 (by rw [← this.1]; exact hme) (fun c => c) a ha with e10 | e10
    · exact Or.inl e10
    · exact Or.inr (by rw [(hMo.1 _ e10).1]; exact e10))
  refine ⟨s', t', fun K hK => ?_, fun K hK => ?_, u3, u4, u5, hMo.trans u6, by rw [(u6.1 y p4).1]; exact p4⟩
  · unfold eX3_moveWithOthers
    have := p1 (fun S1 => ∃ n9, lX3_moveWithOthers_6 K n9 S1) (u1 K hK)
    rw [py_sn (by decide)] at this
    exact this
  · unfold eX5_moveAll
    try simp only [py_O_ap, py_l0, py_l1, py_l2, py_l3, py_l4, py_l5, py_l6, py_l7, py_l8, py_l9, py_l12, py_l16, py_l32, py_l40, py_l100, py_l640, py_l1280, py_neg, py_add, py_sub, py_mul, py_stO]
    refine py_and ?_
    rw [py_nat (by omega)]
    exact p2 _ (u2 K hK)
end PMA
end
section
/-! PURE: what the registers hold is moved -/
section PHE
variable {s t s0 t0 : py_Z} {e : Nat}
theorem ph_Mid.six_e (h : ph_Mid s t s0 t0 e) : s 6 e = t 40 0 ∧ 1 ≤ t 40 0 := by
  have h5 := h.2.2.2.2.1
  have h1 := h.1.2.1 0 (by omega)
  have h2 := (h.1.2.2.2.1 0 0 (by omega) (by omega)).2.2
  simp only [Nat.mul_zero, Nat.add_zero] at h2
  rw [h5.2.2.2.1] at h2
  exact ⟨by simpa using h2, (h.1.2.2.2.2.1 0 (by omega)).1⟩
/-- a new train, in the middle of a step -/
theorem ph_Mid.new (h : ph_Mid s t s0 t0 e) (h1 : t 50 0 = 1) (hN : s 13 0 < 40) {c : Nat} (hc : c < 40) (hf : s 6 c = 0) : ph_Mid (pr_new s c) (pm_new t c) s0 t0 e := by
  obtain ⟨a1, a2, a3, a4, a5, a6, a7, a8, a9, a10, a11, a12, a13⟩ := id h
  have hse := h.six_e
  have hce : c ≠ e := fun e9 => by rw [e9] at hf; omega
  obtain ⟨c1, c2, c3, c4, c5, c6, c7⟩ := a2.1 c hc
  have z38 := c6 hf
  have z37 : t 37 c = 0 := by rw [z38] at c4; exact c4
  have sg : ∀ g i, g ≠ 5 → g ≠ 6 → g ≠ 13 → g ≠ 14 → pr_new s c g i = s g i := fun g i h5 h6 h13 h14 => by simp [pr_new, pr_ins, py_st, h5, h6, h13, h14]
  have tg : ∀ g i, g ≠ 40 → g ≠ 41 → g ≠ 42 → g ≠ 50 → g ≠ 57 → pm_new t c g i = t g i := fun g i h1 h2 h3 h4 h5 => by
    simp only [pm_new, pm_cpl, pm_nt, h1, h2, h3, h4, h5, if_false]
    by_cases e3 : g = 37 ∨ g = 38
    · rw [if_pos e3]
      by_cases e4 : i = c
      · rw [if_pos e4, e4]
        rcases e3 with e3 | e3 <;> rw [e3] <;> omega
      · rw [if_neg e4]
    · rw [if_neg e3]
  have s6 : ∀ d, pr_new s c 6 d = if d = c then s 14 0 + 1 else s 6 d := fun d => by simp [pr_new, pr_ins, py_st]
  have s13 : pr_new s c 13 0 = s 13 0 + 1 := by simp [pr_new, pr_ins, py_st]
  have t42 : pm_new t c 42 0 = t 42 0 := by
    have : 0 ≠ 40 * (t 50 0).toNat + (pm_nt t 41 (t 50 0).toNat).toNat := by omega
    simp only [pm_new, pm_cpl, this, if_false]
    simp [pm_nt]
  have t50 : pm_new t c 50 0 = 2 := by simp [pm_new, pm_cpl, pm_nt, h1]
  have t57 : pm_new t c 57 0 = t 57 0 + 1 := by simp [pm_new, pm_cpl, pm_nt]
  have hRW := a1.new hN (by omega) hc hf
  generalize pr_new s c = s' at *
  generalize pm_new t c = t' at *
  have t30 : ∀ i, t' 30 i = t 30 i := fun i => tg 30 i (by omega) (by omega) (by omega) (by omega) (by omega)
  have t31 : ∀ i, t' 31 i = t 31 i := fun i => tg 31 i (by omega) (by omega) (by omega) (by omega) (by omega)
  have t32 : ∀ i, t' 32 i = t 32 i := fun i => tg 32 i (by omega) (by omega) (by omega) (by omega) (by omega)
  have t33 : ∀ i, t' 33 i = t 33 i := fun i => tg 33 i (by omega) (by omega) (by omega) (by omega) (by omega)
  have t34 : ∀ i, t' 34 i = t 34 i := fun i => tg 34 i (by omega) (by omega) (by omega) (by omega) (by omega)
  have t37 : ∀ i, t' 37 i = t 37 i := fun i => tg 37 i (by omega) (by omega) (by omega) (by omega) (by omega)
  have t38 : ∀ i, t' 38 i = t 38 i := fun i => tg 38 i (by omega) (by omega) (by omega) (by omega) (by omega)
  have t39 : ∀ i, t' 39 i = t 39 i := fun i => tg 39 i (by omega) (by omega) (by omega) (by omega) (by omega)
  have t43 : ∀ i, t' 43 i = t 43 i := fun i => tg 43 i (by omega) (by omega) (by omega) (by omega) (by omega)
  have ex : ∀ c k, ph_x t' c k = ph_x t c k := fun c k => by unfold ph_x; rw [t39]
  have esz : ∀ y, ph_sz t' y = ph_sz t y := fun y => by unfold ph_sz; rw [t33, t34]
  have ep : ∀ c k, ph_pos t' c k = ph_pos t c k := fun c k => ph_pos_congr k (fun m _ => ⟨ex c m, esz _⟩)
  have emc : ∀ m, ph_mc t' e m = ph_mc t e m := fun m => py_cnt_congr (fun k _ => by rw [ex, t31])
  have emw : ∀ m, ph_mw t' e m = ph_mw t e m := by
    intro m
    induction m with
    | zero => rfl
    | succ m ih => simp only [ph_mw]; rw [ih, ex, t31, esz]
  refine ⟨hRW, a2.congr (fun g i hg => sg g i (by omega) (by omega) (by omega) (by omega)) (fun d _ hz => by
      rw [s6] at hz
      by_cases e9 : d = c
      · rw [e9]; exact hf
      · rwa [if_neg e9] at hz) (fun g i _ _ _ _ => tg g i (by omega) (by omega) (by omega) (by omega) (by omega)), a3.congr (fun g i hg => tg g i (by omega) (by omega) (by omega) (by omega) (by omega)), ?_, ?_, ?_, ⟨?_, ?_⟩, ?_, ?_, ?_, ?_, ?_, ?_, ?_⟩
  · intro r hr; rw [sg 7 r (by omega) (by omega) (by omega) (by omega), t43]; exact a4 r hr
  · rw [sg 20 0 (by omega) (by omega) (by omega) (by omega), tg 59 0 (by omega) (by omega) (by omega) (by omega) (by omega), t42, t50]
    exact ⟨a5.1, a5.2.1, a5.2.2.1, a5.2.2.2.1, by omega⟩
  · rw [sg 18 0 (by omega) (by omega) (by omega) (by omega), sg 19 0 (by omega) (by omega) (by omega) (by omega), tg 55 0 (by omega) (by omega) (by omega) (by omega) (by omega), tg 56 0 (by omega) (by omega) (by omega) (by omega) (by omega)]; exact a6
  · intro g i hg; rw [sg g i (by omega) (by omega) (by omega) (by omega)]; exact a7.1 g i hg
  · intro g i hg; rw [tg g i (by omega) (by omega) (by omega) (by omega) (by omega)]; exact a7.2 g i hg
  · rw [t38, t37]; exact ⟨a8.1, a8.2.1, fun k hk => by rw [t39]; exact a8.2.2 k hk⟩
  · intro x hx hl
    rw [t30] at hl
    have := a9 x hx hl
    simp only [t31, t32, t38, ex]; exact this
  · intro k hk
    rw [t38] at hk
    have := a10 k hk
    simp only [t30, t31, t32, ex, ep, sg 8 _ (show 8 ≠ 5 by decide) (show 8 ≠ 6 by decide) (show 8 ≠ 13 by decide) (show 8 ≠ 14 by decide)]; exact this
  · rw [sg 21 0 (by omega) (by omega) (by omega) (by omega), t38, emc]; exact a11
  · rw [s13, t38, emw]
    refine Or.inr ⟨c, hc, ?_, hce, by rw [t37, z37]; omega⟩
    rw [s6, if_pos rfl]
    have := a1.2.2.2.2.2.2.1
    omega
  · rw [t50, t57]
    omega
  · intro d hd
    have h9 := a13.2 d hd
    rw [s6, if_neg (fun e9 => by rw [e9] at h9; rw [e9] at hd; omega)]
    exact h9
/-- the registers, one after the other -/
theorem ph_held : ∀ (d r : Nat) (s t : py_Z), ph_Mid s t s0 t0 e → s 22 0 = s 21 0 → ph_CL t t0 e (fun _ => False) → (t 50 0 = 1 → s 13 0 < 40) → r + d = 16 →
    (∀ q : Nat, q < r → t0 43 q < 0 ∨ t 31 (t0 43 q).toNat ≠ e) →
    ∃ s' t' : py_Z, (∀ K : ty_S → Prop, K (py_O s') → ∃ n9, lX3_moveHeld_2 K n9 (py_o (t 40 0)) (py_o r) (py_O s)) ∧
      (∀ K : ty_S → Int32 → Prop, (∃ n9, lX5_oneStep_138 K n9 (py_o 0) (py_O t')) → ∃ n9, lX5_oneStep_83 K n9 (py_o r) (py_O t)) ∧
      ph_Mid s' t' s0 t0 e ∧ s' 22 0 = s' 21 0 ∧ ph_CL t' t0 e (fun _ => False) ∧ (∀ x : Nat, t 31 x ≠ e → t' 31 x = t 31 x ∧ t' 32 x = t 32 x) ∧
      (∀ q : Nat, q < 16 → t0 43 q < 0 ∨ t' 31 (t0 43 q).toNat ≠ e) := by
  intro d
  induction d with
  | zero =>
    intro r s t hM h22 hCL hN hr hdone
    refine ⟨s, t, fun K hK => ⟨1, ?_⟩, fun K hK => ⟨1, ?_⟩, hM, h22, hCL, fun _ _ => ⟨rfl, rfl⟩, fun q hq => hdone q (by omega)⟩
    · unfold lX3_moveHeld_2
      try simp only [py_O_ap, py_l0, py_l1, py_l2, py_l3, py_l4, py_l5, py_l6, py_l7, py_l8, py_l9, py_l12, py_l16, py_l32, py_l40, py_l100, py_l640, py_l1280, py_neg, py_add, py_sub, py_mul, py_stO]
      exact py_ile (fun _ => hK) (fun c => absurd c (by omega))
    · unfold lX5_oneStep_83
      try simp only [py_O_ap, py_l0, py_l1, py_l2, py_l3, py_l4, py_l5, py_l6, py_l7, py_l8, py_l9, py_l12, py_l16, py_l32, py_l40, py_l100, py_l640, py_l1280, py_neg, py_add, py_sub, py_mul, py_stO]
      exact py_ile (fun _ => hK) (fun c => absurd c (by omega))
  | succ d ih =>
    intro r s t hM h22 hCL hN hr hdone
    have g43 := hM.f 43 r (by omega)
    have hPV : ph_PV t (t0 43 r) := by
      have := hM.2.2.1.2.2.2.2.1 r (by omega)
      rwa [g43] at this
    have hs7 : s 7 r = ph_E t0 (t0 43 r) := by rw [hM.2.2.2.1 r (by omega), g43]
    have hEb := hM.E hPV
    have hnum := hM.1.2.2.2.2.1
    have hmade := hM.1.2.2.2.2.2.2.1
    by_cases hin : 0 ≤ t0 43 r ∧ t 31 (t0 43 r).toNat = e
    · obtain ⟨y1, y2, y3, y4⟩ := hEb.resolve_left (by omega)
      have hyc : t0 43 r = ((t0 43 r).toNat : Nat) := by omega
      -- behind the new train, if there is one
      have hmid : ∃ s1 t1 : py_Z, ph_Mid s1 t1 s0 t0 e ∧ s1 22 0 = s 22 0 ∧ s1 21 0 = s 21 0 ∧ (∀ x, t1 31 x = t 31 x ∧ t1 32 x = t 32 x) ∧ t1 40 0 = t 40 0 ∧ s1 7 r = s 7 r ∧ 2 ≤ t1 50 0 ∧ (∀ g, g = 30 ∨ g = 43 → ∀ i, t1 g i = t g i) ∧
          (∀ (K : ty_S → Prop) (n : Nat), jX3_moveHeld_40 K (fun a0 a1 S9 => lX3_moveHeld_2 K n a0 a1 S9) (py_o (t 40 0)) (py_o r) (py_O s1) → lX3_moveHeld_2 K (n + 1) (py_o (t 40 0)) (py_o r) (py_O s)) ∧
          (∀ (K : ty_S → Int32 → Prop) (n : Nat), jX5_oneStep_114 K (fun a0 S9 => lX5_oneStep_83 K n a0 S9) (py_o r) (py_O t1) → lX5_oneStep_83 K (n + 1) (py_o r) (py_O t)) := by
        by_cases e1 : t 50 0 = 1
        · obtain ⟨c, hc, hf, hlst⟩ := pp_least hM.1 (hN e1)
          have m1 : pm_new t c 40 0 = t 40 0 := by
            simp only [pm_new, pm_cpl, pm_nt]
            grind
          refine ⟨pr_new s c, pm_new t c, hM.new e1 (hN e1) hc hf, by simp [pr_new, pr_ins, py_st], by simp [pr_new, pr_ins, py_st], fun x => by simp [pm_new, pm_cpl, pm_nt], m1, by simp [pr_new, pr_ins, py_st], by simp [pm_new, pm_cpl, pm_nt, e1], fun g hg i => by rcases hg with e9 | e9 <;> subst e9 <;> simp [pm_new, pm_cpl, pm_nt], fun K n hK => ?_, fun K n hK => ?_⟩
          · unfold lX3_moveHeld_2
            try simp only [py_O_ap, py_l0, py_l1, py_l2, py_l3, py_l4, py_l5, py_l6, py_l7, py_l8, py_l9, py_l12, py_l16, py_l32, py_l40, py_l100, py_l640, py_l1280, py_neg, py_add, py_sub, py_mul, py_stO]
            refine py_ile (fun c => absurd c (by omega)) (fun _ => py_and ?_)
            rw [py_nat (by omega)]
            simp only [Int.toNat_natCast]
            rw [hs7]
            refine hM.still hPV (fun _ _ => ?_) (fun c => absurd hin c)
            refine py_ieq (fun c => absurd c (by omega)) (fun _ => ?_)
            have := hnum 0 (by omega)
            refine pr_lastTrain hM.1 (fun _ => ?_) (fun c => absurd c (by omega))
            rw [show (t 50 0).toNat - 1 = 0 by omega]
            refine py_ieq (fun _ => ?_) (fun c => absurd rfl c)
            exact pr_addTrain hM.1 (hN e1) hc hf hlst hK
          · unfold lX5_oneStep_83
            try simp only [py_O_ap, py_l0, py_l1, py_l2, py_l3, py_l4, py_l5, py_l6, py_l7, py_l8, py_l9, py_l12, py_l16, py_l32, py_l40, py_l100, py_l640, py_l1280, py_neg, py_add, py_sub, py_mul, py_stO]
            refine py_ile (fun c => absurd c (by omega)) (fun _ => py_and ?_)
            rw [py_nat (by omega)]
            simp only [Int.toNat_natCast]
            rw [g43]
            refine hM.inCar hPV (fun _ _ => ?_) (fun c => absurd hin c)
            refine py_ieq (fun c => absurd c (by omega)) (fun _ => ?_)
            try simp only [py_O_ap, py_l0, py_l1, py_l2, py_l3, py_l4, py_l5, py_l6, py_l7, py_l8, py_l9, py_l12, py_l16, py_l32, py_l40, py_l100, py_l640, py_l1280, py_neg, py_add, py_sub, py_mul, py_stO]
            refine py_ieq (fun _ => ?_) (fun c => absurd e1 c)
            exact pm_newTrain hM.1 (by omega) hc hf hlst hK
        · have h50 := hM.2.2.2.2.1.2.2.2.2
          have h0 := hM.1.1
          refine ⟨s, t, hM, rfl, rfl, fun _ => ⟨rfl, rfl⟩, rfl, rfl, by omega, fun _ _ _ => rfl, fun K n hK => ?_, fun K n hK => ?_⟩
          · unfold lX3_moveHeld_2
            try simp only [py_O_ap, py_l0, py_l1, py_l2, py_l3, py_l4, py_l5, py_l6, py_l7, py_l8, py_l9, py_l12, py_l16, py_l32, py_l40, py_l100, py_l640, py_l1280, py_neg, py_add, py_sub, py_mul, py_stO]
            refine py_ile (fun c => absurd c (by omega)) (fun _ => py_and ?_)
            rw [py_nat (by omega)]
            simp only [Int.toNat_natCast]
            rw [hs7]
            refine hM.still hPV (fun _ _ => ?_) (fun c => absurd hin c)
            refine py_ieq (fun c => absurd c (by omega)) (fun _ => ?_)
            have h1 := hnum 0 (by omega)
            have h2 := hnum ((t 50 0).toNat - 1) (by omega)
            have h3 := hM.1.2.2.2.2.2.1 0 ((t 50 0).toNat - 1) (by omega) (by omega)
            refine pr_lastTrain hM.1 (fun _ => ?_) (fun c => absurd c (by omega))
            exact py_ieq (fun c => absurd c (by omega)) (fun _ => hK)
          · unfold lX5_oneStep_83
            try simp only [py_O_ap, py_l0, py_l1, py_l2, py_l3, py_l4, py_l5, py_l6, py_l7, py_l8, py_l9, py_l12, py_l16, py_l32, py_l40, py_l100, py_l640, py_l1280, py_neg, py_add, py_sub, py_mul, py_stO]
            refine py_ile (fun c => absurd c (by omega)) (fun _ => py_and ?_)
            rw [py_nat (by omega)]
            simp only [Int.toNat_natCast]
            rw [g43]
            refine hM.inCar hPV (fun _ _ => ?_) (fun c => absurd hin c)
            refine py_ieq (fun c => absurd c (by omega)) (fun _ => ?_)
            try simp only [py_O_ap, py_l0, py_l1, py_l2, py_l3, py_l4, py_l5, py_l6, py_l7, py_l8, py_l9, py_l12, py_l16, py_l32, py_l40, py_l100, py_l640, py_l1280, py_neg, py_add, py_sub, py_mul, py_stO]
            exact py_ieq (fun c => absurd c e1) (fun _ => hK)
      obtain ⟨s1, t1, hM1, v1, v2, v3, v4, v5, v6, v7, v8, v9⟩ := hmid
      have h50 := hM1.1.1
      obtain ⟨s2, t2, u1, u2, u3, u4, u5, u6, u7⟩ := hM1.moveAll (by rw [v1, v2]; exact h22) (fun x hx hl h0 hme hX a ha => by
        rw [(v3 x).1] at hme
        rw [(v3 _).1]
        exact hCL x hx hl h0 hme hX a ha) (y := (t0 43 r).toNat) (j := (t1 50 0).toNat - 1) (by omega) (by rw [v7 30 (Or.inl rfl)]; exact y3) (by rw [(v3 _).1]; exact hin.2) (by omega)
      have hmono : ∀ x : Nat, t 31 x ≠ e → t2 31 x = t 31 x ∧ t2 32 x = t 32 x := fun x hx => by
        have := u6.1 x (by rw [(v3 x).1]; exact hx)
        rw [(v3 x).1, (v3 x).2] at this
        exact this
      obtain ⟨s', t', w1, w2, w3, w4, w5, w6, w7⟩ := ih (r + 1) s2 t2 u3 u4 u5 (fun e9 => by rw [u6.2.1] at e9; omega) (by omega) (fun q hq => by
        by_cases e9 : q = r
        · rw [e9]; exact Or.inr u7
        · rcases hdone q (by omega) with e10 | e10
          · exact Or.inl e10
          · exact Or.inr (by rw [(hmono _ e10).1]; exact e10))
      refine ⟨s', t', fun K hK => ?_, fun K hK => ?_, w3, w4, w5, fun x hx => ?_, w7⟩
      · obtain ⟨n9, hn9⟩ := w1 K hK
        refine ⟨n9 + 1, v8 K n9 ?_⟩
        unfold jX3_moveHeld_40
        try simp only [py_O_ap, py_l0, py_l1, py_l2, py_l3, py_l4, py_l5, py_l6, py_l7, py_l8, py_l9, py_l12, py_l16, py_l32, py_l40, py_l100, py_l640, py_l1280, py_neg, py_add, py_sub, py_mul, py_stO]
        refine py_and ?_
        rw [py_nat (by omega)]
        simp only [Int.toNat_natCast]
        refine pr_lastTrain hM1.1 (fun _ => ?_) (fun c => absurd c (by omega))
        rw [v5, hs7, hyc]
        refine u1 _ ?_
        rw [u6.2.2, v4] at hn9
        exact hn9
      · obtain ⟨n9, hn9⟩ := w2 K hK
        refine ⟨n9 + 1, v9 K n9 ?_⟩
        unfold jX5_oneStep_114
        try simp only [py_O_ap, py_l0, py_l1, py_l2, py_l3, py_l4, py_l5, py_l6, py_l7, py_l8, py_l9, py_l12, py_l16, py_l32, py_l40, py_l100, py_l640, py_l1280, py_neg, py_add, py_sub, py_mul, py_stO]
        refine py_and ?_
        rw [py_nat (by omega)]
        simp only [Int.toNat_natCast]
        try simp only [py_O_ap, py_l0, py_l1, py_l2, py_l3, py_l4, py_l5, py_l6, py_l7, py_l8, py_l9, py_l12, py_l16, py_l32, py_l40, py_l100, py_l640, py_l1280, py_neg, py_add, py_sub, py_mul, py_stO]
        rw [v7 43 (Or.inr rfl), g43, hyc, show t1 50 0 - 1 = (((t1 50 0).toNat - 1 : Nat) : Int) by omega]
        exact u2 _ hn9
      · have := w6 x (by rw [(hmono x hx).1]; exact hx)
        rw [(hmono x hx).1, (hmono x hx).2] at this
        exact this
    · obtain ⟨s', t', w1, w2, w3, w4, w5, w6, w7⟩ := ih (r + 1) s t hM h22 hCL hN (by omega) (fun q hq => by
        by_cases e9 : q = r
        · rw [e9]
          by_cases e10 : t0 43 r < 0
          · exact Or.inl e10
          · exact Or.inr (fun e11 => hin ⟨by omega, e11⟩)
        · exact hdone q (by omega))
      have hb := hnum 0 (by have := hM.2.2.2.2.1; omega)
      refine ⟨s', t', fun K hK => ?_, fun K hK => ?_, w3, w4, w5, w6, w7⟩
      · obtain ⟨n9, hn9⟩ := w1 K hK
        refine ⟨n9 + 1, ?_⟩
        unfold lX3_moveHeld_2
        try simp only [py_O_ap, py_l0, py_l1, py_l2, py_l3, py_l4, py_l5, py_l6, py_l7, py_l8, py_l9, py_l12, py_l16, py_l32, py_l40, py_l100, py_l640, py_l1280, py_neg, py_add, py_sub, py_mul, py_stO]
        refine py_ile (fun c => absurd c (by omega)) (fun _ => py_and ?_)
        rw [py_nat (by omega)]
        simp only [Int.toNat_natCast]
        rw [hs7]
        refine hM.still hPV (fun a b => absurd ⟨a, b⟩ hin) (fun _ => ?_)
        exact py_ieq (fun _ => hn9) (fun c => absurd rfl c)
      · obtain ⟨n9, hn9⟩ := w2 K hK
        refine ⟨n9 + 1, ?_⟩
        unfold lX5_oneStep_83
        try simp only [py_O_ap, py_l0, py_l1, py_l2, py_l3, py_l4, py_l5, py_l6, py_l7, py_l8, py_l9, py_l12, py_l16, py_l32, py_l40, py_l100, py_l640, py_l1280, py_neg, py_add, py_sub, py_mul, py_stO]
        refine py_ile (fun c => absurd c (by omega)) (fun _ => py_and ?_)
        rw [py_nat (by omega)]
        simp only [Int.toNat_natCast]
        rw [g43]
        refine hM.inCar hPV (fun a b => absurd ⟨a, b⟩ hin) (fun _ => ?_)
        exact py_ieq (fun _ => hn9) (fun c => absurd rfl c)
end PHE
end
section
/-! PURE: the references from elsewhere, as the reference lists them -/
def ph_gp (t : py_Z) (k : Nat) : Int := 32 * t 31 (t 45 k).toNat + t 32 (t 45 k).toNat + 2 + t 46 k
def ph_Ent (s t : py_Z) (e k : Nat) : Prop :=
  (0 ≤ t 45 k ∧ t 45 k < 640) ∧ 0 < t 30 (t 45 k).toNat ∧ t 31 (t 45 k).toNat ≠ e ∧ (0 ≤ t 46 k ∧ t 46 k < t 33 (t 45 k).toNat) ∧
  (0 ≤ t 35 (12 * (t 45 k).toNat + (t 46 k).toNat) ∧ t 31 (t 35 (12 * (t 45 k).toNat + (t 46 k).toNat)).toNat = e) ∧ t 47 k = (if s 6 (t 31 (t 45 k).toNat).toNat = t 40 0 then 1 else 0)
def ph_G (s t : py_Z) (e : Nat) (B : Int) : Prop :=
  0 ≤ t 61 0 ∧ (∀ k : Nat, (k : Int) < t 61 0 → ph_Ent s t e k ∧ ph_gp t k < B) ∧ (∀ a b : Nat, a < b → (b : Int) < t 61 0 → ph_gp t a < ph_gp t b) ∧
  (∀ x : Nat, x < 640 → 0 < t 30 x → t 31 x ≠ e → ∀ i : Nat, (i : Int) < t 33 x → 0 ≤ t 35 (12 * x + i) → t 31 (t 35 (12 * x + i)).toNat = e → 32 * t 31 x + t 32 x + 2 + i < B → ∃ k : Nat, (k : Int) < t 61 0 ∧ t 45 k = x ∧ t 46 k = i)
def ph_Same (t u : py_Z) : Prop := ∀ g i, g ≠ 45 → g ≠ 46 → g ≠ 47 → g ≠ 61 → u g i = t g i
section PHG
variable {s t u : py_Z} {E : Int → Int} {e : Nat}
theorem ph_G.up {B B' : Int} (h : ph_G s u e B) (hB : B ≤ B') (hno : ∀ x i : Nat, x < 640 → 0 < u 30 x → u 31 x ≠ e → (i : Int) < u 33 x → 0 ≤ u 35 (12 * x + i) → u 31 (u 35 (12 * x + i)).toNat = e → B ≤ 32 * u 31 x + u 32 x + 2 + i → 32 * u 31 x + u 32 x + 2 + i < B' → False) : ph_G s u e B' := by
  refine ⟨h.1, fun k hk => ⟨(h.2.1 k hk).1, by have := (h.2.1 k hk).2; omega⟩, h.2.2.1, fun x hx hl hne i hi h1 h2 h3 => ?_⟩
  by_cases e1 : 32 * u 31 x + u 32 x + 2 + i < B
  · exact h.2.2.2 x hx hl hne i hi h1 h2 e1
  · exact (hno x i hx hl hne hi h1 h2 (by omega) h3).elim
theorem ph_G.cnt {B : Int} (h : ph_G s u e B) (h0 : ∀ x : Nat, x < 640 → 0 < u 30 x → 0 ≤ u 31 x ∧ 0 ≤ u 32 x) (hB : 0 ≤ B) : u 61 0 ≤ B := by
  have key : ∀ k : Nat, (k : Int) < u 61 0 → (k : Int) ≤ ph_gp u k := by
    intro k
    induction k with
    | zero =>
      intro hk
      obtain ⟨⟨a1, a2, a3, a4, a5⟩, a6⟩ := h.2.1 0 hk
      have := h0 (u 45 0).toNat (by omega) a2
      unfold ph_gp
      omega
    | succ k ih =>
      intro hk
      have := ih (by omega)
      have := h.2.2.1 k (k + 1) (by omega) hk
      omega
  by_cases e1 : u 61 0 = 0
  · omega
  · have h1 := h.1
    have h2 := key (u 61 0 - 1).toNat (by omega)
    have h3 := (h.2.1 (u 61 0 - 1).toNat (by omega)).2
    omega
/-- one reference -/
theorem ph_gi (hRW : pr_RW s t) (hTH : ph_TH s t E) (hMH : ph_MH t (-1)) (he : t 59 0 = e ∧ e < 40) {c k tr : Nat} (hc : c < 40) (hce : c ≠ e) (hk : (k : Int) < t 38 c) (htr : (tr : Int) < t 50 0 ∧ s 6 c = t 40 tr) :
    ∀ (d i : Nat) (u : py_Z), (i : Int) + d = t 33 (ph_x t c k) → ph_Same t u → ph_G s u e (32 * c + ph_pos t c k + 2 + i) →
    ∃ u' : py_Z, (∀ (K : ty_S → Prop) (R7 : Int32 → ty_S → Prop) (R21 : Int32 → Int32 → Int32 → ty_S → Prop), R21 (py_o c) (py_o tr) (py_o (k + 1)) (py_O u') → ∃ n9, lX5_gather_59 K R7 R21 n9 (py_o c) (py_o tr) (py_o k) (py_o (ph_x t c k)) (py_o i) (py_O u)) ∧
      ph_Same t u' ∧ ph_G s u' e (32 * c + ph_pos t c k + 2 + t 33 (ph_x t c k)) := by
  obtain ⟨w1, w2, w3, w4, w5, w6, w7⟩ := hTH.2.1 c k hc hk
  obtain ⟨f1, f2, f3, f4⟩ := hTH.fit hc hk
  obtain ⟨m1, m2, m3⟩ := hMH.2.2.2.1 c k hc (by omega) hk
  have hx640 : ph_x t c k < 640 := by unfold ph_x; omega
  generalize hx : ph_x t c k = x at *
  have h0 := hRW.1
  intro d
  induction d with
  | zero =>
    intro i u hi hS hG
    have s33 := hS 33 x (by omega) (by omega) (by omega) (by omega)
    refine ⟨u, fun K R7 R21 hR => ⟨1, ?_⟩, hS, by rw [show t 33 x = (i : Int) by omega]; exact hG⟩
    unfold lX5_gather_59
    try simp only [py_O_ap, py_l0, py_l1, py_l2, py_l3, py_l4, py_l5, py_l6, py_l7, py_l8, py_l9, py_l12, py_l16, py_l32, py_l40, py_l100, py_l640, py_l1280, py_neg, py_add, py_sub, py_mul, py_stO]
    refine py_and ?_
    rw [py_nat (by omega)]
    simp only [Int.toNat_natCast]
    exact py_ile (fun _ => hR) (fun c => absurd c (by omega))
  | succ d ih =>
    intro i u hi hS hG
    have s33 := hS 33 x (by omega) (by omega) (by omega) (by omega)
    have s35 := hS 35 (12 * x + i) (by omega) (by omega) (by omega) (by omega)
    have hPV := hMH.2.2.2.2.2 x hx640 m1 i (by omega)
    have e2 : ((12 : Int) * x + i).toNat = 12 * x + i := by omega
    -- places are of one reference alone
    have huniq : ∀ x' i' : Nat, x' < 640 → 0 < t 30 x' → (i' : Int) < t 33 x' → 32 * t 31 x' + t 32 x' + 2 + i' = 32 * c + ph_pos t c k + 2 + i → x' = x ∧ i' = i := fun x' i' hx' hl' hi' hp => by
      obtain ⟨c', k', g1, g2, g3, g4, g5⟩ := hMH.2.2.1 x' hx' hl'
      have := hTH.refinj g1 g2 (i := i') (by rw [g3]; exact hi') hc hk (i' := i) (by rw [hx]; omega) (by omega)
      obtain ⟨q1, q2, q3⟩ := this
      subst q1; subst q2
      exact ⟨by rw [← g3, ← hx], q3⟩
    have hinC : ∀ (K : ty_S → Int32 → Prop), (0 ≤ t 35 (12 * x + i) ∧ t 31 (t 35 (12 * x + i)).toNat = e → K (py_O u) (py_o 1)) → (¬ (0 ≤ t 35 (12 * x + i) ∧ t 31 (t 35 (12 * x + i)).toNat = e) → K (py_O u) (py_o 0)) → eX5_isInCar (py_O u) (py_o (t 35 (12 * x + i))) K := fun K h1 h2 => by
      have s30 : ∀ z, u 30 z = t 30 z := fun z => hS 30 z (by omega) (by omega) (by omega) (by omega)
      have s31 : ∀ z, u 31 z = t 31 z := fun z => hS 31 z (by omega) (by omega) (by omega) (by omega)
      have s59 : u 59 0 = t 59 0 := hS 59 0 (by omega) (by omega) (by omega) (by omega)
      refine pm_isInCar ?_ (fun z hz => by rw [s30]; have := hMH.2.1 z hz; have := hMH.1; omega) (fun z hz hl => ?_) (by omega) (fun a b c => h1 ⟨a, by rw [s31, s59] at c; omega⟩) (fun a => h2 (fun b => a ⟨b.1, ?_, by rw [s31, s59]; omega⟩))
      · rcases hPV with a | ⟨a, b⟩ <;> omega
      · rw [s30] at hl
        rw [s31]
        obtain ⟨c', k', g1, g2, g3, g4, g5⟩ := hMH.2.2.1 z hz hl
        omega
      · rw [s30]
        rcases hPV with a | ⟨a, b⟩
        · omega
        · exact b
    have hlive : ∀ z : Nat, z < 640 → 0 < u 30 z → 0 ≤ u 31 z ∧ 0 ≤ u 32 z := fun z hz hl => by
      rw [hS 30 z (by omega) (by omega) (by omega) (by omega)] at hl
      rw [hS 31 z (by omega) (by omega) (by omega) (by omega), hS 32 z (by omega) (by omega) (by omega) (by omega)]
      obtain ⟨c', k', g1, g2, g3, g4, g5⟩ := hMH.2.2.1 z hz hl
      omega
    have hN := hG.cnt hlive (by omega)
    have hN0 := hG.1
    have hbound : u 61 0 < 1280 := by omega
    by_cases hin : 0 ≤ t 35 (12 * x + i) ∧ t 31 (t 35 (12 * x + i)).toNat = e
    · -- it is listed
      generalize hfl : (if s 6 c = t 40 0 then (1 : Int) else 0) = fl
      obtain ⟨v, hv⟩ : ∃ v, v = py_st (py_st (py_st (py_st u 45 (u 61 0).toNat x) 46 (u 61 0).toNat i) 47 (u 61 0).toNat fl) 61 0 (u 61 0 + 1) := ⟨_, rfl⟩
      have v45 : ∀ a : Nat, v 45 a = if a = (u 61 0).toNat then (x : Int) else u 45 a := fun a => by rw [hv]; simp [py_st]
      have v46 : ∀ a : Nat, v 46 a = if a = (u 61 0).toNat then (i : Int) else u 46 a := fun a => by rw [hv]; simp [py_st]
      have v47 : ∀ a : Nat, v 47 a = if a = (u 61 0).toNat then fl else u 47 a := fun a => by rw [hv]; simp [py_st]
      have v61 : v 61 0 = u 61 0 + 1 := by rw [hv]; simp [py_st]
      have vg : ∀ g a, g ≠ 45 → g ≠ 46 → g ≠ 47 → g ≠ 61 → v g a = u g a := fun g a h1 h2 h3 h4 => by rw [hv]; simp [py_st, h1, h2, h3, h4]
      have hSv : ph_Same t v := fun g a h1 h2 h3 h4 => (vg g a h1 h2 h3 h4).trans (hS g a h1 h2 h3 h4)
      have v30 : ∀ z, v 30 z = t 30 z := fun z => hSv 30 z (by omega) (by omega) (by omega) (by omega)
      have v31 : ∀ z, v 31 z = t 31 z := fun z => hSv 31 z (by omega) (by omega) (by omega) (by omega)
      have v32 : ∀ z, v 32 z = t 32 z := fun z => hSv 32 z (by omega) (by omega) (by omega) (by omega)
      have v33 : ∀ z, v 33 z = t 33 z := fun z => hSv 33 z (by omega) (by omega) (by omega) (by omega)
      have v35 : ∀ z, v 35 z = t 35 z := fun z => hSv 35 z (by omega) (by omega) (by omega) (by omega)
      have v40 : v 40 0 = t 40 0 := hSv 40 0 (by omega) (by omega) (by omega) (by omega)
      have u30 : ∀ z, u 30 z = t 30 z := fun z => hS 30 z (by omega) (by omega) (by omega) (by omega)
      have u31 : ∀ z, u 31 z = t 31 z := fun z => hS 31 z (by omega) (by omega) (by omega) (by omega)
      have u32 : ∀ z, u 32 z = t 32 z := fun z => hS 32 z (by omega) (by omega) (by omega) (by omega)
      have u33 : ∀ z, u 33 z = t 33 z := fun z => hS 33 z (by omega) (by omega) (by omega) (by omega)
      have u35 : ∀ z, u 35 z = t 35 z := fun z => hS 35 z (by omega) (by omega) (by omega) (by omega)
      have u40 : u 40 0 = t 40 0 := hS 40 0 (by omega) (by omega) (by omega) (by omega)
      have hold : ∀ a : Nat, (a : Int) < u 61 0 → v 45 a = u 45 a ∧ v 46 a = u 46 a ∧ v 47 a = u 47 a := fun a ha => by
        rw [v45, v46, v47, if_neg (by omega), if_neg (by omega), if_neg (by omega)]; exact ⟨rfl, rfl, rfl⟩
      have hgpo : ∀ a : Nat, (a : Int) < u 61 0 → ph_gp v a = ph_gp u a := fun a ha => by
        unfold ph_gp
        rw [(hold a ha).1, (hold a ha).2.1, v31, v32, u31, u32]
      have hgpn : ph_gp v (u 61 0).toNat = 32 * c + ph_pos t c k + 2 + i := by
        unfold ph_gp
        rw [v45, v46, if_pos rfl, if_pos rfl, v31, v32]
        simp only [Int.toNat_natCast]
        omega
      have hG2 : ph_G s v e (32 * c + ph_pos t c k + 2 + (i + 1 : Nat)) := by
        refine ⟨by omega, fun a ha => ?_, fun a b hab hb => ?_, fun x' hx' hl' hne' i' hi' h1 h2 h3 => ?_⟩
        · by_cases e9 : a = (u 61 0).toNat
          · subst e9
            refine ⟨?_, by rw [hgpn]; omega⟩
            unfold ph_Ent
            rw [v45, v46, v47, if_pos rfl, if_pos rfl, if_pos rfl]
            simp only [Int.toNat_natCast, v30, v31, v33, v35, v40]
            refine ⟨by omega, m1, by omega, by omega, hin, ?_⟩
            rw [m2]
            simp only [Int.toNat_natCast]
            exact hfl.symm
          · obtain ⟨a1, a2⟩ := hG.2.1 a (by omega)
            rw [hgpo a (by omega)]
            refine ⟨?_, by omega⟩
            unfold ph_Ent at a1 ⊢
            rw [(hold a (by omega)).1, (hold a (by omega)).2.1, (hold a (by omega)).2.2]
            simp only [v30, v31, v33, v35, v40]
            simp only [u30, u31, u33, u35, u40] at a1
            exact a1
        · by_cases e9 : b = (u 61 0).toNat
          · subst e9
            rw [hgpn, hgpo a (by omega)]
            have := (hG.2.1 a (by omega)).2
            omega
          · rw [hgpo a (by omega), hgpo b (by omega)]
            exact hG.2.2.1 a b hab (by omega)
        · rw [v30] at hl'
          rw [v31] at hne'
          rw [v33] at hi'
          rw [v35] at h1 h2
          rw [v31] at h2
          rw [v31, v32] at h3
          by_cases e9 : 32 * t 31 x' + t 32 x' + 2 + i' < 32 * c + ph_pos t c k + 2 + i
          · obtain ⟨a, b1, b2, b3⟩ := hG.2.2.2 x' hx' (by rw [u30]; exact hl') (by rw [u31]; exact hne') i' (by rw [u33]; exact hi') (by rw [u35]; exact h1) (by rw [u35, u31]; exact h2) (by rw [u31, u32]; exact e9)
            exact ⟨a, by omega, by rw [(hold a b1).1]; exact b2, by rw [(hold a b1).2.1]; exact b3⟩
          · obtain ⟨b1, b2⟩ := huniq x' i' hx' hl' hi' (by omega)
            exact ⟨(u 61 0).toNat, by omega, by rw [v45, if_pos rfl, b1], by rw [v46, if_pos rfl, b2]⟩
      obtain ⟨u', o1, o2, o3⟩ := ih (i + 1) v (by omega) hSv hG2
      refine ⟨u', fun K R7 R21 hR => ?_, o2, o3⟩
      obtain ⟨n9, hn9⟩ := o1 K R7 R21 hR
      refine ⟨n9 + 1, ?_⟩
      unfold lX5_gather_59
      try simp only [py_O_ap, py_l0, py_l1, py_l2, py_l3, py_l4, py_l5, py_l6, py_l7, py_l8, py_l9, py_l12, py_l16, py_l32, py_l40, py_l100, py_l640, py_l1280, py_neg, py_add, py_sub, py_mul, py_stO]
      refine py_and ?_
      rw [py_nat (by omega), py_nat (by omega), e2]
      simp only [Int.toNat_natCast]
      refine py_ile (fun c => absurd c (by omega)) (fun _ => py_and ?_)
      rw [s35]
      refine hinC _ (fun _ => ?_) (fun c => absurd hin c)
      refine py_ieq (fun c => absurd c (by omega)) (fun _ => py_and (py_and ?_))
      try simp only [py_O_ap, py_l0, py_l1, py_l2, py_l3, py_l4, py_l5, py_l6, py_l7, py_l8, py_l9, py_l12, py_l16, py_l32, py_l40, py_l100, py_l640, py_l1280, py_neg, py_add, py_sub, py_mul, py_stO]
      rw [py_nat (by omega)]
      try simp only [py_O_ap, py_l0, py_l1, py_l2, py_l3, py_l4, py_l5, py_l6, py_l7, py_l8, py_l9, py_l12, py_l16, py_l32, py_l40, py_l100, py_l640, py_l1280, py_neg, py_add, py_sub, py_mul, py_stO]
      have h6 := hRW.six_b hc
      rw [hv] at hn9
      refine py_ieq (fun c9 => py_and ?_) (fun c9 => py_and ?_)
      · have e10 : tr = 0 := by omega
        have : fl = 1 := by rw [← hfl, htr.2, e10, if_pos rfl]
        rw [this] at hn9
        exact hn9
      · have : fl = 0 := by
          rw [← hfl, htr.2, if_neg]
          have h8 := hRW.2.2.2.2.2.1 0 tr (by omega) htr.1
          omega
        rw [this] at hn9
        exact hn9
    · -- it is not
      obtain ⟨u', o1, o2, o3⟩ := ih (i + 1) u (by omega) hS (hG.up (by omega) (fun x' i' hx' hl' hne' hi' g1 g2 h1 h2 => by
        rw [hS 30 x' (by omega) (by omega) (by omega) (by omega)] at hl'
        rw [hS 33 x' (by omega) (by omega) (by omega) (by omega)] at hi'
        rw [hS 31 x' (by omega) (by omega) (by omega) (by omega), hS 32 x' (by omega) (by omega) (by omega) (by omega)] at h1 h2
        rw [hS 35 _ (by omega) (by omega) (by omega) (by omega)] at g1 g2
        rw [hS 31 _ (by omega) (by omega) (by omega) (by omega)] at g2
        obtain ⟨b1, b2⟩ := huniq x' i' hx' hl' hi' (by omega)
        subst b1; subst b2
        exact hin ⟨g1, g2⟩))
      refine ⟨u', fun K R7 R21 hR => ?_, o2, o3⟩
      obtain ⟨n9, hn9⟩ := o1 K R7 R21 hR
      refine ⟨n9 + 1, ?_⟩
      unfold lX5_gather_59
      try simp only [py_O_ap, py_l0, py_l1, py_l2, py_l3, py_l4, py_l5, py_l6, py_l7, py_l8, py_l9, py_l12, py_l16, py_l32, py_l40, py_l100, py_l640, py_l1280, py_neg, py_add, py_sub, py_mul, py_stO]
      refine py_and ?_
      rw [py_nat (by omega), py_nat (by omega), e2]
      simp only [Int.toNat_natCast]
      refine py_ile (fun c => absurd c (by omega)) (fun _ => py_and ?_)
      rw [s35]
      refine hinC _ (fun a => absurd a hin) (fun _ => ?_)
      exact py_ieq (fun _ => hn9) (fun c => absurd rfl c)
theorem ph_gk (hRW : pr_RW s t) (hTH : ph_TH s t E) (hMH : ph_MH t (-1)) (he : t 59 0 = e ∧ e < 40) {c tr : Nat} (hc : c < 40) (hce : c ≠ e) (htr : 0 < t 38 c → (tr : Int) < t 50 0 ∧ s 6 c = t 40 tr) :
    ∀ (d k : Nat) (u : py_Z), (k : Int) + d = t 38 c → ph_Same t u → ph_G s u e (32 * c + ph_pos t c k + 2) →
    ∃ u' : py_Z, (∀ (K : ty_S → Prop) (R7 : Int32 → ty_S → Prop), R7 (py_o (c + 1)) (py_O u') → ∃ n9, lX5_gather_21 K R7 n9 (py_o c) (py_o tr) (py_o k) (py_O u)) ∧
      ph_Same t u' ∧ ph_G s u' e (32 * c + ph_pos t c (t 38 c).toNat + 2) := by
  have hC := hTH.1 c hc
  have hC3 := hC.2.2.1
  intro d
  induction d with
  | zero =>
    intro k u hk hS hG
    have s38 := hS 38 c (by omega) (by omega) (by omega) (by omega)
    refine ⟨u, fun K R7 hR => ⟨1, ?_⟩, hS, by rw [show (t 38 c).toNat = k by omega]; exact hG⟩
    unfold lX5_gather_21
    try simp only [py_O_ap, py_l0, py_l1, py_l2, py_l3, py_l4, py_l5, py_l6, py_l7, py_l8, py_l9, py_l12, py_l16, py_l32, py_l40, py_l100, py_l640, py_l1280, py_neg, py_add, py_sub, py_mul, py_stO]
    refine py_and ?_
    rw [py_nat (by omega)]
    simp only [Int.toNat_natCast]
    exact py_ile (fun _ => hR) (fun c => absurd c (by omega))
  | succ d ih =>
    intro k u hk hS hG
    have s38 := hS 38 c (by omega) (by omega) (by omega) (by omega)
    have s39 := hS 39 (16 * c + k) (by omega) (by omega) (by omega) (by omega)
    have s59 := hS 59 0 (by omega) (by omega) (by omega) (by omega)
    have hkc : (k : Int) < t 38 c := by omega
    obtain ⟨w1, w2, w3, w4, w5, w6, w7⟩ := hTH.2.1 c k hc hkc
    obtain ⟨f1, f2, f3, f4⟩ := hTH.fit hc hkc
    have hpe : ph_pos t c (k + 1) = ph_pos t c k + ph_sz t (ph_x t c k) := rfl
    have ht := htr (by omega)
    have h0 := hRW.1
    obtain ⟨u1, o1, o2, o3⟩ := ph_gi hRW hTH hMH he hc hce hkc ht (t 33 (ph_x t c k)).toNat 0 u (by omega) hS (by
      rw [show (32 * (c : Int) + ph_pos t c k + 2 + (0 : Nat)) = 32 * c + ph_pos t c k + 2 by omega]; exact hG)
    obtain ⟨u', p1, p2, p3⟩ := ih (k + 1) u1 (by omega) o2 (o3.up (by omega) (fun x' i' hx' hl' hne' hi' g1 g2 h1 h2 => by
      rw [o2 30 x' (by omega) (by omega) (by omega) (by omega)] at hl'
      rw [o2 33 x' (by omega) (by omega) (by omega) (by omega)] at hi'
      rw [o2 31 x' (by omega) (by omega) (by omega) (by omega), o2 32 x' (by omega) (by omega) (by omega) (by omega)] at h1 h2
      obtain ⟨c', k', q1, q2, q3, q4, q5⟩ := hMH.2.2.1 x' hx' hl'
      obtain ⟨r1, r2, r3, r4⟩ := hTH.fit q1 q2
      rw [q3] at r1 r4
      obtain ⟨v1, v2, v3, v4⟩ := hTH.2.1 c' k' q1 q2
      rw [q3] at v2 v3
      have e1 : c' = c := by omega
      subst e1
      rcases Nat.lt_trichotomy k' k with e2 | e2 | e2
      · have := ph_pos_lt (t := t) (c := c') e2
        rw [q3] at this
        omega
      · subst e2; rw [q3] at h1; omega
      · have := ph_pos_lt (t := t) (c := c') e2
        omega))
    refine ⟨u', fun K R7 hR => ?_, p2, p3⟩
    obtain ⟨n0, hn0⟩ := p1 K R7 hR
    obtain ⟨n9, hn9⟩ := o1 K R7 (fun a0 a1 a2 S9 => lX5_gather_21 K R7 n0 a0 a1 a2 S9) hn0
    refine ⟨n0 + 1, ?_⟩
    unfold lX5_gather_21
    try simp only [py_O_ap, py_l0, py_l1, py_l2, py_l3, py_l4, py_l5, py_l6, py_l7, py_l8, py_l9, py_l12, py_l16, py_l32, py_l40, py_l100, py_l640, py_l1280, py_neg, py_add, py_sub, py_mul, py_stO]
    refine py_and ?_
    rw [py_nat (by omega)]
    simp only [Int.toNat_natCast]
    refine py_ile (fun c => absurd c (by omega)) (fun _ => ?_)
    refine py_ilt (fun c => absurd c (by omega)) (fun _ => ?_)
    refine py_ieq (fun c => absurd c (by omega)) (fun _ => py_and ?_)
    rw [py_nat (by omega), show ((16 : Int) * c + k).toNat = 16 * c + k by omega, s39]
    have e3 : t 39 (16 * c + k) = (ph_x t c k : Nat) := by unfold ph_x; omega
    rw [e3]
    exact ⟨n9, hn9⟩
theorem ph_gc (hRW : pr_RW s t) (hTH : ph_TH s t E) (hMH : ph_MH t (-1)) (he : t 59 0 = e ∧ e < 40) :
    ∀ (d c : Nat) (u : py_Z), c + d = 40 → ph_Same t u → ph_G s u e (32 * c + 2) →
    ∃ u' : py_Z, (∀ (K : ty_S → Prop), K (py_O u') → ∃ n9, lX5_gather_7 K n9 (py_o c) (py_O u)) ∧ ph_Same t u' ∧ ph_G s u' e 1282 := by
  intro d
  induction d with
  | zero =>
    intro c u hc hS hG
    refine ⟨u, fun K hK => ⟨1, ?_⟩, hS, by rw [show (32 * (c : Int) + 2) = 1282 by omega] at hG; exact hG⟩
    unfold lX5_gather_7
    try simp only [py_O_ap, py_l0, py_l1, py_l2, py_l3, py_l4, py_l5, py_l6, py_l7, py_l8, py_l9, py_l12, py_l16, py_l32, py_l40, py_l100, py_l640, py_l1280, py_neg, py_add, py_sub, py_mul, py_stO]
    exact py_ile (fun _ => hK) (fun c => absurd c (by omega))
  | succ d ih =>
    intro c u hcd hS hG
    have hc : c < 40 := by omega
    have hC := hTH.1 c hc
    have hC3 := hC.2.2.1
    have s38 := hS 38 c (by omega) (by omega) (by omega) (by omega)
    have s59 := hS 59 0 (by omega) (by omega) (by omega) (by omega)
    have hRWu : pr_RW s u := hRW.congr (fun _ => rfl) (fun _ => rfl) rfl rfl (hS 50 0 (by omega) (by omega) (by omega) (by omega)) (hS 57 0 (by omega) (by omega) (by omega) (by omega)) (fun i => hS 40 i (by omega) (by omega) (by omega) (by omega)) (fun i => hS 41 i (by omega) (by omega) (by omega) (by omega)) (fun i => hS 42 i (by omega) (by omega) (by omega) (by omega))
    have s50 := hS 50 0 (by omega) (by omega) (by omega) (by omega)
    -- what lies behind the car's last reference
    have hgap : ∀ u1 : py_Z, ph_Same t u1 → ∀ B : Int, (B = 32 * c + ph_pos t c (t 38 c).toNat + 2 ∨ (B = 32 * c + 2 ∧ c = e)) → ph_G s u1 e B → ph_G s u1 e (32 * (c + 1 : Nat) + 2) := fun u1 o2 B hB hG1 => by
      have h32 := hC.2.2.2.1
      have h33 := hC.2.2.2.2.1
      refine hG1.up (by omega) (fun x' i' hx' hl' hne' hi' g1 g2 h1 h2 => ?_)
      rw [o2 30 x' (by omega) (by omega) (by omega) (by omega)] at hl'
      rw [o2 33 x' (by omega) (by omega) (by omega) (by omega)] at hi'
      rw [o2 31 x' (by omega) (by omega) (by omega) (by omega)] at hne'
      rw [o2 31 x' (by omega) (by omega) (by omega) (by omega), o2 32 x' (by omega) (by omega) (by omega) (by omega)] at h1 h2
      obtain ⟨c', k', q1, q2, q3, q4, q5⟩ := hMH.2.2.1 x' hx' hl'
      obtain ⟨r1, r2, r3, r4⟩ := hTH.fit q1 q2
      rw [q3] at r1 r4
      obtain ⟨v1, v2, v3, v4⟩ := hTH.2.1 c' k' q1 q2
      rw [q3] at v2 v3
      have e1 : c' = c := by omega
      subst e1
      rcases hB with hB | ⟨hB, hB2⟩
      · have := ph_pos_lt (t := t) (c := c') (k := k') (m := (t 38 c').toNat) (by omega)
        rw [q3] at this
        omega
      · subst hB2; omega
    by_cases hskip : t 38 c = 0 ∨ c = e
    · have hG2 : ph_G s u e (32 * (c + 1 : Nat) + 2) := by
        rcases hskip with e1 | e1
        · refine hgap u hS _ (Or.inl ?_) hG
          rw [e1]; simp [ph_pos]
        · exact hgap u hS _ (Or.inr ⟨rfl, e1⟩) hG
      obtain ⟨u', p1, p2, p3⟩ := ih (c + 1) u (by omega) hS hG2
      refine ⟨u', fun K hK => ?_, p2, p3⟩
      obtain ⟨n9, hn9⟩ := p1 K hK
      refine ⟨n9 + 1, ?_⟩
      unfold lX5_gather_7
      try simp only [py_O_ap, py_l0, py_l1, py_l2, py_l3, py_l4, py_l5, py_l6, py_l7, py_l8, py_l9, py_l12, py_l16, py_l32, py_l40, py_l100, py_l640, py_l1280, py_neg, py_add, py_sub, py_mul, py_stO]
      refine py_ile (fun c => absurd c (by omega)) (fun _ => ?_)
      have hb : ∀ tr : Int, (-1 ≤ tr ∧ tr < 100) → ∃ n8, lX5_gather_21 K (fun a0 S9 => lX5_gather_7 K n9 a0 S9) n8 (py_o c) (py_o tr) (py_o 0) (py_O u) := fun tr htr => by
        refine ⟨1, ?_⟩
        unfold lX5_gather_21
        try simp only [py_O_ap, py_l0, py_l1, py_l2, py_l3, py_l4, py_l5, py_l6, py_l7, py_l8, py_l9, py_l12, py_l16, py_l32, py_l40, py_l100, py_l640, py_l1280, py_neg, py_add, py_sub, py_mul, py_stO]
        refine py_and ?_
        rw [py_nat (by omega)]
        simp only [Int.toNat_natCast]
        refine py_ile (fun _ => hn9) (fun c1 => ?_)
        refine py_ilt (fun _ => hn9) (fun _ => ?_)
        exact py_ieq (fun _ => hn9) (fun c2 => absurd c2 (by omega))
      exact pm_trainOf hRWu hc (fun j hj _ => hb j (by have := hRW.1; omega)) (fun _ => hb (-1) (by omega))
    · have h38 : 0 < t 38 c := by omega
      have h6 : s 6 c ≠ 0 := fun e1 => by have := hC.2.2.2.2.2.1 e1; omega
      obtain ⟨j, kk, hj, hkk, j1, j2, j3, j4, j5⟩ := (hRW.six hc).resolve_left h6
      obtain ⟨u1, o1, o2, o3⟩ := ph_gk hRW hTH hMH he (tr := j) hc (by omega) (fun _ => ⟨hj, j2⟩) (t 38 c).toNat 0 u (by omega) hS (by simpa [ph_pos] using hG)
      obtain ⟨u', p1, p2, p3⟩ := ih (c + 1) u1 (by omega) o2 (hgap u1 o2 _ (Or.inl rfl) o3)
      refine ⟨u', fun K hK => ?_, p2, p3⟩
      obtain ⟨n0, hn0⟩ := p1 K hK
      obtain ⟨n9, hn9⟩ := o1 K (fun a0 S9 => lX5_gather_7 K n0 a0 S9) hn0
      refine ⟨n0 + 1, ?_⟩
      unfold lX5_gather_7
      try simp only [py_O_ap, py_l0, py_l1, py_l2, py_l3, py_l4, py_l5, py_l6, py_l7, py_l8, py_l9, py_l12, py_l16, py_l32, py_l40, py_l100, py_l640, py_l1280, py_neg, py_add, py_sub, py_mul, py_stO]
      refine py_ile (fun c => absurd c (by omega)) (fun _ => ?_)
      refine pm_trainOf hRWu hc (fun j8 hj8 e9 => ?_) (fun e9 => absurd e9 h6)
      rw [hS 40 j8 (by omega) (by omega) (by omega) (by omega)] at e9
      have e10 : j8 = j := hRW.num (by omega) hj (by rw [← e9, j2])
      subst e10
      exact ⟨n9, hn9⟩
theorem ph_gather (hRW : pr_RW s t) (hTH : ph_TH s t E) (hMH : ph_MH t (-1)) (he : t 59 0 = e ∧ e < 40) : ∃ u : py_Z, (∀ (K : ty_S → Prop), K (py_O u) → eX5_gather (py_O t) K) ∧ ph_Same t u ∧ ph_G s u e 1282 := by
  obtain ⟨u, o1, o2, o3⟩ := ph_gc hRW hTH hMH he 40 0 (py_st t 61 0 0) rfl (fun g i _ _ _ h => py_sn h) (by
    refine ⟨by rw [py_se]; omega, fun k hk => by rw [py_se] at hk; omega, fun a b _ hb => by rw [py_se] at hb; omega, fun x hx hl hne i hi h1 h2 h3 => ?_⟩
    rw [py_sn (by decide)] at hl
    rw [py_sn (by decide), py_sn (by decide)] at h3
    obtain ⟨c', k', q1, q2, q3, q4, q5⟩ := hMH.2.2.1 x hx hl
    omega)
  refine ⟨u, fun K hK => ?_, o2, o3⟩
  unfold eX5_gather
  try simp only [py_O_ap, py_l0, py_l1, py_l2, py_l3, py_l4, py_l5, py_l6, py_l7, py_l8, py_l9, py_l12, py_l16, py_l32, py_l40, py_l100, py_l640, py_l1280, py_neg, py_add, py_sub, py_mul, py_stO]
  exact o1 K hK
end PHG
end
section
/-! PURE: what is referred to from elsewhere is moved -/
theorem pr_nextEx {s : py_Z} (hI : pr_IR s) {a : Nat} (ha : a ≤ 1280) : ∃ r : Nat, a ≤ r ∧ r ≤ 1280 ∧ (r = 1280 ∨ s 1 r = 1) ∧ (∀ p : Nat, a ≤ p → p < r → s 1 p = 0) ∧ ∀ K : ty_S → Int32 → Prop, K (py_O s) (py_o r) → eX0_nextReference (py_O s) (py_o a) K := by
  by_cases h : ∃ q : Nat, a ≤ q ∧ q < 1280 ∧ s 1 q = 1
  · obtain ⟨q, hq⟩ := h
    obtain ⟨r, h1, ⟨h2, h3, h4⟩, h5⟩ := py_least (P := fun q => a ≤ q ∧ q < 1280 ∧ s 1 q = 1) (fun _ => Classical.em _) hq
    refine ⟨r, h2, by omega, Or.inr h4, fun p hp1 hp2 => ?_, fun K hK => pr_next hI ha (fun q' g1 g2 g3 g4 => ?_) (fun g => by rw [g r h2 h3] at h4; omega)⟩
    · rcases (hI.1 p (by omega)).1 with e1 | e1
      · exact e1
      · exact absurd ⟨hp1, by omega, e1⟩ (h5 p hp2)
    · have : q' = r := by
        rcases Nat.lt_trichotomy q' r with e1 | e1 | e1
        · exact absurd ⟨g1, g2, g3⟩ (h5 q' e1)
        · exact e1
        · have := g4 r h2 e1; omega
      rw [this]; exact hK
  · have hz : ∀ p : Nat, a ≤ p → p < 1280 → s 1 p = 0 := fun p h1 h2 => by
      rcases (hI.1 p h2).1 with e1 | e1
      · exact e1
      · exact absurd ⟨p, h1, h2, e1⟩ h
    exact ⟨1280, ha, Nat.le_refl _, Or.inl rfl, hz, fun K hK => pr_next hI ha (fun q g1 g2 g3 _ => absurd ⟨q, g1, g2, g3⟩ h) (fun _ => hK)⟩
def ph_Done (s0 t0 t : py_Z) (e : Nat) (fl B : Int) : Prop :=
  ∀ x : Nat, x < 640 → 0 < t0 30 x → t0 31 x ≠ e → ∀ i : Nat, (i : Int) < t0 33 x → 32 * t0 31 x + t0 32 x + 2 + i < B → (s0 6 (t0 31 x).toNat = s0 6 e ↔ fl = 1) → t0 35 (12 * x + i) < 0 ∨ t 31 (t0 35 (12 * x + i)).toNat ≠ e
def ph_Idx (t0 : py_Z) (k : Nat) (B : Int) : Prop := (k : Int) ≤ t0 61 0 ∧ (∀ a : Nat, a < k → ph_gp t0 a < B) ∧ (∀ a : Nat, k ≤ a → (a : Int) < t0 61 0 → B ≤ ph_gp t0 a)
/-! what the class does at one reference -/
theorem pr_mrt_car {s : py_Z} {first fl : Int} {r e n : Nat} {K : ty_S → Prop} (hr : r < 1280) (hre : r / 32 = e) (h20 : s 20 0 = e) (hK : eX0_nextReference (py_O s) (py_o (r + 1 : Nat)) (fun S4 r4 => lX3_moveReferredTo_9 K n (py_o first) (py_o fl) r4 S4)) : lX3_moveReferredTo_9 K (n + 1) (py_o first) (py_o fl) (py_o r) (py_O s) := by
  unfold lX3_moveReferredTo_9
  try simp only [py_O_ap, py_l0, py_l1, py_l2, py_l3, py_l4, py_l5, py_l6, py_l7, py_l8, py_l9, py_l12, py_l16, py_l32, py_l40, py_l100, py_l640, py_l1280, py_neg, py_add, py_sub, py_mul, py_stO]
  refine py_ile (fun c => absurd c (by omega)) (fun _ => ?_)
  refine pr_carOf (fun _ _ => ?_) (fun c => absurd c (by omega))
  refine pr_trainOf (fun _ _ => ?_) (fun c => absurd c (by omega))
  try simp only [py_O_ap, py_l0, py_l1, py_l2, py_l3, py_l4, py_l5, py_l6, py_l7, py_l8, py_l9, py_l12, py_l16, py_l32, py_l40, py_l100, py_l640, py_l1280, py_neg, py_add, py_sub, py_mul, py_stO]
  refine py_ieq (fun _ => ?_) (fun c9 => absurd (by omega) c9)
  unfold jX3_moveReferredTo_71
  try simp only [py_O_ap, py_l0, py_l1, py_l2, py_l3, py_l4, py_l5, py_l6, py_l7, py_l8, py_l9, py_l12, py_l16, py_l32, py_l40, py_l100, py_l640, py_l1280, py_neg, py_add, py_sub, py_mul, py_stO]
  exact hK
theorem pr_mrt_match {s : py_Z} {first fl v : Int} {r c n : Nat} {K : ty_S → Prop} (hr : r < 1280) (hrc : r / 32 = c) (h20 : s 20 0 ≠ c) (h20b : -1 ≤ s 20 0 ∧ s 20 0 < 40) (h6 : 0 ≤ s 6 c ∧ s 6 c ≤ 100000) (hf : 0 ≤ first ∧ first ≤ 100000) (hfl : fl = 0 ∨ fl = 1) (hw : s 0 r = v) (hm : s 6 c = first ↔ fl = 1) (hK : eX3_moveWithOthers (py_O s) (py_o v) (py_o (s 6 c)) (fun S6 => eX0_nextReference S6 (py_o (r + 1 : Nat)) (fun S4 r4 => lX3_moveReferredTo_9 K n (py_o first) (py_o fl) r4 S4))) : lX3_moveReferredTo_9 K (n + 1) (py_o first) (py_o fl) (py_o r) (py_O s) := by
  have hK2 : ∀ w : Int, w = fl → jX3_moveReferredTo_53 K (fun a0 a1 a2 S9 => lX3_moveReferredTo_9 K n a0 a1 a2 S9) (py_o first) (py_o fl) (py_o r) (py_o (s 6 c)) (py_o w) (py_O s) := fun w hw2 => by
    unfold jX3_moveReferredTo_53
    try simp only [py_O_ap, py_l0, py_l1, py_l2, py_l3, py_l4, py_l5, py_l6, py_l7, py_l8, py_l9, py_l12, py_l16, py_l32, py_l40, py_l100, py_l640, py_l1280, py_neg, py_add, py_sub, py_mul, py_stO]
    refine py_ieq (fun _ => ?_) (fun c => absurd hw2 c)
    refine pr_at (fun _ _ => ?_) (fun c => absurd c (by omega))
    simp only [Int.toNat_natCast]
    rw [hw]
    unfold jX3_moveReferredTo_71
    try simp only [py_O_ap, py_l0, py_l1, py_l2, py_l3, py_l4, py_l5, py_l6, py_l7, py_l8, py_l9, py_l12, py_l16, py_l32, py_l40, py_l100, py_l640, py_l1280, py_neg, py_add, py_sub, py_mul, py_stO]
    exact hK
  unfold lX3_moveReferredTo_9
  try simp only [py_O_ap, py_l0, py_l1, py_l2, py_l3, py_l4, py_l5, py_l6, py_l7, py_l8, py_l9, py_l12, py_l16, py_l32, py_l40, py_l100, py_l640, py_l1280, py_neg, py_add, py_sub, py_mul, py_stO]
  refine py_ile (fun c => absurd c (by omega)) (fun _ => ?_)
  refine pr_carOf (fun _ _ => ?_) (fun c => absurd c (by omega))
  rw [show (r : Int) / 32 = c by omega]
  refine pr_trainOf (fun _ _ => ?_) (fun c => absurd c (by omega))
  simp only [Int.toNat_natCast]
  try simp only [py_O_ap, py_l0, py_l1, py_l2, py_l3, py_l4, py_l5, py_l6, py_l7, py_l8, py_l9, py_l12, py_l16, py_l32, py_l40, py_l100, py_l640, py_l1280, py_neg, py_add, py_sub, py_mul, py_stO]
  refine py_ieq (fun c => absurd c.symm h20) (fun _ => ?_)
  refine py_ieq (fun e1 => hK2 1 (hm.mp e1).symm) (fun e1 => hK2 0 ?_)
  rcases hfl with e2 | e2
  · exact e2.symm
  · exact absurd (hm.mpr e2) e1
theorem pr_mrt_no {s : py_Z} {first fl : Int} {r c n : Nat} {K : ty_S → Prop} (hr : r < 1280) (hrc : r / 32 = c) (h20 : s 20 0 ≠ c) (h20b : -1 ≤ s 20 0 ∧ s 20 0 < 40) (h6 : 0 ≤ s 6 c ∧ s 6 c ≤ 100000) (hf : 0 ≤ first ∧ first ≤ 100000) (hfl : fl = 0 ∨ fl = 1) (hm : ¬ (s 6 c = first ↔ fl = 1)) (hK : eX0_nextReference (py_O s) (py_o (r + 1 : Nat)) (fun S4 r4 => lX3_moveReferredTo_9 K n (py_o first) (py_o fl) r4 S4)) : lX3_moveReferredTo_9 K (n + 1) (py_o first) (py_o fl) (py_o r) (py_O s) := by
  have hK2 : ∀ v : Int, v ≠ fl → (v = 0 ∨ v = 1) → jX3_moveReferredTo_53 K (fun a0 a1 a2 S9 => lX3_moveReferredTo_9 K n a0 a1 a2 S9) (py_o first) (py_o fl) (py_o r) (py_o (s 6 c)) (py_o v) (py_O s) := fun v hv hv2 => by
    unfold jX3_moveReferredTo_53
    try simp only [py_O_ap, py_l0, py_l1, py_l2, py_l3, py_l4, py_l5, py_l6, py_l7, py_l8, py_l9, py_l12, py_l16, py_l32, py_l40, py_l100, py_l640, py_l1280, py_neg, py_add, py_sub, py_mul, py_stO]
    refine py_ieq (fun c => absurd c hv) (fun _ => ?_)
    unfold jX3_moveReferredTo_71
    try simp only [py_O_ap, py_l0, py_l1, py_l2, py_l3, py_l4, py_l5, py_l6, py_l7, py_l8, py_l9, py_l12, py_l16, py_l32, py_l40, py_l100, py_l640, py_l1280, py_neg, py_add, py_sub, py_mul, py_stO]
    exact hK
  unfold lX3_moveReferredTo_9
  try simp only [py_O_ap, py_l0, py_l1, py_l2, py_l3, py_l4, py_l5, py_l6, py_l7, py_l8, py_l9, py_l12, py_l16, py_l32, py_l40, py_l100, py_l640, py_l1280, py_neg, py_add, py_sub, py_mul, py_stO]
  refine py_ile (fun c => absurd c (by omega)) (fun _ => ?_)
  refine pr_carOf (fun _ _ => ?_) (fun c => absurd c (by omega))
  rw [show (r : Int) / 32 = c by omega]
  refine pr_trainOf (fun _ _ => ?_) (fun c => absurd c (by omega))
  simp only [Int.toNat_natCast]
  try simp only [py_O_ap, py_l0, py_l1, py_l2, py_l3, py_l4, py_l5, py_l6, py_l7, py_l8, py_l9, py_l12, py_l16, py_l32, py_l40, py_l100, py_l640, py_l1280, py_neg, py_add, py_sub, py_mul, py_stO]
  refine py_ieq (fun c => absurd c.symm h20) (fun _ => ?_)
  refine py_ieq (fun e1 => hK2 1 (fun e2 => hm ⟨fun _ => e2.symm, fun _ => e1⟩) (Or.inr rfl)) (fun e1 => hK2 0 (fun e2 => hm ⟨fun e3 => absurd e3 e1, fun e3 => by omega⟩) (Or.inl rfl))
/-- what the reference does at one entry -/
theorem pm_entry {t : py_Z} {fl y b : Int} {k x i n : Nat} {K : ty_S → Int32 → Prop} {R : Int32 → ty_S → Prop} (hk : (k : Int) < t 61 0) (hk2 : k < 1280) (h61 : t 61 0 ≤ 1282) (hx : x < 640) (hi : i < 12) (h45 : t 45 k = x) (h46 : t 46 k = i) (h47 : t 47 k = b) (h35 : t 35 (12 * x + i) = y) (hfl : fl = 0 ∨ fl = 1) (hK : jX5_oneStep_196 K R (fun a0 a1 S9 => lX5_oneStep_145 K R n a0 a1 S9) (py_o fl) (py_o k) (py_o x) (py_o y) (py_o fl) (py_o b) (py_O t)) : lX5_oneStep_145 K R (n + 1) (py_o fl) (py_o k) (py_O t) := by
  unfold lX5_oneStep_145
  try simp only [py_O_ap, py_l0, py_l1, py_l2, py_l3, py_l4, py_l5, py_l6, py_l7, py_l8, py_l9, py_l12, py_l16, py_l32, py_l40, py_l100, py_l640, py_l1280, py_neg, py_add, py_sub, py_mul, py_stO]
  refine py_ile (fun c => absurd c (by omega)) (fun _ => py_and (py_and ?_))
  rw [py_nat (by omega)]
  simp only [Int.toNat_natCast]
  rw [h45, h46, h47]
  refine py_and (py_and ?_)
  rw [py_nat (by omega), show ((12 : Int) * x + i).toNat = 12 * x + i by omega, h35]
  rcases hfl with e1 | e1
  · subst e1
    exact py_ieq (fun c => absurd c (by omega)) (fun _ => hK)
  · subst e1
    exact py_ieq (fun _ => hK) (fun c => absurd rfl c)
section PHR
variable {s t s0 t0 : py_Z} {e : Nat}
/-- a reference of a thing that was elsewhere is where it was -/
theorem ph_Mid.ref (h : ph_Mid s t s0 t0 e) {x i : Nat} (hx : x < 640) (hl : 0 < t0 30 x) (hne : t0 31 x ≠ e) (hi : (i : Int) < t0 33 x) : ∃ c m : Nat, c < 40 ∧ c ≠ e ∧ (m : Int) < t 38 c ∧ ph_x t c m = x ∧ t0 31 x = c ∧ t0 32 x = ph_pos t c m ∧ 32 * t0 31 x + t0 32 x + 2 + i = ((32 * c + ph_pos t c m + 2 + i : Nat) : Int) ∧ 32 * c + ph_pos t c m + 2 + i < 1280 ∧ s 1 (32 * c + ph_pos t c m + 2 + i) = 1 := by
  obtain ⟨c, m, hc, hm, h1, h2, h3, h4⟩ := h.at hx hl
  have a2 := h.2.1
  have a9 := h.2.2.2.2.2.2.2.2.1
  have hl2 : 0 < t 30 x := by rw [h.f 30 x (Or.inl rfl)]; exact hl
  obtain ⟨b1, b2, b3, b4⟩ := a9 x hx hl2
  obtain ⟨c1, c2⟩ := b3 hne
  obtain ⟨f1, f2, f3, f4⟩ := a2.fit hc hm
  obtain ⟨w1, w2, w3, w4, w5, w6, w7⟩ := a2.2.1 c m hc hm
  rw [h1] at w2 w3 w6 f1 f4
  have g33 := h.f 33 x (by omega)
  exact ⟨c, m, hc, by omega, hm, h1, by omega, by omega, by omega, by omega, (w6 i (by omega)).2⟩
theorem ph_Mid.ent (h : ph_Mid s t s0 t0 e) (hG : ph_G s0 t0 e 1282) {a : Nat} (ha : (a : Int) < t0 61 0) : ∃ p : Nat, ph_gp t0 a = p ∧ p < 1280 ∧ s 1 p = 1 ∧ p / 32 ≠ e := by
  obtain ⟨⟨a1, a2, a3, a4, a5, a6⟩, -⟩ := hG.2.1 a ha
  obtain ⟨c, m, hc, hce, hm, h1, h2, h3, h4, h5, h6⟩ := h.ref (x := (t0 45 a).toNat) (i := (t0 46 a).toNat) (by omega) a2 a3 (by omega)
  obtain ⟨f1, f2, f3, f4⟩ := h.2.1.fit hc hm
  obtain ⟨w1, w2, w3, w4⟩ := h.2.1.2.1 c m hc hm
  have g33 := h.f 33 (t0 45 a).toNat (by omega)
  rw [h1] at w2 w3 f1 f4
  refine ⟨_, ?_, h5, h6, ?_⟩
  · unfold ph_gp
    omega
  · omega
/-- who has a reference at this place -/
theorem ph_Mid.uniq (hM : ph_Mid s t s0 t0 e) {c m i r : Nat} (hc : c < 40) (hm : (m : Int) < t 38 c) (hi : (i : Int) < t 33 (ph_x t c m)) (hrp : r = 32 * c + ph_pos t c m + 2 + i) {x' i' : Nat} (hx' : x' < 640) (hl' : 0 < t0 30 x') (hne' : t0 31 x' ≠ e) (hi' : (i' : Int) < t0 33 x') (hp : 32 * t0 31 x' + t0 32 x' + 2 + i' = r) : x' = ph_x t c m ∧ i' = i ∧ c ≠ e ∧ t0 31 x' = c := by
  obtain ⟨c', m', q1, q2, q3, q4, q5, q6, q7, q8, q9⟩ := hM.ref hx' hl' hne' hi'
  have g33' := hM.f 33 x' (by omega)
  obtain ⟨v1, v2, v3⟩ := hM.2.1.refinj q1 q3 (i := i') (by rw [q4, g33']; exact hi') hc hm hi (by omega)
  subst v1; subst v2
  exact ⟨q4.symm, v3, q2, q5⟩
theorem ph_Mid.entk (hM : ph_Mid s t s0 t0 e) (hG : ph_G s0 t0 e 1282) {c m i r : Nat} (hc : c < 40) (hm : (m : Int) < t 38 c) (hi : (i : Int) < t 33 (ph_x t c m)) (hrp : r = 32 * c + ph_pos t c m + 2 + i) {a : Nat} (ha : (a : Int) < t0 61 0) (hp : ph_gp t0 a = r) : t0 45 a = ph_x t c m ∧ t0 46 a = i ∧ c ≠ e ∧ t0 31 (ph_x t c m) = c := by
  obtain ⟨⟨b1, b2, b3, b4, b5, b6⟩, -⟩ := hG.2.1 a ha
  unfold ph_gp at hp
  obtain ⟨v1, v2, v3, v4⟩ := hM.uniq hc hm hi hrp (x' := (t0 45 a).toNat) (i' := (t0 46 a).toNat) (by omega) b2 b3 (by omega) (by omega)
  rw [v1] at v4
  exact ⟨by omega, by omega, v3, v4⟩
theorem ph_Mid.nk (hM : ph_Mid s t s0 t0 e) (hG : ph_G s0 t0 e 1282) : t0 61 0 ≤ 1282 ∧ ∀ k : Nat, (k : Int) < t0 61 0 → k < 1280 := by
  have a9 := hM.2.2.2.2.2.2.2.2.1
  refine ⟨hG.cnt (fun x hx hl => by
    have := a9 x hx (by rw [hM.f 30 x (Or.inl rfl)]; exact hl)
    omega) (by decide), fun k hk => ?_⟩
  have hmon : ∀ a : Nat, (a : Int) < t0 61 0 → (a : Int) ≤ ph_gp t0 a := by
    intro a
    induction a with
    | zero =>
      intro ha
      obtain ⟨p2, y1, -⟩ := hM.ent hG ha
      omega
    | succ a ih =>
      intro ha
      have := ih (by omega)
      have := hG.2.2.1 a (a + 1) (by omega) ha
      omega
  obtain ⟨pp, z1, z2, z3, z4⟩ := hM.ent hG hk
  have := hmon k hk
  omega
theorem ph_idx0 {k r : Nat} (hIdx : ph_Idx t0 k r) (hno : ∀ a : Nat, k ≤ a → (a : Int) < t0 61 0 → ph_gp t0 a ≠ r) : ph_Idx t0 k (r + 1) :=
  ⟨hIdx.1, fun a ha => by have := hIdx.2.1 a ha; omega, fun a h1 h2 => by have := hIdx.2.2 a h1 h2; have := hno a h1 h2; omega⟩
theorem ph_idx1 (hG : ph_G s0 t0 e 1282) {k r : Nat} (hIdx : ph_Idx t0 k r) (hk : (k : Int) < t0 61 0) (hp : ph_gp t0 k = r) : ph_Idx t0 (k + 1) (r + 1) :=
  ⟨by omega, fun a ha => by
    by_cases e1 : a = k
    · rw [e1, hp]; omega
    · have := hIdx.2.1 a (by omega); omega, fun a h1 h2 => by
    have := hG.2.2.1 k a (by omega) h2; omega⟩
/-- a thing that was elsewhere: its reference is looked at -/
theorem ph_oneC (hG : ph_G s0 t0 e 1282) (H6 : ∀ x : Nat, x < 640 → 0 < t0 30 x → s0 6 (t0 31 x).toNat ≠ 0) (He : s0 6 e ≠ 0) {fl : Int} (hfl : fl = 0 ∨ fl = 1) {r k c m i : Nat} (hM : ph_Mid s t s0 t0 e) (h22 : s 22 0 = s 21 0) (hCL : ph_CL t t0 e (fun _ => False)) (hIdx : ph_Idx t0 k r) (hDone : ph_Done s0 t0 t e fl r) (He40 : t0 40 0 = s0 6 e)
    (hc : c < 40) (hm : (m : Int) < t 38 c) (hi : (i : Int) < t 33 (ph_x t c m)) (hrp : r = 32 * c + ph_pos t c m + 2 + i) (hr : r < 1280) (hce : c ≠ e) (hx0 : t0 31 (ph_x t c m) ≠ e)
    (hmatch : (s 6 c = s0 6 e ↔ fl = 1) → ∀ (K : ty_S → Prop) (n : Nat), eX3_moveWithOthers (py_O s) (py_o (ph_E t0 (t0 35 (12 * ph_x t c m + i)))) (py_o (s 6 c)) (fun S6 => eX0_nextReference S6 (py_o (r + 1 : Nat)) (fun S4 r4 => lX3_moveReferredTo_9 K n (py_o (s0 6 e)) (py_o fl) r4 S4)) → lX3_moveReferredTo_9 K (n + 1) (py_o (s0 6 e)) (py_o fl) (py_o r) (py_O s))
    (hnomatch : ¬ (s 6 c = s0 6 e ↔ fl = 1) → ∀ (K : ty_S → Prop) (n : Nat), eX0_nextReference (py_O s) (py_o (r + 1 : Nat)) (fun S4 r4 => lX3_moveReferredTo_9 K n (py_o (s0 6 e)) (py_o fl) r4 S4) → lX3_moveReferredTo_9 K (n + 1) (py_o (s0 6 e)) (py_o fl) (py_o r) (py_O s))
    (hnoop : ¬ (0 ≤ t0 35 (12 * ph_x t c m + i) ∧ t 31 (t0 35 (12 * ph_x t c m + i)).toNat = e) → ∀ (K : ty_S → Prop) (n : Nat), eX0_nextReference (py_O s) (py_o (r + 1 : Nat)) (fun S4 r4 => lX3_moveReferredTo_9 K n (py_o (s0 6 e)) (py_o fl) r4 S4) → lX3_moveReferredTo_9 K (n + 1) (py_o (s0 6 e)) (py_o fl) (py_o r) (py_O s)) :
    ∃ (s1 t1 : py_Z) (k1 : Nat),
      (∀ (K : ty_S → Prop) (n : Nat), eX0_nextReference (py_O s1) (py_o (r + 1 : Nat)) (fun S4 r4 => lX3_moveReferredTo_9 K n (py_o (s0 6 e)) (py_o fl) r4 S4) → lX3_moveReferredTo_9 K (n + 1) (py_o (s0 6 e)) (py_o fl) (py_o r) (py_O s)) ∧
      (∀ (K : ty_S → Int32 → Prop) (R : Int32 → ty_S → Prop), (∃ n9, lX5_oneStep_145 K R n9 (py_o fl) (py_o k1) (py_O t1)) → ∃ n9, lX5_oneStep_145 K R n9 (py_o fl) (py_o k) (py_O t)) ∧
      ph_Mid s1 t1 s0 t0 e ∧ s1 22 0 = s1 21 0 ∧ ph_CL t1 t0 e (fun _ => False) ∧ ph_Mono t t1 e ∧ ph_Idx t0 k1 (r + 1) ∧ ph_Done s0 t0 t1 e fl (r + 1) := by
  have a1 := hM.1
  have a9 := hM.2.2.2.2.2.2.2.2.1
  have hx640 : ph_x t c m < 640 := by have := (hM.2.1.2.1 c m hc hm).1; unfold ph_x; omega
  have g33 := hM.f 33 (ph_x t c m) (by omega)
  have g35 := hM.f 35 (12 * ph_x t c m + i) (by omega)
  have g30 := hM.f 30 (ph_x t c m) (by omega)
  obtain ⟨m1, m2, m3⟩ := hM.2.2.1.2.2.2.1 c m hc (by omega) hm
  have hl0 : 0 < t0 30 (ph_x t c m) := by rw [← g30]; exact m1
  have hPV : ph_PV t (t0 35 (12 * ph_x t c m + i)) := by
    have := hM.2.2.1.2.2.2.2.2 (ph_x t c m) hx640 m1 i hi
    rwa [g35] at this
  have hback := (a9 (ph_x t c m) hx640 m1).2.2.1 hx0
  have hx0c : t0 31 (ph_x t c m) = c := by omega
  have hgp : 32 * t0 31 (ph_x t c m) + t0 32 (ph_x t c m) + 2 + i = r := by omega
  have hs06 : s 6 c = s0 6 c := hM.2.2.2.2.2.2.2.2.2.2.2.2.2 c (by have := H6 (ph_x t c m) hx640 hl0; rw [hx0c] at this; simpa using this)
  have h6c : s 6 c ≠ 0 := fun e1 => by have := (hM.2.1.1 c hc).2.2.2.2.2.1 e1; omega
  have hi12 : i < 12 := by have := (hM.2.1.2.1 c m hc hm).2.1; omega
  obtain ⟨hN1, hN2⟩ := hM.nk hG
  have f61 := hM.f 61 0 (by omega)
  have hdone1 : ∀ t1 : py_Z, ph_Mono t t1 e → ((s 6 c = s0 6 e ↔ fl = 1) → t0 35 (12 * ph_x t c m + i) < 0 ∨ t1 31 (t0 35 (12 * ph_x t c m + i)).toNat ≠ e) → ph_Done s0 t0 t1 e fl (r + 1) := fun t1 hMo hat x' hx' hl' hne' i' hi' hlt hfl' => by
    by_cases e1 : 32 * t0 31 x' + t0 32 x' + 2 + i' < r
    · rcases hDone x' hx' hl' hne' i' hi' e1 hfl' with e2 | e2
      · exact Or.inl e2
      · exact Or.inr (by rw [(hMo.1 _ e2).1]; exact e2)
    · obtain ⟨v1, v2, v3, v4⟩ := hM.uniq hc hm hi hrp hx' hl' hne' hi' (by omega)
      rw [v4] at hfl'
      simp only [Int.toNat_natCast] at hfl'
      subst v1; subst v2
      exact hat (by rw [hs06]; exact hfl')
  have hent : (k : Int) < t0 61 0 → ph_gp t0 k = r → ∀ (K : ty_S → Int32 → Prop) (R : Int32 → ty_S → Prop) (n : Nat), jX5_oneStep_196 K R (fun a0 a1 S9 => lX5_oneStep_145 K R n a0 a1 S9) (py_o fl) (py_o k) (py_o (ph_x t c m)) (py_o (t0 35 (12 * ph_x t c m + i))) (py_o fl) (py_o (if s 6 c = s0 6 e then 1 else 0)) (py_O t) → lX5_oneStep_145 K R (n + 1) (py_o fl) (py_o k) (py_O t) := fun hk hp K R n hK => by
    obtain ⟨v1, v2, v3, v4⟩ := hM.entk hG hc hm hi hrp hk hp
    have b6 := (hG.2.1 k hk).1.2.2.2.2.2
    have e47 : t0 47 k = (if s 6 c = s0 6 e then 1 else 0) := by
      have e9 : s0 6 (t0 31 (t0 45 k).toNat).toNat = s 6 c := by
        rw [v1]
        simp only [Int.toNat_natCast]
        rw [hx0c]
        simp only [Int.toNat_natCast]
        exact hs06.symm
      rw [b6]
      simp only [e9, He40]
    exact pm_entry (by rw [f61]; exact hk) (hN2 k hk) (by rw [f61]; exact hN1) hx640 hi12 (by rw [hM.f 45 k (by omega)]; exact v1) (by rw [hM.f 46 k (by omega)]; exact v2) (by rw [hM.f 47 k (by omega)]; exact e47) g35 hfl hK
  by_cases hin : 0 ≤ t0 35 (12 * ph_x t c m + i) ∧ t 31 (t0 35 (12 * ph_x t c m + i)).toNat = e
  · obtain ⟨y1, y2, y3, y4, y5, y6⟩ := (hM.E hPV).resolve_left (by omega)
    have hyc : t0 35 (12 * ph_x t c m + i) = ((t0 35 (12 * ph_x t c m + i)).toNat : Nat) := by omega
    have hy0 : t0 31 (t0 35 (12 * ph_x t c m + i)).toNat = e := by
      by_cases e1 : t0 31 (t0 35 (12 * ph_x t c m + i)).toNat = e
      · exact e1
      · have := ((a9 _ (by omega) y3).2.2.1 e1).1
        exact absurd (this.symm.trans hin.2) e1
    obtain ⟨a, g1, g2, g3⟩ := hG.2.2.2 (ph_x t c m) hx640 hl0 hx0 i (by omega) hin.1 hy0 (by omega)
    have hga : ph_gp t0 a = r := by
      unfold ph_gp
      rw [g2, g3]
      simp only [Int.toNat_natCast]
      exact hgp
    have hak : a = k := by
      rcases Nat.lt_trichotomy a k with e1 | e1 | e1
      · have := hIdx.2.1 a e1; omega
      · exact e1
      · have := hIdx.2.2 k (Nat.le_refl _) (by omega)
        have := hG.2.2.1 k a e1 g1
        omega
    subst hak
    by_cases hmt : (s 6 c = s0 6 e ↔ fl = 1)
    · obtain ⟨j, kk, hj, hkk, j1, j2, j3, j4, j5⟩ := (a1.six hc).resolve_left h6c
      obtain ⟨s1, t1, u1, u2, u3, u4, u5, u6, u7⟩ := hM.moveAll h22 hCL (y := (t0 35 (12 * ph_x t c m + i)).toNat) (j := j) (by omega) y3 hin.2 hj
      have hse := hM.six_e
      have hs6e := hM.2.2.2.2.2.2.2.2.2.2.2.2.2 e He
      have hp50 := hM.2.2.2.2.1.2.2.2.2
      refine ⟨s1, t1, a + 1, fun K n hK => hmatch hmt K n ?_, fun K R ⟨n9, hn9⟩ => ⟨n9 + 1, hent g1 hga K R n9 ?_⟩, u3, u4, u5, u6, ph_idx1 hG hIdx g1 hga, hdone1 t1 u6 (fun _ => Or.inr u7)⟩
      · rw [j2, hyc]
        exact u1 _ hK
      · have hj0 : fl = 1 → j = 0 := fun e1 => by
          have e2 := hmt.mpr e1
          exact a1.num hj (by omega) (by rw [← j2, e2]; omega)
        have hb : (if s 6 c = s0 6 e then (1 : Int) else 0) = fl := by
          by_cases e2 : s 6 c = s0 6 e
          · rw [if_pos e2]; exact (hmt.mp e2).symm
          · rw [if_neg e2]
            rcases hfl with e3 | e3
            · exact e3.symm
            · exact absurd (hmt.mpr e3) e2
        rw [hb]
        unfold jX5_oneStep_196
        try simp only [py_O_ap, py_l0, py_l1, py_l2, py_l3, py_l4, py_l5, py_l6, py_l7, py_l8, py_l9, py_l12, py_l16, py_l32, py_l40, py_l100, py_l640, py_l1280, py_neg, py_add, py_sub, py_mul, py_stO]
        rw [if_pos True.intro]
        refine hM.inCar hPV (fun _ _ => ?_) (fun e1 => absurd hin e1)
        refine py_ieq (fun e1 => absurd e1 (by decide)) (fun _ => ?_) (by decide) (by decide)
        refine py_ieq (fun e1 => ?_) (fun e1 => py_and ?_)
        · rw [hyc]
          have := u2 (fun S8 => lX5_oneStep_145 K R n9 (py_o fl) (py_o ((a + 1 : Nat) : Int)) S8) hn9
          rw [hj0 e1] at this
          exact this
        · rw [py_nat (by omega)]
          simp only [Int.toNat_natCast]
          try simp only [py_O_ap, py_l0, py_l1, py_l2, py_l3, py_l4, py_l5, py_l6, py_l7, py_l8, py_l9, py_l12, py_l16, py_l32, py_l40, py_l100, py_l640, py_l1280, py_neg, py_add, py_sub, py_mul, py_stO]
          rw [m2]
          refine pm_trainOf a1 hc (fun j8 hj8 e9 => ?_) (fun e9 => absurd e9 h6c)
          have e10 : j8 = j := a1.num hj8 hj (by rw [← e9, j2])
          subst e10
          rw [hyc]
          exact u2 _ hn9
    · refine ⟨s, t, a + 1, hnomatch hmt, fun K R ⟨n9, hn9⟩ => ⟨n9 + 1, hent g1 hga K R n9 ?_⟩, hM, h22, hCL, ph_Mono.refl, ph_idx1 hG hIdx g1 hga, hdone1 t ph_Mono.refl (fun e1 => absurd e1 hmt)⟩
      unfold jX5_oneStep_196
      try simp only [py_O_ap, py_l0, py_l1, py_l2, py_l3, py_l4, py_l5, py_l6, py_l7, py_l8, py_l9, py_l12, py_l16, py_l32, py_l40, py_l100, py_l640, py_l1280, py_neg, py_add, py_sub, py_mul, py_stO]
      refine py_ieq (fun e1 => absurd ?_ hmt) (fun _ => hn9) (by split <;> decide)
      by_cases e2 : s 6 c = s0 6 e
      · rw [if_pos e2] at e1; exact ⟨fun _ => e1.symm, fun _ => e2⟩
      · rw [if_neg e2] at e1; exact ⟨fun e3 => absurd e3 e2, fun e3 => by omega⟩
  · have hd1 : ph_Done s0 t0 t e fl (r + 1) := hdone1 t ph_Mono.refl (fun _ => by omega)
    by_cases hek : (k : Int) < t0 61 0 ∧ ph_gp t0 k = r
    · refine ⟨s, t, k + 1, hnoop hin, fun K R ⟨n9, hn9⟩ => ⟨n9 + 1, hent hek.1 hek.2 K R n9 ?_⟩, hM, h22, hCL, ph_Mono.refl, ph_idx1 hG hIdx hek.1 hek.2, hd1⟩
      unfold jX5_oneStep_196
      try simp only [py_O_ap, py_l0, py_l1, py_l2, py_l3, py_l4, py_l5, py_l6, py_l7, py_l8, py_l9, py_l12, py_l16, py_l32, py_l40, py_l100, py_l640, py_l1280, py_neg, py_add, py_sub, py_mul, py_stO]
      refine py_ieq (fun _ => ?_) (fun _ => hn9) (by split <;> decide)
      refine hM.inCar hPV (fun a b => absurd ⟨a, b⟩ hin) (fun _ => ?_)
      exact py_ieq (fun _ => hn9) (fun c => absurd rfl c)
    · refine ⟨s, t, k, hnoop hin, fun K R hR => hR, hM, h22, hCL, ph_Mono.refl, ph_idx0 hIdx (fun a h1 h2 hp => ?_), hd1⟩
      by_cases e1 : a = k
      · subst e1; exact hek ⟨h2, hp⟩
      · have := hIdx.2.2 k (Nat.le_refl _) (by omega)
        have := hG.2.2.1 k a (by omega) h2
        omega
/-- one reference is looked at -/
theorem ph_one (hG : ph_G s0 t0 e 1282) (H6 : ∀ x : Nat, x < 640 → 0 < t0 30 x → s0 6 (t0 31 x).toNat ≠ 0) (He : s0 6 e ≠ 0) (He40 : t0 40 0 = s0 6 e) {fl : Int} (hfl : fl = 0 ∨ fl = 1) {r k : Nat} (hr : r < 1280) (hM : ph_Mid s t s0 t0 e) (h22 : s 22 0 = s 21 0) (hCL : ph_CL t t0 e (fun _ => False)) (hIdx : ph_Idx t0 k r) (hDone : ph_Done s0 t0 t e fl r) (hs1 : s 1 r = 1) :
    ∃ (s1 t1 : py_Z) (k1 : Nat),
      (∀ (K : ty_S → Prop) (n : Nat), eX0_nextReference (py_O s1) (py_o (r + 1 : Nat)) (fun S4 r4 => lX3_moveReferredTo_9 K n (py_o (s0 6 e)) (py_o fl) r4 S4) → lX3_moveReferredTo_9 K (n + 1) (py_o (s0 6 e)) (py_o fl) (py_o r) (py_O s)) ∧
      (∀ (K : ty_S → Int32 → Prop) (R : Int32 → ty_S → Prop), (∃ n9, lX5_oneStep_145 K R n9 (py_o fl) (py_o k1) (py_O t1)) → ∃ n9, lX5_oneStep_145 K R n9 (py_o fl) (py_o k) (py_O t)) ∧
      ph_Mid s1 t1 s0 t0 e ∧ s1 22 0 = s1 21 0 ∧ ph_CL t1 t0 e (fun _ => False) ∧ ph_Mono t t1 e ∧ ph_Idx t0 k1 (r + 1) ∧ ph_Done s0 t0 t1 e fl (r + 1) := by
  have a1 := hM.1
  have a2 := hM.2.1
  have a5 := hM.2.2.2.2.1
  have hse := hM.six_e
  have hs6e := hM.2.2.2.2.2.2.2.2.2.2.2.2.2 e He
  obtain ⟨c, m, i, hc, hm, hi, hrp⟩ := ((a2.2.2 r hr).resolve_left (by omega)).2
  obtain ⟨f1, f2, f3, f4⟩ := a2.fit hc hm
  obtain ⟨w1, w2, w3, w4, w5, w6, w7⟩ := a2.2.1 c m hc hm
  have hx640 : ph_x t c m < 640 := by unfold ph_x; omega
  have hrc : r / 32 = c := by omega
  have h6b := a1.six_b hc
  have h6eb := a1.six_b a5.2.2.1
  have g30 := hM.f 30 (ph_x t c m) (by omega)
  have g33 := hM.f 33 (ph_x t c m) (by omega)
  have g35 := hM.f 35 (12 * ph_x t c m + i) (by omega)
  by_cases hce : c = e
  · subst hce
    refine ⟨s, t, k, fun K n hK => pr_mrt_car hr hrc a5.1 hK, fun K R hR => hR, hM, h22, hCL, ph_Mono.refl, ph_idx0 hIdx (fun a _ h2 hp => (hM.entk hG hc hm hi hrp h2 hp).2.2.1 rfl), fun x' hx' hl' hne' i' hi' hlt hfl' => ?_⟩
    by_cases e1 : 32 * t0 31 x' + t0 32 x' + 2 + i' < r
    · exact hDone x' hx' hl' hne' i' hi' e1 hfl'
    · exact absurd rfl (hM.uniq hc hm hi hrp hx' hl' hne' hi' (by omega)).2.2.1
  · have hword : s 0 r = ph_E t0 (t0 35 (12 * ph_x t c m + i)) := by rw [hrp, (w6 i hi).1, g35]
    obtain ⟨m1, m2, m3⟩ := hM.2.2.1.2.2.2.1 c m hc (by omega) hm
    have hl0 : 0 < t0 30 (ph_x t c m) := by rw [← g30]; exact m1
    have hPV : ph_PV t (t0 35 (12 * ph_x t c m + i)) := by
      have := hM.2.2.1.2.2.2.2.2 (ph_x t c m) hx640 m1 i hi
      rwa [g35] at this
    have hmatch : (s 6 c = s0 6 e ↔ fl = 1) → ∀ (K : ty_S → Prop) (n : Nat), eX3_moveWithOthers (py_O s) (py_o (ph_E t0 (t0 35 (12 * ph_x t c m + i)))) (py_o (s 6 c)) (fun S6 => eX0_nextReference S6 (py_o (r + 1 : Nat)) (fun S4 r4 => lX3_moveReferredTo_9 K n (py_o (s0 6 e)) (py_o fl) r4 S4)) → lX3_moveReferredTo_9 K (n + 1) (py_o (s0 6 e)) (py_o fl) (py_o r) (py_O s) := fun hmt K n hK => pr_mrt_match hr hrc (by omega) (by omega) h6b (by omega) hfl hword hmt hK
    have hnomatch : ¬ (s 6 c = s0 6 e ↔ fl = 1) → ∀ (K : ty_S → Prop) (n : Nat), eX0_nextReference (py_O s) (py_o (r + 1 : Nat)) (fun S4 r4 => lX3_moveReferredTo_9 K n (py_o (s0 6 e)) (py_o fl) r4 S4) → lX3_moveReferredTo_9 K (n + 1) (py_o (s0 6 e)) (py_o fl) (py_o r) (py_O s) := fun hmt K n hK => pr_mrt_no hr hrc (by omega) (by omega) h6b (by omega) hfl hmt hK
    have hnoop : ¬ (0 ≤ t0 35 (12 * ph_x t c m + i) ∧ t 31 (t0 35 (12 * ph_x t c m + i)).toNat = e) → ∀ (K : ty_S → Prop) (n : Nat), eX0_nextReference (py_O s) (py_o (r + 1 : Nat)) (fun S4 r4 => lX3_moveReferredTo_9 K n (py_o (s0 6 e)) (py_o fl) r4 S4) → lX3_moveReferredTo_9 K (n + 1) (py_o (s0 6 e)) (py_o fl) (py_o r) (py_O s) := fun hno K n hK => by
      by_cases e1 : (s 6 c = s0 6 e ↔ fl = 1)
      · refine hmatch e1 K n ?_
        unfold eX3_moveWithOthers
        refine hM.no hPV hno ?_
        refine ⟨1, ?_⟩
        have a11 := hM.2.2.2.2.2.2.2.2.2.2.1
        have hc16 := (a2.1 e a5.2.2.1).2.2.1
        have hle := py_cnt_le (fun k => decide (t 31 (ph_x t e k) ≠ e)) (t 38 e).toNat
        unfold ph_mc at a11
        unfold lX3_moveWithOthers_6
        try simp only [py_O_ap, py_l0, py_l1, py_l2, py_l3, py_l4, py_l5, py_l6, py_l7, py_l8, py_l9, py_l12, py_l16, py_l32, py_l40, py_l100, py_l640, py_l1280, py_neg, py_add, py_sub, py_mul, py_stO]
        exact py_ile (fun _ => hK) (fun c => absurd c (by omega))
      · exact hnomatch e1 K n hK
    by_cases hx0 : t0 31 (ph_x t c m) = e
    · have hno := hCL (ph_x t c m) hx640 hl0 hx0 (by omega) (fun c => c) i (by omega)
      refine ⟨s, t, k, hnoop (by omega), fun K R hR => hR, hM, h22, hCL, ph_Mono.refl, ph_idx0 hIdx (fun a _ h2 hp => by have := (hM.entk hG hc hm hi hrp h2 hp).2.2.2; omega), fun x' hx' hl' hne' i' hi' hlt hfl' => ?_⟩
      by_cases e1 : 32 * t0 31 x' + t0 32 x' + 2 + i' < r
      · exact hDone x' hx' hl' hne' i' hi' e1 hfl'
      · have := hM.uniq hc hm hi hrp hx' hl' hne' hi' (by omega)
        rw [this.1] at hne'
        exact absurd hx0 hne'
    · exact ph_oneC hG H6 He hfl hM h22 hCL hIdx hDone He40 hc hm hi hrp hr hce hx0 hmatch hnomatch hnoop
/-- all references, once -/
theorem ph_pass (hG : ph_G s0 t0 e 1282) (H6 : ∀ x : Nat, x < 640 → 0 < t0 30 x → s0 6 (t0 31 x).toNat ≠ 0) (He : s0 6 e ≠ 0) (He40 : t0 40 0 = s0 6 e) {fl : Int} (hfl : fl = 0 ∨ fl = 1) :
    ∀ (d r k : Nat) (s t : py_Z), 1280 - r ≤ d → r ≤ 1280 → (r = 1280 ∨ s 1 r = 1) → ph_Mid s t s0 t0 e → s 22 0 = s 21 0 → ph_CL t t0 e (fun _ => False) → ph_Idx t0 k r → ph_Done s0 t0 t e fl r →
    ∃ s' t' : py_Z,
      (∀ K : ty_S → Prop, K (py_O s') → ∃ n9, lX3_moveReferredTo_9 K n9 (py_o (s0 6 e)) (py_o fl) (py_o r) (py_O s)) ∧
      (∀ (K : ty_S → Int32 → Prop) (R : Int32 → ty_S → Prop), R (py_o (fl + 1)) (py_O t') → ∃ n9, lX5_oneStep_145 K R n9 (py_o fl) (py_o k) (py_O t)) ∧
      ph_Mid s' t' s0 t0 e ∧ s' 22 0 = s' 21 0 ∧ ph_CL t' t0 e (fun _ => False) ∧ ph_Mono t t' e ∧ ph_Done s0 t0 t' e fl 1280 := by
  intro d
  induction d with
  | zero =>
    intro r k s t hd hr hr1 hM h22 hCL hIdx hDone
    have e1 : r = 1280 := by omega
    subst e1
    obtain ⟨hN1, hN2⟩ := hM.nk hG
    have hk : (k : Int) = t0 61 0 := by
      rcases Int.lt_or_le (k : Int) (t0 61 0) with e2 | e2
      · obtain ⟨p, z1, z2, z3, z4⟩ := hM.ent hG e2
        have := hIdx.2.2 k (Nat.le_refl _) e2
        omega
      · have := hIdx.1; omega
    have f61 := hM.f 61 0 (by omega)
    refine ⟨s, t, fun K hK => ⟨1, ?_⟩, fun K R hR => ⟨1, ?_⟩, hM, h22, hCL, ph_Mono.refl, hDone⟩
    · unfold lX3_moveReferredTo_9
      try simp only [py_O_ap, py_l0, py_l1, py_l2, py_l3, py_l4, py_l5, py_l6, py_l7, py_l8, py_l9, py_l12, py_l16, py_l32, py_l40, py_l100, py_l640, py_l1280, py_neg, py_add, py_sub, py_mul, py_stO]
      exact py_ile (fun _ => hK) (fun c => absurd c (by omega))
    · unfold lX5_oneStep_145
      try simp only [py_O_ap, py_l0, py_l1, py_l2, py_l3, py_l4, py_l5, py_l6, py_l7, py_l8, py_l9, py_l12, py_l16, py_l32, py_l40, py_l100, py_l640, py_l1280, py_neg, py_add, py_sub, py_mul, py_stO]
      exact py_ile (fun _ => hR) (fun c => absurd c (by omega))
  | succ d ih =>
    intro r k s t hd hr hr1 hM h22 hCL hIdx hDone
    by_cases e1 : r = 1280
    · exact ih r k s t (by omega) hr hr1 hM h22 hCL hIdx hDone
    · obtain ⟨s1, t1, k1, o1, o2, o3, o4, o5, o6, o7, o8⟩ := ph_one hG H6 He He40 hfl (by omega) hM h22 hCL hIdx hDone (by omega)
      obtain ⟨r', b1, b2, b3, b4, b5⟩ := pr_nextEx o3.2.1.ir (a := r + 1) (by omega)
      have hDone2 : ph_Done s0 t0 t1 e fl r' := fun x' hx' hl' hne' i' hi' hlt hfl' => by
        by_cases e2 : 32 * t0 31 x' + t0 32 x' + 2 + i' < r + 1
        · exact o8 x' hx' hl' hne' i' hi' e2 hfl'
        · obtain ⟨c', m', q1, q2, q3, q4, q5, q6, q7, q8, q9⟩ := o3.ref hx' hl' hne' hi'
          have := b4 _ (show r + 1 ≤ 32 * c' + ph_pos t1 c' m' + 2 + i' by omega) (by omega)
          omega
      have hIdx2 : ph_Idx t0 k1 r' := ⟨o7.1, fun a ha => by have := o7.2.1 a ha; omega, fun a h1 h2 => by
        obtain ⟨p, z1, z2, z3, z4⟩ := o3.ent hG h2
        have h3 := o7.2.2 a h1 h2
        by_cases e2 : r' ≤ p
        · omega
        · have := b4 p (by omega) (by omega)
          omega⟩
      obtain ⟨s', t', u1, u2, u3, u4, u5, u6, u7⟩ := ih r' k1 s1 t1 (by omega) b2 b3 o3 o4 o5 hIdx2 hDone2
      refine ⟨s', t', fun K hK => ?_, fun K R hR => o2 K R (u2 K R hR), u3, u4, u5, o6.trans u6, u7⟩
      obtain ⟨n9, hn9⟩ := u1 K hK
      exact ⟨n9 + 1, o1 K n9 (b5 _ hn9)⟩
/-- all references of one kind -/
theorem ph_refs (hG : ph_G s0 t0 e 1282) (H6 : ∀ x : Nat, x < 640 → 0 < t0 30 x → s0 6 (t0 31 x).toNat ≠ 0) (He : s0 6 e ≠ 0) (He40 : t0 40 0 = s0 6 e) {fl : Int} (hfl : fl = 0 ∨ fl = 1) (hM : ph_Mid s t s0 t0 e) (h22 : s 22 0 = s 21 0) (hCL : ph_CL t t0 e (fun _ => False)) :
    ∃ s' t' : py_Z,
      (∀ K : ty_S → Prop, K (py_O s') → eX3_moveReferredTo (py_O s) (py_o (s0 6 e)) (py_o fl) K) ∧
      (∀ (K : ty_S → Int32 → Prop) (R : Int32 → ty_S → Prop), R (py_o (fl + 1)) (py_O t') → ∃ n9, lX5_oneStep_145 K R n9 (py_o fl) (py_o 0) (py_O t)) ∧
      ph_Mid s' t' s0 t0 e ∧ s' 22 0 = s' 21 0 ∧ ph_CL t' t0 e (fun _ => False) ∧ ph_Mono t t' e ∧ ph_Done s0 t0 t' e fl 1280 := by
  obtain ⟨r', b1, b2, b3, b4, b5⟩ := pr_nextEx hM.2.1.ir (a := 0) (by omega)
  obtain ⟨s', t', u1, u2, u3, u4, u5, u6, u7⟩ := ph_pass hG H6 He He40 hfl 1280 r' 0 s t (by omega) b2 b3 hM h22 hCL ⟨by have := hG.1; omega, fun a ha => absurd ha (by omega), fun a _ h2 => by
      obtain ⟨p, z1, z2, z3, z4⟩ := hM.ent hG h2
      by_cases e2 : r' ≤ p
      · omega
      · have := b4 p (by omega) (by omega)
        omega⟩ (fun x' hx' hl' hne' i' hi' hlt hfl' => by
      obtain ⟨c', m', q1, q2, q3, q4, q5, q6, q7, q8, q9⟩ := hM.ref hx' hl' hne' hi'
      have := b4 _ (Nat.zero_le (32 * c' + ph_pos t c' m' + 2 + i')) (by omega)
      omega)
  refine ⟨s', t', fun K hK => ?_, fun K R hR => u2 K R hR, u3, u4, u5, u6, u7⟩
  unfold eX3_moveReferredTo
  try simp only [py_O_ap, py_l0, py_l1, py_l2, py_l3, py_l4, py_l5, py_l6, py_l7, py_l8, py_l9, py_l12, py_l16, py_l32, py_l40, py_l100, py_l640, py_l1280, py_neg, py_add, py_sub, py_mul, py_stO]
  exact b5 _ (u1 K hK)
end PHR
end
section
/-! PURE: between the calls; whether the first train is referred to -/
def ph_R (s t : py_Z) (n : Nat) (m : Int) : Prop :=
  pr_RW s t ∧ ph_TH s t (ph_E t) ∧ ph_MH t (-1) ∧ (∀ r : Nat, r < 16 → s 7 r = ph_E t (t 43 r)) ∧ (s 20 0 = -1 ∧ t 59 0 = -1) ∧
  (s 15 0 = t 52 0 ∧ s 16 0 = t 53 0 ∧ s 17 0 = t 54 0 ∧ s 18 0 = t 55 0 ∧ s 19 0 = t 56 0) ∧
  (s 23 0 = t 51 0 ∧ 1 ≤ t 51 0 ∧ t 51 0 ≤ 40) ∧ (s 24 0 = t 58 0 ∧ t 58 0 ≤ n) ∧ t 57 0 ≤ m ∧
  (0 ≤ s 26 0 ∧ s 26 0 ≤ n ∧ ∀ p : Nat, p < 1280 → 0 ≤ s 10 p ∧ s 10 p ≤ s 26 0)
def ph_W0 (s t : py_Z) (r : Nat) : Prop := 0 ≤ t 43 r ∧ s 6 (t 31 (t 43 r).toNat).toNat = t 40 0
def ph_W1 (s t : py_Z) (x i : Nat) : Prop := x < 640 ∧ 0 < t 30 x ∧ (i : Int) < t 33 x ∧ s 6 (t 31 x).toNat ≠ t 40 0 ∧ 0 ≤ t 35 (12 * x + i) ∧ s 6 (t 31 (t 35 (12 * x + i)).toNat).toNat = t 40 0
section PHW
variable {s t : py_Z} {K : ty_S → Int32 → Prop}
theorem ph_live {E0 : Int → Int} (hTH : ph_TH s t E0) (hMH : ph_MH t (-1)) {x : Nat} (hx : x < 640) (hl : 0 < t 30 x) : ∃ c k : Nat, c < 40 ∧ (k : Int) < t 38 c ∧ ph_x t c k = x ∧ t 31 x = c ∧ t 32 x = ph_pos t c k ∧ s 6 c ≠ 0 ∧ (0 ≤ t 32 x ∧ t 32 x < 31) ∧ (0 ≤ t 33 x ∧ t 33 x ≤ 12) ∧ (0 ≤ t 34 x ∧ t 34 x ≤ 12) := by
  obtain ⟨c, k, hc, hk, h1, h2, h3⟩ := hMH.2.2.1 x hx hl
  obtain ⟨f1, f2, f3, f4⟩ := hTH.fit hc hk
  obtain ⟨w1, w2, w3, w4⟩ := hTH.2.1 c k hc hk
  rw [h1] at w2 w3 f1 f4
  exact ⟨c, k, hc, hk, h1, h2, h3, fun e1 => by have := (hTH.1 c hc).2.2.2.2.2.1 e1; omega, by omega, w2, w3⟩
/-- a pointer's code: its car's train -/
theorem ph_carTrain {E0 : Int → Int} (hRW : pr_RW s t) (hTH : ph_TH s t E0) (hMH : ph_MH t (-1)) {y : Int} (hy : ph_PV t y) {K : ty_S → Int32 → Prop} (h1 : 0 ≤ y → K (py_O s) (py_o (s 6 (t 31 y.toNat).toNat))) (h0 : y < 0 → K (py_O s) (py_o 0)) : eX4_carOf (py_O s) (py_o (ph_E t y)) (fun S3 r3 => eX1_trainOf S3 r3 K) := by
  rcases hy with e1 | ⟨e1, e2⟩
  · subst e1
    refine pr_carOf (fun c _ => absurd c (by simp [ph_E])) (fun _ => ?_) (by simp [ph_E])
    exact pr_trainOf (fun c => absurd c (by omega)) (fun _ => h0 (by omega))
  · obtain ⟨c, k, hc, hk, g1, g2, g3, g4, g5, g6, g7⟩ := ph_live hTH hMH (x := y.toNat) (by omega) e2
    have e3 : ph_E t y = 32 * t 31 y.toNat + t 32 y.toNat := by unfold ph_E; rw [if_neg (by omega)]
    rw [e3]
    refine pr_carOf (fun _ _ => ?_) (fun c => absurd c (by omega))
    rw [show (32 * t 31 y.toNat + t 32 y.toNat) / 32 = t 31 y.toNat by omega]
    exact pr_trainOf (fun _ _ => h1 e1.1) (fun c => absurd c (by omega))
theorem pr_isReferredTo (hRW : pr_RW s t) (hTH : ph_TH s t (ph_E t)) (hMH : ph_MH t (-1)) (hH : ∀ r : Nat, r < 16 → s 7 r = ph_E t (t 43 r)) (hn : 0 < t 50 0) (hT : (∃ r : Nat, r < 16 ∧ ph_W0 s t r) ∨ (∃ x i : Nat, ph_W1 s t x i) → K (py_O s) (py_o 1)) (hF : (∀ r : Nat, r < 16 → ¬ ph_W0 s t r) → (∀ x i : Nat, ¬ ph_W1 s t x i) → K (py_O s) (py_o 0)) : eX3_isReferredTo (py_O s) (py_o (t 40 0)) K := by
  have hf := hRW.2.2.2.2.1 0 (by omega)
  have hm57 := hRW.2.2.2.2.2.2.1
  have h6b : ∀ x : Nat, x < 640 → 0 < t 30 x → 0 ≤ s 6 (t 31 x).toNat ∧ s 6 (t 31 x).toNat ≤ 100000 := fun x hx hl => by
    obtain ⟨c, k, hc, hk, g1, g2, g3, g4⟩ := ph_live hTH hMH hx hl
    rw [g2]; simp only [Int.toNat_natCast]; exact hRW.six_b hc
  -- the references, from a place on
  have key2 : (∀ r : Nat, r < 16 → ¬ ph_W0 s t r) → ∀ d r : Nat, 1280 - r ≤ d → r ≤ 1280 → (r = 1280 ∨ s 1 r = 1) → (∀ x i : Nat, ph_W1 s t x i → (r : Int) ≤ 32 * t 31 x + t 32 x + 2 + i) → ∃ n9, lX3_isReferredTo_45 K n9 (py_o (t 40 0)) (py_o r) (py_O s) := by
    intro hW0 d
    have hend : ∀ r : Nat, r = 1280 → (∀ x i : Nat, ph_W1 s t x i → (r : Int) ≤ 32 * t 31 x + t 32 x + 2 + i) → ∃ n9, lX3_isReferredTo_45 K n9 (py_o (t 40 0)) (py_o r) (py_O s) := fun r e1 hno => by
      subst e1
      refine ⟨1, ?_⟩
      unfold lX3_isReferredTo_45
      try simp only [py_O_ap, py_l0, py_l1, py_l2, py_l3, py_l4, py_l5, py_l6, py_l7, py_l8, py_l9, py_l12, py_l16, py_l32, py_l40, py_l100, py_l640, py_l1280, py_neg, py_add, py_sub, py_mul, py_stO]
      refine py_ile (fun _ => hF hW0 (fun x i hw => ?_)) (fun c => absurd c (by omega))
      have h9 := hno x i hw
      obtain ⟨c, k, hc, hk, g1, g2, g3, g4⟩ := ph_live hTH hMH hw.1 hw.2.1
      obtain ⟨f1, f2, f3, f4⟩ := hTH.fit hc hk
      obtain ⟨w1, w2, w3, w4⟩ := hTH.2.1 c k hc hk
      have := hw.2.2.1
      rw [g1] at w2 w3 f1 f4
      omega
    induction d with
    | zero => intro r hd hr hr1 hno; exact hend r (by omega) hno
    | succ d ih =>
      intro r hd hr hr1 hno
      by_cases e1 : r = 1280
      · exact hend r e1 hno
      · obtain ⟨c, m, i, hc, hm, hi, hrp⟩ := ((hTH.2.2 r (by omega)).resolve_left (by omega)).2
        obtain ⟨f1, f2, f3, f4⟩ := hTH.fit hc hm
        obtain ⟨w1, w2, w3, w4, w5, w6, w7⟩ := hTH.2.1 c m hc hm
        obtain ⟨m1, m2, m3⟩ := hMH.2.2.2.1 c m hc (by omega) hm
        have hx640 : ph_x t c m < 640 := by unfold ph_x; omega
        have hPV := hMH.2.2.2.2.2 (ph_x t c m) hx640 m1 i hi
        have hword : s 0 r = ph_E t (t 35 (12 * ph_x t c m + i)) := by rw [hrp, (w6 i hi).1]
        have hgp : 32 * t 31 (ph_x t c m) + t 32 (ph_x t c m) + 2 + i = r := by omega
        have h6c := hRW.six_b hc
        obtain ⟨r', b1, b2, b3, b4, b5⟩ := pr_nextEx hTH.ir (a := r + 1) (by omega)
        have hEb : -1 ≤ ph_E t (t 35 (12 * ph_x t c m + i)) ∧ ph_E t (t 35 (12 * ph_x t c m + i)) < 1280 := by
          rcases hPV with e2 | ⟨e2, e3⟩
          · rw [e2]; simp [ph_E]
          · obtain ⟨c', k', hc', hk', g1, g2, g3, g4, g5, g6⟩ := ph_live hTH hMH (x := (t 35 (12 * ph_x t c m + i)).toNat) (by omega) e3
            unfold ph_E; rw [if_neg (by omega)]; omega
        have hbase : ∀ n : Nat, (0 ≤ t 35 (12 * ph_x t c m + i) → s 6 (t 31 (t 35 (12 * ph_x t c m + i)).toNat).toNat = t 40 0 → s 6 c ≠ t 40 0 → K (py_O s) (py_o 1)) → (¬ (0 ≤ t 35 (12 * ph_x t c m + i) ∧ s 6 (t 31 (t 35 (12 * ph_x t c m + i)).toNat).toNat = t 40 0 ∧ s 6 c ≠ t 40 0) → lX3_isReferredTo_45 K n (py_o (t 40 0)) (py_o r') (py_O s)) → lX3_isReferredTo_45 K (n + 1) (py_o (t 40 0)) (py_o r) (py_O s) := fun n hy hn => by
          unfold lX3_isReferredTo_45
          try simp only [py_O_ap, py_l0, py_l1, py_l2, py_l3, py_l4, py_l5, py_l6, py_l7, py_l8, py_l9, py_l12, py_l16, py_l32, py_l40, py_l100, py_l640, py_l1280, py_neg, py_add, py_sub, py_mul, py_stO]
          refine py_ile (fun c => absurd c (by omega)) (fun _ => ?_)
          refine pr_at (fun _ _ => ?_) (fun c => absurd c (by omega))
          simp only [Int.toNat_natCast]
          rw [hword]
          refine ph_carTrain hRW hTH hMH hPV (fun e2 => ?_) (fun e2 => ?_)
          · have h6y : 0 ≤ s 6 (t 31 (t 35 (12 * ph_x t c m + i)).toNat).toNat ∧ s 6 (t 31 (t 35 (12 * ph_x t c m + i)).toNat).toNat ≤ 100000 := by
              rcases hPV with e3 | ⟨e3, e4⟩
              · omega
              · exact h6b _ (by omega) e4
            refine py_ieq (fun e3 => ?_) (fun e3 => ?_)
            · refine pr_carOf (fun _ _ => ?_) (fun c => absurd c (by omega))
              rw [show (r : Int) / 32 = c by omega]
              refine pr_trainOf (fun _ _ => ?_) (fun c => absurd c (by omega))
              simp only [Int.toNat_natCast]
              refine py_ieq (fun e4 => ?_) (fun e4 => hy e2 e3 e4)
              unfold jX3_isReferredTo_91
              try simp only [py_O_ap, py_l0, py_l1, py_l2, py_l3, py_l4, py_l5, py_l6, py_l7, py_l8, py_l9, py_l12, py_l16, py_l32, py_l40, py_l100, py_l640, py_l1280, py_neg, py_add, py_sub, py_mul, py_stO]
              exact b5 _ (hn (fun c => c.2.2 e4))
            · unfold jX3_isReferredTo_91
              try simp only [py_O_ap, py_l0, py_l1, py_l2, py_l3, py_l4, py_l5, py_l6, py_l7, py_l8, py_l9, py_l12, py_l16, py_l32, py_l40, py_l100, py_l640, py_l1280, py_neg, py_add, py_sub, py_mul, py_stO]
              exact b5 _ (hn (fun c => e3 c.2.1))
          · refine py_ieq (fun e3 => absurd e3 (by omega)) (fun e3 => ?_)
            unfold jX3_isReferredTo_91
            try simp only [py_O_ap, py_l0, py_l1, py_l2, py_l3, py_l4, py_l5, py_l6, py_l7, py_l8, py_l9, py_l12, py_l16, py_l32, py_l40, py_l100, py_l640, py_l1280, py_neg, py_add, py_sub, py_mul, py_stO]
            exact b5 _ (hn (fun c => by omega))
        have hcs : s 6 (t 31 (ph_x t c m)).toNat = s 6 c := by rw [m2]; simp
        by_cases hw : 0 ≤ t 35 (12 * ph_x t c m + i) ∧ s 6 (t 31 (t 35 (12 * ph_x t c m + i)).toNat).toNat = t 40 0 ∧ s 6 c ≠ t 40 0
        · exact ⟨1, hbase 0 (fun _ _ _ => hT (Or.inr ⟨ph_x t c m, i, hx640, m1, hi, by rw [hcs]; exact hw.2.2, hw.1, hw.2.1⟩)) (fun c => absurd hw c)⟩
        · obtain ⟨n9, hn9⟩ := ih r' (by omega) b2 b3 (fun x' i' hw' => by
            have h8 := hno x' i' hw'
            obtain ⟨c', k', hc', hk', g1, g2, g3, g4, g5, g6, g7⟩ := ph_live hTH hMH hw'.1 hw'.2.1
            obtain ⟨v1, v2, v3, v4, v5, v6, v7⟩ := hTH.2.1 c' k' hc' hk'
            obtain ⟨k1, k2, k3, k4⟩ := hTH.fit hc' hk'
            rw [g1] at v6 k1 k4
            have h7 := (v6 i' hw'.2.2.1).2
            have hi' := hw'.2.2.1
            by_cases e2 : 32 * c' + ph_pos t c' k' + 2 + i' = r
            · obtain ⟨q1, q2, q3⟩ := hTH.refinj hc' hk' (i := i') (by rw [g1]; exact hi') hc hm hi (by omega)
              subst q1; subst q2; subst q3
              rw [g1] at hw hcs
              exact absurd ⟨hw'.2.2.2.2.1, hw'.2.2.2.2.2, by rw [← hcs]; exact hw'.2.2.2.1⟩ hw
            · by_cases e3 : r' ≤ 32 * c' + ph_pos t c' k' + 2 + i'
              · omega
              · have := b4 (32 * c' + ph_pos t c' k' + 2 + i') (by omega) (by omega)
                omega)
          exact ⟨n9 + 1, hbase n9 (fun a b c => absurd ⟨a, b, c⟩ hw) (fun _ => hn9)⟩
  have key1 : ∀ d r : Nat, r + d = 16 → (∀ q : Nat, q < r → ¬ ph_W0 s t q) → ∃ n9, lX3_isReferredTo_2 K n9 (py_o (t 40 0)) (py_o r) (py_O s) := by
    intro d
    induction d with
    | zero =>
      intro r hr hq
      obtain ⟨r', b1, b2, b3, b4, b5⟩ := pr_nextEx hTH.ir (a := 0) (by omega)
      refine ⟨1, ?_⟩
      unfold lX3_isReferredTo_2
      try simp only [py_O_ap, py_l0, py_l1, py_l2, py_l3, py_l4, py_l5, py_l6, py_l7, py_l8, py_l9, py_l12, py_l16, py_l32, py_l40, py_l100, py_l640, py_l1280, py_neg, py_add, py_sub, py_mul, py_stO]
      refine py_ile (fun _ => ?_) (fun c => absurd c (by omega))
      refine b5 _ (key2 (fun q hq2 => hq q (by omega)) 1280 r' (by omega) b2 b3 (fun x' i' hw' => ?_))
      obtain ⟨c', k', hc', hk', g1, g2, g3, g4, g5, g6, g7⟩ := ph_live hTH hMH hw'.1 hw'.2.1
      obtain ⟨v1, v2, v3, v4, v5, v6, v7⟩ := hTH.2.1 c' k' hc' hk'
      obtain ⟨k1, k2, k3, k4⟩ := hTH.fit hc' hk'
      rw [g1] at v6 k1 k4
      have hi' := hw'.2.2.1
      have h7 := (v6 i' hi').2
      by_cases e3 : r' ≤ 32 * c' + ph_pos t c' k' + 2 + i'
      · omega
      · have := b4 (32 * c' + ph_pos t c' k' + 2 + i') (by omega) (by omega)
        omega
    | succ d ih =>
      intro r hr hq
      have hPV := hMH.2.2.2.2.1 r (by omega)
      by_cases hw : ph_W0 s t r
      · refine ⟨1, ?_⟩
        unfold lX3_isReferredTo_2
        try simp only [py_O_ap, py_l0, py_l1, py_l2, py_l3, py_l4, py_l5, py_l6, py_l7, py_l8, py_l9, py_l12, py_l16, py_l32, py_l40, py_l100, py_l640, py_l1280, py_neg, py_add, py_sub, py_mul, py_stO]
        refine py_ile (fun c => absurd c (by omega)) (fun _ => py_and ?_)
        rw [py_nat (by omega)]
        simp only [Int.toNat_natCast]
        rw [hH r (by omega)]
        refine ph_carTrain hRW hTH hMH hPV (fun e2 => ?_) (fun e2 => absurd hw.1 (by omega))
        rw [hw.2]
        exact py_ieq (fun _ => hT (Or.inl ⟨r, by omega, hw⟩)) (fun c => absurd rfl c)
      · obtain ⟨n9, hn9⟩ := ih (r + 1) (by omega) (fun q hq2 => by
          by_cases e1 : q = r
          · rw [e1]; exact hw
          · exact hq q (by omega))
        refine ⟨n9 + 1, ?_⟩
        unfold lX3_isReferredTo_2
        try simp only [py_O_ap, py_l0, py_l1, py_l2, py_l3, py_l4, py_l5, py_l6, py_l7, py_l8, py_l9, py_l12, py_l16, py_l32, py_l40, py_l100, py_l640, py_l1280, py_neg, py_add, py_sub, py_mul, py_stO]
        refine py_ile (fun c => absurd c (by omega)) (fun _ => py_and ?_)
        rw [py_nat (by omega)]
        simp only [Int.toNat_natCast]
        rw [hH r (by omega)]
        refine ph_carTrain hRW hTH hMH hPV (fun e2 => ?_) (fun e2 => ?_)
        · have h6y : 0 ≤ s 6 (t 31 (t 43 r).toNat).toNat ∧ s 6 (t 31 (t 43 r).toNat).toNat ≤ 100000 := by
            rcases hPV with e3 | ⟨e3, e4⟩
            · omega
            · exact h6b _ (by omega) e4
          exact py_ieq (fun e3 => absurd ⟨e2, e3⟩ hw) (fun _ => hn9)
        · exact py_ieq (fun e3 => absurd e3 (by omega)) (fun _ => hn9)
  unfold eX3_isReferredTo
  rw [py_l0]
  exact key1 16 0 rfl (fun q hq => absurd hq (by omega))
theorem pm_isWanted (hRW : pr_RW s t) (hTH : ph_TH s t (ph_E t)) (hMH : ph_MH t (-1)) (hn : 0 < t 50 0) (hT : (∃ r : Nat, r < 16 ∧ ph_W0 s t r) ∨ (∃ x i : Nat, ph_W1 s t x i) → K (py_O t) (py_o 1)) (hF : (∀ r : Nat, r < 16 → ¬ ph_W0 s t r) → (∀ x i : Nat, ¬ ph_W1 s t x i) → K (py_O t) (py_o 0)) : eX5_isWanted (py_O t) K := by
  have h0 := hRW.1
  -- the train of a thing's car: the first, or not
  have htr : ∀ x : Nat, x < 640 → 0 < t 30 x → ∀ K : ty_S → Int32 → Prop, (s 6 (t 31 x).toNat = t 40 0 → K (py_O t) (py_o 0)) → (s 6 (t 31 x).toNat ≠ t 40 0 → ∀ j : Nat, 0 < j → j < 40 → K (py_O t) (py_o j)) → eX5_trainOf (py_O t) (py_o (t 31 x)) K := fun x hx hl K h1 h2 => by
    obtain ⟨c, k, hc, hk, g1, g2, g3, g4, g5⟩ := ph_live hTH hMH hx hl
    rw [g2] at h1 h2 ⊢
    simp only [Int.toNat_natCast] at h1 h2
    refine pm_trainOf hRW hc (fun j hj e1 => ?_) (fun e1 => absurd e1 g4)
    by_cases e2 : j = 0
    · subst e2; exact h1 e1
    · refine h2 (fun e3 => e2 (hRW.num hj (by omega) (by rw [← e1, e3]))) j (by omega) (by omega)
  have hin : ∀ x : Nat, x < 640 → ∀ R : Int32 → ty_S → Prop, (0 < t 30 x → s 6 (t 31 x).toNat ≠ t 40 0) → 0 < t 30 x → ((∀ i : Nat, ¬ ph_W1 s t x i) → R (py_o (x + 1)) (py_O t)) → ∀ d i : Nat, (i : Int) + d = t 33 x → (∀ a : Nat, a < i → ¬ ph_W1 s t x a) → ∃ n9, lX5_isWanted_82 K R n9 (py_o x) (py_o 1) (py_o i) (py_O t) := by
    intro x hx R hout hl hR d
    have hout := hout hl
    obtain ⟨c, k, hc, hk, g1, g2, g3, g4, g5, g6, g7⟩ := ph_live hTH hMH hx hl
    induction d with
    | zero =>
      intro i hi hno
      refine ⟨1, ?_⟩
      unfold lX5_isWanted_82
      try simp only [py_O_ap, py_l0, py_l1, py_l2, py_l3, py_l4, py_l5, py_l6, py_l7, py_l8, py_l9, py_l12, py_l16, py_l32, py_l40, py_l100, py_l640, py_l1280, py_neg, py_add, py_sub, py_mul, py_stO]
      refine py_ieq (fun c => absurd c (by omega)) (fun _ => py_and ?_)
      rw [py_nat (by omega)]
      simp only [Int.toNat_natCast]
      refine py_ile (fun _ => hR (fun a ha => ?_)) (fun c => absurd c (by omega))
      by_cases e1 : a < i
      · exact hno a e1 ha
      · have := ha.2.2.1; omega
    | succ d ih =>
      intro i hi hno
      have hPV := hMH.2.2.2.2.2 x hx hl i (by omega)
      have e2 : ((12 : Int) * x + i).toNat = 12 * x + i := by omega
      by_cases hw : ph_W1 s t x i
      · refine ⟨1, ?_⟩
        obtain ⟨q1, q2, q3, q4, q5, q6⟩ := id hw
        have hPV2 := hPV.resolve_left (by omega)
        unfold lX5_isWanted_82
        try simp only [py_O_ap, py_l0, py_l1, py_l2, py_l3, py_l4, py_l5, py_l6, py_l7, py_l8, py_l9, py_l12, py_l16, py_l32, py_l40, py_l100, py_l640, py_l1280, py_neg, py_add, py_sub, py_mul, py_stO]
        refine py_ieq (fun c => absurd c (by omega)) (fun _ => py_and ?_)
        rw [py_nat (by omega), py_nat (by omega), e2]
        simp only [Int.toNat_natCast]
        refine py_ile (fun c => absurd c (by omega)) (fun _ => py_and ?_)
        refine py_ilt (fun c => absurd c (by omega)) (fun _ => py_and ?_)
        rw [py_nat (by omega)]
        refine htr _ (by omega) hPV2.2 _ (fun _ => ?_) (fun e3 => absurd q6 e3)
        exact py_ieq (fun _ => hT (Or.inr ⟨x, i, hw⟩)) (fun c => absurd rfl c)
      · obtain ⟨n9, hn9⟩ := ih (i + 1) (by omega) (fun a ha => by
          by_cases e1 : a = i
          · rw [e1]; exact hw
          · exact hno a (by omega))
        refine ⟨n9 + 1, ?_⟩
        unfold lX5_isWanted_82
        try simp only [py_O_ap, py_l0, py_l1, py_l2, py_l3, py_l4, py_l5, py_l6, py_l7, py_l8, py_l9, py_l12, py_l16, py_l32, py_l40, py_l100, py_l640, py_l1280, py_neg, py_add, py_sub, py_mul, py_stO]
        refine py_ieq (fun c => absurd c (by omega)) (fun _ => py_and ?_)
        rw [py_nat (by omega), py_nat (by omega), e2]
        simp only [Int.toNat_natCast]
        refine py_ile (fun c => absurd c (by omega)) (fun _ => py_and ?_)
        rcases hPV with e1 | ⟨e1, e3⟩
        · rw [e1]
          exact py_ilt (fun _ => hn9) (fun c => absurd c (by omega))
        · refine py_ilt (fun c => absurd c (by omega)) (fun _ => py_and ?_)
          rw [py_nat (by omega)]
          refine htr _ (by omega) e3 _ (fun e4 => absurd ⟨hx, hl, by omega, hout, e1.1, e4⟩ hw) (fun _ j hj1 hj2 => ?_)
          exact py_ieq (fun c => absurd c (by omega)) (fun _ => hn9)
  have key2 : (∀ r : Nat, r < 16 → ¬ ph_W0 s t r) → ∀ d x : Nat, x + d = 640 → (∀ y i : Nat, y < x → ¬ ph_W1 s t y i) → ∃ n9, lX5_isWanted_45 K n9 (py_o x) (py_O t) := by
    intro hW0 d
    induction d with
    | zero =>
      intro x hx hno
      refine ⟨1, ?_⟩
      unfold lX5_isWanted_45
      try simp only [py_O_ap, py_l0, py_l1, py_l2, py_l3, py_l4, py_l5, py_l6, py_l7, py_l8, py_l9, py_l12, py_l16, py_l32, py_l40, py_l100, py_l640, py_l1280, py_neg, py_add, py_sub, py_mul, py_stO]
      refine py_ile (fun _ => hF hW0 (fun y i hw => ?_)) (fun c => absurd c (by omega))
      exact hno y i (by have := hw.1; omega) hw
    | succ d ih =>
      intro x hx hno
      have hlx := hMH.2.1 x (by omega)
      have h58 := hMH.1
      have hskip : (∀ i : Nat, ¬ ph_W1 s t x i) → ∃ n0, lX5_isWanted_45 K n0 (py_o (x + 1)) (py_O t) := fun hx2 => ih (x + 1) (by omega) (fun y i hy => by
        by_cases e1 : y = x
        · rw [e1]; exact hx2 i
        · exact hno y i (by omega))
      by_cases hl : 0 < t 30 x
      · by_cases ho : s 6 (t 31 x).toNat = t 40 0
        · obtain ⟨n0, hn0⟩ := hskip (fun i hw => hw.2.2.2.1 ho)
          refine ⟨n0 + 1, ?_⟩
          unfold lX5_isWanted_45
          try simp only [py_O_ap, py_l0, py_l1, py_l2, py_l3, py_l4, py_l5, py_l6, py_l7, py_l8, py_l9, py_l12, py_l16, py_l32, py_l40, py_l100, py_l640, py_l1280, py_neg, py_add, py_sub, py_mul, py_stO]
          refine py_ile (fun c => absurd c (by omega)) (fun _ => py_and ?_)
          rw [py_nat (by omega)]
          simp only [Int.toNat_natCast]
          refine py_ile (fun c => absurd c (by omega)) (fun _ => py_and ?_)
          refine htr x (by omega) hl _ (fun _ => ?_) (fun c => absurd ho c)
          refine py_ile (fun _ => ⟨1, ?_⟩) (fun c => absurd c (by omega))
          unfold lX5_isWanted_82
          try simp only [py_O_ap, py_l0, py_l1, py_l2, py_l3, py_l4, py_l5, py_l6, py_l7, py_l8, py_l9, py_l12, py_l16, py_l32, py_l40, py_l100, py_l640, py_l1280, py_neg, py_add, py_sub, py_mul, py_stO]
          rw [if_pos True.intro]
          exact hn0
        · by_cases hw : ∃ i : Nat, ph_W1 s t x i
          · obtain ⟨n9, hn9⟩ := hin x (by omega) (fun a0 S9 => lX5_isWanted_45 K 0 a0 S9) (fun _ => ho) hl (fun hno2 => by
              obtain ⟨i, hw⟩ := hw
              exact absurd hw (hno2 i)) (t 33 x).toNat 0 (by
              obtain ⟨c, k, hc, hk, g1, g2, g3, g4, g5, g6, g7⟩ := ph_live hTH hMH (x := x) (by omega) hl
              omega) (fun a ha => absurd ha (by omega))
            refine ⟨1, ?_⟩
            unfold lX5_isWanted_45
            try simp only [py_O_ap, py_l0, py_l1, py_l2, py_l3, py_l4, py_l5, py_l6, py_l7, py_l8, py_l9, py_l12, py_l16, py_l32, py_l40, py_l100, py_l640, py_l1280, py_neg, py_add, py_sub, py_mul, py_stO]
            refine py_ile (fun c => absurd c (by omega)) (fun _ => py_and ?_)
            rw [py_nat (by omega)]
            simp only [Int.toNat_natCast]
            refine py_ile (fun c => absurd c (by omega)) (fun _ => py_and ?_)
            refine htr x (by omega) hl _ (fun c => absurd c ho) (fun _ j hj1 hj2 => ?_)
            exact py_ile (fun c => absurd c (by omega)) (fun _ => ⟨n9, hn9⟩)
          · obtain ⟨n0, hn0⟩ := hskip (fun i hw2 => hw ⟨i, hw2⟩)
            obtain ⟨n9, hn9⟩ := hin x (by omega) (fun a0 S9 => lX5_isWanted_45 K n0 a0 S9) (fun _ => ho) hl (fun _ => hn0) (t 33 x).toNat 0 (by
              obtain ⟨c, k, hc, hk, g1, g2, g3, g4, g5, g6, g7⟩ := ph_live hTH hMH (x := x) (by omega) hl
              omega) (fun a ha => absurd ha (by omega))
            refine ⟨n0 + 1, ?_⟩
            unfold lX5_isWanted_45
            try simp only [py_O_ap, py_l0, py_l1, py_l2, py_l3, py_l4, py_l5, py_l6, py_l7, py_l8, py_l9, py_l12, py_l16, py_l32, py_l40, py_l100, py_l640, py_l1280, py_neg, py_add, py_sub, py_mul, py_stO]
            refine py_ile (fun c => absurd c (by omega)) (fun _ => py_and ?_)
            rw [py_nat (by omega)]
            simp only [Int.toNat_natCast]
            refine py_ile (fun c => absurd c (by omega)) (fun _ => py_and ?_)
            refine htr x (by omega) hl _ (fun c => absurd c ho) (fun _ j hj1 hj2 => ?_)
            exact py_ile (fun c => absurd c (by omega)) (fun _ => ⟨n9, hn9⟩)
      · obtain ⟨n0, hn0⟩ := hskip (fun i hw => hl hw.2.1)
        refine ⟨n0 + 1, ?_⟩
        unfold lX5_isWanted_45
        try simp only [py_O_ap, py_l0, py_l1, py_l2, py_l3, py_l4, py_l5, py_l6, py_l7, py_l8, py_l9, py_l12, py_l16, py_l32, py_l40, py_l100, py_l640, py_l1280, py_neg, py_add, py_sub, py_mul, py_stO]
        refine py_ile (fun c => absurd c (by omega)) (fun _ => py_and ?_)
        rw [py_nat (by omega)]
        simp only [Int.toNat_natCast]
        refine py_ile (fun _ => ⟨1, ?_⟩) (fun c => absurd c (by omega))
        unfold lX5_isWanted_82
        try simp only [py_O_ap, py_l0, py_l1, py_l2, py_l3, py_l4, py_l5, py_l6, py_l7, py_l8, py_l9, py_l12, py_l16, py_l32, py_l40, py_l100, py_l640, py_l1280, py_neg, py_add, py_sub, py_mul, py_stO]
        rw [if_pos True.intro]
        exact hn0
  have key1 : ∀ d r : Nat, r + d = 16 → (∀ q : Nat, q < r → ¬ ph_W0 s t q) → ∃ n9, lX5_isWanted_2 K n9 (py_o r) (py_O t) := by
    intro d
    induction d with
    | zero =>
      intro r hr hq
      refine ⟨1, ?_⟩
      unfold lX5_isWanted_2
      try simp only [py_O_ap, py_l0, py_l1, py_l2, py_l3, py_l4, py_l5, py_l6, py_l7, py_l8, py_l9, py_l12, py_l16, py_l32, py_l40, py_l100, py_l640, py_l1280, py_neg, py_add, py_sub, py_mul, py_stO]
      exact py_ile (fun _ => key2 (fun q hq2 => hq q (by omega)) 640 0 rfl (fun y i hy => absurd hy (by omega))) (fun c => absurd c (by omega))
    | succ d ih =>
      intro r hr hq
      have hPV := hMH.2.2.2.2.1 r (by omega)
      by_cases hw : ph_W0 s t r
      · have hPV2 := hPV.resolve_left (by have := hw.1; omega)
        refine ⟨1, ?_⟩
        unfold lX5_isWanted_2
        try simp only [py_O_ap, py_l0, py_l1, py_l2, py_l3, py_l4, py_l5, py_l6, py_l7, py_l8, py_l9, py_l12, py_l16, py_l32, py_l40, py_l100, py_l640, py_l1280, py_neg, py_add, py_sub, py_mul, py_stO]
        refine py_ile (fun c => absurd c (by omega)) (fun _ => py_and ?_)
        rw [py_nat (by omega)]
        simp only [Int.toNat_natCast]
        refine py_ilt (fun c => absurd c (by omega)) (fun _ => py_and (py_and ?_))
        rw [py_nat (by omega)]
        refine htr _ (by omega) hPV2.2 _ (fun _ => ?_) (fun e3 => absurd hw.2 e3)
        exact py_ieq (fun _ => hT (Or.inl ⟨r, by omega, hw⟩)) (fun c => absurd rfl c)
      · obtain ⟨n9, hn9⟩ := ih (r + 1) (by omega) (fun q hq2 => by
          by_cases e1 : q = r
          · rw [e1]; exact hw
          · exact hq q (by omega))
        refine ⟨n9 + 1, ?_⟩
        unfold lX5_isWanted_2
        try simp only [py_O_ap, py_l0, py_l1, py_l2, py_l3, py_l4, py_l5, py_l6, py_l7, py_l8, py_l9, py_l12, py_l16, py_l32, py_l40, py_l100, py_l640, py_l1280, py_neg, py_add, py_sub, py_mul, py_stO]
        refine py_ile (fun c => absurd c (by omega)) (fun _ => py_and ?_)
        rw [py_nat (by omega)]
        simp only [Int.toNat_natCast]
        rcases hPV with e1 | ⟨e1, e3⟩
        · rw [e1]
          exact py_ilt (fun _ => hn9) (fun c => absurd c (by omega))
        · refine py_ilt (fun c => absurd c (by omega)) (fun _ => py_and (py_and ?_))
          rw [py_nat (by omega)]
          refine htr _ (by omega) e3 _ (fun e4 => absurd ⟨e1.1, e4⟩ hw) (fun _ j hj1 hj2 => ?_)
          exact py_ieq (fun c => absurd c (by omega)) (fun _ => hn9)
  unfold eX5_isWanted
  rw [py_l0]
  exact key1 16 0 rfl (fun q hq => absurd hq (by omega))
end PHW
end
section
/-! PURE: the end of a step, method by method -/
def pr_pn (s : py_Z) (v : Int) : Int := if v < 0 then v else if v / 32 = s 20 0 then s 8 (v - v / 32 * 32).toNat else v
theorem pr_placeNow {s : py_Z} {v : Int} {K : ty_S → Int32 → Prop} (rv : -1 ≤ v ∧ v < 1280) (re : -1 ≤ s 20 0 ∧ s 20 0 < 40) (hK : K (py_O s) (py_o (pr_pn s v))) : eX3_placeNow (py_O s) (py_o v) K := by
  unfold pr_pn at hK
  unfold eX3_placeNow
  try simp only [py_O_ap, py_l0, py_l1, py_l2, py_l3, py_l4, py_l5, py_l6, py_l7, py_l8, py_l9, py_l12, py_l16, py_l32, py_l40, py_l100, py_l640, py_l1280, py_neg, py_add, py_sub, py_mul, py_stO]
  refine py_ilt (fun c => ?_) (fun c => ?_)
  · rw [if_pos c] at hK; exact hK
  · rw [if_neg (by omega)] at hK
    refine pr_carOf (fun _ _ => ?_) (fun c => absurd c (by omega))
    rw [py_div (by omega) (by omega)]
    try simp only [py_O_ap, py_l0, py_l1, py_l2, py_l3, py_l4, py_l5, py_l6, py_l7, py_l8, py_l9, py_l12, py_l16, py_l32, py_l40, py_l100, py_l640, py_l1280, py_neg, py_add, py_sub, py_mul, py_stO]
    refine py_ieq (fun e1 => py_and ?_) (fun e1 => ?_)
    · rw [if_pos e1] at hK
      rw [py_nat (by omega)]
      exact hK
    · rw [if_neg e1] at hK; exact hK
def pr_hm (s : py_Z) (r : Nat) : py_Z := fun g i => if g = 7 ∧ i < r then pr_pn s (s 7 i) else s g i
def pr_wm (s : py_Z) (B : Nat) : py_Z := fun g i => if g = 0 ∧ i < B ∧ s 1 i = 1 then pr_pn s (s 0 i) else s g i
theorem pr_hm_n {s : py_Z} {r g i : Nat} (h : g ≠ 7) : pr_hm s r g i = s g i := by unfold pr_hm; rw [if_neg (fun c => h c.1)]
theorem pr_wm_n {s : py_Z} {B g i : Nat} (h : g ≠ 0) : pr_wm s B g i = s g i := by unfold pr_wm; rw [if_neg (fun c => h c.1)]
theorem pr_pn_hm {s : py_Z} {r : Nat} {v : Int} : pr_pn (pr_hm s r) v = pr_pn s v := by unfold pr_pn; rw [pr_hm_n (by decide), pr_hm_n (by decide)]
theorem pr_pn_wm {s : py_Z} {r : Nat} {v : Int} : pr_pn (pr_wm s r) v = pr_pn s v := by unfold pr_pn; rw [pr_wm_n (by decide), pr_wm_n (by decide)]
theorem pr_hm_st {s : py_Z} {r : Nat} : pr_hm s (r + 1) = py_st (pr_hm s r) 7 r (pr_pn s (s 7 r)) := by
  funext g i
  simp only [py_st, pr_hm]
  grind
theorem pr_wm_st {s : py_Z} {r : Nat} (h : s 1 r = 1) : pr_wm s (r + 1) = py_st (pr_wm s r) 0 r (pr_pn s (s 0 r)) := by
  funext g i
  simp only [py_st, pr_wm]
  grind
theorem pr_wm_gap {s : py_Z} {a b : Nat} (h : a ≤ b) (hz : ∀ p : Nat, a ≤ p → p < b → s 1 p = 0) : pr_wm s b = pr_wm s a := by
  funext g i
  unfold pr_wm
  by_cases e1 : a ≤ i ∧ i < b
  · have := hz i e1.1 e1.2
    rw [if_neg (by omega), if_neg (by omega)]
  · have e2 : (g = 0 ∧ i < b ∧ s 1 i = 1) ↔ (g = 0 ∧ i < a ∧ s 1 i = 1) := by omega
    simp only [e2]
theorem pr_endRefs {s : py_Z} {K : ty_S → Prop} (hI : pr_IR s) (re : -1 ≤ s 20 0 ∧ s 20 0 < 40) (hv : ∀ p : Nat, p < 1280 → s 1 p = 1 → -1 ≤ s 0 p ∧ s 0 p < 1280) (hN : 0 < s 13 0 ∧ s 13 0 ≤ 40) (hb : 0 ≤ s 5 0 ∧ s 5 0 < 40) (hK : K (py_O (py_st (pr_rem (pr_wm s 1280)) 20 0 (-1)))) :
    ∀ d r : Nat, 1280 - r ≤ d → r ≤ 1280 → (r = 1280 ∨ s 1 r = 1) → ∃ n9, lX3_endEmptying_50 K n9 (py_o r) (py_O (pr_wm s r)) := by
  have hend : ∃ n9, lX3_endEmptying_50 K n9 (py_o (1280 : Nat)) (py_O (pr_wm s 1280)) := by
    refine ⟨1, ?_⟩
    unfold lX3_endEmptying_50
    try simp only [py_O_ap, py_l0, py_l1, py_l2, py_l3, py_l4, py_l5, py_l6, py_l7, py_l8, py_l9, py_l12, py_l16, py_l32, py_l40, py_l100, py_l640, py_l1280, py_neg, py_add, py_sub, py_mul, py_stO]
    refine py_ile (fun _ => ?_) (fun c => absurd c (by omega))
    refine pr_removeFirstCar (by rw [pr_wm_n (by decide)]; exact hN) (by rw [pr_wm_n (by decide)]; exact hb) ?_
    try simp only [py_O_ap, py_l0, py_l1, py_l2, py_l3, py_l4, py_l5, py_l6, py_l7, py_l8, py_l9, py_l12, py_l16, py_l32, py_l40, py_l100, py_l640, py_l1280, py_neg, py_add, py_sub, py_mul, py_stO]
    exact hK
  intro d
  induction d with
  | zero => intro r hd hr _; rw [show r = 1280 by omega]; exact hend
  | succ d ih =>
    intro r hd hr hr1
    by_cases e1 : r = 1280
    · rw [e1]; exact hend
    · have hs1 : s 1 r = 1 := hr1.resolve_left e1
      have hw : pr_wm s r 0 r = s 0 r := by unfold pr_wm; rw [if_neg (by omega)]
      have hI2 : pr_IR (pr_wm s (r + 1)) := by
        unfold pr_IR
        simp only [pr_wm_n (show 1 ≠ 0 by decide), pr_wm_n (show 2 ≠ 0 by decide)]
        exact hI
      obtain ⟨r', b1, b2, b3, b4, b5⟩ := pr_nextEx hI2 (a := r + 1) (by omega)
      rw [pr_wm_n (by decide)] at b3
      have hgap := pr_wm_gap (s := s) b1 (fun p h1 h2 => by have := b4 p h1 h2; rwa [pr_wm_n (by decide)] at this)
      obtain ⟨n9, hn9⟩ := ih r' (by omega) b2 b3
      have hvr := hv r (by omega) hs1
      refine ⟨n9 + 1, ?_⟩
      unfold lX3_endEmptying_50
      try simp only [py_O_ap, py_l0, py_l1, py_l2, py_l3, py_l4, py_l5, py_l6, py_l7, py_l8, py_l9, py_l12, py_l16, py_l32, py_l40, py_l100, py_l640, py_l1280, py_neg, py_add, py_sub, py_mul, py_stO]
      refine py_ile (fun c => absurd c (by omega)) (fun _ => ?_)
      refine pr_at (fun _ _ => ?_) (fun c => absurd c (by omega))
      simp only [Int.toNat_natCast]
      rw [hw]
      refine pr_placeNow hvr (by rw [pr_wm_n (by decide)]; exact re) ?_
      rw [pr_pn_wm]
      refine pr_write (fun _ _ => ?_) (fun c => absurd c (by omega))
      simp only [Int.toNat_natCast]
      try simp only [py_O_ap, py_l0, py_l1, py_l2, py_l3, py_l4, py_l5, py_l6, py_l7, py_l8, py_l9, py_l12, py_l16, py_l32, py_l40, py_l100, py_l640, py_l1280, py_neg, py_add, py_sub, py_mul, py_stO]
      rw [← pr_wm_st hs1]
      rw [hgap] at hn9
      exact b5 _ hn9
theorem pr_endEmptying {s : py_Z} {e : Nat} {K : ty_S → Prop} (he : s 20 0 = e ∧ e < 40) (hh : ∀ r : Nat, r < 16 → -1 ≤ s 7 r ∧ s 7 r < 1280) (hI : pr_IR (pr_clr (pr_hm s 16) e)) (hv : ∀ p : Nat, p < 1280 → pr_clr (pr_hm s 16) e 1 p = 1 → -1 ≤ pr_clr (pr_hm s 16) e 0 p ∧ pr_clr (pr_hm s 16) e 0 p < 1280) (hN : 0 < s 13 0 ∧ s 13 0 ≤ 40) (hb : 0 ≤ s 5 0 ∧ s 5 0 < 40) (hK : K (py_O (py_st (pr_rem (pr_wm (pr_clr (pr_hm s 16) e) 1280)) 20 0 (-1)))) : eX3_endEmptying (py_O s) K := by
  have key : ∀ d r : Nat, r + d = 16 → ∃ n9, lX3_endEmptying_2 K n9 (py_o r) (py_O (pr_hm s r)) := by
    intro d
    induction d with
    | zero =>
      intro r hr
      obtain ⟨r', b1, b2, b3, b4, b5⟩ := pr_nextEx hI (a := 0) (by omega)
      obtain ⟨n9, hn9⟩ := pr_endRefs hI (by simp [pr_clr, pr_hm]; omega) hv (by simpa [pr_clr, pr_hm] using hN) (by simpa [pr_clr, pr_hm] using hb) hK 1280 r' (by omega) b2 b3
      have hgap := pr_wm_gap (s := pr_clr (pr_hm s 16) e) b1 (fun p h1 h2 => b4 p h1 h2)
      have h0 : pr_wm (pr_clr (pr_hm s 16) e) 0 = pr_clr (pr_hm s 16) e := by
        funext g i
        unfold pr_wm
        rw [if_neg (by omega)]
      refine ⟨1, ?_⟩
      unfold lX3_endEmptying_2
      try simp only [py_O_ap, py_l0, py_l1, py_l2, py_l3, py_l4, py_l5, py_l6, py_l7, py_l8, py_l9, py_l12, py_l16, py_l32, py_l40, py_l100, py_l640, py_l1280, py_neg, py_add, py_sub, py_mul, py_stO]
      refine py_ile (fun _ => ?_) (fun c => absurd c (by omega))
      rw [pr_hm_n (by decide), he.1, show r = 16 by omega]
      refine pr_clear he.2 ?_
      refine b5 _ ⟨n9, ?_⟩
      rw [hgap, h0] at hn9
      exact hn9
    | succ d ih =>
      intro r hr
      obtain ⟨n9, hn9⟩ := ih (r + 1) (by omega)
      have hhr := hh r (by omega)
      have hw : pr_hm s r 7 r = s 7 r := by unfold pr_hm; rw [if_neg (by omega)]
      refine ⟨n9 + 1, ?_⟩
      unfold lX3_endEmptying_2
      try simp only [py_O_ap, py_l0, py_l1, py_l2, py_l3, py_l4, py_l5, py_l6, py_l7, py_l8, py_l9, py_l12, py_l16, py_l32, py_l40, py_l100, py_l640, py_l1280, py_neg, py_add, py_sub, py_mul, py_stO]
      refine py_ile (fun c => absurd c (by omega)) (fun _ => py_and ?_)
      rw [py_nat (by omega)]
      simp only [Int.toNat_natCast]
      rw [hw]
      refine pr_placeNow hhr (by rw [pr_hm_n (by decide)]; omega) (py_and ?_)
      rw [pr_pn_hm]
      try simp only [py_O_ap, py_l0, py_l1, py_l2, py_l3, py_l4, py_l5, py_l6, py_l7, py_l8, py_l9, py_l12, py_l16, py_l32, py_l40, py_l100, py_l640, py_l1280, py_neg, py_add, py_sub, py_mul, py_stO]
      rw [← pr_hm_st]
      exact hn9
  unfold eX3_endEmptying
  have h0 : pr_hm s 0 = s := by
    funext g i
    unfold pr_hm
    rw [if_neg (by omega)]
  have := key 16 0 rfl
  rw [h0] at this
  rw [py_l0]
  exact this
/-- the reference: the first car is forgotten and leaves -/
def pm_shs (t : py_Z) (k : Nat) : py_Z := fun g i => if g = 41 then (if i = 0 then t 41 0 - 1 else t 41 i) else if g = 42 then (if i < k then t 42 (i + 1) else t 42 i) else t g i
theorem pm_shs_0 {t : py_Z} : pm_shs t 0 = py_st t 41 0 (t 41 0 - 1) := by
  funext g i
  simp only [py_st, pm_shs]
  grind
theorem pm_shs_st {t : py_Z} {k : Nat} : pm_shs t (k + 1) = py_st (pm_shs t k) 42 k (t 42 (k + 1)) := by
  funext g i
  simp only [py_st, pm_shs]
  grind
theorem pm_shs_fin {t : py_Z} {k : Nat} (h : (k : Int) + 1 = t 41 0) : pm_shs t k = pm_sh t := by
  funext g i
  simp only [pm_sh, pm_shs]
  grind
def pm_end (t : py_Z) : py_Z := if t 41 0 = 1 then pm_rt (py_st (pm_sh t) 59 0 (-1)) else py_st (pm_sh t) 59 0 (-1)
theorem pm_leave {t : py_Z} {n : Int} {K : ty_S → Int32 → Prop} (hs : 1 ≤ t 41 0 ∧ t 41 0 ≤ 40) (hn : 0 < t 50 0 ∧ t 50 0 ≤ 40) (hK : K (py_O (pm_end t)) (py_o n)) : ∃ n9, lX5_oneStep_267 K n9 (py_o n) (py_o 0) (py_O (py_st t 41 0 (t 41 0 - 1))) := by
  have key : ∀ d k : Nat, (k : Int) + d = t 41 0 - 1 → ∃ n9, lX5_oneStep_267 K n9 (py_o n) (py_o k) (py_O (pm_shs t k)) := by
    intro d
    induction d with
    | zero =>
      intro k hk
      refine ⟨1, ?_⟩
      have e1 : pm_shs t k 41 0 = t 41 0 - 1 := by simp [pm_shs]
      unfold lX5_oneStep_267
      try simp only [py_O_ap, py_l0, py_l1, py_l2, py_l3, py_l4, py_l5, py_l6, py_l7, py_l8, py_l9, py_l12, py_l16, py_l32, py_l40, py_l100, py_l640, py_l1280, py_neg, py_add, py_sub, py_mul, py_stO]
      refine py_and ?_
      rw [py_nat (by omega)]
      simp only [Int.toNat_zero]
      refine py_ile (fun _ => py_and ?_) (fun c => absurd c (by omega))
      unfold pm_end at hK
      rw [pm_shs_fin (by omega)]
      have e2 : pm_sh t 41 0 = t 41 0 - 1 := by simp [pm_sh]
      refine py_ieq (fun e3 => ?_) (fun e3 => ?_)
      · rw [if_pos (by omega)] at hK
        refine pm_removeTrain ?_ hK
        rw [py_sn (by decide)]
        simpa [pm_sh] using hn
      · rw [if_neg (by omega)] at hK
        exact hK
    | succ d ih =>
      intro k hk
      obtain ⟨n9, hn9⟩ := ih (k + 1) (by omega)
      have e1 : pm_shs t k 41 0 = t 41 0 - 1 := by simp [pm_shs]
      have e2 : pm_shs t k 42 (k + 1) = t 42 (k + 1) := by
        simp [pm_shs]
        intro c; omega
      refine ⟨n9 + 1, ?_⟩
      unfold lX5_oneStep_267
      try simp only [py_O_ap, py_l0, py_l1, py_l2, py_l3, py_l4, py_l5, py_l6, py_l7, py_l8, py_l9, py_l12, py_l16, py_l32, py_l40, py_l100, py_l640, py_l1280, py_neg, py_add, py_sub, py_mul, py_stO]
      refine py_and ?_
      rw [py_nat (by omega), py_nat (by omega), py_nat (by omega)]
      simp only [Int.toNat_zero, Int.toNat_natCast]
      refine py_ile (fun c => absurd c (by omega)) (fun _ => py_and (py_and ?_))
      rw [show ((k : Int) + 1).toNat = k + 1 by omega, e2, ← pm_shs_st]
      exact hn9
  rw [← pm_shs_0]
  exact key (t 41 0 - 1).toNat 0 (by omega)
end
section
/-! PURE: what stands behind the end of a step -/
theorem py_cnt_compl {P : Nat → Bool} : ∀ n : Nat, py_cnt P n + py_cnt (fun k => !P k) n = n
  | 0 => rfl
  | n + 1 => by
    have := py_cnt_compl (P := P) n
    simp only [py_cnt]
    by_cases hP : P n = true
    · simp [hP]; omega
    · simp [hP]; omega
theorem pm_fgl_01 {t : py_Z} {c : Nat} : ∀ (m y : Nat), pm_fgl t c m y = 0 ∨ pm_fgl t c m y = t 30 y
  | 0, _ => Or.inr rfl
  | m + 1, y => by
    show (if y = (t 39 (16 * c + m)).toNat ∧ t 31 y = c then 0 else pm_fgl t c m y) = 0 ∨ (if y = (t 39 (16 * c + m)).toNat ∧ t 31 y = c then 0 else pm_fgl t c m y) = t 30 y
    split
    · exact Or.inl rfl
    · exact pm_fgl_01 m y
section PHN
variable {s t : py_Z} {E : Int → Int}
/-- a word of a thing that is no reference -/
theorem ph_TH.nonref (h : ph_TH s t E) {c k w : Nat} (hc : c < 40) (hk : (k : Int) < t 38 c) (hw : w < ph_sz t (ph_x t c k)) (hn : w < 2 ∨ 2 + t 33 (ph_x t c k) ≤ (w : Int)) : s 1 (32 * c + ph_pos t c k + w) = 0 := by
  obtain ⟨f1, f2, f3, f4⟩ := h.fit hc hk
  rcases h.2.2 (32 * c + ph_pos t c k + w) (by omega) with e1 | ⟨e1, c', k', i', hc', hk', hi', hp⟩
  · exact e1
  · obtain ⟨g1, g2, g3, g4⟩ := h.fit hc' hk'
    obtain ⟨v1, v2, v3, v4⟩ := h.2.1 c' k' hc' hk'
    have e2 : c = c' := by omega
    subst e2
    have e3 : k = k' := by
      rcases Nat.lt_trichotomy k k' with e3 | e3 | e3
      · have := ph_pos_lt (t := t) (c := c) e3; omega
      · exact e3
      · have := ph_pos_lt (t := t) (c := c) e3; omega
    subst e3
    omega
theorem ph_TH.beyond (h : ph_TH s t E) {c w : Nat} (hc : c < 40) (hw : w < 32) (hu : t 37 c ≤ (w : Int)) : s 1 (32 * c + w) = 0 := by
  rcases h.2.2 (32 * c + w) (by omega) with e1 | ⟨e1, c', k', i', hc', hk', hi', hp⟩
  · exact e1
  · obtain ⟨g1, g2, g3, g4⟩ := h.fit hc' hk'
    obtain ⟨v1, v2, v3, v4⟩ := h.2.1 c' k' hc' hk'
    have e2 : c = c' := by omega
    subst e2
    omega
/-- the references are written anew -/
theorem ph_TH.remap {s' : py_Z} {E' : Int → Int} (h : ph_TH s t E) (F : Int → Int) (s0 : ∀ p : Nat, p < 1280 → s' 0 p = if s 1 p = 1 then F (s 0 p) else s 0 p) (sg : ∀ g i, 1 ≤ g → g ≤ 4 → s' g i = s g i) (s6 : ∀ c : Nat, c < 40 → s' 6 c = 0 → s 6 c = 0) (hF : ∀ c k i : Nat, c < 40 → (k : Int) < t 38 c → (i : Int) < t 33 (ph_x t c k) → F (E (t 35 (12 * ph_x t c k + i))) = E' (t 35 (12 * ph_x t c k + i))) : ph_TH s' t E' := by
  refine ⟨fun c hc => ?_, fun c k hc hk => ?_, fun p hp => by rw [sg 1 p (by omega) (by omega)]; exact h.2.2 p hp⟩
  · obtain ⟨d1, d2, d3, d4, d5, d6, d7, d8⟩ := h.1 c hc
    refine ⟨by rw [sg 3 c (by omega) (by omega)]; exact d1, by rw [sg 2 c (by omega) (by omega)]; exact d2, d3, d4, d5, fun e => d6 (s6 c hc e), fun e => by rw [sg 4 c (by omega) (by omega)]; exact d7 e, fun w hw hu => ?_⟩
    rw [s0 _ (by omega), if_neg (by rw [h.beyond hc hw hu]; omega)]
    exact d8 w hw hu
  · obtain ⟨w1, w2, w3, w4, w5, w6, w7⟩ := h.2.1 c k hc hk
    obtain ⟨f1, f2, f3, f4⟩ := h.fit hc hk
    refine ⟨w1, w2, w3, ?_, ?_, fun i hi => ⟨?_, ?_⟩, fun i hi => ?_⟩
    · have := h.nonref hc hk (w := 0) (by omega) (Or.inl (by omega))
      simp only [Nat.add_zero] at this
      rw [s0 _ (by omega), if_neg (by rw [this]; omega)]; exact w4
    · rw [s0 _ (by omega), if_neg (by rw [h.nonref hc hk (w := 1) (by omega) (Or.inl (by omega))]; omega)]; exact w5
    · rw [s0 _ (by omega), if_pos (w6 i hi).2, (w6 i hi).1]; exact hF c k i hc hk hi
    · rw [sg 1 _ (by omega) (by omega)]; exact (w6 i hi).2
    · have := h.nonref hc hk (w := 2 + (t 33 (ph_x t c k)).toNat + i) (by omega) (Or.inr (by omega))
      rw [show 32 * c + ph_pos t c k + (2 + (t 33 (ph_x t c k)).toNat + i) = 32 * c + ph_pos t c k + 2 + (t 33 (ph_x t c k)).toNat + i by omega] at this
      rw [s0 _ (by omega), if_neg (by rw [this]; omega)]; exact w7 i hi
end PHN
section PHM
variable {s t s0 t0 : py_Z} {e : Nat}
theorem ph_Mid.pn (h : ph_Mid s t s0 t0 e) {y : Int} (hy : ph_PV t y) (ho : y < 0 ∨ t 31 y.toNat ≠ e) : pr_pn s (ph_E t0 y) = ph_E t y ∧ -1 ≤ ph_E t0 y ∧ ph_E t0 y < 1280 := by
  have a5 := h.2.2.2.2.1
  have a9 := h.2.2.2.2.2.2.2.2.1
  have a10 := h.2.2.2.2.2.2.2.2.2.1
  rcases h.E hy with ⟨e1, e2⟩ | ⟨e1, e2, e3, e4, e5, e6⟩
  · rw [e2, e1]
    refine ⟨?_, by omega, by omega⟩
    unfold pr_pn ph_E
    rfl
  · obtain ⟨b1, b2, b3, b4⟩ := a9 y.toNat (by omega) e3
    rw [e4]
    refine ⟨?_, by omega, by omega⟩
    unfold pr_pn
    rw [if_neg (by omega), show (32 * t0 31 y.toNat + t0 32 y.toNat) / 32 = t0 31 y.toNat by omega, a5.1]
    have hE : ph_E t y = 32 * t 31 y.toNat + t 32 y.toNat := by unfold ph_E; rw [if_neg (by omega)]
    rw [hE]
    by_cases e7 : t0 31 y.toNat = e
    · rw [if_pos e7]
      obtain ⟨k, hk, hk2⟩ := b4 e7
      obtain ⟨c1, c2, c3, c4⟩ := a10 k hk
      rw [hk2] at c1 c2 c3 c4
      rw [show (32 * t0 31 y.toNat + t0 32 y.toNat - t0 31 y.toNat * 32).toNat = ph_pos t e k by omega]
      clear b4
      rcases c4 with ⟨c5, c6, c7⟩ | ⟨c5, c6⟩
      · exact absurd c5 (ho.resolve_left (by omega))
      · exact c6
    · rw [if_neg e7]
      obtain ⟨q1, q2⟩ := b3 e7
      omega
end PHM
/-- behind the end of a step all is as between the calls -/
def ph_Sem (s : py_Z) (e : Nat) : py_Z := py_st (pr_rem (pr_wm (pr_clr (pr_hm s 16) e) 1280)) 20 0 (-1)
def ph_Tem (t : py_Z) (e : Nat) : py_Z := pm_end (pm_fg t e)
section PHO
variable {s t s0 t0 : py_Z} {e : Nat}
theorem ph_Tem_g (g i : Nat) (h : g ≠ 30 ∧ g ≠ 37 ∧ g ≠ 38 ∧ g ≠ 40 ∧ g ≠ 41 ∧ g ≠ 42 ∧ g ≠ 50 ∧ g ≠ 54 ∧ g ≠ 59) : ph_Tem t e g i = t g i := by
  obtain ⟨h1, h2, h3, h4, h5, h6, h7, h8, h9⟩ := h
  unfold ph_Tem pm_end
  split <;> simp [pm_rt, py_st, pm_sh, pm_fg, h1, h2, h3, h4, h5, h6, h7, h8, h9]
theorem ph_Tem_30 (i : Nat) : ph_Tem t e 30 i = pm_fgl t e (t 38 e).toNat i := by
  unfold ph_Tem pm_end
  split <;> simp [pm_rt, py_st, pm_sh, pm_fg]
theorem ph_Tem_37 (g i : Nat) (h : g = 37 ∨ g = 38) : ph_Tem t e g i = if i = e then 0 else t g i := by
  unfold ph_Tem pm_end
  rcases h with h | h <;> subst h <;> split <;> simp [pm_rt, py_st, pm_sh, pm_fg]
theorem ph_Tem_54 : ph_Tem t e 54 0 = t 54 0 + pm_fgn t e (t 38 e).toNat := by
  unfold ph_Tem pm_end
  split <;> simp [pm_rt, py_st, pm_sh, pm_fg]
theorem ph_Tem_59 : ph_Tem t e 59 0 = -1 := by
  unfold ph_Tem pm_end
  split <;> simp [pm_rt, py_st, pm_sh, pm_fg]
theorem ph_Sem_g (g i : Nat) (h : g ≠ 0 ∧ g ≠ 1 ∧ g ≠ 2 ∧ g ≠ 3 ∧ g ≠ 5 ∧ g ≠ 6 ∧ g ≠ 7 ∧ g ≠ 13 ∧ g ≠ 20) : ph_Sem s e g i = s g i := by
  obtain ⟨h1, h2, h3, h4, h5, h6, h7, h8, h9⟩ := h
  simp [ph_Sem, py_st, pr_rem, pr_wm, pr_clr, pr_hm, h1, h2, h3, h4, h5, h6, h7, h8, h9]
/-- the row, when the first car leaves -/
theorem ph_leave (hRW : pr_RW s t) (hn : 0 < t 50 0) : pr_RW (ph_Sem s e) (ph_Tem t e) := by
  have hs := hRW.2.1 0 (by omega)
  have h1 := hRW.rv.rem hn (by omega)
  have hS : pr_RV (ph_Sem s e) (pm_sh t) := h1.congrS (fun i => by simp [ph_Sem, py_st, pr_rem, pr_wm, pr_clr, pr_hm]) (fun i => by simp [ph_Sem, py_st, pr_rem, pr_wm, pr_clr, pr_hm]) (by simp [ph_Sem, py_st, pr_rem, pr_wm, pr_clr, pr_hm]) (by simp [ph_Sem, py_st, pr_rem, pr_wm, pr_clr, pr_hm])
  have s50 : pm_sh t 50 0 = t 50 0 := by simp [pm_sh]
  have s41 : ∀ j, pm_sh t 41 j = if j = 0 then t 41 0 - 1 else t 41 j := fun j => by simp [pm_sh]
  have f41 : pm_fg t e 41 0 = t 41 0 := by simp [pm_fg]
  by_cases e1 : t 41 0 = 1
  · have h2 := hS.rt (by omega) (by rw [s41, if_pos rfl]; omega)
    have hT : ∀ g i, g = 40 ∨ g = 41 ∨ g = 42 ∨ g = 50 ∨ g = 57 → ph_Tem t e g i = pm_rt (pm_sh t) g i := fun g i hg => by
      unfold ph_Tem pm_end
      rw [if_pos (by rw [f41]; exact e1)]
      rcases hg with h | h | h | h | h <;> subst h <;> simp [pm_rt, py_st, pm_sh, pm_fg]
    have h3 := h2.congr (t' := ph_Tem t e) (hT 50 0 (by omega)) (hT 57 0 (by omega)) (fun j _ => hT 40 j (by omega)) (fun j _ => hT 41 j (by omega)) (fun j k _ _ => hT 42 _ (by omega))
    refine h3.rw (fun j hj => ?_)
    rw [hT 50 0 (by omega)] at hj
    rw [hT 41 j (by omega)]
    have r50 : pm_rt (pm_sh t) 50 0 = t 50 0 - 1 := by simp [pm_rt, pm_sh]
    rw [r50] at hj
    have r41 : pm_rt (pm_sh t) 41 j = pm_sh t 41 (j + 1) := by simp [pm_rt, s50, hj]
    rw [r41, s41, if_neg (by omega)]
    exact (hRW.2.1 (j + 1) (by omega)).1
  · have hT : ∀ g i, g = 40 ∨ g = 41 ∨ g = 42 ∨ g = 50 ∨ g = 57 → ph_Tem t e g i = pm_sh t g i := fun g i hg => by
      unfold ph_Tem pm_end
      rw [if_neg (by rw [f41]; exact e1)]
      rcases hg with h | h | h | h | h <;> subst h <;> simp [py_st, pm_sh, pm_fg]
    have h3 := hS.congr (t' := ph_Tem t e) (hT 50 0 (by omega)) (hT 57 0 (by omega)) (fun j _ => hT 40 j (by omega)) (fun j _ => hT 41 j (by omega)) (fun j k _ _ => hT 42 _ (by omega))
    refine h3.rw (fun j hj => ?_)
    rw [hT 50 0 (by omega), s50] at hj
    rw [hT 41 j (by omega), s41]
    have := hRW.2.1 j hj
    split <;> omega
theorem ph_Mid.endTH (h : ph_Mid s t s0 t0 e) (hout : ∀ x : Nat, x < 640 → 0 < t0 30 x → t 31 x ≠ e → ∀ i : Nat, (i : Int) < t0 33 x → t0 35 (12 * x + i) < 0 ∨ t 31 (t0 35 (12 * x + i)).toNat ≠ e) :
    ph_TH (ph_Sem s e) (ph_Tem t e) (ph_E t) ∧ pr_IR (pr_clr (pr_hm s 16) e) ∧ (∀ p : Nat, p < 1280 → pr_clr (pr_hm s 16) e 1 p = 1 → -1 ≤ pr_clr (pr_hm s 16) e 0 p ∧ pr_clr (pr_hm s 16) e 0 p < 1280) := by
  have a1 := h.1
  have a2 := h.2.1
  have a3 := h.2.2.1
  have a5 := h.2.2.2.2.1
  have hse := h.six_e
  obtain ⟨sC, hsC⟩ : ∃ sC : py_Z, sC = fun g i => if g = 6 then ph_Sem s e 6 i else pr_clr (pr_hm s 16) e g i := ⟨_, rfl⟩
  have c0 : ∀ q : Nat, sC 0 q = if q / 32 = e then 0 else s 0 q := fun q => by rw [hsC]; simp [pr_clr, pr_hm]
  have c1 : ∀ q : Nat, sC 1 q = if q / 32 = e then 0 else s 1 q := fun q => by rw [hsC]; simp [pr_clr, pr_hm]
  have c6 : ∀ d : Nat, sC 6 d = if d = (s 5 0).toNat then 0 else s 6 d := fun d => by rw [hsC]; simp [ph_Sem, py_st, pr_rem, pr_wm, pr_clr, pr_hm]
  have h50 : s 5 0 = e := by
    have h1 := a1.2.1 0 (by omega)
    have h2 := (a1.2.2.2.1 0 0 (by omega) (by omega)).1
    simp only [Nat.mul_zero, Nat.add_zero, pr_off] at h2
    omega
  have t38 : ∀ d : Nat, ph_Tem t e 38 d = if d = e then 0 else t 38 d := fun d => ph_Tem_37 38 d (Or.inr rfl)
  have hC : ph_TH sC (ph_Tem t e) (ph_E t0) := by
    refine a2.clear a5.2.2.1 c0 c1 (fun d => by rw [hsC]; simp [pr_clr, pr_hm]) (fun d => by rw [hsC]; simp [pr_clr, pr_hm]) (fun d => by rw [hsC]; simp [pr_clr, pr_hm]) (fun d hd hz => ?_) (fun d k hd hde hk => ?_) (fun d => ph_Tem_37 37 d (Or.inl rfl)) t38 (fun g i hg => ph_Tem_g g i (by omega))
    · rw [c6, h50] at hz
      simp only [Int.toNat_natCast] at hz
      by_cases e1 : d = e
      · exact Or.inl e1
      · rw [if_neg e1] at hz; exact Or.inr hz
    · rw [ph_Tem_30]
      refine pm_fgl_other _ ?_
      have := (a3.2.2.2.1 d k hd (by omega) hk).2.1
      omega
  have hvals : ∀ c k i : Nat, c < 40 → (k : Int) < ph_Tem t e 38 c → (i : Int) < ph_Tem t e 33 (ph_x (ph_Tem t e) c k) → ph_x (ph_Tem t e) c k = ph_x t c k ∧ ph_Tem t e 35 (12 * ph_x (ph_Tem t e) c k + i) = t0 35 (12 * ph_x t c k + i) ∧ ph_PV t (t0 35 (12 * ph_x t c k + i)) ∧ (t0 35 (12 * ph_x t c k + i) < 0 ∨ t 31 (t0 35 (12 * ph_x t c k + i)).toNat ≠ e) := fun c k i hc hk hi => by
    have ex : ph_x (ph_Tem t e) c k = ph_x t c k := by unfold ph_x; rw [ph_Tem_g 39 _ (by omega)]
    rw [t38] at hk
    rw [ex, ph_Tem_g 33 _ (by omega)] at hi
    by_cases e1 : c = e
    · rw [if_pos e1] at hk; omega
    · rw [if_neg e1] at hk
      obtain ⟨m1, m2, m3⟩ := a3.2.2.2.1 c k hc (by omega) hk
      obtain ⟨w1, w2, w3, w4, w5, w6, w7⟩ := a2.2.1 c k hc hk
      have hx640 : ph_x t c k < 640 := by unfold ph_x; omega
      have g35 := h.f 35 (12 * ph_x t c k + i) (by omega)
      have g33 := h.f 33 (ph_x t c k) (by omega)
      have hPV := a3.2.2.2.2.2 (ph_x t c k) hx640 m1 i hi
      rw [g35] at hPV
      refine ⟨ex, by rw [ex, ph_Tem_g 35 _ (by omega), g35], hPV, hout _ hx640 (by rw [← h.f 30 _ (Or.inl rfl)]; exact m1) (by omega) i (by omega)⟩
  have hIRc : pr_IR (pr_clr (pr_hm s 16) e) := by
    have := hC.ir
    unfold pr_IR at this ⊢
    rw [hsC] at this
    simpa using this
  refine ⟨?_, hIRc, fun p hp h1 => ?_⟩
  · refine hC.remap (s' := ph_Sem s e) (pr_pn s) (fun p hp => ?_) (fun g i h1 h2 => ?_) (fun c hc hz => ?_) (fun c k i hc hk hi => ?_)
    · have e1 : ph_Sem s e 0 p = pr_wm (pr_clr (pr_hm s 16) e) 1280 0 p := by simp [ph_Sem, py_st, pr_rem]
      have e2 : ∀ v, pr_pn (pr_clr (pr_hm s 16) e) v = pr_pn s v := fun v => by simp [pr_pn, pr_clr, pr_hm]
      have e3 : sC 1 p = pr_clr (pr_hm s 16) e 1 p := by rw [hsC]; simp
      have e4 : sC 0 p = pr_clr (pr_hm s 16) e 0 p := by rw [hsC]; simp
      rw [e1, e3, e4]
      simp only [pr_wm, e2, hp, true_and]
    · rw [hsC]
      have : g ≠ 6 := by omega
      have : g ≠ 0 := by omega
      have : g ≠ 20 := by omega
      have : g ≠ 5 := by omega
      have : g ≠ 13 := by omega
      simp [ph_Sem, py_st, pr_rem, pr_wm, *]
    · rw [hsC]; simpa using hz
    · obtain ⟨v1, v2, v3, v4⟩ := hvals c k i hc hk hi
      rw [v2]
      exact (h.pn v3 v4).1
  · have e3 : sC 1 p = 1 := by rw [hsC]; simpa using h1
    obtain ⟨c, k, i, hc, hk, hi, hp2⟩ := ((hC.2.2 p hp).resolve_left (by omega)).2
    obtain ⟨v1, v2, v3, v4⟩ := hvals c k i hc hk hi
    have e4 : pr_clr (pr_hm s 16) e 0 p = sC 0 p := by rw [hsC]; simp
    obtain ⟨w1, w2, w3, w4, w5, w6, w7⟩ := hC.2.1 c k hc hk
    rw [e4, hp2, (w6 i hi).1, v2]
    exact (h.pn v3 v4).2
theorem ph_Mid.endMH (h : ph_Mid s t s0 t0 e) (hreg : ∀ r : Nat, r < 16 → t0 43 r < 0 ∨ t 31 (t0 43 r).toNat ≠ e) (hout : ∀ x : Nat, x < 640 → 0 < t0 30 x → t 31 x ≠ e → ∀ i : Nat, (i : Int) < t0 33 x → t0 35 (12 * x + i) < 0 ∨ t 31 (t0 35 (12 * x + i)).toNat ≠ e) :
    ph_MH (ph_Tem t e) (-1) := by
  have a3 := h.2.2.1
  have a9 := h.2.2.2.2.2.2.2.2.1
  have a10 := h.2.2.2.2.2.2.2.2.2.1
  have t30 := ph_Tem_30 (t := t) (e := e)
  have t38 : ∀ d : Nat, ph_Tem t e 38 d = if d = e then 0 else t 38 d := fun d => ph_Tem_37 38 d (Or.inr rfl)
  have t31 : ∀ d : Nat, ph_Tem t e 31 d = t 31 d := fun d => ph_Tem_g 31 d (by omega)
  have t32 : ∀ d : Nat, ph_Tem t e 32 d = t 32 d := fun d => ph_Tem_g 32 d (by omega)
  have t33 : ∀ d : Nat, ph_Tem t e 33 d = t 33 d := fun d => ph_Tem_g 33 d (by omega)
  have t34 : ∀ d : Nat, ph_Tem t e 34 d = t 34 d := fun d => ph_Tem_g 34 d (by omega)
  have t35 : ∀ d : Nat, ph_Tem t e 35 d = t 35 d := fun d => ph_Tem_g 35 d (by omega)
  have t39 : ∀ d : Nat, ph_Tem t e 39 d = t 39 d := fun d => ph_Tem_g 39 d (by omega)
  have t43 : ∀ d : Nat, ph_Tem t e 43 d = t 43 d := fun d => ph_Tem_g 43 d (by omega)
  have t58 : ∀ d : Nat, ph_Tem t e 58 d = t 58 d := fun d => ph_Tem_g 58 d (by omega)
  generalize ph_Tem t e = t' at *
  have ex : ∀ c k, ph_x t' c k = ph_x t c k := fun c k => by unfold ph_x; rw [t39]
  have ep : ∀ c k, ph_pos t' c k = ph_pos t c k := fun c k => ph_pos_congr k (fun m _ => ⟨ex c m, by unfold ph_sz; rw [t33, t34]⟩)
  have hkeep : ∀ x : Nat, t 31 x ≠ e → t' 30 x = t 30 x := fun x hx => by rw [t30]; exact pm_fgl_other _ hx
  have hgone : ∀ x : Nat, x < 640 → t 31 x = e → t' 30 x = 0 := fun x hx he => by
    rw [t30]
    by_cases hl : 0 < t 30 x
    · obtain ⟨b1, b2, b3, b4⟩ := a9 x hx hl
      have h0e : t0 31 x = e := by
        by_cases e1 : t0 31 x = e
        · exact e1
        · have := (b3 e1).1; omega
      obtain ⟨k, hk, hk2⟩ := b4 h0e
      exact pm_fgl_gone (t 38 e).toNat (k := k) (by omega) hk2 he
    · have := a3.2.1 x hx
      rcases pm_fgl_01 (t := t) (c := e) (t 38 e).toNat x with e1 | e1
      · exact e1
      · omega
  have hPV : ∀ y : Int, ph_PV t y → (y < 0 ∨ t 31 y.toNat ≠ e) → ph_PV t' y := fun y hy ho => by
    rcases hy with e1 | ⟨e1, e2⟩
    · exact Or.inl e1
    · exact Or.inr ⟨e1, by rw [hkeep _ (ho.resolve_left (by omega))]; exact e2⟩
  refine ⟨by rw [t58]; exact a3.1, fun x hx => ?_, fun x hx hl => ?_, fun c k hc _ hk => ?_, fun r hr => ?_, fun x hx hl i hi => ?_⟩
  · have := a3.2.1 x hx
    rw [t58]
    by_cases e1 : t 31 x = e
    · rw [hgone x hx e1]
      have := a3.1
      exact ⟨by omega, by omega, fun _ => rfl⟩
    · rw [hkeep x e1]; exact this
  · by_cases e1 : t 31 x = e
    · rw [hgone x hx e1] at hl; omega
    · rw [hkeep x e1] at hl
      obtain ⟨c, k, hc, hk, h1, h2, h3⟩ := a3.2.2.1 x hx hl
      refine ⟨c, k, hc, ?_, by rw [ex]; exact h1, by rw [t31]; exact h2, by rw [t32, ep]; exact h3⟩
      rw [t38, if_neg (by omega)]; exact hk
  · rw [t38] at hk
    by_cases e1 : c = e
    · rw [if_pos e1] at hk; omega
    · rw [if_neg e1] at hk
      obtain ⟨g1, g2, g3⟩ := a3.2.2.2.1 c k hc (by omega) hk
      rw [ex, t31, t32, ep, hkeep _ (by omega)]
      exact ⟨g1, g2, g3⟩
  · rw [t43]
    have g43 := h.f 43 r (by omega)
    have := a3.2.2.2.2.1 r hr
    refine hPV _ this ?_
    rw [g43]; exact hreg r hr
  · rw [t33] at hi
    rw [t35]
    by_cases e1 : t 31 x = e
    · rw [hgone x hx e1] at hl; omega
    · rw [hkeep x e1] at hl
      have g35 := h.f 35 (12 * x + i) (by omega)
      have g33 := h.f 33 x (by omega)
      refine hPV _ (a3.2.2.2.2.2 x hx hl i hi) ?_
      rw [g35]
      exact hout x hx (by rw [← h.f 30 _ (Or.inl rfl)]; exact hl) e1 i (by omega)
end PHO
end
section
/-! PURE: a step that empties a car -/
def pr_start (s : py_Z) : py_Z := fun g i => if g = 20 then (if i = 0 then s 5 0 else s 20 i) else if g = 8 then (if i < 32 then -1 else s 8 i) else if g = 21 ∨ g = 22 then (if i = 0 then 0 else s g i) else s g i
theorem pr_startEmptying {s : py_Z} {K : ty_S → Prop} (hc : 0 < s 13 0 ∧ s 13 0 ≤ 40) (hK : K (py_O (pr_start s))) : eX3_startEmptying (py_O s) K := by
  unfold eX3_startEmptying
  try simp only [py_O_ap, py_l0, py_l1, py_l2, py_l3, py_l4, py_l5, py_l6, py_l7, py_l8, py_l9, py_l12, py_l16, py_l32, py_l40, py_l100, py_l640, py_l1280, py_neg, py_add, py_sub, py_mul, py_stO]
  refine pr_carAt (by omega) (fun _ _ => ?_) (fun c => absurd c (by omega))
  try simp only [py_O_ap, py_l0, py_l1, py_l2, py_l3, py_l4, py_l5, py_l6, py_l7, py_l8, py_l9, py_l12, py_l16, py_l32, py_l40, py_l100, py_l640, py_l1280, py_neg, py_add, py_sub, py_mul, py_stO]
  rw [py_fillO]
  try simp only [py_O_ap, py_l0, py_l1, py_l2, py_l3, py_l4, py_l5, py_l6, py_l7, py_l8, py_l9, py_l12, py_l16, py_l32, py_l40, py_l100, py_l640, py_l1280, py_neg, py_add, py_sub, py_mul, py_stO]
  have e : pr_start s = py_st (py_st (fun g j => if g = 8 then (if j < 32 then (-1 : Int) else py_st s 20 0 (s 5 (0 : Int).toNat) g j) else py_st s 20 0 (s 5 (0 : Int).toNat) g j) 21 0 0) 22 0 0 := by
    funext g i
    simp only [pr_start, py_st, Int.toNat_zero]
    grind
  rw [e] at hK
  exact hK
theorem ph_E_congr {t t' : py_Z} (h31 : ∀ x, t' 31 x = t 31 x) (h32 : ∀ x, t' 32 x = t 32 x) : ph_E t' = ph_E t := by
  funext y
  unfold ph_E
  rw [h31, h32]
theorem ph_start {s t t0 : py_Z} {n : Nat} {m9 : Int} (h : ph_R s t n m9) (hn : 0 < t 50 0) (hN : s 13 0 < 40) (hm : t 57 0 < 99999) (h59 : t0 59 0 = s 5 0) (ht : ∀ g i, g ≠ 45 → g ≠ 46 → g ≠ 47 → g ≠ 52 → g ≠ 59 → g ≠ 61 → t0 g i = t g i) :
    ∃ e : Nat, s 5 0 = e ∧ e < 40 ∧ t 42 0 = e ∧ ph_Mid (pr_start s) t0 (pr_start s) t0 e ∧ ph_CL t0 t0 e (fun _ => False) ∧ s 6 e = t 40 0 := by
  obtain ⟨b1, b2, b3, b4, b5, b6, b7, b8, b9, b10⟩ := h
  have hs := b1.some
  obtain ⟨⟨c1, c2⟩, -⟩ := b1.car (i := 0) (by omega)
  have h41 := b1.2.1 0 (by omega)
  obtain ⟨d1, d2, d3⟩ := b1.2.2.2.1 0 0 (by omega) (by omega)
  simp only [Nat.mul_zero, Nat.add_zero, pr_off] at d1 d2 d3
  have sg : ∀ g i, g ≠ 8 → g ≠ 20 → g ≠ 21 → g ≠ 22 → pr_start s g i = s g i := fun g i h1 h2 h3 h4 => by simp [pr_start, h1, h2, h3, h4]
  have s8 : ∀ i, i < 32 → pr_start s 8 i = -1 := fun i hi => by simp [pr_start, hi]
  have s20 : pr_start s 20 0 = s 5 0 := by simp [pr_start]
  have s21 : pr_start s 21 0 = 0 := by simp [pr_start]
  have t31 : ∀ x, t0 31 x = t 31 x := fun x => ht 31 x (by omega) (by omega) (by omega) (by omega) (by omega) (by omega)
  have t32 : ∀ x, t0 32 x = t 32 x := fun x => ht 32 x (by omega) (by omega) (by omega) (by omega) (by omega) (by omega)
  have t38 : ∀ x, t0 38 x = t 38 x := fun x => ht 38 x (by omega) (by omega) (by omega) (by omega) (by omega) (by omega)
  have hE := ph_E_congr t31 t32
  have hMH0 : ph_MH t0 (-1) := b3.congr (fun g i hg => ht g i (by omega) (by omega) (by omega) (by omega) (by omega) (by omega))
  have hTH0 : ph_TH (pr_start s) t0 (ph_E t0) := by
    rw [hE]
    exact b2.congr (fun g i hg => sg g i (by omega) (by omega) (by omega) (by omega)) (fun c _ hz => by rwa [sg 6 c (by omega) (by omega) (by omega) (by omega)] at hz) (fun g i _ _ _ _ => ht g i (by omega) (by omega) (by omega) (by omega) (by omega) (by omega))
  have hRW0 : pr_RW (pr_start s) t0 := b1.congr (fun i => sg 5 i (by omega) (by omega) (by omega) (by omega)) (fun i => sg 6 i (by omega) (by omega) (by omega) (by omega)) (sg 13 0 (by omega) (by omega) (by omega) (by omega)) (sg 14 0 (by omega) (by omega) (by omega) (by omega)) (ht 50 0 (by omega) (by omega) (by omega) (by omega) (by omega) (by omega)) (ht 57 0 (by omega) (by omega) (by omega) (by omega) (by omega) (by omega)) (fun i => ht 40 i (by omega) (by omega) (by omega) (by omega) (by omega) (by omega)) (fun i => ht 41 i (by omega) (by omega) (by omega) (by omega) (by omega) (by omega)) (fun i => ht 42 i (by omega) (by omega) (by omega) (by omega) (by omega) (by omega))
  have heN : s 5 0 = ((s 5 0).toNat : Nat) := by omega
  have hs6 : s 6 (s 5 0).toNat = t 40 0 := by rw [d1]; exact d3
  generalize he : (s 5 0).toNat = e at *
  have hpos : ∀ k : Nat, (k : Int) < t0 38 e → 0 < t0 30 (ph_x t0 e k) ∧ t0 31 (ph_x t0 e k) = e ∧ t0 32 (ph_x t0 e k) = ph_pos t0 e k := fun k hk => hMH0.2.2.2.1 e k (by omega) (by omega) hk
  refine ⟨e, heN, by omega, by omega, ⟨hRW0, hTH0, ⟨hMH0.1, hMH0.2.1, hMH0.2.2.1, fun c k hc _ hk => hMH0.2.2.2.1 c k hc (by omega) hk, hMH0.2.2.2.2⟩, fun r hr => ?_, ⟨by omega, by omega, by omega, ?_, ?_⟩, ⟨?_, ?_⟩, ⟨fun _ _ _ => rfl, fun _ _ _ => rfl⟩, ⟨rfl, rfl, fun _ _ => rfl⟩, fun x hx hl => ?_, fun k hk => ?_, ?_, ?_, ⟨?_, Or.inl ⟨rfl, rfl⟩⟩, fun _ _ => rfl⟩, fun x hx hl h0 hne => absurd h0 hne, hs6⟩
  · rw [sg 7 r (by omega) (by omega) (by omega) (by omega), ht 43 r (by omega) (by omega) (by omega) (by omega) (by omega) (by omega), hE]
    exact b4 r hr
  · rw [ht 42 0 (by omega) (by omega) (by omega) (by omega) (by omega) (by omega)]; omega
  · rw [ht 50 0 (by omega) (by omega) (by omega) (by omega) (by omega) (by omega)]; omega
  · rw [sg 18 0 (by omega) (by omega) (by omega) (by omega), ht 55 0 (by omega) (by omega) (by omega) (by omega) (by omega) (by omega)]; exact b6.2.2.2.1
  · rw [sg 19 0 (by omega) (by omega) (by omega) (by omega), ht 56 0 (by omega) (by omega) (by omega) (by omega) (by omega) (by omega)]; exact b6.2.2.2.2
  · obtain ⟨c, k, hc, hk, g1, g2, g3, g4, g5, g6, g7⟩ := ph_live hTH0 hMH0 hx hl
    refine ⟨by omega, g5, fun _ => ⟨rfl, rfl⟩, fun e1 => ?_⟩
    have : c = e := by omega
    subst this
    exact ⟨k, hk, g1⟩
  · obtain ⟨p1, p2, p3⟩ := hpos k hk
    refine ⟨p1, p2, p3, Or.inl ⟨p2, p3, s8 _ ?_⟩⟩
    obtain ⟨f1, f2, f3, f4⟩ := hTH0.fit (c := e) (k := k) (by omega) hk
    unfold ph_sz at f1
    omega
  · rw [s21]
    have : ph_mc t0 e (t0 38 e).toNat = 0 := py_cnt_none (fun k hk => by rw [(hpos k (by omega)).2.1]; simp)
    rw [this]; rfl
  · rw [sg 13 0 (by omega) (by omega) (by omega) (by omega)]; exact Or.inl hN
  · rw [ht 57 0 (by omega) (by omega) (by omega) (by omega) (by omega) (by omega)]; exact hm
/-- a step that empties the first car -/
theorem ph_emptyStep {s t : py_Z} {n : Nat} {m9 : Int} (h : ph_R s t n m9) (hn : 0 < t 50 0) (hN : s 13 0 < 40) (hm : t 57 0 < 99999) :
    ∃ (s' t' : py_Z) (r : Int),
      (∀ K : ty_S → Int32 → Prop, K (py_O s') (py_o r) → eX3_startEmptying (py_O s) (fun S4 => (eX3_moveHeld S4 (py_o (t 40 0)) (fun S5 => (eX3_moveReferredTo S5 (py_o (t 40 0)) (0 : Int32) (fun S6 => (eX3_moveReferredTo S6 (py_o (t 40 0)) (1 : Int32) (fun S7 => (eX0_things S7 (S7 20 0) (fun S8 r8 => (eX3_endEmptying S8 (fun S9 => jX3_doStep_67 K (r8 - (S8 21 0)) S9)))))))))))) ∧
      (∀ K : ty_S → Int32 → Prop, K (py_O t') (py_o r) → eX5_gather (py_O (py_st (py_st t 52 0 (t 52 0 + 1)) 59 0 (t 42 0))) (fun S2 => ∃ n9, lX5_oneStep_83 K n9 (0 : Int32) S2)) ∧
      (pr_RW s' t' ∧ ph_TH s' t' (ph_E t') ∧ ph_MH t' (-1) ∧ (∀ r : Nat, r < 16 → s' 7 r = ph_E t' (t' 43 r)) ∧ (s' 20 0 = -1 ∧ t' 59 0 = -1) ∧ (s' 15 0 = t' 52 0 ∧ s' 16 0 = t' 53 0 ∧ s' 17 0 = t' 54 0 ∧ s' 18 0 = t' 55 0 ∧ s' 19 0 = t' 56 0)) ∧
      (∀ g i, g = 10 ∨ g = 11 ∨ g = 12 ∨ 23 ≤ g → s' g i = s g i) ∧ (∀ g i, g = 51 ∨ g = 58 ∨ g = 60 → t' g i = t g i) ∧ t' 57 0 ≤ t 57 0 + 1 ∧ (0 ≤ r ∧ r ≤ 16) := by
  obtain ⟨b1, b2, b3, b4, b5, b6, b7, b8, b9, b10⟩ := id h
  have hs := b1.some
  obtain ⟨⟨c1, c2⟩, -⟩ := b1.car (i := 0) (by omega)
  have h41 := b1.2.1 0 (by omega)
  obtain ⟨d1, d2, d3⟩ := b1.2.2.2.1 0 0 (by omega) (by omega)
  simp only [Nat.mul_zero, Nat.add_zero, pr_off] at d1 d2 d3
  -- the list
  obtain ⟨tA, htA⟩ : ∃ tA, tA = py_st (py_st t 52 0 (t 52 0 + 1)) 59 0 (t 42 0) := ⟨_, rfl⟩
  have tAg : ∀ g i, g ≠ 52 → g ≠ 59 → tA g i = t g i := fun g i h1 h2 => by rw [htA, py_sn h2, py_sn h1]
  have tA59 : tA 59 0 = t 42 0 := by rw [htA, py_se]
  have tA52 : tA 52 0 = t 52 0 + 1 := by rw [htA, py_sn (by decide), py_se]
  have hRWA : pr_RW s tA := b1.congr (fun _ => rfl) (fun _ => rfl) rfl rfl (tAg 50 0 (by omega) (by omega)) (tAg 57 0 (by omega) (by omega)) (fun i => tAg 40 i (by omega) (by omega)) (fun i => tAg 41 i (by omega) (by omega)) (fun i => tAg 42 i (by omega) (by omega))
  have hTHA : ph_TH s tA (ph_E t) := b2.congr (fun _ _ _ => rfl) (fun _ _ hz => hz) (fun g i _ _ _ _ => tAg g i (by omega) (by omega))
  have hMHA : ph_MH tA (-1) := b3.congr (fun g i hg => tAg g i (by omega) (by omega))
  obtain ⟨t0, g1, g2, g3⟩ := ph_gather hRWA hTHA hMHA (e := (t 42 0).toNat) ⟨by omega, by omega⟩
  have ht0 : ∀ g i, g ≠ 45 → g ≠ 46 → g ≠ 47 → g ≠ 52 → g ≠ 59 → g ≠ 61 → t0 g i = t g i := fun g i h1 h2 h3 h4 h5 h6 => (g2 g i h1 h2 h3 h6).trans (tAg g i h4 h5)
  have t059 : t0 59 0 = s 5 0 := by rw [g2 59 0 (by omega) (by omega) (by omega) (by omega), tA59]; omega
  obtain ⟨e, e1, e2, e3, hM0, hCL0, hs6⟩ := ph_start h hn hN hm t059 ht0
  have ht42 : (t 42 0).toNat = e := by omega
  rw [ht42] at g3
  have t040 : t0 40 0 = t 40 0 := ht0 40 0 (by omega) (by omega) (by omega) (by omega) (by omega) (by omega)
  have ps6 : ∀ i, pr_start s 6 i = s 6 i := fun i => by simp [pr_start]
  have hG : ph_G (pr_start s) t0 e 1282 := by
    unfold ph_G ph_Ent at g3 ⊢
    simp only [ps6]
    exact g3
  have h40 := b1.2.2.2.2.1 0 (by omega)
  have He : pr_start s 6 e ≠ 0 := by rw [ps6, hs6]; omega
  have He40 : t0 40 0 = pr_start s 6 e := by rw [ps6, hs6, t040]
  have H6 : ∀ x : Nat, x < 640 → 0 < t0 30 x → pr_start s 6 (t0 31 x).toNat ≠ 0 := fun x hx hl => by
    rw [ht0 30 x (by omega) (by omega) (by omega) (by omega) (by omega) (by omega)] at hl
    rw [ht0 31 x (by omega) (by omega) (by omega) (by omega) (by omega) (by omega), ps6]
    obtain ⟨c, k, hc, hk, p1, p2, p3, p4, p5⟩ := ph_live b2 b3 hx hl
    rw [p2]; simpa using p4
  -- the moves
  obtain ⟨sB, tB, o1, o2, o3, o4, o5, o6, o7⟩ := ph_held 16 0 (pr_start s) t0 hM0 (by simp [pr_start]) hCL0 (fun _ => by simp [pr_start]; omega) rfl (fun q hq => absurd hq (by omega))
  obtain ⟨sC, tC, p1, p2, p3, p4, p5, p6, p7⟩ := ph_refs hG H6 He He40 (fl := 0) (Or.inl rfl) o3 o4 o5
  obtain ⟨sD, tD, q1, q2, q3, q4, q5, q6, q7⟩ := ph_refs hG H6 He He40 (fl := 1) (Or.inr rfl) p3 p4 p5
  have hfirst : pr_start s 6 e = t 40 0 := by rw [ps6]; exact hs6
  rw [hfirst] at p1 q1
  -- all that was to be moved has been moved
  have hreg : ∀ r : Nat, r < 16 → t0 43 r < 0 ∨ tD 31 (t0 43 r).toNat ≠ e := fun r hr => by
    rcases o7 r hr with a | a
    · exact Or.inl a
    · refine Or.inr ?_
      have h1 := (p6.1 _ a).1
      have h2 := (q6.1 _ (by rw [h1]; exact a)).1
      rw [h2, h1]; exact a
  have hout : ∀ x : Nat, x < 640 → 0 < t0 30 x → tD 31 x ≠ e → ∀ i : Nat, (i : Int) < t0 33 x → t0 35 (12 * x + i) < 0 ∨ tD 31 (t0 35 (12 * x + i)).toNat ≠ e := fun x hx hl hne i hi => by
    by_cases e4 : t0 31 x = e
    · exact q5 x hx hl e4 hne (fun c => c) i hi
    · obtain ⟨c, m, r1, r2, r3, r4, r5, r6, r7, r8, r9⟩ := q3.ref hx hl e4 hi
      by_cases e5 : pr_start s 6 (t0 31 x).toNat = pr_start s 6 e
      · exact q7 x hx hl e4 i hi (by omega) ⟨fun _ => rfl, fun _ => e5⟩
      · rcases p7 x hx hl e4 i hi (by omega) ⟨fun a => absurd a e5, fun a => absurd a (by decide)⟩ with a | a
        · exact Or.inl a
        · exact Or.inr (by rw [(q6.1 _ a).1]; exact a)
  -- the end
  have a5 := q3.2.2.2.2.1
  have hRWD := q3.1
  obtain ⟨hTH, hIR, hv⟩ := q3.endTH hout
  have hMH := q3.endMH hreg hout
  have hRW : pr_RW (ph_Sem sD e) (ph_Tem tD e) := ph_leave hRWD a5.2.2.2.2
  have hCe := q3.2.1.1 e e2
  have hE : ph_E (ph_Tem tD e) = ph_E tD := ph_E_congr (fun x => ph_Tem_g 31 x (by omega)) (fun x => ph_Tem_g 32 x (by omega))
  have hcm := py_cnt_compl (P := fun k => decide (tD 31 (tD 39 (16 * e + k)).toNat = e)) (tD 38 e).toNat
  have hmc : ph_mc tD e (tD 38 e).toNat = py_cnt (fun k => !decide (tD 31 (tD 39 (16 * e + k)).toNat = e)) (tD 38 e).toNat := py_cnt_congr (fun k _ => by unfold ph_x; simp)
  have h21 := q3.2.2.2.2.2.2.2.2.2.2.1
  have hfgn : (pm_fgn tD e (tD 38 e).toNat : Int) = sD 3 e - sD 21 0 := by
    rw [hCe.1, h21, hmc]
    unfold pm_fgn
    have := hCe.2.2.1
    omega
  have hfr1 := q3.2.2.2.2.2.2.1.1
  have hfr2 := q3.2.2.2.2.2.2.1.2
  have hsD : sD 13 0 = sD 13 0 := rfl
  have hcD := hRWD.some
  have hcD2 := hRWD.cnt
  have hcar0 := (hRWD.car (i := 0) (by omega)).1
  have hh : ∀ r : Nat, r < 16 → -1 ≤ sD 7 r ∧ sD 7 r < 1280 ∧ pr_pn sD (sD 7 r) = ph_E tD (tD 43 r) := fun r hr => by
    have g43 := q3.f 43 r (by omega)
    have hPV := q3.2.2.1.2.2.2.2.1 r hr
    have := q3.pn hPV (by rw [g43]; exact hreg r hr)
    rw [q3.2.2.2.1 r hr]
    exact ⟨this.2.1, this.2.2, this.1⟩
  have hn9 := hCe.2.2.1
  have hSf : ∀ g i, g ≠ 0 → g ≠ 1 → g ≠ 2 → g ≠ 3 → g ≠ 5 → g ≠ 6 → g ≠ 7 → g ≠ 13 → g ≠ 20 → ph_Sem sD e g i = sD g i := fun g i a b c d f g' i' j k => ph_Sem_g g i ⟨a, b, c, d, f, g', i', j, k⟩
  refine ⟨py_st (py_st (ph_Sem sD e) 15 0 (s 15 0 + 1)) 17 0 (s 17 0 + (sD 3 e - sD 21 0)), ph_Tem tD e, sD 3 e - sD 21 0, fun K hK => ?_, fun K hK => ?_, ⟨?_, ?_, hMH, fun r hr => ?_, ⟨?_, ph_Tem_59⟩, ?_⟩, fun g i hg => ?_, fun g i hg => ?_, ?_, ?_⟩
  · refine pr_startEmptying (by omega) ?_
    unfold eX3_moveHeld
    rw [py_l0]
    have := o1 (fun S5 => (eX3_moveReferredTo S5 (py_o (t 40 0)) (py_o 0) (fun S6 => (eX3_moveReferredTo S6 (py_o (t 40 0)) (1 : Int32) (fun S7 => (eX0_things S7 (S7 20 0) (fun S8 r8 => (eX3_endEmptying S8 (fun S9 => jX3_doStep_67 K (r8 - (S8 21 0)) S9))))))))) ?_
    · rw [t040] at this
      exact this
    · refine p1 _ ?_
      rw [py_l1]
      refine q1 _ ?_
      try simp only [py_O_ap, py_l0, py_l1, py_l2, py_l3, py_l4, py_l5, py_l6, py_l7, py_l8, py_l9, py_l12, py_l16, py_l32, py_l40, py_l100, py_l640, py_l1280, py_neg, py_add, py_sub, py_mul, py_stO]
      rw [a5.1]
      refine pr_things (fun _ _ => ?_) (fun c => absurd c (by omega))
      simp only [Int.toNat_natCast]
      try simp only [py_O_ap, py_l0, py_l1, py_l2, py_l3, py_l4, py_l5, py_l6, py_l7, py_l8, py_l9, py_l12, py_l16, py_l32, py_l40, py_l100, py_l640, py_l1280, py_neg, py_add, py_sub, py_mul, py_stO]
      refine pr_endEmptying ⟨a5.1, e2⟩ (fun r hr => ⟨(hh r hr).1, (hh r hr).2.1⟩) hIR hv (by omega) (by omega) ?_
      unfold jX3_doStep_67
      try simp only [py_O_ap, py_l0, py_l1, py_l2, py_l3, py_l4, py_l5, py_l6, py_l7, py_l8, py_l9, py_l12, py_l16, py_l32, py_l40, py_l100, py_l640, py_l1280, py_neg, py_add, py_sub, py_mul, py_stO]
      have f15 : ph_Sem sD e 15 0 = s 15 0 := by
        rw [hSf 15 0 (by omega) (by omega) (by omega) (by omega) (by omega) (by omega) (by omega) (by omega) (by omega), hfr1 15 0 (by omega)]; simp [pr_start]
      have f17 : ph_Sem sD e 17 0 = s 17 0 := by
        rw [hSf 17 0 (by omega) (by omega) (by omega) (by omega) (by omega) (by omega) (by omega) (by omega) (by omega), hfr1 17 0 (by omega)]; simp [pr_start]
      unfold ph_Sem at f15 f17
      rw [f15, f17]
      unfold ph_Sem at hK
      exact hK
  · rw [← htA]
    refine g1 _ ?_
    rw [py_l0]
    refine o2 K ?_
    obtain ⟨n1, hn1⟩ : ∃ n1, lX5_oneStep_138 K n1 (py_o 2) (py_O tD) := by
      refine ⟨1, ?_⟩
      unfold lX5_oneStep_138
      try simp only [py_O_ap, py_l0, py_l1, py_l2, py_l3, py_l4, py_l5, py_l6, py_l7, py_l8, py_l9, py_l12, py_l16, py_l32, py_l40, py_l100, py_l640, py_l1280, py_neg, py_add, py_sub, py_mul, py_stO]
      refine py_ile (fun _ => ?_) (fun c => absurd c (by omega))
      have h59 : tD 59 0 = e := a5.2.1
      rw [h59]
      have a10 := q3.2.2.2.2.2.2.2.2.2.1
      have a3 := q3.2.2.1
      refine pm_forget e2 hn9 (fun k hk => ?_) (fun k m hkm hm => ?_) ?_
      · obtain ⟨w1, w2, w3, w4⟩ := q3.2.1.2.1 e k e2 hk
        obtain ⟨x1, x2, x3, x4⟩ := a10 k hk
        have hx640 : ph_x tD e k < 640 := by unfold ph_x; omega
        have := a3.2.1 (ph_x tD e k) hx640
        have h58 := a3.1
        obtain ⟨c, k', hc, hk', y1, y2, y3⟩ := a3.2.2.1 (ph_x tD e k) hx640 x1
        unfold ph_x at x1 this y2
        exact ⟨w1, by omega, by omega, by omega⟩
      · have := (q3.inj (k := k) (m := m) (by omega) hm (by omega)).1
        unfold ph_x at this
        intro e9
        rw [e9] at this
        exact this rfl
      · refine py_and (py_and ?_)
        rw [py_nat (by omega)]
        simp only [Int.toNat_zero]
        try simp only [py_O_ap, py_l0, py_l1, py_l2, py_l3, py_l4, py_l5, py_l6, py_l7, py_l8, py_l9, py_l12, py_l16, py_l32, py_l40, py_l100, py_l640, py_l1280, py_neg, py_add, py_sub, py_mul, py_stO]
        have f41 : pm_fg tD e 41 0 = tD 41 0 := by simp [pm_fg]
        have f50 : pm_fg tD e 50 0 = tD 50 0 := by simp [pm_fg]
        have hz0 := hRWD.2.1 0 (by omega)
        have hz1 := hRWD.1
        refine pm_leave (by rw [f41]; exact hz0) (by rw [f50]; omega) ?_
        rw [hfgn]
        exact hK
    obtain ⟨n2, hn2⟩ := q2 K (fun a0 S9 => lX5_oneStep_138 K n1 a0 S9) (by simpa using hn1)
    obtain ⟨n3, hn3⟩ := p2 K (fun a0 S9 => lX5_oneStep_138 K (n1 + 1) a0 S9) (by
      show lX5_oneStep_138 K (n1 + 1) (py_o (0 + 1)) (py_O tC)
      unfold lX5_oneStep_138
      try simp only [py_O_ap, py_l0, py_l1, py_l2, py_l3, py_l4, py_l5, py_l6, py_l7, py_l8, py_l9, py_l12, py_l16, py_l32, py_l40, py_l100, py_l640, py_l1280, py_neg, py_add, py_sub, py_mul, py_stO]
      exact py_ile (fun c => absurd c (by omega)) (fun _ => ⟨n2, hn2⟩))
    refine ⟨n1 + 1 + 1, ?_⟩
    rw [lX5_oneStep_138]
    try simp only [py_O_ap, py_l0, py_l1, py_l2, py_l3, py_l4, py_l5, py_l6, py_l7, py_l8, py_l9, py_l12, py_l16, py_l32, py_l40, py_l100, py_l640, py_l1280, py_neg, py_add, py_sub, py_mul, py_stO]
    exact py_ile (fun c => absurd c (by omega)) (fun _ => ⟨n3, hn3⟩)
  · exact hRW.congr (fun i => by rw [py_sn (by decide), py_sn (by decide)]) (fun i => by rw [py_sn (by decide), py_sn (by decide)]) (by rw [py_sn (by decide), py_sn (by decide)]) (by rw [py_sn (by decide), py_sn (by decide)]) rfl rfl (fun _ => rfl) (fun _ => rfl) (fun _ => rfl)
  · rw [hE]
    exact hTH.congr (fun g i hg => by rw [py_sn (by omega), py_sn (by omega)]) (fun c _ hz => by rwa [py_sn (by decide), py_sn (by decide)] at hz) (fun _ _ _ _ _ _ => rfl)
  · rw [hE, py_sn (by decide), py_sn (by decide), ph_Tem_g 43 r (by omega), ← (hh r hr).2.2]
    have e9 : ∀ v, pr_pn (pr_clr (pr_hm sD 16) e) v = pr_pn sD v := fun v => by simp [pr_pn, pr_clr, pr_hm]
    simp [ph_Sem, py_st, pr_rem, pr_wm, pr_clr, pr_hm, hr]
  · rw [py_sn (by decide), py_sn (by decide)]; simp [ph_Sem, py_st]
  · rw [py_sn (show 15 ≠ 17 by decide), py_se, py_sn (show 16 ≠ 17 by decide), py_sn (show 16 ≠ 15 by decide), py_se, py_sn (show 18 ≠ 17 by decide), py_sn (show 18 ≠ 15 by decide), py_sn (show 19 ≠ 17 by decide), py_sn (show 19 ≠ 15 by decide)]
    rw [hSf 16 0 (by omega) (by omega) (by omega) (by omega) (by omega) (by omega) (by omega) (by omega) (by omega), hSf 18 0 (by omega) (by omega) (by omega) (by omega) (by omega) (by omega) (by omega) (by omega) (by omega), hSf 19 0 (by omega) (by omega) (by omega) (by omega) (by omega) (by omega) (by omega) (by omega) (by omega)]
    rw [ph_Tem_g 52 0 (by omega), ph_Tem_g 53 0 (by omega), ph_Tem_54, ph_Tem_g 55 0 (by omega), ph_Tem_g 56 0 (by omega)]
    rw [hfr1 16 0 (by omega), hfr2 52 0 (by omega), hfr2 53 0 (by omega), hfr2 54 0 (by omega)]
    rw [ht0 53 0 (by omega) (by omega) (by omega) (by omega) (by omega) (by omega), ht0 54 0 (by omega) (by omega) (by omega) (by omega) (by omega) (by omega), g2 52 0 (by omega) (by omega) (by omega) (by omega), tA52]
    have hps : pr_start s 16 0 = s 16 0 := by simp [pr_start]
    have h66 := q3.2.2.2.2.2.1
    refine ⟨by omega, by omega, by omega, h66.1, h66.2⟩
  · rw [py_sn (by omega), py_sn (by omega), hSf g i (by omega) (by omega) (by omega) (by omega) (by omega) (by omega) (by omega) (by omega) (by omega), hfr1 g i (by omega)]
    have : g ≠ 20 := by omega
    have : g ≠ 8 := by omega
    have : g ≠ 21 := by omega
    have : g ≠ 22 := by omega
    simp [pr_start, *]
  · rw [ph_Tem_g g i (by omega), hfr2 g i (by omega), ht0 g i (by omega) (by omega) (by omega) (by omega) (by omega) (by omega)]
  · rw [ph_Tem_g 57 0 (by omega)]
    have h13 := q3.2.2.2.2.2.2.2.2.2.2.2.2.1
    have := ht0 57 0 (by omega) (by omega) (by omega) (by omega) (by omega) (by omega)
    omega
  · have h3 := hCe.1
    have hle := py_cnt_le (fun k => decide (tD 31 (tD 39 (16 * e + k)).toNat = e)) (tD 38 e).toNat
    unfold pm_fgn at hfgn
    omega
end
section
/-! PURE: a first train goes as a whole -/
def pv_sh (t : py_Z) : Nat → py_Z
  | 0 => t
  | k + 1 => pm_sh (pv_sh t k)
theorem pv_sh_g {t : py_Z} : ∀ (k g i : Nat), g ≠ 41 → g ≠ 42 → pv_sh t k g i = t g i
  | 0, _, _, _, _ => rfl
  | k + 1, g, i, h1, h2 => by
    show pm_sh (pv_sh t k) g i = _
    simp only [pm_sh, h1, h2, if_false]
    exact pv_sh_g k g i h1 h2
theorem pv_sh_41 {t : py_Z} : ∀ (k i : Nat), pv_sh t k 41 i = if i = 0 then t 41 0 - k else t 41 i
  | 0, i => by
    show t 41 i = _
    split
    · rename_i h; subst h; omega
    · rfl
  | k + 1, i => by
    show pm_sh (pv_sh t k) 41 i = _
    simp only [pm_sh, if_true]
    rw [pv_sh_41 k 0, pv_sh_41 k i]
    by_cases e : i = 0
    · rw [if_pos e, if_pos e, if_pos rfl]; omega
    · rw [if_neg e, if_neg e, if_neg e]
theorem pv_sh_42a {t : py_Z} : ∀ (k i : Nat), (i : Int) + k < t 41 0 → pv_sh t k 42 i = t 42 (i + k)
  | 0, _, _ => rfl
  | k + 1, i, h => by
    show pm_sh (pv_sh t k) 42 i = _
    have h1 := pv_sh_41 (t := t) k 0
    rw [if_pos rfl] at h1
    have e : pm_sh (pv_sh t k) 42 i = pv_sh t k 42 (i + 1) := by
      have : (i : Int) + 1 < pv_sh t k 41 0 := by omega
      simp [pm_sh, this]
    rw [e, pv_sh_42a k (i + 1) (by omega)]
    congr 1; omega
theorem pv_sh_42b {t : py_Z} : ∀ (k i : Nat), t 41 0 ≤ (i : Int) → pv_sh t k 42 i = t 42 i
  | 0, _, _ => rfl
  | k + 1, i, h => by
    show pm_sh (pv_sh t k) 42 i = _
    have h1 := pv_sh_41 (t := t) k 0
    rw [if_pos rfl] at h1
    have e : pm_sh (pv_sh t k) 42 i = pv_sh t k 42 i := by
      have : ¬ (i : Int) + 1 < pv_sh t k 41 0 := by omega
      simp [pm_sh, this]
    rw [e, pv_sh_42b k i h]
/-- the things of the first cars, so many -/
def ph_sum (t : py_Z) : Nat → Int
  | 0 => 0
  | k + 1 => ph_sum t k + t 38 (t 42 k).toNat
section PHD
variable {s t : py_Z}
/-- what is known when so many cars are gone -/
def ph_D (s t s1 t1 : py_Z) (k : Nat) : Prop :=
  pr_RV s1 (pv_sh t k) ∧ ph_TH s1 t1 (ph_E t) ∧
  (∀ g i, g ≠ 30 → g ≠ 37 → g ≠ 38 → g ≠ 54 → t1 g i = t g i) ∧
  (∀ c : Nat, c < 40 → (∃ j : Nat, j < k ∧ t 42 j = c) → t1 38 c = 0 ∧ t1 37 c = 0) ∧
  (∀ c : Nat, c < 40 → (∀ j : Nat, j < k → t 42 j ≠ c) → t1 38 c = t 38 c ∧ t1 37 c = t 37 c) ∧
  (∀ x : Nat, x < 640 → (∃ j : Nat, j < k ∧ t 42 j = t 31 x) → t1 30 x = 0) ∧
  (∀ x : Nat, x < 640 → (∀ j : Nat, j < k → t 42 j ≠ t 31 x) → t1 30 x = t 30 x) ∧
  t1 54 0 = t 54 0 + ph_sum t k ∧
  (∀ g i, g = 7 ∨ (8 ≤ g ∧ g ≤ 12) ∨ 14 ≤ g → s1 g i = s g i)
theorem ph_sum_b {E0 : Int → Int} (hTH : ph_TH s t E0) (hc : ∀ k : Nat, (k : Int) < t 41 0 → 0 ≤ t 42 k ∧ t 42 k < 40) : ∀ k : Nat, (k : Int) ≤ t 41 0 → 0 ≤ ph_sum t k ∧ ph_sum t k ≤ 16 * k
  | 0, _ => by simp [ph_sum]
  | k + 1, h => by
    have h1 := ph_sum_b hTH hc k (by omega)
    have h2 := hc k (by omega)
    have h3 := (hTH.1 (t 42 k).toNat (by omega)).2.2.1
    simp only [ph_sum]
    omega
/-- one car more goes -/
theorem ph_drop1 (hRW : pr_RW s t) (hTH : ph_TH s t (ph_E t)) (hMH : ph_MH t (-1)) (hn : 0 < t 50 0) {s1 t1 : py_Z} {k : Nat} (hk : (k : Int) < t 41 0) (hD : ph_D s t s1 t1 k) :
    ∃ s2 t2 : py_Z, (∀ K : ty_S → Prop, K (py_O s2) → eX1_carAt (py_O s1) (py_o 0) (fun S3 r3 => (eX0_clear S3 r3 (fun S4 => (eX1_removeFirstCar S4 K))))) ∧
      (∀ K : ty_S → Int32 → Prop, K (py_O t2) (py_o (t 38 (t 42 k).toNat)) → eX5_forget (py_O t1) (py_o (t 42 k)) K) ∧ ph_D s t s2 t2 (k + 1) := by
  obtain ⟨h1, h2, h3, h4, h5, h6, h7, h8, h9⟩ := hD
  have h0 := hRW.1
  obtain ⟨d1, d2, d3⟩ := hRW.2.2.2.1 0 k (by omega) hk
  simp only [Nat.mul_zero, Nat.zero_add, pr_off] at d1 d2 d3
  have hv41 : pv_sh t k 41 0 = t 41 0 - k := by rw [pv_sh_41, if_pos rfl]
  have hv50 : pv_sh t k 50 0 = t 50 0 := pv_sh_g k 50 0 (by decide) (by decide)
  have hrem := h1.rem (by omega) (by omega)
  have hlt := h1.lt (j := 0) (by omega)
  simp only [pr_off] at hlt
  obtain ⟨q1, q2, q3⟩ := h1.2.2.2.1 0 0 (by omega) (by omega)
  simp only [Nat.mul_zero, Nat.add_zero, pr_off] at q1 q2 q3
  have hv42 : pv_sh t k 42 0 = t 42 k := by rw [pv_sh_42a k 0 (by omega)]; congr 1; omega
  have h13 := h1.2.2.1
  obtain ⟨c, hcv⟩ : ∃ c : Nat, t 42 k = c := ⟨(t 42 k).toNat, by omega⟩
  have hc : c < 40 := by omega
  have hs50 : s1 5 0 = c := by omega
  -- cars are of one place alone
  have hcar : ∀ j : Nat, j < k → t 42 j ≠ c := fun j hj e1 => by
    have := (hRW.inj2 (j := 0) (k := j) (j' := 0) (k' := k) (by omega) (by omega) (by omega) hk (by simp only [Nat.mul_zero, Nat.zero_add]; omega)).2
    omega
  obtain ⟨u1, u2⟩ := h5 c hc hcar
  have hCc := hTH.1 c hc
  have h38 := hCc.2.2.1
  have t39 : ∀ i, t1 39 i = t 39 i := fun i => h3 39 i (by decide) (by decide) (by decide) (by decide)
  have t31 : ∀ i, t1 31 i = t 31 i := fun i => h3 31 i (by decide) (by decide) (by decide) (by decide)
  have hthing : ∀ m : Nat, (m : Int) < t 38 c → (0 ≤ t 39 (16 * c + m) ∧ t 39 (16 * c + m) < 640) ∧ 0 < t 30 (t 39 (16 * c + m)).toNat ∧ t 31 (t 39 (16 * c + m)).toNat = c ∧ t 32 (t 39 (16 * c + m)).toNat = ph_pos t c m := fun m hm => by
    obtain ⟨w1, w2, w3, w4⟩ := hTH.2.1 c m hc hm
    obtain ⟨g1, g2, g3⟩ := hMH.2.2.2.1 c m hc (by omega) hm
    exact ⟨w1, g1, g2, g3⟩
  have hthing1 : ∀ m : Nat, (m : Int) < t 38 c → t1 30 (t 39 (16 * c + m)).toNat = t 30 (t 39 (16 * c + m)).toNat := fun m hm => by
    obtain ⟨w1, g1, g2, g3⟩ := hthing m hm
    exact h7 _ (by omega) (fun j hj => by rw [g2]; exact hcar j hj)
  have hfgn : pm_fgn t1 c (t1 38 c).toNat = (t 38 c).toNat := by
    rw [u1]
    exact py_cnt_all (fun m hm => by rw [t39, t31, (hthing m (by omega)).2.2.1]; simp)
  have f30 : ∀ y : Nat, pm_fg t1 c 30 y = pm_fgl t1 c (t1 38 c).toNat y := fun y => by simp [pm_fg]
  have f37 : ∀ g d : Nat, (g = 37 ∨ g = 38) → pm_fg t1 c g d = if d = c then 0 else t1 g d := fun g d hg => by rcases hg with e | e <;> subst e <;> simp [pm_fg]
  have fg : ∀ g i, g ≠ 30 → g ≠ 37 → g ≠ 38 → g ≠ 54 → pm_fg t1 c g i = t1 g i := fun g i a b c d => by simp [pm_fg, a, b, c, d]
  have f54 : pm_fg t1 c 54 0 = t1 54 0 + pm_fgn t1 c (t1 38 c).toNat := by simp [pm_fg]
  have hcl5 : ∀ g i, 4 ≤ g → pr_clr s1 c g i = s1 g i := fun g i hg => by
    have : ¬ (g = 0 ∨ g = 1) := by omega
    have : ¬ (g = 2 ∨ g = 3) := by omega
    simp [pr_clr, *]
  refine ⟨pr_rem (pr_clr s1 c), pm_fg t1 c, fun K hK => ?_, fun K hK => ?_, ?_, ?_, ?_, ?_, ?_, ?_, ?_, ?_, ?_⟩
  · refine pr_carAt (by omega) (fun _ _ => ?_) (fun c => absurd c (by omega))
    simp only [Int.toNat_zero]
    rw [hs50]
    refine pr_clear hc ?_
    exact pr_removeFirstCar (by rw [hcl5 13 0 (by omega)]; omega) (by rw [hcl5 5 0 (by omega)]; omega) hK
  · rw [hcv]
    have h58 := hMH.1
    refine pm_forget hc (by rw [u1]; exact h38) (fun m hm => ?_) (fun a b hab hb => ?_) ?_
    · rw [u1] at hm
      obtain ⟨w1, g1, g2, g3⟩ := hthing m hm
      rw [t39, t31, hthing1 m hm]
      have := hMH.2.1 (t 39 (16 * c + m)).toNat (by omega)
      exact ⟨w1, by omega, by omega, by omega⟩
    · rw [u1] at hb
      rw [t39, t39]
      intro e1
      obtain ⟨w1, g1, g2, g3⟩ := hthing a (by omega)
      obtain ⟨w1', g1', g2', g3'⟩ := hthing b hb
      rw [e1] at g3
      have := ph_pos_lt (t := t) (c := c) hab
      unfold ph_sz at this
      omega
    · rw [hfgn]
      have : (((t 38 c).toNat : Nat) : Int) = t 38 (t 42 k).toNat := by rw [hcv]; simp only [Int.toNat_natCast]; omega
      rw [this]; exact hK
  · refine hrem.congrS (fun i => ?_) (fun i => ?_) ?_ ?_
    · simp [pr_rem, hcl5]
    · simp [pr_rem, hcl5]
    · simp [pr_rem, hcl5]
    · simp [pr_rem, hcl5]
  · refine h2.clear hc (fun q => ?_) (fun q => ?_) (fun d => ?_) (fun d => ?_) (fun d => ?_) (fun d hd hz => ?_) (fun d m hd hdc hm => ?_) (fun d => f37 37 d (Or.inl rfl)) (fun d => f37 38 d (Or.inr rfl)) (fun g i hg => fg g i (by omega) (by omega) (by omega) (by omega))
    · simp [pr_rem, pr_clr]
    · simp [pr_rem, pr_clr]
    · simp [pr_rem, pr_clr]
    · simp [pr_rem, pr_clr]
    · simp [pr_rem, pr_clr]
    · have e1 : pr_rem (pr_clr s1 c) 6 d = if d = (s1 5 0).toNat then 0 else s1 6 d := by simp [pr_rem, hcl5]
      rw [e1, hs50] at hz
      simp only [Int.toNat_natCast] at hz
      by_cases e2 : d = c
      · exact Or.inl e2
      · rw [if_neg e2] at hz; exact Or.inr hz
    · rw [f30]
      refine pm_fgl_other _ ?_
      rw [t31]
      -- its car is another one
      have hm2 : (m : Int) < t 38 d := by
        by_cases e1 : ∃ j : Nat, j < k ∧ t 42 j = d
        · rw [(h4 d hd e1).1] at hm; omega
        · rw [(h5 d hd (fun j hj e2 => e1 ⟨j, hj, e2⟩)).1] at hm; exact hm
      have ex : ph_x t1 d m = ph_x t d m := by unfold ph_x; rw [t39]
      rw [ex, (hMH.2.2.2.1 d m hd (by omega) hm2).2.1]
      omega
  · intro g i a b c' d
    rw [fg g i a b c' d]; exact h3 g i a b c' d
  · intro d hd hex
    rw [f37 38 d (Or.inr rfl), f37 37 d (Or.inl rfl)]
    by_cases e1 : d = c
    · rw [if_pos e1, if_pos e1]; exact ⟨rfl, rfl⟩
    · rw [if_neg e1, if_neg e1]
      obtain ⟨j, hj, e2⟩ := hex
      refine h4 d hd ⟨j, ?_, e2⟩
      rcases Nat.lt_succ_iff_lt_or_eq.mp hj with e3 | e3
      · exact e3
      · subst e3; omega
  · intro d hd hno
    have e1 : d ≠ c := fun e2 => hno k (by omega) (by omega)
    rw [f37 38 d (Or.inr rfl), f37 37 d (Or.inl rfl), if_neg e1, if_neg e1]
    exact h5 d hd (fun j hj => hno j (by omega))
  · intro x hx hex
    rw [f30]
    by_cases e1 : ∃ j : Nat, j < k ∧ t 42 j = t 31 x
    · have := h6 x hx e1
      rcases pm_fgl_01 (t := t1) (c := c) (t1 38 c).toNat x with e2 | e2
      · exact e2
      · rw [e2, this]
    · have e2 : t 31 x = c := by
        obtain ⟨j, hj, e3⟩ := hex
        rcases Nat.lt_succ_iff_lt_or_eq.mp hj with e4 | e4
        · exact absurd ⟨j, e4, e3⟩ e1
        · subst e4; omega
      by_cases hl : 0 < t 30 x
      · obtain ⟨c', m, hc', hm, g1, g2, g3⟩ := hMH.2.2.1 x hx hl
        have e3 : c' = c := by omega
        subst e3
        refine pm_fgl_gone (t := t1) _ (k := m) (by rw [u1]; omega) ?_ (by rw [t31]; exact e2)
        rw [t39]; exact g1
      · have := hMH.2.1 x hx
        have h7x := h7 x hx (fun j hj e3 => e1 ⟨j, hj, e3⟩)
        rcases pm_fgl_01 (t := t1) (c := c) (t1 38 c).toNat x with e3 | e3
        · exact e3
        · rw [e3, h7x]; omega
  · intro x hx hno
    rw [f30, pm_fgl_other _ (by rw [t31]; exact fun e1 => hno k (by omega) (by omega))]
    exact h7 x hx (fun j hj => hno j (by omega))
  · rw [f54, h8, hfgn]
    simp only [ph_sum, hcv, Int.toNat_natCast]
    omega
  · intro g i hg
    have e1 : pr_rem (pr_clr s1 c) g i = pr_clr s1 c g i := by
      have : g ≠ 5 := by omega
      have : g ≠ 6 := by omega
      have : g ≠ 13 := by omega
      simp [pr_rem, *]
    rw [e1, hcl5 g i (by omega)]
    exact h9 g i hg
end PHD
end
section
/-! PURE: a step -/
def py_sum (f : Nat → Int) : Nat → Int
  | 0 => 0
  | k + 1 => py_sum f k + f k
theorem py_sum_congr {f g : Nat → Int} : ∀ n : Nat, (∀ k : Nat, k < n → f k = g k) → py_sum f n = py_sum g n
  | 0, _ => rfl
  | n + 1, h => by
    simp only [py_sum]
    rw [py_sum_congr n (fun k hk => h k (by omega)), h n (by omega)]
theorem py_sum_b {f : Nat → Int} {B : Nat} : ∀ n : Nat, (∀ k : Nat, k < n → 0 ≤ f k ∧ f k ≤ B) → 0 ≤ py_sum f n ∧ py_sum f n ≤ B * n
  | 0, _ => by simp [py_sum]
  | n + 1, h => by
    have h1 := py_sum_b n (fun k hk => h k (by omega))
    have h2 := h n (by omega)
    simp only [py_sum]
    have : (B : Int) * ((n + 1 : Nat) : Int) = B * n + B := by rw [Int.natCast_add, Int.mul_add]; simp
    omega
theorem pr_thingsIn {s : py_Z} {a m : Nat} {K : ty_S → Int32 → Prop} (hc : 0 ≤ s 13 0 ∧ s 13 0 ≤ 40) (ha : (a : Int) + m ≤ s 13 0) (hb : ∀ k : Nat, (k : Int) < s 13 0 → 0 ≤ s 5 k ∧ s 5 k < 40) (h3 : ∀ c : Nat, c < 40 → 0 ≤ s 3 c ∧ s 3 c ≤ 16) (hK : K (py_O s) (py_o (py_sum (fun k => s 3 (s 5 (a + k)).toNat) m))) : eX3_thingsIn (py_O s) (py_o a) (py_o m) K := by
  have key : ∀ d k : Nat, k + d = m → ∃ n9, lX3_thingsIn_5 K n9 (py_o a) (py_o m) (py_o (py_sum (fun k => s 3 (s 5 (a + k)).toNat) k)) (py_o k) (py_O s) := by
    intro d
    induction d with
    | zero =>
      intro k hk
      refine ⟨1, ?_⟩
      unfold lX3_thingsIn_5
      try simp only [py_O_ap, py_l0, py_l1, py_l2, py_l3, py_l4, py_l5, py_l6, py_l7, py_l8, py_l9, py_l12, py_l16, py_l32, py_l40, py_l100, py_l640, py_l1280, py_neg, py_add, py_sub, py_mul, py_stO]
      refine py_ile (fun _ => ?_) (fun c => absurd c (by omega))
      rw [show k = m by omega]; exact hK
    | succ d ih =>
      intro k hk
      obtain ⟨n9, hn9⟩ := ih (k + 1) (by omega)
      have h5 := hb (a + k) (by omega)
      refine ⟨n9 + 1, ?_⟩
      unfold lX3_thingsIn_5
      try simp only [py_O_ap, py_l0, py_l1, py_l2, py_l3, py_l4, py_l5, py_l6, py_l7, py_l8, py_l9, py_l12, py_l16, py_l32, py_l40, py_l100, py_l640, py_l1280, py_neg, py_add, py_sub, py_mul, py_stO]
      refine py_ile (fun c => absurd c (by omega)) (fun _ => ?_)
      refine pr_carAt hc (fun _ _ => ?_) (fun c => absurd c (by omega))
      rw [show ((a : Int) + k).toNat = a + k by omega]
      refine pr_things (fun _ _ => ?_) (fun c => absurd c (by omega))
      try simp only [py_O_ap, py_l0, py_l1, py_l2, py_l3, py_l4, py_l5, py_l6, py_l7, py_l8, py_l9, py_l12, py_l16, py_l32, py_l40, py_l100, py_l640, py_l1280, py_neg, py_add, py_sub, py_mul, py_stO]
      exact hn9
  unfold eX3_thingsIn
  rw [py_l0]
  exact key m 0 (by omega)
section PHS
variable {s t : py_Z}
theorem ph_in0 (hRW : pr_RW s t) (hn : 0 < t 50 0) {c : Nat} (hc : c < 40) : s 6 c = t 40 0 ↔ ∃ j : Nat, j < (t 41 0).toNat ∧ t 42 j = c := by
  have h40 := hRW.2.2.2.2.1 0 (by omega)
  constructor
  · intro h
    rcases hRW.six hc with e | ⟨j, k, hj, hk, h1, h2, h3, h4, h5⟩
    · omega
    · have : j = 0 := hRW.num hj (by omega) (by omega)
      subst this
      exact ⟨k, by omega, by simpa using h1⟩
  · intro ⟨j, hj, h1⟩
    have h2 := (hRW.2.2.2.1 0 j (by omega) (by omega)).2.2
    simp only [Nat.mul_zero, Nat.zero_add] at h2
    rw [h1] at h2
    simpa using h2
/-- a first train to which nothing refers from outside goes -/
theorem ph_dropStep (hRW : pr_RW s t) (hTH : ph_TH s t (ph_E t)) (hMH : ph_MH t (-1)) (hH : ∀ r : Nat, r < 16 → s 7 r = ph_E t (t 43 r)) (hn : 0 < t 50 0) (hW0 : ∀ r : Nat, r < 16 → ¬ ph_W0 s t r) (hW1 : ∀ x i : Nat, ¬ ph_W1 s t x i) :
    ∃ s' t' : py_Z, (∀ K : ty_S → Int32 → Prop, K (py_O s') (py_o (ph_sum t (t 41 0).toNat)) → eX3_dropFirstTrain (py_O s) (py_o (t 40 0)) K) ∧
      (∀ K : ty_S → Int32 → Prop, K (py_O t') (py_o (ph_sum t (t 41 0).toNat)) → ∃ n9, lX5_oneStep_21 K n9 (py_o 0) (py_o 0) (py_O t)) ∧
      pr_RW s' t' ∧ ph_TH s' t' (ph_E t') ∧ ph_MH t' (-1) ∧ (∀ r : Nat, r < 16 → s' 7 r = ph_E t' (t' 43 r)) ∧ s' 16 0 = s 16 0 + 1 ∧ t' 53 0 = t 53 0 + 1 ∧ t' 54 0 = t 54 0 + ph_sum t (t 41 0).toNat ∧
      (∀ g i, g ≠ 16 → g = 7 ∨ (8 ≤ g ∧ g ≤ 12) ∨ 14 ≤ g → s' g i = s g i) ∧ (∀ g i, g = 43 ∨ g = 51 ∨ g = 52 ∨ 55 ≤ g → t' g i = t g i) ∧ (0 ≤ ph_sum t (t 41 0).toNat ∧ ph_sum t (t 41 0).toNat ≤ 640) := by
  have h0 := hRW.1
  have h41 := hRW.2.1 0 (by omega)
  have hcars : ∀ k : Nat, (k : Int) < t 41 0 → (0 ≤ t 42 k ∧ t 42 k < 40) ∧ s 5 k = t 42 k := fun k hk => by
    obtain ⟨d1, d2, d3⟩ := hRW.2.2.2.1 0 k (by omega) hk
    simp only [Nat.mul_zero, Nat.zero_add, pr_off] at d1 d2 d3
    exact ⟨d2, d1⟩
  have hsb := ph_sum_b hTH (fun k hk => (hcars k hk).1)
  have hsumN := hsb (t 41 0).toNat (by omega)
  have hend := hRW.end_le (j := 0) (by omega)
  simp only [pr_off] at hend
  have hc0 := hRW.cnt
  -- car by car
  have hloop : ∀ d k : Nat, (k : Int) + d = t 41 0 → ∀ s1 t1 : py_Z, ph_D s t s1 t1 k → ∃ s2 t2 : py_Z, (∀ K : ty_S → Int32 → Prop, K (py_O (py_st s2 16 0 (s2 16 0 + 1))) (py_o (ph_sum t (t 41 0).toNat)) → ∃ n9, lX3_dropFirstTrain_19 K n9 (py_o (t 41 0)) (py_o (ph_sum t (t 41 0).toNat)) (py_o k) (py_O s1)) ∧
      (∀ K : ty_S → Int32 → Prop, K (py_O (pm_rt (py_st t2 53 0 (t2 53 0 + 1)))) (py_o (ph_sum t (t 41 0).toNat)) → ∃ n9, lX5_oneStep_21 K n9 (py_o (ph_sum t k)) (py_o k) (py_O t1)) ∧ ph_D s t s2 t2 (t 41 0).toNat := by
    intro d
    induction d with
    | zero =>
      intro k hk s1 t1 hD
      have e1 : (t 41 0).toNat = k := by omega
      have t41 := hD.2.2.1 41 0 (by decide) (by decide) (by decide) (by decide)
      have t50 := hD.2.2.1 50 0 (by decide) (by decide) (by decide) (by decide)
      rw [e1]
      refine ⟨s1, t1, fun K hK => ⟨1, ?_⟩, fun K hK => ⟨1, ?_⟩, hD⟩
      · unfold lX3_dropFirstTrain_19
        try simp only [py_O_ap, py_l0, py_l1, py_l2, py_l3, py_l4, py_l5, py_l6, py_l7, py_l8, py_l9, py_l12, py_l16, py_l32, py_l40, py_l100, py_l640, py_l1280, py_neg, py_add, py_sub, py_mul, py_stO]
        exact py_ile (fun _ => hK) (fun c => absurd c (by omega))
      · unfold lX5_oneStep_21
        try simp only [py_O_ap, py_l0, py_l1, py_l2, py_l3, py_l4, py_l5, py_l6, py_l7, py_l8, py_l9, py_l12, py_l16, py_l32, py_l40, py_l100, py_l640, py_l1280, py_neg, py_add, py_sub, py_mul, py_stO]
        refine py_and ?_
        rw [py_nat (by omega)]
        simp only [Int.toNat_zero]
        refine py_ile (fun _ => ?_) (fun c => absurd c (by omega))
        refine pm_removeTrain ?_ hK
        rw [py_sn (by decide)]; omega
    | succ d ih =>
      intro k hk s1 t1 hD
      obtain ⟨s2, t2, o1, o2, o3⟩ := ph_drop1 hRW hTH hMH hn (by omega) hD
      obtain ⟨s3, t3, p1, p2, p3⟩ := ih (k + 1) (by omega) s2 t2 o3
      have t41 := hD.2.2.1 41 0 (by decide) (by decide) (by decide) (by decide)
      have t42 := hD.2.2.1 42 k (by decide) (by decide) (by decide) (by decide)
      refine ⟨s3, t3, fun K hK => ?_, fun K hK => ?_, p3⟩
      · obtain ⟨n9, hn9⟩ := p1 K hK
        refine ⟨n9 + 1, ?_⟩
        unfold lX3_dropFirstTrain_19
        try simp only [py_O_ap, py_l0, py_l1, py_l2, py_l3, py_l4, py_l5, py_l6, py_l7, py_l8, py_l9, py_l12, py_l16, py_l32, py_l40, py_l100, py_l640, py_l1280, py_neg, py_add, py_sub, py_mul, py_stO]
        refine py_ile (fun c => absurd c (by omega)) (fun _ => ?_)
        exact o1 _ hn9
      · obtain ⟨n9, hn9⟩ := p2 K hK
        refine ⟨n9 + 1, ?_⟩
        unfold lX5_oneStep_21
        try simp only [py_O_ap, py_l0, py_l1, py_l2, py_l3, py_l4, py_l5, py_l6, py_l7, py_l8, py_l9, py_l12, py_l16, py_l32, py_l40, py_l100, py_l640, py_l1280, py_neg, py_add, py_sub, py_mul, py_stO]
        refine py_and ?_
        rw [py_nat (by omega), py_nat (by omega)]
        simp only [Int.toNat_zero, Int.toNat_natCast]
        refine py_ile (fun c => absurd c (by omega)) (fun _ => py_and ?_)
        rw [t42]
        refine o2 _ ?_
        try simp only [py_O_ap, py_l0, py_l1, py_l2, py_l3, py_l4, py_l5, py_l6, py_l7, py_l8, py_l9, py_l12, py_l16, py_l32, py_l40, py_l100, py_l640, py_l1280, py_neg, py_add, py_sub, py_mul, py_stO]
        exact hn9
  have hD0 : ph_D s t s t 0 := by
    refine ⟨hRW.rv, hTH, fun _ _ _ _ _ _ => rfl, fun c _ ⟨j, hj, _⟩ => absurd hj (by omega), fun _ _ _ => ⟨rfl, rfl⟩, fun x _ ⟨j, hj, _⟩ => absurd hj (by omega), fun _ _ _ => rfl, by simp [ph_sum], fun _ _ _ => rfl⟩
  obtain ⟨s2, t2, o1, o2, hD⟩ := hloop (t 41 0).toNat 0 (by omega) s t hD0
  obtain ⟨h1, h2, h3, h4, h5, h6, h7, h8, h9⟩ := hD
  have g3 : ∀ g i, g ≠ 30 → g ≠ 37 → g ≠ 38 → g ≠ 53 → g ≠ 54 → g ≠ 40 → g ≠ 41 → g ≠ 42 → g ≠ 50 → pm_rt (py_st t2 53 0 (t2 53 0 + 1)) g i = t g i := fun g i a b c d e f g' h k => by
    simp only [pm_rt, f, g', h, k, if_false, or_self]
    rw [py_sn d]; exact h3 g i a b c e
  have g4 : ∀ g i, g = 30 ∨ g = 37 ∨ g = 38 → pm_rt (py_st t2 53 0 (t2 53 0 + 1)) g i = t2 g i := fun g i hg => by
    rcases hg with e | e | e <;> subst e <;> simp [pm_rt, py_st]
  have g53 : pm_rt (py_st t2 53 0 (t2 53 0 + 1)) 53 0 = t 53 0 + 1 := by
    simp [pm_rt, py_st]; exact h3 53 0 (by decide) (by decide) (by decide) (by decide)
  have g54 : pm_rt (py_st t2 53 0 (t2 53 0 + 1)) 54 0 = t2 54 0 := by simp [pm_rt, py_st]
  have hRT : pr_RW (py_st s2 16 0 (s2 16 0 + 1)) (pm_rt (py_st t2 53 0 (t2 53 0 + 1))) := by
    have v41 : pv_sh t (t 41 0).toNat 41 0 = 0 := by rw [pv_sh_41, if_pos rfl]; omega
    have v50 : pv_sh t (t 41 0).toNat 50 0 = t 50 0 := pv_sh_g _ 50 0 (by decide) (by decide)
    have hr := h1.rt (by omega) v41
    have hr2 := hr.congrS (s' := py_st s2 16 0 (s2 16 0 + 1)) (fun i => py_sn (by decide)) (fun i => py_sn (by decide)) (py_sn (by decide)) (py_sn (by decide))
    have r50 : pm_rt (pv_sh t (t 41 0).toNat) 50 0 = t 50 0 - 1 := by simp [pm_rt, v50]
    have x50 : pm_rt (py_st t2 53 0 (t2 53 0 + 1)) 50 0 = t 50 0 - 1 := by
      simp [pm_rt, py_st]; rw [h3 50 0 (by decide) (by decide) (by decide) (by decide)]
    have y50 : py_st t2 53 0 (t2 53 0 + 1) 50 0 = t 50 0 := by rw [py_sn (by decide)]; exact h3 50 0 (by decide) (by decide) (by decide) (by decide)
    have z41 : ∀ j : Nat, (j : Int) < t 50 0 - 1 → pm_rt (py_st t2 53 0 (t2 53 0 + 1)) 41 j = t 41 (j + 1) := fun j hj => by
      simp only [pm_rt, y50]
      simp [hj, py_st]
      exact h3 41 (j + 1) (by decide) (by decide) (by decide) (by decide)
    refine (hr2.congr (t' := pm_rt (py_st t2 53 0 (t2 53 0 + 1))) (by rw [r50, x50]) ?_ (fun j hj => ?_) (fun j hj => ?_) (fun j k hj hk => ?_)).rw (fun j hj => ?_)
    · have : pm_rt (pv_sh t (t 41 0).toNat) 57 0 = t 57 0 := by simp [pm_rt]; exact pv_sh_g _ 57 0 (by decide) (by decide)
      rw [this]; exact g3 57 0 (by decide) (by decide) (by decide) (by decide) (by decide) (by decide) (by decide) (by decide) (by decide)
    · rw [r50] at hj
      have a1 : pm_rt (py_st t2 53 0 (t2 53 0 + 1)) 40 j = t 40 (j + 1) := by
        simp only [pm_rt, y50]
        simp [hj, py_st]
        exact h3 40 (j + 1) (by decide) (by decide) (by decide) (by decide)
      have a2 : pm_rt (pv_sh t (t 41 0).toNat) 40 j = t 40 (j + 1) := by
        simp only [pm_rt, v50]
        simp [hj]
        exact pv_sh_g _ 40 (j + 1) (by decide) (by decide)
      rw [a1, a2]
    · rw [r50] at hj
      have a2 : pm_rt (pv_sh t (t 41 0).toNat) 41 j = t 41 (j + 1) := by
        simp only [pm_rt, v50]
        simp [hj]
        rw [pv_sh_41, if_neg (by omega)]
      rw [z41 j hj, a2]
    · rw [r50] at hj
      have a2 : pm_rt (pv_sh t (t 41 0).toNat) 41 j = t 41 (j + 1) := by
        simp only [pm_rt, v50]
        simp [hj]
        rw [pv_sh_41, if_neg (by omega)]
      rw [a2] at hk
      have hkb := hRW.2.1 (j + 1) (by omega)
      have e1 : (((40 * j + k) / 40 : Nat) : Int) < t 50 0 - 1 := by omega
      simp only [pm_rt, y50, v50]
      simp [e1, py_st]
      rw [h3 42 _ (by decide) (by decide) (by decide) (by decide), pv_sh_42b _ _ (by omega), if_pos (by omega), if_pos (by omega)]
    · rw [x50] at hj
      rw [z41 j hj]
      exact (hRW.2.1 (j + 1) (by omega)).1
  have hE : ph_E (pm_rt (py_st t2 53 0 (t2 53 0 + 1))) = ph_E t := ph_E_congr (fun x => g3 31 x (by decide) (by decide) (by decide) (by decide) (by decide) (by decide) (by decide) (by decide) (by decide)) (fun x => g3 32 x (by decide) (by decide) (by decide) (by decide) (by decide) (by decide) (by decide) (by decide) (by decide))
  have hin : ∀ x : Nat, x < 640 → 0 < t 30 x → ((∃ j : Nat, j < (t 41 0).toNat ∧ t 42 j = t 31 x) ↔ s 6 (t 31 x).toNat = t 40 0) := fun x hx hl => by
    obtain ⟨c, k, hc, hk, p1, p2, p3, p4, p5⟩ := ph_live hTH hMH hx hl
    rw [p2]
    simp only [Int.toNat_natCast]
    exact (ph_in0 hRW hn hc).symm
  have hkeep : ∀ x : Nat, x < 640 → 0 < t 30 x → s 6 (t 31 x).toNat ≠ t 40 0 → t2 30 x = t 30 x := fun x hx hl hne => h7 x hx (fun j hj e1 => hne ((hin x hx hl).mp ⟨j, hj, e1⟩))
  have hlive : ∀ x : Nat, x < 640 → 0 < t2 30 x → 0 < t 30 x ∧ s 6 (t 31 x).toNat ≠ t 40 0 ∧ t2 30 x = t 30 x ∧ ∀ j : Nat, j < (t 41 0).toNat → t 42 j ≠ t 31 x := fun x hx hl => by
    by_cases e1 : ∃ j : Nat, j < (t 41 0).toNat ∧ t 42 j = t 31 x
    · rw [h6 x hx e1] at hl; omega
    · have e2 := h7 x hx (fun j hj e3 => e1 ⟨j, hj, e3⟩)
      rw [e2] at hl
      exact ⟨hl, fun e3 => e1 ((hin x hx hl).mpr e3), e2, fun j hj e3 => e1 ⟨j, hj, e3⟩⟩
  generalize ht' : pm_rt (py_st t2 53 0 (t2 53 0 + 1)) = t' at *
  have e30 : ∀ x, t' 30 x = t2 30 x := fun x => g4 30 x (by omega)
  have e38 : ∀ x, t' 38 x = t2 38 x := fun x => g4 38 x (by omega)
  have gg : ∀ g i, g = 31 ∨ g = 32 ∨ g = 33 ∨ g = 34 ∨ g = 35 ∨ g = 39 ∨ g = 43 ∨ g = 58 → t' g i = t g i := fun g i hg => g3 g i (by omega) (by omega) (by omega) (by omega) (by omega) (by omega) (by omega) (by omega) (by omega)
  refine ⟨py_st s2 16 0 (s2 16 0 + 1), t', fun K hK => ?_, fun K hK => ?_, hRT, ?_, ?_, fun r hr => ?_, ?_, g53, ?_, fun g i h16 hg => ?_, fun g i hg => ?_, by omega⟩
  · unfold eX3_dropFirstTrain
    try simp only [py_O_ap, py_l0, py_l1, py_l2, py_l3, py_l4, py_l5, py_l6, py_l7, py_l8, py_l9, py_l12, py_l16, py_l32, py_l40, py_l100, py_l640, py_l1280, py_neg, py_add, py_sub, py_mul, py_stO]
    refine pr_carsOf hRW (j := 0) (by omega) ?_
    have e1 : t 41 0 = ((t 41 0).toNat : Nat) := by omega
    rw [e1, show (0 : Int) = ((0 : Nat) : Int) from rfl]
    refine pr_thingsIn hc0 (by omega) (fun k hk => (hRW.car hk).1) (fun c hc => by have := hTH.1 c hc; have h3' := this.1; have := this.2.2.1; omega) ?_
    have e2 : py_sum (fun k => s 3 (s 5 (0 + k)).toNat) (t 41 0).toNat = ph_sum t (t 41 0).toNat := by
      have : ∀ k : Nat, (k : Int) ≤ t 41 0 → py_sum (fun k => s 3 (s 5 (0 + k)).toNat) k = ph_sum t k := by
        intro k
        induction k with
        | zero => intro _; rfl
        | succ k ih =>
          intro hk
          have hck := hcars k (by omega)
          simp only [py_sum, ph_sum]
          rw [ih (by omega), Nat.zero_add, hck.2, (hTH.1 (t 42 k).toNat (by omega)).1]
      exact this _ (by omega)
    rw [e2, ← e1]
    exact o1 K hK
  · have := o2 K hK
    exact this
  · rw [hE]
    exact h2.congr (fun g i hg => py_sn (by omega)) (fun c _ hz => by rwa [py_sn (by decide)] at hz) (fun g i a b c d => by
      by_cases e : g = 30 ∨ g = 37 ∨ g = 38
      · exact g4 g i e
      · rw [g3 g i (by omega) (by omega) (by omega) (by omega) (by omega) (by omega) (by omega) (by omega) (by omega), h3 g i (by omega) (by omega) (by omega) (by omega)])
  · have ex : ∀ c k, ph_x t' c k = ph_x t c k := fun c k => by unfold ph_x; rw [gg 39 _ (by omega)]
    have ep : ∀ c k, ph_pos t' c k = ph_pos t c k := fun c k => ph_pos_congr k (fun m _ => ⟨ex c m, by unfold ph_sz; rw [gg 33 _ (by omega), gg 34 _ (by omega)]⟩)
    have hPV : ∀ y : Int, ph_PV t y → (0 ≤ y → s 6 (t 31 y.toNat).toNat ≠ t 40 0) → ph_PV t' y := fun y hy ho => by
      rcases hy with e1 | ⟨e1, e2⟩
      · exact Or.inl e1
      · exact Or.inr ⟨e1, by rw [e30, hkeep _ (by omega) e2 (ho e1.1)]; exact e2⟩
    refine ⟨by rw [gg 58 0 (by omega)]; exact hMH.1, fun x hx => ?_, fun x hx hl => ?_, fun c k hc _ hk => ?_, fun r hr => ?_, fun x hx hl i hi => ?_⟩
    · have hl := hMH.2.1 x hx
      have h58 := hMH.1
      rw [e30, gg 58 0 (by omega)]
      by_cases e1 : ∃ j : Nat, j < (t 41 0).toNat ∧ t 42 j = t 31 x
      · rw [h6 x hx e1]; exact ⟨by omega, by omega, fun _ => rfl⟩
      · rw [h7 x hx (fun j hj e3 => e1 ⟨j, hj, e3⟩)]; exact hl
    · rw [e30] at hl
      obtain ⟨l1, l2, l3, l4⟩ := hlive x hx hl
      obtain ⟨c, k, hc, hk, p1, p2, p3⟩ := hMH.2.2.1 x hx l1
      refine ⟨c, k, hc, ?_, by rw [ex]; exact p1, by rw [gg 31 _ (by omega)]; exact p2, by rw [gg 32 _ (by omega), ep]; exact p3⟩
      rw [e38, (h5 c hc (fun j hj e1 => l4 j hj (by rw [p2]; exact e1))).1]; exact hk
    · rw [e38] at hk
      by_cases e1 : ∃ j : Nat, j < (t 41 0).toNat ∧ t 42 j = c
      · rw [(h4 c hc e1).1] at hk; omega
      · rw [(h5 c hc (fun j hj e2 => e1 ⟨j, hj, e2⟩)).1] at hk
        obtain ⟨w1, w2, w3, w4⟩ := hTH.2.1 c k hc hk
        obtain ⟨g1, g2, g3'⟩ := hMH.2.2.2.1 c k hc (by omega) hk
        rw [ex, e30, gg 31 _ (by omega), gg 32 _ (by omega), ep]
        refine ⟨?_, g2, g3'⟩
        rw [h7 _ (by unfold ph_x; omega) (fun j hj e2 => e1 ⟨j, hj, by rw [e2]; exact g2⟩)]
        exact g1
    · rw [gg 43 r (by omega)]
      exact hPV _ (hMH.2.2.2.2.1 r hr) (fun h e => hW0 r hr ⟨h, e⟩)
    · rw [e30] at hl
      rw [gg 33 x (by omega)] at hi
      rw [gg 35 _ (by omega)]
      obtain ⟨l1, l2, l3, l4⟩ := hlive x hx hl
      exact hPV _ (hMH.2.2.2.2.2 x hx l1 i hi) (fun h e => hW1 x i ⟨hx, l1, hi, l2, h, e⟩)
  · rw [hE, py_sn (by decide), h9 7 r (by omega), gg 43 r (by omega)]; exact hH r hr
  · rw [py_se, h9 16 0 (by omega)]
  · rw [g54, h8]
  · rw [py_sn h16]; exact h9 g i hg
  · exact g3 g i (by omega) (by omega) (by omega) (by omega) (by omega) (by omega) (by omega) (by omega) (by omega)
end PHS
end
section
/-! PURE: the calls, begun -/
def py_code0 (k : Nat) : Int := if k = 0 then 1 else 0
def py_code2 (k : Nat) : Int := if k = 2 then 1 else 0
def py_codeM (k : Nat) : Int := if k = 0 then 1 else if k = 2 then 2 else 0
def py_codeT (k : Nat) : Int := if k = 0 then 1 else if k = 1 then 2 else 0
section PC1
variable {s t : py_Z} {n : Nat} {m : Int}
theorem ph_R.congr {s' t' : py_Z} (h : ph_R s t n m) (hs : ∀ g i, g ≠ 8 → g ≠ 9 → g ≠ 11 → g ≠ 12 → g ≠ 21 → g ≠ 22 → g ≠ 25 → s' g i = s g i) (ht : ∀ g i, g ≠ 44 → g ≠ 45 → g ≠ 46 → g ≠ 47 → g ≠ 48 → g ≠ 60 → g ≠ 61 → t' g i = t g i) : ph_R s' t' n m := by
  obtain ⟨b1, b2, b3, b4, b5, b6, b7, b8, b9, b10⟩ := h
  have es : ∀ g i, g = 5 ∨ g = 6 ∨ g = 7 ∨ g = 10 ∨ g = 13 ∨ g = 14 ∨ g = 15 ∨ g = 16 ∨ g = 17 ∨ g = 18 ∨ g = 19 ∨ g = 20 ∨ g = 23 ∨ g = 24 ∨ g = 26 ∨ g ≤ 4 → s' g i = s g i := fun g i h => hs g i (by omega) (by omega) (by omega) (by omega) (by omega) (by omega) (by omega)
  have et : ∀ g i, (30 ≤ g ∧ g ≤ 43) ∨ (50 ≤ g ∧ g ≤ 59) → t' g i = t g i := fun g i h => ht g i (by omega) (by omega) (by omega) (by omega) (by omega) (by omega) (by omega)
  have hE : ph_E t' = ph_E t := ph_E_congr (fun x => et 31 x (by omega)) (fun x => et 32 x (by omega))
  refine ⟨b1.congr (fun i => es 5 i (by omega)) (fun i => es 6 i (by omega)) (es 13 0 (by omega)) (es 14 0 (by omega)) (et 50 0 (by omega)) (et 57 0 (by omega)) (fun i => et 40 i (by omega)) (fun i => et 41 i (by omega)) (fun i => et 42 i (by omega)), ?_, b3.congr (fun g i hg => et g i (by omega)), fun r hr => ?_, ?_, ?_, ?_, ?_, ?_, ?_⟩
  · rw [hE]; exact b2.congr (fun g i hg => es g i (by omega)) (fun c _ hz => by rwa [es 6 c (by omega)] at hz) (fun g i _ _ _ _ => et g i (by omega))
  · rw [es 7 r (by omega), et 43 r (by omega), hE]; exact b4 r hr
  · rw [es 20 0 (by omega), et 59 0 (by omega)]; exact b5
  · rw [es 15 0 (by omega), es 16 0 (by omega), es 17 0 (by omega), es 18 0 (by omega), es 19 0 (by omega), et 52 0 (by omega), et 53 0 (by omega), et 54 0 (by omega), et 55 0 (by omega), et 56 0 (by omega)]; exact b6
  · rw [es 23 0 (by omega), et 51 0 (by omega)]; exact b7
  · rw [es 24 0 (by omega), et 58 0 (by omega)]; exact b8
  · rw [et 57 0 (by omega)]; exact b9
  · rw [es 26 0 (by omega)]; exact ⟨b10.1, b10.2.1, fun p hp => by rw [es 10 p (by omega)]; exact b10.2.2 p hp⟩
theorem ph_R.t60 (h : ph_R s t n m) (v : Int) : ph_R s (py_st t 60 0 v) n m := h.congr (fun _ _ _ _ _ _ _ _ _ => rfl) (fun g i _ _ _ _ _ h6 _ => py_sn h6)
theorem ph_R.mono {n' : Nat} {m' : Int} (h : ph_R s t n m) (hn : n ≤ n') (hm : m ≤ m') : ph_R s t n' m' := by
  obtain ⟨b1, b2, b3, b4, b5, b6, b7, b8, b9, b10⟩ := h
  exact ⟨b1, b2, b3, b4, b5, b6, b7, ⟨b8.1, by omega⟩, by omega, ⟨b10.1, by omega, b10.2.2⟩⟩
/-- a call's outcome on both sides -/
def ph_Out (P : (ty_S → Int32 → Prop) → (Nat → ty_S → Prop) → Prop) (M : (ty_S → Int32 → Prop) → Prop) (code : Nat → Int) (n : Nat) (m : Int) : Prop :=
  ∃ (s' t' : py_Z) (r : Int), ph_R s' t' n m ∧ (∀ K : ty_S → Int32 → Prop, K (py_O t') (py_o r) → M K) ∧
    ((t' 60 0 = 0 ∧ ∀ (K : ty_S → Int32 → Prop) (KX : Nat → ty_S → Prop), K (py_O s') (py_o r) → P K KX) ∨ ∃ k : Nat, k < 3 ∧ t' 60 0 = code k ∧ (1 ≤ code k ∧ code k ≤ 3) ∧ ∀ (K : ty_S → Int32 → Prop) (KX : Nat → ty_S → Prop), KX k (py_O s') → P K KX)
theorem pr_canStep {K : ty_S → Int32 → Prop} (hc : 0 ≤ s 13 0 ∧ s 13 0 ≤ 40) (h1 : 0 < s 13 0 → s 13 0 < 40 → K (py_O s) (py_o 1)) (h0 : (s 13 0 = 0 ∨ s 13 0 = 40) → K (py_O s) (py_o 0)) : eX3_canStep (py_O s) K := by
  unfold eX3_canStep
  try simp only [py_O_ap, py_l0, py_l1, py_l2, py_l3, py_l4, py_l5, py_l6, py_l7, py_l8, py_l9, py_l12, py_l16, py_l32, py_l40, py_l100, py_l640, py_l1280, py_neg, py_add, py_sub, py_mul, py_stO]
  refine py_ile (fun c => h0 (by omega)) (fun c => ?_)
  refine pr_countFree ?_
  exact py_ile (fun c2 => h0 (by omega)) (fun c2 => h1 (by omega) (by omega))
theorem pm_maySteps {K : ty_S → Int32 → Prop} (hRW : pr_RW s t) (h1 : 0 < s 13 0 → s 13 0 < 40 → K (py_O t) (py_o 1)) (h0 : (s 13 0 = 0 ∨ s 13 0 = 40) → K (py_O t) (py_o 0)) : eX5_maySteps (py_O t) K := by
  have hc := hRW.cnt
  have hs := hRW.some
  have hn := hRW.1
  unfold eX5_maySteps
  try simp only [py_O_ap, py_l0, py_l1, py_l2, py_l3, py_l4, py_l5, py_l6, py_l7, py_l8, py_l9, py_l12, py_l16, py_l32, py_l40, py_l100, py_l640, py_l1280, py_neg, py_add, py_sub, py_mul, py_stO]
  refine py_ile (fun c => h0 (by omega)) (fun c => ?_)
  refine pm_freeCars hRW ?_
  exact py_ile (fun c2 => h0 (by omega)) (fun c2 => h1 (by omega) (by omega))
/-- a step, on both sides -/
theorem ph_step (h : ph_R s t n m) (hn : 0 < s 13 0) (hN : s 13 0 < 40) (hm : m < 99999) :
    ∃ (s' t' : py_Z) (r : Int), (∀ K : ty_S → Int32 → Prop, K (py_O s') (py_o r) → eX3_doStep (py_O s) K) ∧ (∀ K : ty_S → Int32 → Prop, K (py_O t') (py_o r) → eX5_oneStep (py_O t) K) ∧ ph_R s' t' n (m + 1) ∧ (0 ≤ r ∧ r ≤ 640) ∧ t' 60 0 = t 60 0 := by
  obtain ⟨b1, b2, b3, b4, b5, b6, b7, b8, b9, b10⟩ := id h
  have hs := b1.some
  have h50 := b1.1
  obtain ⟨⟨c1, c2⟩, -⟩ := b1.car (i := 0) (by omega)
  have h41 := b1.2.1 0 (by omega)
  obtain ⟨d1, d2, d3⟩ := b1.2.2.2.1 0 0 (by omega) (by omega)
  simp only [Nat.mul_zero, Nat.add_zero, pr_off] at d1 d2 d3
  -- behind the count of steps
  have hg : ∀ g i, g ≠ 52 → py_st t 52 0 (t 52 0 + 1) g i = t g i := fun g i hg => py_sn hg
  have h52 : py_st t 52 0 (t 52 0 + 1) 52 0 = t 52 0 + 1 := py_se
  obtain ⟨tq, htq⟩ : ∃ tq, tq = py_st t 52 0 (t 52 0 + 1) := ⟨_, rfl⟩
  rw [← htq] at hg h52
  have hRWq : pr_RW s tq := b1.congr (fun _ => rfl) (fun _ => rfl) rfl rfl (hg 50 0 (by decide)) (hg 57 0 (by decide)) (fun i => hg 40 i (by decide)) (fun i => hg 41 i (by decide)) (fun i => hg 42 i (by decide))
  have hEq : ph_E tq = ph_E t := ph_E_congr (fun x => hg 31 x (by decide)) (fun x => hg 32 x (by decide))
  have hTHq : ph_TH s tq (ph_E tq) := by rw [hEq]; exact b2.congr (fun _ _ _ => rfl) (fun _ _ hz => hz) (fun g i _ _ _ _ => hg g i (by omega))
  have hMHq : ph_MH tq (-1) := b3.congr (fun g i hh => hg g i (by omega))
  have hHq : ∀ r : Nat, r < 16 → s 7 r = ph_E tq (tq 43 r) := fun r hr => by rw [hEq, hg 43 r (by decide)]; exact b4 r hr
  have q40 : tq 40 0 = t 40 0 := hg 40 0 (by decide)
  by_cases hW : (∃ r : Nat, r < 16 ∧ ph_W0 s tq r) ∨ (∃ x i : Nat, ph_W1 s tq x i)
  · obtain ⟨s', t', r, o1, o2, ⟨o3, o4, o5, o6, o7, o8⟩, o9, o10, o11, o12⟩ := ph_emptyStep h (by omega) hN (by omega)
    refine ⟨s', t', r, fun K hK => ?_, fun K hK => ?_, ⟨o3, o4, o5, o6, o7, o8, ?_, ?_, by omega, ?_⟩, by omega, o10 60 0 (by omega)⟩
    · unfold eX3_doStep
      try simp only [py_O_ap, py_l0, py_l1, py_l2, py_l3, py_l4, py_l5, py_l6, py_l7, py_l8, py_l9, py_l12, py_l16, py_l32, py_l40, py_l100, py_l640, py_l1280, py_neg, py_add, py_sub, py_mul, py_stO]
      refine pr_firstTrain b1 (fun _ => ?_) (fun c => absurd c (by omega))
      have := pr_isReferredTo hRWq hTHq hMHq hHq (by rw [hg 50 0 (by decide)]; omega) (K := fun S2 r2 => if r2 = py_o 0 then eX3_dropFirstTrain S2 (py_o (t 40 0)) fun S3 r3 => jX3_doStep_67 K r3 S3 else eX3_startEmptying S2 fun S4 => eX3_moveHeld S4 (py_o (t 40 0)) fun S5 => eX3_moveReferredTo S5 (py_o (t 40 0)) (py_o 0) fun S6 => eX3_moveReferredTo S6 (py_o (t 40 0)) (py_o 1) fun S7 => eX0_things S7 (S7 20 0) fun S8 r8 => eX3_endEmptying S8 fun S9 => jX3_doStep_67 K (r8 - S8 21 0) S9) (fun _ => ?_) (fun a b => absurd hW (fun c => c.elim (fun ⟨r, hr, w⟩ => a r hr w) (fun ⟨x, i, w⟩ => b x i w)))
      · rw [q40] at this; exact this
      · refine py_ieq (fun c => absurd c (by omega)) (fun _ => ?_)
        exact o1 K hK
    · unfold eX5_oneStep
      try simp only [py_O_ap, py_l0, py_l1, py_l2, py_l3, py_l4, py_l5, py_l6, py_l7, py_l8, py_l9, py_l12, py_l16, py_l32, py_l40, py_l100, py_l640, py_l1280, py_neg, py_add, py_sub, py_mul, py_stO]
      rw [← htq]
      refine pm_isWanted hRWq hTHq hMHq (by rw [hg 50 0 (by decide)]; omega) (fun _ => ?_) (fun a b => absurd hW (fun c => c.elim (fun ⟨r, hr, w⟩ => a r hr w) (fun ⟨x, i, w⟩ => b x i w)))
      refine py_ieq (fun c => absurd c (by omega)) (fun _ => py_and ?_)
      rw [py_nat (by omega)]
      try simp only [py_O_ap, py_l0, py_l1, py_l2, py_l3, py_l4, py_l5, py_l6, py_l7, py_l8, py_l9, py_l12, py_l16, py_l32, py_l40, py_l100, py_l640, py_l1280, py_neg, py_add, py_sub, py_mul, py_stO]
      have := o2 K hK
      rw [← htq] at this
      rw [Int.toNat_zero, hg 42 0 (by decide)]
      exact this
    · rw [o9 23 0 (by omega), o10 51 0 (by omega)]; exact b7
    · rw [o9 24 0 (by omega), o10 58 0 (by omega)]; exact b8
    · rw [o9 26 0 (by omega)]; exact ⟨b10.1, b10.2.1, fun p hp => by rw [o9 10 p (by omega)]; exact b10.2.2 p hp⟩
  · have hW0 : ∀ r : Nat, r < 16 → ¬ ph_W0 s tq r := fun r hr w => hW (Or.inl ⟨r, hr, w⟩)
    have hW1 : ∀ x i : Nat, ¬ ph_W1 s tq x i := fun x i w => hW (Or.inr ⟨x, i, w⟩)
    obtain ⟨s', t', o1, o2, o3, o4, o5, o6, o7, o8, o9, o10, o11, o12⟩ := ph_dropStep hRWq hTHq hMHq hHq (by rw [hg 50 0 (by decide)]; omega) hW0 hW1
    have e41 : tq 41 0 = t 41 0 := hg 41 0 (by decide)
    refine ⟨py_st (py_st s' 15 0 (s' 15 0 + 1)) 17 0 (s' 17 0 + ph_sum tq (tq 41 0).toNat), t', ph_sum tq (tq 41 0).toNat, fun K hK => ?_, fun K hK => ?_, ⟨?_, ?_, o5, fun r hr => ?_, ⟨?_, ?_⟩, ⟨?_, ?_, ?_, ?_, ?_⟩, ?_, ?_, ?_, ?_⟩, o12, ?_⟩
    · unfold eX3_doStep
      try simp only [py_O_ap, py_l0, py_l1, py_l2, py_l3, py_l4, py_l5, py_l6, py_l7, py_l8, py_l9, py_l12, py_l16, py_l32, py_l40, py_l100, py_l640, py_l1280, py_neg, py_add, py_sub, py_mul, py_stO]
      refine pr_firstTrain b1 (fun _ => ?_) (fun c => absurd c (by omega))
      have := pr_isReferredTo hRWq hTHq hMHq hHq (by rw [hg 50 0 (by decide)]; omega) (K := fun S2 r2 => if r2 = py_o 0 then eX3_dropFirstTrain S2 (py_o (t 40 0)) fun S3 r3 => jX3_doStep_67 K r3 S3 else eX3_startEmptying S2 fun S4 => eX3_moveHeld S4 (py_o (t 40 0)) fun S5 => eX3_moveReferredTo S5 (py_o (t 40 0)) (py_o 0) fun S6 => eX3_moveReferredTo S6 (py_o (t 40 0)) (py_o 1) fun S7 => eX0_things S7 (S7 20 0) fun S8 r8 => eX3_endEmptying S8 fun S9 => jX3_doStep_67 K (r8 - S8 21 0) S9) (fun c => absurd c hW) (fun _ _ => ?_)
      · rw [q40] at this; exact this
      · rw [if_pos rfl]
        have := o1 (fun S3 r3 => jX3_doStep_67 K r3 S3) ?_
        · rw [q40] at this; exact this
        · unfold jX3_doStep_67
          try simp only [py_O_ap, py_l0, py_l1, py_l2, py_l3, py_l4, py_l5, py_l6, py_l7, py_l8, py_l9, py_l12, py_l16, py_l32, py_l40, py_l100, py_l640, py_l1280, py_neg, py_add, py_sub, py_mul, py_stO]
          exact hK
    · unfold eX5_oneStep
      try simp only [py_O_ap, py_l0, py_l1, py_l2, py_l3, py_l4, py_l5, py_l6, py_l7, py_l8, py_l9, py_l12, py_l16, py_l32, py_l40, py_l100, py_l640, py_l1280, py_neg, py_add, py_sub, py_mul, py_stO]
      rw [← htq]
      refine pm_isWanted hRWq hTHq hMHq (by rw [hg 50 0 (by decide)]; omega) (fun c => absurd c hW) (fun _ _ => ?_)
      refine py_ieq (fun _ => ?_) (fun c => absurd rfl c)
      exact o2 K hK
    · exact o3.congr (fun i => by rw [py_sn (by decide), py_sn (by decide)]) (fun i => by rw [py_sn (by decide), py_sn (by decide)]) (by rw [py_sn (by decide), py_sn (by decide)]) (by rw [py_sn (by decide), py_sn (by decide)]) rfl rfl (fun _ => rfl) (fun _ => rfl) (fun _ => rfl)
    · exact o4.congr (fun g i hg => by rw [py_sn (by omega), py_sn (by omega)]) (fun c _ hz => by rwa [py_sn (by decide), py_sn (by decide)] at hz) (fun _ _ _ _ _ _ => rfl)
    · rw [py_sn (by decide), py_sn (by decide)]; exact o6 r hr
    · rw [py_sn (by decide), py_sn (by decide), o10 20 0 (by decide) (by omega)]; exact b5.1
    · rw [o11 59 0 (by omega), hg 59 0 (by decide)]; exact b5.2
    · rw [py_sn (by decide), py_se, o10 15 0 (by decide) (by omega), o11 52 0 (by omega), h52]; omega
    · rw [py_sn (by decide), py_sn (by decide), o7, o8, hg 53 0 (by decide)]; omega
    · rw [py_se, o10 17 0 (by decide) (by omega), o9, hg 54 0 (by decide)]; omega
    · rw [py_sn (by decide), py_sn (by decide), o10 18 0 (by decide) (by omega), o11 55 0 (by omega), hg 55 0 (by decide)]; omega
    · rw [py_sn (by decide), py_sn (by decide), o10 19 0 (by decide) (by omega), o11 56 0 (by omega), hg 56 0 (by decide)]; omega
    · rw [py_sn (by decide), py_sn (by decide), o10 23 0 (by decide) (by omega), o11 51 0 (by omega), hg 51 0 (by decide)]; exact b7
    · rw [py_sn (by decide), py_sn (by decide), o10 24 0 (by decide) (by omega), o11 58 0 (by omega), hg 58 0 (by decide)]; exact b8
    · rw [o11 57 0 (by omega), hg 57 0 (by decide)]; omega
    · rw [py_sn (by decide), py_sn (by decide), o10 26 0 (by decide) (by omega)]
      refine ⟨b10.1, b10.2.1, fun p hp => ?_⟩
      rw [py_sn (by decide), py_sn (by decide), o10 10 p (by decide) (by omega)]; exact b10.2.2 p hp
    · rw [o11 60 0 (by omega), hg 60 0 (by decide)]
/-- step -/
theorem ph_callStep (h : ph_R s t n m) (hm : m < 99999) : ∃ (s' t' : py_Z) (r : Int), (∀ K : ty_S → Int32 → Prop, K (py_O s') (py_o r) → eX4_step (py_O s) K) ∧ (∀ K : ty_S → Int32 → Prop, K (py_O t') (py_o r) → eX5_step (py_O t) K) ∧ ph_R s' t' (n + 1) (m + 101) := by
  have h2 := h.t60 0
  have hc := h.1.cnt
  by_cases hcan : 0 < s 13 0 ∧ s 13 0 < 40
  · obtain ⟨s', t', r, o1, o2, o3, o4, o5⟩ := ph_step h2 hcan.1 hcan.2 hm
    refine ⟨s', t', r, fun K hK => ?_, fun K hK => ?_, o3.mono (by omega) (by omega)⟩
    · unfold eX4_step
      try simp only [py_O_ap, py_l0, py_l1, py_l2, py_l3, py_l4, py_l5, py_l6, py_l7, py_l8, py_l9, py_l12, py_l16, py_l32, py_l40, py_l100, py_l640, py_l1280, py_neg, py_add, py_sub, py_mul, py_stO]
      refine pr_canStep hc (fun _ _ => ?_) (fun c => absurd c (by omega))
      exact py_ieq (fun c => absurd c (by omega)) (fun _ => o1 K hK)
    · unfold eX5_step
      try simp only [py_O_ap, py_l0, py_l1, py_l2, py_l3, py_l4, py_l5, py_l6, py_l7, py_l8, py_l9, py_l12, py_l16, py_l32, py_l40, py_l100, py_l640, py_l1280, py_neg, py_add, py_sub, py_mul, py_stO]
      refine pm_maySteps h2.1 (fun _ _ => ?_) (fun c => absurd c (by omega))
      exact py_ieq (fun c => absurd c (by omega)) (fun _ => o2 K hK)
  · refine ⟨s, py_st t 60 0 0, -1, fun K hK => ?_, fun K hK => ?_, h2.mono (by omega) (by omega)⟩
    · unfold eX4_step
      try simp only [py_O_ap, py_l0, py_l1, py_l2, py_l3, py_l4, py_l5, py_l6, py_l7, py_l8, py_l9, py_l12, py_l16, py_l32, py_l40, py_l100, py_l640, py_l1280, py_neg, py_add, py_sub, py_mul, py_stO]
      refine pr_canStep hc (fun a b => absurd ⟨a, b⟩ hcan) (fun _ => ?_)
      rw [if_pos rfl]; exact hK
    · unfold eX5_step
      try simp only [py_O_ap, py_l0, py_l1, py_l2, py_l3, py_l4, py_l5, py_l6, py_l7, py_l8, py_l9, py_l12, py_l16, py_l32, py_l40, py_l100, py_l640, py_l1280, py_neg, py_add, py_sub, py_mul, py_stO]
      refine pm_maySteps h2.1 (fun a b => absurd ⟨a, b⟩ hcan) (fun _ => ?_)
      rw [if_pos rfl]; exact hK
/-- some steps, one after the other -/
theorem ph_steps {a : Int} (ha : 0 ≤ a ∧ a ≤ 100) : ∀ (d k : Nat) (f : Int) (s t : py_Z) (m : Int), (k : Int) + d = a → ph_R s t n m → m + d < 99999 → t 60 0 = 0 →
    ∃ (s' t' : py_Z) (r : Int), (∀ (K : ty_S → Int32 → Prop) (KX : Nat → ty_S → Prop), K (py_O s') (py_o r) → ∃ n9, lX4_collect_44 K KX n9 (py_o a) (py_o f) (py_o k) (py_O s)) ∧ (∀ K : ty_S → Int32 → Prop, K (py_O t') (py_o r) → ∃ n9, lX5_collect_49 K n9 (py_o a) (py_o f) (py_o k) (py_O t)) ∧ ph_R s' t' n (m + d) ∧ t' 60 0 = 0 := by
  intro d
  induction d with
  | zero =>
    intro k f s t m hk h hm h60
    refine ⟨s, t, f, fun K KX hK => ⟨1, ?_⟩, fun K hK => ⟨1, ?_⟩, h.mono (Nat.le_refl _) (by omega), h60⟩
    · unfold lX4_collect_44
      try simp only [py_O_ap, py_l0, py_l1, py_l2, py_l3, py_l4, py_l5, py_l6, py_l7, py_l8, py_l9, py_l12, py_l16, py_l32, py_l40, py_l100, py_l640, py_l1280, py_neg, py_add, py_sub, py_mul, py_stO]
      exact py_ile (fun _ => hK) (fun c => absurd c (by omega))
    · unfold lX5_collect_49
      try simp only [py_O_ap, py_l0, py_l1, py_l2, py_l3, py_l4, py_l5, py_l6, py_l7, py_l8, py_l9, py_l12, py_l16, py_l32, py_l40, py_l100, py_l640, py_l1280, py_neg, py_add, py_sub, py_mul, py_stO]
      exact py_ile (fun _ => hK) (fun c => absurd c (by omega))
  | succ d ih =>
    intro k f s t m hk h hm h60
    have hc := h.1.cnt
    by_cases hcan : 0 < s 13 0 ∧ s 13 0 < 40
    · obtain ⟨s1, t1, r1, o1, o2, o3, o4, o5⟩ := ph_step h hcan.1 hcan.2 (by omega)
      obtain ⟨s', t', r, p1, p2, p3, p4⟩ := ih (k + 1) (f + r1) s1 t1 (m + 1) (by omega) o3 (by omega) (by omega)
      refine ⟨s', t', r, fun K KX hK => ?_, fun K hK => ?_, p3.mono (Nat.le_refl _) (by omega), p4⟩
      · obtain ⟨n9, hn9⟩ := p1 K KX hK
        refine ⟨n9 + 1, ?_⟩
        unfold lX4_collect_44
        try simp only [py_O_ap, py_l0, py_l1, py_l2, py_l3, py_l4, py_l5, py_l6, py_l7, py_l8, py_l9, py_l12, py_l16, py_l32, py_l40, py_l100, py_l640, py_l1280, py_neg, py_add, py_sub, py_mul, py_stO]
        refine py_ile (fun c => absurd c (by omega)) (fun _ => ?_)
        refine pr_canStep hc (fun _ _ => ?_) (fun c => absurd c (by omega))
        refine py_ieq (fun c => absurd c (by omega)) (fun _ => ?_)
        refine o1 _ ?_
        try simp only [py_O_ap, py_l0, py_l1, py_l2, py_l3, py_l4, py_l5, py_l6, py_l7, py_l8, py_l9, py_l12, py_l16, py_l32, py_l40, py_l100, py_l640, py_l1280, py_neg, py_add, py_sub, py_mul, py_stO]
        exact hn9
      · obtain ⟨n9, hn9⟩ := p2 K hK
        refine ⟨n9 + 1, ?_⟩
        unfold lX5_collect_49
        try simp only [py_O_ap, py_l0, py_l1, py_l2, py_l3, py_l4, py_l5, py_l6, py_l7, py_l8, py_l9, py_l12, py_l16, py_l32, py_l40, py_l100, py_l640, py_l1280, py_neg, py_add, py_sub, py_mul, py_stO]
        refine py_ile (fun c => absurd c (by omega)) (fun _ => ?_)
        refine pm_maySteps h.1 (fun _ _ => ?_) (fun c => absurd c (by omega))
        refine py_ieq (fun c => absurd c (by omega)) (fun _ => ?_)
        refine o2 _ ?_
        try simp only [py_O_ap, py_l0, py_l1, py_l2, py_l3, py_l4, py_l5, py_l6, py_l7, py_l8, py_l9, py_l12, py_l16, py_l32, py_l40, py_l100, py_l640, py_l1280, py_neg, py_add, py_sub, py_mul, py_stO]
        exact hn9
    · refine ⟨s, t, f, fun K KX hK => ⟨1, ?_⟩, fun K hK => ⟨1, ?_⟩, h.mono (Nat.le_refl _) (by omega), h60⟩
      · unfold lX4_collect_44
        try simp only [py_O_ap, py_l0, py_l1, py_l2, py_l3, py_l4, py_l5, py_l6, py_l7, py_l8, py_l9, py_l12, py_l16, py_l32, py_l40, py_l100, py_l640, py_l1280, py_neg, py_add, py_sub, py_mul, py_stO]
        refine py_ile (fun c => absurd c (by omega)) (fun _ => ?_)
        refine pr_canStep hc (fun a b => absurd ⟨a, b⟩ hcan) (fun _ => ?_)
        rw [if_pos rfl]; exact hK
      · unfold lX5_collect_49
        try simp only [py_O_ap, py_l0, py_l1, py_l2, py_l3, py_l4, py_l5, py_l6, py_l7, py_l8, py_l9, py_l12, py_l16, py_l32, py_l40, py_l100, py_l640, py_l1280, py_neg, py_add, py_sub, py_mul, py_stO]
        refine py_ile (fun c => absurd c (by omega)) (fun _ => ?_)
        refine pm_maySteps h.1 (fun a b => absurd ⟨a, b⟩ hcan) (fun _ => ?_)
        rw [if_pos rfl]; exact hK
theorem ph_callCollect (h : ph_R s t n m) (hm : m < 99000) {a : Int} (ra : -2147483648 ≤ a ∧ a < 2147483648) : ph_Out (fun K KX => eX4_collect (py_O s) (py_o a) K KX) (fun K => eX5_collect (py_O t) (py_o a) K) py_code2 (n + 1) (m + 101) := by
  have hc := h.1.cnt
  by_cases hr : 0 ≤ a ∧ a ≤ 100
  · have h2 := h.t60 0
    obtain ⟨b, hb⟩ : ∃ b : Int, b = if a = 0 then s 13 0 else a := ⟨_, rfl⟩
    have hb2 : 0 ≤ b ∧ b ≤ 100 := by rw [hb]; split <;> omega
    obtain ⟨s', t', r, o1, o2, o3, o4⟩ := ph_steps hb2 b.toNat 0 0 s (py_st t 60 0 0) m (by omega) h2 (by omega) py_se
    refine ⟨s', t', r, o3.mono (by omega) (by omega), fun K hK => ?_, Or.inl ⟨o4, fun K KX hK => ?_⟩⟩
    · have hj : jX5_collect_16 K (py_o a) (py_o 0) (py_O t) := by
        unfold jX5_collect_16
        try simp only [py_O_ap, py_l0, py_l1, py_l2, py_l3, py_l4, py_l5, py_l6, py_l7, py_l8, py_l9, py_l12, py_l16, py_l32, py_l40, py_l100, py_l640, py_l1280, py_neg, py_add, py_sub, py_mul, py_stO]
        rw [if_pos (Int32.le_refl _)]
        refine py_ieq (fun e => ?_) (fun e => ?_)
        · refine pm_freeCars h2.1 ?_
          try simp only [py_O_ap, py_l0, py_l1, py_l2, py_l3, py_l4, py_l5, py_l6, py_l7, py_l8, py_l9, py_l12, py_l16, py_l32, py_l40, py_l100, py_l640, py_l1280, py_neg, py_add, py_sub, py_mul, py_stO]
          rw [if_pos e] at hb
          have := o2 K hK
          rw [hb] at this
          rw [show (40 : Int) - (40 - s 13 0) = s 13 0 by omega]
          exact this
        · rw [if_neg e] at hb
          rw [hb] at o2
          exact o2 K hK
      unfold eX5_collect
      try simp only [py_O_ap, py_l0, py_l1, py_l2, py_l3, py_l4, py_l5, py_l6, py_l7, py_l8, py_l9, py_l12, py_l16, py_l32, py_l40, py_l100, py_l640, py_l1280, py_neg, py_add, py_sub, py_mul, py_stO]
      exact py_ilt (fun c => absurd c (by omega)) (fun _ => py_ile (fun _ => hj) (fun c => absurd c (by omega)))
    · unfold eX4_collect
      try simp only [py_O_ap, py_l0, py_l1, py_l2, py_l3, py_l4, py_l5, py_l6, py_l7, py_l8, py_l9, py_l12, py_l16, py_l32, py_l40, py_l100, py_l640, py_l1280, py_neg, py_add, py_sub, py_mul, py_stO]
      refine py_ilt (fun c => absurd c (by omega)) (fun _ => py_ile (fun _ => ?_) (fun c => absurd c (by omega)))
      refine py_ieq (fun e => ?_) (fun e => ?_)
      · rw [if_pos e] at hb
        rw [hb] at o1
        exact o1 K KX hK
      · rw [if_neg e] at hb
        rw [hb] at o1
        exact o1 K KX hK
  · refine ⟨s, py_st t 60 0 1, 0, (h.t60 1).mono (by omega) (by omega), fun K hK => ?_, Or.inr ⟨2, by omega, py_se, by decide, fun K KX hK => ?_⟩⟩
    · have hj : jX5_collect_11 K (py_o a) (py_O t) := by
        unfold jX5_collect_11 jX5_collect_16
        try simp only [py_O_ap, py_l0, py_l1, py_l2, py_l3, py_l4, py_l5, py_l6, py_l7, py_l8, py_l9, py_l12, py_l16, py_l32, py_l40, py_l100, py_l640, py_l1280, py_neg, py_add, py_sub, py_mul, py_stO]
        exact py_ile (fun c => absurd c (by omega)) (fun _ => hK)
      unfold eX5_collect
      try simp only [py_O_ap, py_l0, py_l1, py_l2, py_l3, py_l4, py_l5, py_l6, py_l7, py_l8, py_l9, py_l12, py_l16, py_l32, py_l40, py_l100, py_l640, py_l1280, py_neg, py_add, py_sub, py_mul, py_stO]
      exact py_ilt (fun _ => hj) (fun _ => py_ile (fun c => absurd c (by omega)) (fun _ => hj))
    · unfold eX4_collect
      try simp only [py_O_ap, py_l0, py_l1, py_l2, py_l3, py_l4, py_l5, py_l6, py_l7, py_l8, py_l9, py_l12, py_l16, py_l32, py_l40, py_l100, py_l640, py_l1280, py_neg, py_add, py_sub, py_mul, py_stO]
      exact py_ilt (fun _ => hK) (fun _ => py_ile (fun c => absurd c (by omega)) (fun _ => hK))
theorem ph_callLength (h : ph_R s t n m) {a : Int} (ra : -2147483648 ≤ a ∧ a < 2147483648) : ph_Out (fun K KX => eX4_length (py_O s) (py_o a) K KX) (fun K => eX5_length (py_O t) (py_o a) K) py_code2 (n + 1) (m + 101) := by
  obtain ⟨b1, b2, b3, b4, b5, b6, b7, b8, b9, b10⟩ := id h
  by_cases hr : 1 ≤ a ∧ a ≤ 40
  · have hR : ph_R (py_st s 23 0 a) (py_st (py_st t 60 0 0) 51 0 a) n m := by
      have e : ∀ g i, g ≠ 51 → g ≠ 60 → py_st (py_st t 60 0 0) 51 0 a g i = t g i := fun g i h1 h2 => by rw [py_sn h1, py_sn h2]
      have es : ∀ g i, g ≠ 23 → py_st s 23 0 a g i = s g i := fun g i h1 => py_sn h1
      have hE : ph_E (py_st (py_st t 60 0 0) 51 0 a) = ph_E t := ph_E_congr (fun x => e 31 x (by decide) (by decide)) (fun x => e 32 x (by decide) (by decide))
      refine ⟨b1.congr (fun i => es 5 i (by decide)) (fun i => es 6 i (by decide)) (es 13 0 (by decide)) (es 14 0 (by decide)) (e 50 0 (by decide) (by decide)) (e 57 0 (by decide) (by decide)) (fun i => e 40 i (by decide) (by decide)) (fun i => e 41 i (by decide) (by decide)) (fun i => e 42 i (by decide) (by decide)), ?_, b3.congr (fun g i hg => e g i (by omega) (by omega)), fun r hr => ?_, ?_, ?_, ?_, ?_, ?_, ?_⟩
      · rw [hE]; exact b2.congr (fun g i hg => es g i (by omega)) (fun c _ hz => by rwa [es 6 c (by decide)] at hz) (fun g i _ _ _ _ => e g i (by omega) (by omega))
      · rw [es 7 r (by decide), e 43 r (by decide) (by decide), hE]; exact b4 r hr
      · rw [es 20 0 (by decide), e 59 0 (by decide) (by decide)]; exact b5
      · rw [es 15 0 (by decide), es 16 0 (by decide), es 17 0 (by decide), es 18 0 (by decide), es 19 0 (by decide), e 52 0 (by decide) (by decide), e 53 0 (by decide) (by decide), e 54 0 (by decide) (by decide), e 55 0 (by decide) (by decide), e 56 0 (by decide) (by decide)]; exact b6
      · rw [py_se, py_se]; omega
      · rw [es 24 0 (by decide), e 58 0 (by decide) (by decide)]; exact b8
      · rw [e 57 0 (by decide) (by decide)]; exact b9
      · rw [es 26 0 (by decide)]; exact ⟨b10.1, b10.2.1, fun p hp => by rw [es 10 p (by decide)]; exact b10.2.2 p hp⟩
    refine ⟨_, _, t 51 0, hR.mono (by omega) (by omega), fun K hK => ?_, Or.inl ⟨by rw [py_sn (by decide), py_se], fun K KX hK => ?_⟩⟩
    · have hj : jX5_length_17 K (py_o a) (py_o 0) (py_O t) := by
        unfold jX5_length_17
        try simp only [py_O_ap, py_l0, py_l1, py_l2, py_l3, py_l4, py_l5, py_l6, py_l7, py_l8, py_l9, py_l12, py_l16, py_l32, py_l40, py_l100, py_l640, py_l1280, py_neg, py_add, py_sub, py_mul, py_stO]
        rw [if_pos (Int32.le_refl _)]
        exact hK
      unfold eX5_length
      try simp only [py_O_ap, py_l0, py_l1, py_l2, py_l3, py_l4, py_l5, py_l6, py_l7, py_l8, py_l9, py_l12, py_l16, py_l32, py_l40, py_l100, py_l640, py_l1280, py_neg, py_add, py_sub, py_mul, py_stO]
      exact py_ilt (fun c => absurd c (by omega)) (fun _ => py_ile (fun _ => hj) (fun c => absurd c (by omega)))
    · unfold eX4_length
      try simp only [py_O_ap, py_l0, py_l1, py_l2, py_l3, py_l4, py_l5, py_l6, py_l7, py_l8, py_l9, py_l12, py_l16, py_l32, py_l40, py_l100, py_l640, py_l1280, py_neg, py_add, py_sub, py_mul, py_stO]
      rw [b7.1]
      exact py_ilt (fun c => absurd c (by omega)) (fun _ => py_ile (fun _ => hK) (fun c => absurd c (by omega)))
  · refine ⟨s, py_st t 60 0 1, 0, (h.t60 1).mono (by omega) (by omega), fun K hK => ?_, Or.inr ⟨2, by omega, py_se, by decide, fun K KX hK => ?_⟩⟩
    · have hj : jX5_length_12 K (py_o a) (py_O t) := by
        unfold jX5_length_12 jX5_length_17
        try simp only [py_O_ap, py_l0, py_l1, py_l2, py_l3, py_l4, py_l5, py_l6, py_l7, py_l8, py_l9, py_l12, py_l16, py_l32, py_l40, py_l100, py_l640, py_l1280, py_neg, py_add, py_sub, py_mul, py_stO]
        exact py_ile (fun c => absurd c (by omega)) (fun _ => hK)
      unfold eX5_length
      try simp only [py_O_ap, py_l0, py_l1, py_l2, py_l3, py_l4, py_l5, py_l6, py_l7, py_l8, py_l9, py_l12, py_l16, py_l32, py_l40, py_l100, py_l640, py_l1280, py_neg, py_add, py_sub, py_mul, py_stO]
      exact py_ilt (fun _ => hj) (fun _ => py_ile (fun c => absurd c (by omega)) (fun _ => hj))
    · unfold eX4_length
      try simp only [py_O_ap, py_l0, py_l1, py_l2, py_l3, py_l4, py_l5, py_l6, py_l7, py_l8, py_l9, py_l12, py_l16, py_l32, py_l40, py_l100, py_l640, py_l1280, py_neg, py_add, py_sub, py_mul, py_stO]
      exact py_ilt (fun _ => hK) (fun _ => py_ile (fun c => absurd c (by omega)) (fun _ => hK))
end PC1
end
section
/-! PURE: the calls on registers and things -/
section PC2
variable {s t : py_Z} {n : Nat} {m : Int}
theorem pr_needRegister {a : Int} {K : ty_S → Prop} {KX : Nat → ty_S → Prop} (ra : -2147483648 ≤ a ∧ a < 2147483648) (h1 : 0 ≤ a → a < 16 → K (py_O s)) (h0 : ¬ (0 ≤ a ∧ a < 16) → KX 0 (py_O s)) : eX4_needRegister (py_O s) (py_o a) K KX := by
  unfold eX4_needRegister
  try simp only [py_O_ap, py_l0, py_l1, py_l2, py_l3, py_l4, py_l5, py_l6, py_l7, py_l8, py_l9, py_l12, py_l16, py_l32, py_l40, py_l100, py_l640, py_l1280, py_neg, py_add, py_sub, py_mul, py_stO]
  exact py_ilt (fun c => h0 (by omega)) (fun c => py_ilt (fun c2 => h1 c c2) (fun c2 => h0 (by omega)))
theorem pm_noRegister {a : Int} {K : ty_S → Int32 → Prop} (ra : -2147483648 ≤ a ∧ a < 2147483648) (h1 : 0 ≤ a → a < 16 → K (py_O t) (py_o 0)) (h0 : ¬ (0 ≤ a ∧ a < 16) → K (py_O t) (py_o 1)) : eX5_noRegister (py_O t) (py_o a) K := by
  unfold eX5_noRegister
  try simp only [py_O_ap, py_l0, py_l1, py_l2, py_l3, py_l4, py_l5, py_l6, py_l7, py_l8, py_l9, py_l12, py_l16, py_l32, py_l40, py_l100, py_l640, py_l1280, py_neg, py_add, py_sub, py_mul, py_stO]
  exact py_ilt (fun c => h0 (by omega)) (fun c => py_ilt (fun c2 => h1 c c2) (fun c2 => h0 (by omega)))
/-- the label of what a pointer is to -/
theorem pr_labelE (h : ph_R s t n m) {y : Int} (hy : ph_PV t y) {v : py_Z} (hv : ∀ i, v 0 i = s 0 i) {K : ty_S → Int32 → Prop} (hK : K (py_O v) (py_o (if y < 0 then 0 else t 30 y.toNat))) : eX0_labelOf (py_O v) (py_o (ph_E t y)) K := by
  rcases hy with e1 | ⟨e1, e2⟩
  · subst e1
    rw [if_pos (by omega)] at hK
    have e3 : ph_E t (-1) = -1 := rfl
    rw [e3]
    exact pr_labelOf (fun c _ => absurd c (by omega)) (fun _ => hK)
  · rw [if_neg (by omega)] at hK
    obtain ⟨c, k, hc, hk, g1, g2, g3, g4, g5, g6⟩ := ph_live h.2.1 h.2.2.1 (x := y.toNat) (by omega) e2
    have e3 : ph_E t y = ((32 * c + ph_pos t c k : Nat) : Int) := by unfold ph_E; rw [if_neg (by omega)]; omega
    obtain ⟨w1, w2, w3, w4, w5⟩ := h.2.1.2.1 c k hc hk
    rw [g1] at w4
    rw [e3]
    refine pr_labelOf (fun _ _ => ?_) (fun c => absurd c (by omega))
    simp only [Int.toNat_natCast]
    rw [hv, w4]; exact hK
theorem pm_labelOf (h : ph_R s t n m) {y : Int} (hy : ph_PV t y) {v : py_Z} (hv : ∀ i, v 30 i = t 30 i) {K : ty_S → Int32 → Prop} (hK : K (py_O v) (py_o (if y < 0 then 0 else t 30 y.toNat))) : eX5_labelOf (py_O v) (py_o y) K := by
  unfold eX5_labelOf
  try simp only [py_O_ap, py_l0, py_l1, py_l2, py_l3, py_l4, py_l5, py_l6, py_l7, py_l8, py_l9, py_l12, py_l16, py_l32, py_l40, py_l100, py_l640, py_l1280, py_neg, py_add, py_sub, py_mul, py_stO]
  rcases hy with e1 | ⟨e1, e2⟩
  · subst e1
    exact py_ile (fun c => absurd c (by omega)) (fun _ => hK)
  · rw [if_neg (by omega)] at hK
    refine py_ile (fun _ => py_and ?_) (fun c => absurd c (by omega))
    rw [py_nat (by omega)]
    rw [hv]; exact hK
/-- a register is set -/
theorem ph_R.setReg (h : ph_R s t n m) {r : Nat} {y : Int} (hr : r < 16) (hy : ph_PV t y) : ph_R (py_st s 7 r (ph_E t y)) (py_st t 43 r y) n m := by
  obtain ⟨b1, b2, b3, b4, b5, b6, b7, b8, b9, b10⟩ := h
  have e : ∀ g i, g ≠ 43 → py_st t 43 r y g i = t g i := fun g i h1 => py_sn h1
  have es : ∀ g i, g ≠ 7 → py_st s 7 r (ph_E t y) g i = s g i := fun g i h1 => py_sn h1
  have hE : ph_E (py_st t 43 r y) = ph_E t := ph_E_congr (fun x => e 31 x (by decide)) (fun x => e 32 x (by decide))
  refine ⟨b1.congr (fun i => es 5 i (by decide)) (fun i => es 6 i (by decide)) (es 13 0 (by decide)) (es 14 0 (by decide)) (e 50 0 (by decide)) (e 57 0 (by decide)) (fun i => e 40 i (by decide)) (fun i => e 41 i (by decide)) (fun i => e 42 i (by decide)), ?_, ?_, fun q hq => ?_, ?_, ?_, ?_, ?_, ?_, ?_⟩
  · rw [hE]; exact b2.congr (fun g i hg => es g i (by omega)) (fun c _ hz => by rwa [es 6 c (by decide)] at hz) (fun g i _ _ _ _ => e g i (by omega))
  · have ex : ∀ c k, ph_x (py_st t 43 r y) c k = ph_x t c k := fun c k => by unfold ph_x; rw [e 39 _ (by decide)]
    have ep : ∀ c k, ph_pos (py_st t 43 r y) c k = ph_pos t c k := fun c k => ph_pos_congr k (fun m _ => ⟨ex c m, by unfold ph_sz; rw [e 33 _ (by decide), e 34 _ (by decide)]⟩)
    unfold ph_MH at b3 ⊢
    simp only [ph_PV, e 58 _ (show 58 ≠ 43 by decide), e 30 _ (show 30 ≠ 43 by decide), e 31 _ (show 31 ≠ 43 by decide), e 32 _ (show 32 ≠ 43 by decide), e 33 _ (show 33 ≠ 43 by decide), e 35 _ (show 35 ≠ 43 by decide), e 38 _ (show 38 ≠ 43 by decide), ex, ep] at b3 ⊢
    refine ⟨b3.1, b3.2.1, b3.2.2.1, b3.2.2.2.1, fun q hq => ?_, b3.2.2.2.2.2⟩
    by_cases e1 : q = r
    · subst e1; rw [py_se]; exact hy
    · rw [py_sj e1]; exact b3.2.2.2.2.1 q hq
  · rw [hE]
    by_cases e1 : q = r
    · subst e1; rw [py_se, py_se]
    · rw [py_sj e1, py_sj e1]; exact b4 q hq
  · rw [es 20 0 (by decide), e 59 0 (by decide)]; exact b5
  · rw [es 15 0 (by decide), es 16 0 (by decide), es 17 0 (by decide), es 18 0 (by decide), es 19 0 (by decide), e 52 0 (by decide), e 53 0 (by decide), e 54 0 (by decide), e 55 0 (by decide), e 56 0 (by decide)]; exact b6
  · rw [es 23 0 (by decide), e 51 0 (by decide)]; exact b7
  · rw [es 24 0 (by decide), e 58 0 (by decide)]; exact b8
  · rw [e 57 0 (by decide)]; exact b9
  · rw [es 26 0 (by decide)]; exact ⟨b10.1, b10.2.1, fun p hp => by rw [es 10 p (by decide)]; exact b10.2.2 p hp⟩
theorem ph_R.pv (h : ph_R s t n m) {r : Nat} (hr : r < 16) : ph_PV t (t 43 r) ∧ s 7 r = ph_E t (t 43 r) := ⟨h.2.2.1.2.2.2.2.1 r hr, h.2.2.2.1 r hr⟩
theorem ph_PV.t60 {y v : Int} (h : ph_PV t y) : ph_PV (py_st t 60 0 v) y := by
  unfold ph_PV at h ⊢
  rw [py_sn (by decide)]; exact h
theorem ph_callCopy (h : ph_R s t n m) {a b : Int} (ra : -2147483648 ≤ a ∧ a < 2147483648) (rb : -2147483648 ≤ b ∧ b < 2147483648) : ph_Out (fun K KX => eX4_copy (py_O s) (py_o a) (py_o b) K KX) (fun K => eX5_copy (py_O t) (py_o a) (py_o b) K) py_code0 (n + 1) (m + 101) := by
  by_cases hr : (0 ≤ a ∧ a < 16) ∧ 0 ≤ b ∧ b < 16
  · obtain ⟨q1, q2⟩ := h.pv (r := b.toNat) (by omega)
    have h2 := h.t60 0
    have hE : ph_E (py_st t 60 0 0) = ph_E t := ph_E_congr (fun x => py_sn (by decide)) (fun x => py_sn (by decide))
    have hR := h2.setReg (r := a.toNat) (y := t 43 b.toNat) (by omega) q1.t60
    rw [hE] at hR
    refine ⟨_, _, if t 43 b.toNat < 0 then 0 else t 30 (t 43 b.toNat).toNat, hR.mono (by omega) (by omega), fun K hK => ?_, Or.inl ⟨by rw [py_sn (by decide), py_se], fun K KX hK => ?_⟩⟩
    · have hj : jX5_copy_20 K (py_o a) (py_o b) (py_o 0) (py_O t) := by
        unfold jX5_copy_20
        try simp only [py_O_ap, py_l0, py_l1, py_l2, py_l3, py_l4, py_l5, py_l6, py_l7, py_l8, py_l9, py_l12, py_l16, py_l32, py_l40, py_l100, py_l640, py_l1280, py_neg, py_add, py_sub, py_mul, py_stO]
        rw [if_pos (Int32.le_refl _)]
        refine py_and (py_and (py_and ?_))
        rw [py_nat (by omega), py_nat (by omega)]
        try simp only [py_O_ap, py_l0, py_l1, py_l2, py_l3, py_l4, py_l5, py_l6, py_l7, py_l8, py_l9, py_l12, py_l16, py_l32, py_l40, py_l100, py_l640, py_l1280, py_neg, py_add, py_sub, py_mul, py_stO]
        rw [py_se]
        exact pm_labelOf h q1 (fun i => by rw [py_sn (by decide), py_sn (by decide)]) hK
      unfold eX5_copy
      try simp only [py_O_ap, py_l0, py_l1, py_l2, py_l3, py_l4, py_l5, py_l6, py_l7, py_l8, py_l9, py_l12, py_l16, py_l32, py_l40, py_l100, py_l640, py_l1280, py_neg, py_add, py_sub, py_mul, py_stO]
      refine pm_noRegister ra (fun _ _ => ?_) (fun c => absurd hr.1 c)
      refine py_ieq (fun _ => ?_) (fun c => absurd rfl c)
      refine pm_noRegister rb (fun _ _ => ?_) (fun c => absurd hr.2 c)
      exact py_ieq (fun _ => hj) (fun c => absurd rfl c)
    · unfold eX4_copy
      try simp only [py_O_ap, py_l0, py_l1, py_l2, py_l3, py_l4, py_l5, py_l6, py_l7, py_l8, py_l9, py_l12, py_l16, py_l32, py_l40, py_l100, py_l640, py_l1280, py_neg, py_add, py_sub, py_mul, py_stO]
      refine pr_needRegister ra (fun _ _ => ?_) (fun c => absurd hr.1 c)
      refine pr_needRegister rb (fun _ _ => ?_) (fun c => absurd hr.2 c)
      refine py_and (py_and (py_and ?_))
      rw [py_nat (by omega), py_nat (by omega)]
      try simp only [py_O_ap, py_l0, py_l1, py_l2, py_l3, py_l4, py_l5, py_l6, py_l7, py_l8, py_l9, py_l12, py_l16, py_l32, py_l40, py_l100, py_l640, py_l1280, py_neg, py_add, py_sub, py_mul, py_stO]
      rw [py_se, q2]
      exact pr_labelE h q1 (fun i => py_sn (by decide)) hK
  · have hj : ∀ K : ty_S → Int32 → Prop, K (py_O (py_st t 60 0 1)) (py_o 0) → jX5_copy_15 K (py_o a) (py_o b) (py_O t) := fun K hK => by
      unfold jX5_copy_15 jX5_copy_20
      try simp only [py_O_ap, py_l0, py_l1, py_l2, py_l3, py_l4, py_l5, py_l6, py_l7, py_l8, py_l9, py_l12, py_l16, py_l32, py_l40, py_l100, py_l640, py_l1280, py_neg, py_add, py_sub, py_mul, py_stO]
      exact py_ile (fun c => absurd c (by omega)) (fun _ => hK)
    refine ⟨s, py_st t 60 0 1, 0, (h.t60 1).mono (by omega) (by omega), fun K hK => ?_, Or.inr ⟨0, by omega, py_se, by decide, fun K KX hK => ?_⟩⟩
    · unfold eX5_copy
      try simp only [py_O_ap, py_l0, py_l1, py_l2, py_l3, py_l4, py_l5, py_l6, py_l7, py_l8, py_l9, py_l12, py_l16, py_l32, py_l40, py_l100, py_l640, py_l1280, py_neg, py_add, py_sub, py_mul, py_stO]
      refine pm_noRegister ra (fun a1 a2 => ?_) (fun _ => py_ieq (fun c => absurd c (by omega)) (fun _ => hj K hK))
      refine py_ieq (fun _ => ?_) (fun c => absurd rfl c)
      refine pm_noRegister rb (fun b1 b2 => absurd ⟨⟨a1, a2⟩, b1, b2⟩ hr) (fun _ => py_ieq (fun c => absurd c (by omega)) (fun _ => hj K hK))
    · unfold eX4_copy
      try simp only [py_O_ap, py_l0, py_l1, py_l2, py_l3, py_l4, py_l5, py_l6, py_l7, py_l8, py_l9, py_l12, py_l16, py_l32, py_l40, py_l100, py_l640, py_l1280, py_neg, py_add, py_sub, py_mul, py_stO]
      refine pr_needRegister ra (fun a1 a2 => ?_) (fun _ => hK)
      exact pr_needRegister rb (fun b1 b2 => absurd ⟨⟨a1, a2⟩, b1, b2⟩ hr) (fun _ => hK)
theorem ph_callDrop (h : ph_R s t n m) {a : Int} (ra : -2147483648 ≤ a ∧ a < 2147483648) : ph_Out (fun K KX => eX4_drop (py_O s) (py_o a) K KX) (fun K => eX5_drop (py_O t) (py_o a) K) py_code0 (n + 1) (m + 101) := by
  by_cases hr : 0 ≤ a ∧ a < 16
  · obtain ⟨q1, q2⟩ := h.pv (r := a.toNat) (by omega)
    have h2 := h.t60 0
    have hR := h2.setReg (r := a.toNat) (y := -1) (by omega) (Or.inl rfl)
    refine ⟨_, _, if t 43 a.toNat < 0 then 0 else t 30 (t 43 a.toNat).toNat, hR.mono (by omega) (by omega), fun K hK => ?_, Or.inl ⟨by rw [py_sn (by decide), py_se], fun K KX hK => ?_⟩⟩
    · have hj : jX5_drop_13 K (py_o a) (py_o 0) (py_O t) := by
        unfold jX5_drop_13
        try simp only [py_O_ap, py_l0, py_l1, py_l2, py_l3, py_l4, py_l5, py_l6, py_l7, py_l8, py_l9, py_l12, py_l16, py_l32, py_l40, py_l100, py_l640, py_l1280, py_neg, py_add, py_sub, py_mul, py_stO]
        rw [if_pos (Int32.le_refl _)]
        refine py_and ?_
        rw [py_nat (by omega)]
        refine pm_labelOf h q1 (fun i => by rw [py_sn (by decide)]) (py_and ?_)
        try simp only [py_O_ap, py_l0, py_l1, py_l2, py_l3, py_l4, py_l5, py_l6, py_l7, py_l8, py_l9, py_l12, py_l16, py_l32, py_l40, py_l100, py_l640, py_l1280, py_neg, py_add, py_sub, py_mul, py_stO]
        exact hK
      unfold eX5_drop
      try simp only [py_O_ap, py_l0, py_l1, py_l2, py_l3, py_l4, py_l5, py_l6, py_l7, py_l8, py_l9, py_l12, py_l16, py_l32, py_l40, py_l100, py_l640, py_l1280, py_neg, py_add, py_sub, py_mul, py_stO]
      refine pm_noRegister ra (fun _ _ => ?_) (fun c => absurd hr c)
      exact py_ieq (fun _ => hj) (fun c => absurd rfl c)
    · unfold eX4_drop
      try simp only [py_O_ap, py_l0, py_l1, py_l2, py_l3, py_l4, py_l5, py_l6, py_l7, py_l8, py_l9, py_l12, py_l16, py_l32, py_l40, py_l100, py_l640, py_l1280, py_neg, py_add, py_sub, py_mul, py_stO]
      refine pr_needRegister ra (fun _ _ => py_and ?_) (fun c => absurd hr c)
      rw [py_nat (by omega)]
      try simp only [py_O_ap, py_l0, py_l1, py_l2, py_l3, py_l4, py_l5, py_l6, py_l7, py_l8, py_l9, py_l12, py_l16, py_l32, py_l40, py_l100, py_l640, py_l1280, py_neg, py_add, py_sub, py_mul, py_stO]
      rw [q2]
      refine pr_labelE h q1 (fun i => rfl) (py_and ?_)
      try simp only [py_O_ap, py_l0, py_l1, py_l2, py_l3, py_l4, py_l5, py_l6, py_l7, py_l8, py_l9, py_l12, py_l16, py_l32, py_l40, py_l100, py_l640, py_l1280, py_neg, py_add, py_sub, py_mul, py_stO]
      exact hK
  · have hj : ∀ K : ty_S → Int32 → Prop, K (py_O (py_st t 60 0 1)) (py_o 0) → jX5_drop_13 K (py_o a) (py_o 1) (py_O t) := fun K hK => by
      unfold jX5_drop_13
      try simp only [py_O_ap, py_l0, py_l1, py_l2, py_l3, py_l4, py_l5, py_l6, py_l7, py_l8, py_l9, py_l12, py_l16, py_l32, py_l40, py_l100, py_l640, py_l1280, py_neg, py_add, py_sub, py_mul, py_stO]
      exact py_ile (fun c => absurd c (by omega)) (fun _ => hK)
    refine ⟨s, py_st t 60 0 1, 0, (h.t60 1).mono (by omega) (by omega), fun K hK => ?_, Or.inr ⟨0, by omega, py_se, by decide, fun K KX hK => ?_⟩⟩
    · unfold eX5_drop
      try simp only [py_O_ap, py_l0, py_l1, py_l2, py_l3, py_l4, py_l5, py_l6, py_l7, py_l8, py_l9, py_l12, py_l16, py_l32, py_l40, py_l100, py_l640, py_l1280, py_neg, py_add, py_sub, py_mul, py_stO]
      exact pm_noRegister ra (fun a1 a2 => absurd ⟨a1, a2⟩ hr) (fun _ => py_ieq (fun c => absurd c (by omega)) (fun _ => hj K hK))
    · unfold eX4_drop
      try simp only [py_O_ap, py_l0, py_l1, py_l2, py_l3, py_l4, py_l5, py_l6, py_l7, py_l8, py_l9, py_l12, py_l16, py_l32, py_l40, py_l100, py_l640, py_l1280, py_neg, py_add, py_sub, py_mul, py_stO]
      exact pr_needRegister ra (fun a1 a2 => absurd ⟨a1, a2⟩ hr) (fun _ => hK)
/-- what a register's thing is, in its car -/
theorem ph_R.thing (h : ph_R s t n m) {y : Int} (hy : ph_PV t y) (h0 : 0 ≤ y) : ∃ c k : Nat, c < 40 ∧ (k : Int) < t 38 c ∧ ph_x t c k = y.toNat ∧ y.toNat < 640 ∧ 0 < t 30 y.toNat ∧ t 31 y.toNat = c ∧ t 32 y.toNat = ph_pos t c k ∧ ph_E t y = ((32 * c + ph_pos t c k : Nat) : Int) ∧ (0 ≤ t 33 y.toNat ∧ t 33 y.toNat ≤ 12) ∧ (0 ≤ t 34 y.toNat ∧ t 34 y.toNat ≤ 12) ∧ (32 * (c : Int) + ph_pos t c k + (2 + t 33 y.toNat + t 34 y.toNat) ≤ 32 * c + 32) ∧ s 0 (32 * c + ph_pos t c k + 1) = t 33 y.toNat + 16 * t 34 y.toNat ∧
    (∀ i : Nat, (i : Int) < t 33 y.toNat → s 0 (32 * c + ph_pos t c k + 2 + i) = ph_E t (t 35 (12 * y.toNat + i))) ∧ (∀ i : Nat, (i : Int) < t 34 y.toNat → s 0 (32 * c + ph_pos t c k + 2 + (t 33 y.toNat).toNat + i) = t 36 (12 * y.toNat + i)) ∧ s 0 (32 * c + ph_pos t c k) = t 30 y.toNat := by
  obtain ⟨e1, e2⟩ := hy.resolve_left (by omega)
  obtain ⟨c, k, hc, hk, g1, g2, g3, g4, g5, g6, g7⟩ := ph_live h.2.1 h.2.2.1 (x := y.toNat) (by omega) e2
  obtain ⟨w1, w2, w3, w4, w5, w6, w7⟩ := h.2.1.2.1 c k hc hk
  obtain ⟨f1, f2, f3, f4⟩ := h.2.1.fit hc hk
  rw [g1] at w2 w3 w4 w5 w6 w7 f1 f4
  refine ⟨c, k, hc, hk, g1, by omega, e2, g2, g3, ?_, w2, w3, by omega, w5, fun i hi => (w6 i hi).1, w7, w4⟩
  unfold ph_E; rw [if_neg (by omega)]; omega
theorem pr_heldThing (h : ph_R s t n m) {a : Int} {K : ty_S → Int32 → Prop} {KX : Nat → ty_S → Prop} (ra : -2147483648 ≤ a ∧ a < 2147483648) (h1 : 0 ≤ a → a < 16 → 0 ≤ t 43 a.toNat → K (py_O s) (py_o (ph_E t (t 43 a.toNat)))) (h2 : 0 ≤ a → a < 16 → t 43 a.toNat < 0 → KX 1 (py_O s)) (h0 : ¬ (0 ≤ a ∧ a < 16) → KX 0 (py_O s)) : eX4_heldThing (py_O s) (py_o a) K KX := by
  unfold eX4_heldThing
  try simp only [py_O_ap, py_l0, py_l1, py_l2, py_l3, py_l4, py_l5, py_l6, py_l7, py_l8, py_l9, py_l12, py_l16, py_l32, py_l40, py_l100, py_l640, py_l1280, py_neg, py_add, py_sub, py_mul, py_stO]
  refine pr_needRegister ra (fun a1 a2 => py_and ?_) h0
  rw [py_nat (by omega)]
  obtain ⟨q1, q2⟩ := h.pv (r := a.toNat) (by omega)
  simp only [py_O_ap, q2]
  by_cases e : 0 ≤ t 43 a.toNat
  · obtain ⟨c, k, hc, hk, g1, g2, g3, g4, g5, g6, g7⟩ := h.thing q1 e
    exact py_ieq (fun c => absurd c (by omega)) (fun _ => h1 a1 a2 e)
  · have : ph_E t (t 43 a.toNat) = -1 := by unfold ph_E; rw [if_pos (by omega)]
    rw [this]
    exact py_ieq (fun _ => h2 a1 a2 (by omega)) (fun c => absurd rfl c)
theorem pr_placeOfReference (h : ph_R s t n m) {a i : Int} {K : ty_S → Int32 → Prop} {KX : Nat → ty_S → Prop} (ra : -2147483648 ≤ a ∧ a < 2147483648) (ri : -2147483648 ≤ i ∧ i < 2147483648) (h1 : 0 ≤ a → a < 16 → 0 ≤ t 43 a.toNat → 0 ≤ i → i < t 33 (t 43 a.toNat).toNat → K (py_O s) (py_o (ph_E t (t 43 a.toNat) + 2 + i))) (h3 : 0 ≤ a → a < 16 → 0 ≤ t 43 a.toNat → ¬ (0 ≤ i ∧ i < t 33 (t 43 a.toNat).toNat) → KX 2 (py_O s)) (h2 : 0 ≤ a → a < 16 → t 43 a.toNat < 0 → KX 1 (py_O s)) (h0 : ¬ (0 ≤ a ∧ a < 16) → KX 0 (py_O s)) : eX4_placeOfReference (py_O s) (py_o a) (py_o i) K KX := by
  unfold eX4_placeOfReference
  try simp only [py_O_ap, py_l0, py_l1, py_l2, py_l3, py_l4, py_l5, py_l6, py_l7, py_l8, py_l9, py_l12, py_l16, py_l32, py_l40, py_l100, py_l640, py_l1280, py_neg, py_add, py_sub, py_mul, py_stO]
  refine pr_heldThing h ra (fun a1 a2 a3 => ?_) h2 h0
  obtain ⟨q1, q2⟩ := h.pv (r := a.toNat) (by omega)
  obtain ⟨c, k, hc, hk, g1, g2, g3, g4, g5, g6, g7, g8, g9, g10⟩ := h.thing q1 a3
  refine py_ilt (fun c => h3 a1 a2 a3 (by omega)) (fun c1 => ?_)
  refine pr_references (r := t 33 (t 43 a.toNat).toNat) (n := t 34 (t 43 a.toNat).toNat) (by omega) (by omega) ?_ (by omega) (by omega) (by omega) (by omega) ?_
  · rw [g6, show (((32 * c + ph_pos t c k : Nat) : Int) + 1).toNat = 32 * c + ph_pos t c k + 1 by omega]; exact g10.1
  · refine py_ilt (fun c2 => ?_) (fun c2 => h3 a1 a2 a3 (by omega))
    try simp only [py_O_ap, py_l0, py_l1, py_l2, py_l3, py_l4, py_l5, py_l6, py_l7, py_l8, py_l9, py_l12, py_l16, py_l32, py_l40, py_l100, py_l640, py_l1280, py_neg, py_add, py_sub, py_mul, py_stO]
    exact h1 a1 a2 a3 c1 c2
theorem pr_placeOfNumber (h : ph_R s t n m) {a i : Int} {K : ty_S → Int32 → Prop} {KX : Nat → ty_S → Prop} (ra : -2147483648 ≤ a ∧ a < 2147483648) (ri : -2147483648 ≤ i ∧ i < 2147483648) (h1 : 0 ≤ a → a < 16 → 0 ≤ t 43 a.toNat → 0 ≤ i → i < t 34 (t 43 a.toNat).toNat → K (py_O s) (py_o (ph_E t (t 43 a.toNat) + 2 + t 33 (t 43 a.toNat).toNat + i))) (h3 : 0 ≤ a → a < 16 → 0 ≤ t 43 a.toNat → ¬ (0 ≤ i ∧ i < t 34 (t 43 a.toNat).toNat) → KX 2 (py_O s)) (h2 : 0 ≤ a → a < 16 → t 43 a.toNat < 0 → KX 1 (py_O s)) (h0 : ¬ (0 ≤ a ∧ a < 16) → KX 0 (py_O s)) : eX4_placeOfNumber (py_O s) (py_o a) (py_o i) K KX := by
  unfold eX4_placeOfNumber
  try simp only [py_O_ap, py_l0, py_l1, py_l2, py_l3, py_l4, py_l5, py_l6, py_l7, py_l8, py_l9, py_l12, py_l16, py_l32, py_l40, py_l100, py_l640, py_l1280, py_neg, py_add, py_sub, py_mul, py_stO]
  refine pr_heldThing h ra (fun a1 a2 a3 => ?_) h2 h0
  obtain ⟨q1, q2⟩ := h.pv (r := a.toNat) (by omega)
  obtain ⟨c, k, hc, hk, g1, g2, g3, g4, g5, g6, g7, g8, g9, g10⟩ := h.thing q1 a3
  have hw : s 0 (ph_E t (t 43 a.toNat) + 1).toNat = t 33 (t 43 a.toNat).toNat + 16 * t 34 (t 43 a.toNat).toNat := by
    rw [g6, show (((32 * c + ph_pos t c k : Nat) : Int) + 1).toNat = 32 * c + ph_pos t c k + 1 by omega]; exact g10.1
  refine py_ilt (fun c => h3 a1 a2 a3 (by omega)) (fun c1 => ?_)
  refine pr_numbers (r := t 33 (t 43 a.toNat).toNat) (n := t 34 (t 43 a.toNat).toNat) (by omega) (by omega) hw (by omega) (by omega) (by omega) (by omega) ?_
  refine py_ilt (fun c2 => ?_) (fun c2 => h3 a1 a2 a3 (by omega))
  refine pr_references (r := t 33 (t 43 a.toNat).toNat) (n := t 34 (t 43 a.toNat).toNat) (by omega) (by omega) hw (by omega) (by omega) (by omega) (by omega) ?_
  try simp only [py_O_ap, py_l0, py_l1, py_l2, py_l3, py_l4, py_l5, py_l6, py_l7, py_l8, py_l9, py_l12, py_l16, py_l32, py_l40, py_l100, py_l640, py_l1280, py_neg, py_add, py_sub, py_mul, py_stO]
  exact h1 a1 a2 a3 c1 c2
end PC2
end
section
/-! PURE: the calls that read and write a thing -/
section PC3
variable {s t : py_Z} {n : Nat} {m : Int}
theorem ph_TH.offinj {E : Int → Int} (h : ph_TH s t E) {c k w c' k' w' : Nat} (hc : c < 40) (hk : (k : Int) < t 38 c) (hw : w < ph_sz t (ph_x t c k)) (hc' : c' < 40) (hk' : (k' : Int) < t 38 c') (hw' : w' < ph_sz t (ph_x t c' k')) (e : 32 * c + ph_pos t c k + w = 32 * c' + ph_pos t c' k' + w') : c = c' ∧ k = k' ∧ w = w' := by
  obtain ⟨f1, f2, f3, f4⟩ := h.fit hc hk
  obtain ⟨g1, g2, g3, g4⟩ := h.fit hc' hk'
  have e1 : c = c' := by omega
  subst e1
  have e2 : k = k' := by
    rcases Nat.lt_trichotomy k k' with e2 | e2 | e2
    · have := ph_pos_lt (t := t) (c := c) e2; omega
    · exact e2
    · have := ph_pos_lt (t := t) (c := c) e2; omega
  subst e2
  exact ⟨rfl, rfl, by omega⟩
theorem ph_MH.xinj (hMH : ph_MH t (-1)) {c k c' k' : Nat} (hc : c < 40) (hk : (k : Int) < t 38 c) (hc' : c' < 40) (hk' : (k' : Int) < t 38 c') (e : ph_x t c' k' = ph_x t c k) : c' = c ∧ k' = k := by
  obtain ⟨a1, a2, a3⟩ := hMH.2.2.2.1 c k hc (by omega) hk
  obtain ⟨b1, b2, b3⟩ := hMH.2.2.2.1 c' k' hc' (by omega) hk'
  rw [e] at b1 b2 b3
  have e1 : c' = c := by omega
  subst e1
  refine ⟨rfl, ?_⟩
  rcases Nat.lt_trichotomy k k' with e2 | e2 | e2
  · have := ph_pos_lt (t := t) (c := c') e2; unfold ph_sz at this; omega
  · exact e2.symm
  · have := ph_pos_lt (t := t) (c := c') e2; unfold ph_sz at this; omega
/-- one reference, or one number, of a thing is written -/
theorem ph_R.setWord (h : ph_R s t n m) {c k i g : Nat} {y v : Int} (hc : c < 40) (hk : (k : Int) < t 38 c) (hg : (g = 35 ∧ (i : Int) < t 33 (ph_x t c k) ∧ ph_PV t y ∧ v = ph_E t y) ∨ (g = 36 ∧ (i : Int) < t 34 (ph_x t c k) ∧ v = y)) : ph_R (py_st s 0 (if g = 35 then 32 * c + ph_pos t c k + 2 + i else 32 * c + ph_pos t c k + 2 + (t 33 (ph_x t c k)).toNat + i) v) (py_st t g (12 * ph_x t c k + i) y) n m := by
  obtain ⟨b1, b2, b3, b4, b5, b6, b7, b8, b9, b10⟩ := h
  obtain ⟨w1, w2, w3, w4, w5, w6, w7⟩ := b2.2.1 c k hc hk
  obtain ⟨f1, f2, f3, f4⟩ := b2.fit hc hk
  generalize hP : (if g = 35 then 32 * c + ph_pos t c k + 2 + i else 32 * c + ph_pos t c k + 2 + (t 33 (ph_x t c k)).toNat + i) = P
  have hoff : ∃ o : Nat, P = 32 * c + ph_pos t c k + o ∧ 2 ≤ o ∧ o < ph_sz t (ph_x t c k) ∧ (g = 35 → o = 2 + i) ∧ (g = 36 → o = 2 + (t 33 (ph_x t c k)).toNat + i) := by
    rcases hg with ⟨e1, e2, e3, e4⟩ | ⟨e1, e2, e3⟩
    · rw [if_pos e1] at hP
      exact ⟨2 + i, by omega, by omega, by omega, fun _ => rfl, fun e => by omega⟩
    · rw [if_neg (by omega)] at hP
      exact ⟨2 + (t 33 (ph_x t c k)).toNat + i, by omega, by omega, by omega, fun e => by omega, fun _ => rfl⟩
  obtain ⟨o, o1, o2, o3, o4, o5⟩ := hoff
  have hi12 : i < 12 := by omega
  have e : ∀ g' j, g' ≠ g → py_st t g (12 * ph_x t c k + i) y g' j = t g' j := fun g' j h1 => py_sn h1
  have eo : ∀ g' j, (g' = 30 ∨ g' = 31 ∨ g' = 32 ∨ g' = 33 ∨ g' = 34 ∨ (37 ≤ g')) → py_st t g (12 * ph_x t c k + i) y g' j = t g' j := fun g' j h1 => e g' j (by omega)
  have es : ∀ g' j, g' ≠ 0 → py_st s 0 P v g' j = s g' j := fun g' j h1 => py_sn h1
  have hE : ph_E (py_st t g (12 * ph_x t c k + i) y) = ph_E t := ph_E_congr (fun x => eo 31 x (by omega)) (fun x => eo 32 x (by omega))
  have e35 : ∀ x j : Nat, j < 12 → (x ≠ ph_x t c k ∨ j ≠ i ∨ g ≠ 35) → py_st t g (12 * ph_x t c k + i) y 35 (12 * x + j) = t 35 (12 * x + j) := fun x j hj hne => by
    by_cases h1 : g = 35
    · subst h1; exact py_sj (by omega)
    · exact e 35 _ (by omega)
  have e36 : ∀ x j : Nat, j < 12 → (x ≠ ph_x t c k ∨ j ≠ i ∨ g ≠ 36) → py_st t g (12 * ph_x t c k + i) y 36 (12 * x + j) = t 36 (12 * x + j) := fun x j hj hne => by
    by_cases h1 : g = 36
    · subst h1; exact py_sj (by omega)
    · exact e 36 _ (by omega)
  have ev : py_st t g (12 * ph_x t c k + i) y g (12 * ph_x t c k + i) = y := py_se
  have hPV : ∀ z : Int, ph_PV t z → ph_PV (py_st t g (12 * ph_x t c k + i) y) z := fun z hz => by
    unfold ph_PV at hz ⊢
    rw [eo 30 _ (by omega)]; exact hz
  generalize py_st t g (12 * ph_x t c k + i) y = t' at *
  have s0P : py_st s 0 P v 0 P = v := py_se
  have s0n : ∀ q, q ≠ P → py_st s 0 P v 0 q = s 0 q := fun q hq => py_sj hq
  generalize py_st s 0 P v = s' at *
  have ex : ∀ c k, ph_x t' c k = ph_x t c k := fun c k => by unfold ph_x; rw [eo 39 _ (by omega)]
  have ep : ∀ c k, ph_pos t' c k = ph_pos t c k := fun c k => ph_pos_congr k (fun m _ => ⟨ex c m, by unfold ph_sz; rw [eo 33 _ (by omega), eo 34 _ (by omega)]⟩)
  refine ⟨b1.congr (fun i => es 5 i (by decide)) (fun i => es 6 i (by decide)) (es 13 0 (by decide)) (es 14 0 (by decide)) (eo 50 0 (by omega)) (eo 57 0 (by omega)) (fun i => eo 40 i (by omega)) (fun i => eo 41 i (by omega)) (fun i => eo 42 i (by omega)), ?_, ?_, fun q hq => ?_, ?_, ?_, ?_, ?_, ?_, ?_⟩
  · rw [hE]
    refine ⟨fun d hd => ?_, fun d l hd hl => ?_, fun p hp => ?_⟩
    · obtain ⟨d1, d2, d3, d4, d5, d6, d7, d8⟩ := b2.1 d hd
      refine ⟨by rw [es 3 d (by decide), eo 38 d (by omega)]; exact d1, by rw [es 2 d (by decide), eo 37 d (by omega)]; exact d2, by rw [eo 38 d (by omega)]; exact d3, by rw [eo 37 d (by omega), eo 38 d (by omega), ep]; exact d4, by rw [eo 37 d (by omega)]; exact d5, by rw [es 6 d (by decide), eo 38 d (by omega)]; exact d6, by rw [eo 38 d (by omega), es 4 d (by decide), ep]; exact d7, fun w hw hu => ?_⟩
      rw [eo 37 d (by omega)] at hu
      rw [s0n _ (fun e9 => by
        by_cases e10 : d = c
        · subst e10; omega
        · omega)]
      exact d8 w hw hu
    · rw [eo 38 d (by omega)] at hl
      obtain ⟨v1, v2, v3, v4, v5, v6, v7⟩ := b2.2.1 d l hd hl
      obtain ⟨k1, k2, k3, k4⟩ := b2.fit hd hl
      have hother : ∀ w : Nat, w < ph_sz t (ph_x t d l) → (d ≠ c ∨ l ≠ k ∨ w ≠ o) → s' 0 (32 * d + ph_pos t d l + w) = s 0 (32 * d + ph_pos t d l + w) := fun w hw hne => s0n _ (fun e9 => by
        rw [o1] at e9
        obtain ⟨q1, q2, q3⟩ := b2.offinj hd hl hw hc hk o3 e9
        omega)
      unfold ph_W
      simp only [ex, ep]
      rw [eo 39 _ (by omega), eo 33 _ (by omega), eo 34 _ (by omega), eo 30 _ (by omega)]
      refine ⟨v1, v2, v3, ?_, ?_, fun j hj => ⟨?_, ?_⟩, fun j hj => ?_⟩
      · have := hother 0 (by omega) (by omega)
        simp only [Nat.add_zero] at this
        rw [this]; exact v4
      · rw [hother 1 (by omega) (by omega)]; exact v5
      · by_cases e9 : d = c ∧ l = k ∧ j = i ∧ g = 35
        · obtain ⟨q1, q2, q3, q4⟩ := e9
          subst q1; subst q2; subst q3; subst q4
          rw [ev, show 32 * d + ph_pos t d l + 2 + j = P by rw [o1, o4 rfl]; omega, s0P]
          rcases hg with ⟨z1, z2, z3, z4⟩ | ⟨z1, z2, z3⟩
          · exact z4
          · omega
        · have h1 : ph_x t d l ≠ ph_x t c k ∨ j ≠ i ∨ g ≠ 35 := by
            by_cases e10 : ph_x t d l = ph_x t c k
            · obtain ⟨q1, q2⟩ := b3.xinj hc hk hd hl e10
              omega
            · exact Or.inl e10
          rw [e35 _ j (by omega) h1, show 32 * d + ph_pos t d l + 2 + j = 32 * d + ph_pos t d l + (2 + j) by omega, hother (2 + j) (by omega) (by
            by_cases e11 : d = c ∧ l = k
            · obtain ⟨q1, q2⟩ := e11
              subst q1; subst q2
              rcases hg with ⟨z1, z2, z3, z4⟩ | ⟨z1, z2, z3⟩
              · have := o4 z1; omega
              · have := o5 z1; omega
            · omega)]
          rw [show 32 * d + ph_pos t d l + (2 + j) = 32 * d + ph_pos t d l + 2 + j by omega]
          exact (v6 j hj).1
      · rw [es 1 _ (by decide)]; exact (v6 j hj).2
      · by_cases e9 : d = c ∧ l = k ∧ j = i ∧ g = 36
        · obtain ⟨q1, q2, q3, q4⟩ := e9
          subst q1; subst q2; subst q3; subst q4
          rw [ev, show 32 * d + ph_pos t d l + 2 + (t 33 (ph_x t d l)).toNat + j = P by rw [o1, o5 rfl]; omega, s0P]
          rcases hg with ⟨z1, z2, z3, z4⟩ | ⟨z1, z2, z3⟩
          · omega
          · exact z3
        · have h1 : ph_x t d l ≠ ph_x t c k ∨ j ≠ i ∨ g ≠ 36 := by
            by_cases e10 : ph_x t d l = ph_x t c k
            · obtain ⟨q1, q2⟩ := b3.xinj hc hk hd hl e10
              omega
            · exact Or.inl e10
          rw [e36 _ j (by omega) h1, show 32 * d + ph_pos t d l + 2 + (t 33 (ph_x t d l)).toNat + j = 32 * d + ph_pos t d l + (2 + (t 33 (ph_x t d l)).toNat + j) by omega, hother (2 + (t 33 (ph_x t d l)).toNat + j) (by omega) (by
            by_cases e11 : d = c ∧ l = k
            · obtain ⟨q1, q2⟩ := e11
              subst q1; subst q2
              rcases hg with ⟨z1, z2, z3, z4⟩ | ⟨z1, z2, z3⟩
              · have := o4 z1; omega
              · have := o5 z1; omega
            · omega)]
          rw [show 32 * d + ph_pos t d l + (2 + (t 33 (ph_x t d l)).toNat + j) = 32 * d + ph_pos t d l + 2 + (t 33 (ph_x t d l)).toNat + j by omega]
          exact v7 j hj
    · have := b2.2.2 p hp
      rw [es 1 p (by decide)]
      simp only [ex, ep, eo 38 _ (show (38 = 30 ∨ 38 = 31 ∨ 38 = 32 ∨ 38 = 33 ∨ 38 = 34 ∨ 37 ≤ 38) by omega), eo 33 _ (show (33 = 30 ∨ 33 = 31 ∨ 33 = 32 ∨ 33 = 33 ∨ 33 = 34 ∨ 37 ≤ 33) by omega)]
      exact this
  · refine ⟨by rw [eo 58 0 (by omega)]; exact b3.1, fun x hx => by rw [eo 30 x (by omega), eo 58 0 (by omega)]; exact b3.2.1 x hx, fun x hx hl => ?_, fun d l hd he hl => ?_, fun r hr => by rw [eo 43 r (by omega)]; exact hPV _ (b3.2.2.2.2.1 r hr), fun x hx hl j hj => ?_⟩
    · rw [eo 30 x (by omega)] at hl
      obtain ⟨d, l, hd, hl2, g1, g2, g3⟩ := b3.2.2.1 x hx hl
      exact ⟨d, l, hd, by rw [eo 38 d (by omega)]; exact hl2, by rw [ex]; exact g1, by rw [eo 31 x (by omega)]; exact g2, by rw [eo 32 x (by omega), ep]; exact g3⟩
    · rw [eo 38 d (by omega)] at hl
      rw [ex, ep, eo 30 _ (by omega), eo 31 _ (by omega), eo 32 _ (by omega)]
      exact b3.2.2.2.1 d l hd he hl
    · rw [eo 30 x (by omega)] at hl
      rw [eo 33 x (by omega)] at hj
      obtain ⟨c', k', hc', hk', g1, g2, g3, g4, g5, g6, g7⟩ := ph_live b2 b3 hx hl
      by_cases e9 : x = ph_x t c k ∧ j = i ∧ g = 35
      · obtain ⟨q1, q2, q3⟩ := e9
        subst q1; subst q2; subst q3
        rw [ev]
        rcases hg with ⟨z1, z2, z3, z4⟩ | ⟨z1, z2, z3⟩
        · exact hPV _ z3
        · omega
      · rw [e35 x j (by omega) (by omega)]
        exact hPV _ (b3.2.2.2.2.2 x hx hl j hj)
  · rw [hE, es 7 q (by decide), eo 43 q (by omega)]; exact b4 q hq
  · rw [es 20 0 (by decide), eo 59 0 (by omega)]; exact b5
  · rw [es 15 0 (by decide), es 16 0 (by decide), es 17 0 (by decide), es 18 0 (by decide), es 19 0 (by decide), eo 52 0 (by omega), eo 53 0 (by omega), eo 54 0 (by omega), eo 55 0 (by omega), eo 56 0 (by omega)]; exact b6
  · rw [es 23 0 (by decide), eo 51 0 (by omega)]; exact b7
  · rw [es 24 0 (by decide), eo 58 0 (by omega)]; exact b8
  · rw [eo 57 0 (by omega)]; exact b9
  · rw [es 26 0 (by decide)]; exact ⟨b10.1, b10.2.1, fun p hp => by rw [es 10 p (by decide)]; exact b10.2.2 p hp⟩
end PC3
end
section
/-! PURE: set, get, label, put, number, thing, word -/
theorem py_stc {t : py_Z} {f g i j : Nat} {v w : Int} (h : f ≠ g) : py_st (py_st t f i v) g j w = py_st (py_st t g j w) f i v := by
  funext a b
  simp only [py_st]
  grind
section PC4
variable {s t : py_Z} {n : Nat} {m : Int}
def py_code3 (k : Nat) : Int := if k = 0 then 1 else if k = 1 then 2 else 3
theorem ph_thr (h : ph_R s t n m) {v : Int} {k : Nat} {code : Nat → Int} (hk : k < 3) (hv : v = code k) (hv2 : 1 ≤ code k ∧ code k ≤ 3) {P : (ty_S → Int32 → Prop) → (Nat → ty_S → Prop) → Prop} {M : (ty_S → Int32 → Prop) → Prop} (hP : ∀ (K : ty_S → Int32 → Prop) (KX : Nat → ty_S → Prop), KX k (py_O s) → P K KX) (hM : ∀ K : ty_S → Int32 → Prop, K (py_O (py_st t 60 0 v)) (py_o 0) → M K) : ph_Out P M code (n + 1) (m + 101) :=
  ⟨s, py_st t 60 0 v, 0, (h.t60 v).mono (by omega) (by omega), hM, Or.inr ⟨k, hk, by rw [py_se]; exact hv, hv2, hP⟩⟩
theorem ph_ret (h : ph_R s t n m) {r : Int} {code : Nat → Int} {P : (ty_S → Int32 → Prop) → (Nat → ty_S → Prop) → Prop} {M : (ty_S → Int32 → Prop) → Prop} (hP : ∀ (K : ty_S → Int32 → Prop) (KX : Nat → ty_S → Prop), K (py_O s) (py_o r) → P K KX) (hM : ∀ K : ty_S → Int32 → Prop, K (py_O (py_st t 60 0 0)) (py_o r) → M K) : ph_Out P M code (n + 1) (m + 101) :=
  ⟨s, py_st t 60 0 0, r, (h.t60 0).mono (by omega) (by omega), hM, Or.inl ⟨py_se, hP⟩⟩
/-- a reference of a register's thing, on both sides -/
theorem ph_R.refAt (h : ph_R s t n m) {a i : Int} (ha : 0 ≤ a ∧ a < 16) (h43 : 0 ≤ t 43 a.toNat) (hi : 0 ≤ i ∧ i < t 33 (t 43 a.toNat).toNat) : t 43 a.toNat < 640 ∧ t 33 (t 43 a.toNat).toNat ≤ 12 ∧ (12 * t 43 a.toNat + i).toNat = 12 * (t 43 a.toNat).toNat + i.toNat ∧ ph_PV t (t 35 (12 * (t 43 a.toNat).toNat + i.toNat)) ∧
    (0 ≤ ph_E t (t 43 a.toNat) + 2 + i ∧ ph_E t (t 43 a.toNat) + 2 + i < 1280) ∧ s 0 (ph_E t (t 43 a.toNat) + 2 + i).toNat = ph_E t (t 35 (12 * (t 43 a.toNat).toNat + i.toNat)) ∧ ∃ c k : Nat, c < 40 ∧ (k : Int) < t 38 c ∧ ph_x t c k = (t 43 a.toNat).toNat ∧ (ph_E t (t 43 a.toNat) + 2 + i).toNat = 32 * c + ph_pos t c k + 2 + i.toNat := by
  obtain ⟨q1, q2⟩ := h.pv (r := a.toNat) (by omega)
  obtain ⟨c, k, hc, hk, g1, g2, g3, g4, g5, g6, g7, g8, g9, g10, g11, g12, g13⟩ := h.thing q1 h43
  have e1 : (ph_E t (t 43 a.toNat) + 2 + i).toNat = 32 * c + ph_pos t c k + 2 + i.toNat := by omega
  refine ⟨by omega, g7.2, by omega, h.2.2.1.2.2.2.2.2 _ g2 g3 i.toNat (by omega), by omega, ?_, c, k, hc, hk, g1, e1⟩
  rw [e1, g11 i.toNat (by omega)]
theorem ph_callSet (h : ph_R s t n m) {a i b : Int} (ra : -2147483648 ≤ a ∧ a < 2147483648) (ri : -2147483648 ≤ i ∧ i < 2147483648) (rb : -2147483648 ≤ b ∧ b < 2147483648) : ph_Out (fun K KX => eX4_set (py_O s) (py_o a) (py_o i) (py_o b) K KX) (fun K => eX5_set (py_O t) (py_o a) (py_o i) (py_o b) K) py_code3 (n + 1) (m + 101) := by
  have hthr : ∀ (v : Int), 0 < v → v < 10 → ∀ K : ty_S → Int32 → Prop, K (py_O (py_st t 60 0 v)) (py_o 0) → jX5_set_56 K (py_o a) (py_o i) (py_o b) (py_o v) (py_O t) := fun v h1 h2 K hK => by
    unfold jX5_set_56
    try simp only [py_O_ap, py_l0, py_l1, py_l2, py_l3, py_l4, py_l5, py_l6, py_l7, py_l8, py_l9, py_l12, py_l16, py_l32, py_l40, py_l100, py_l640, py_l1280, py_neg, py_add, py_sub, py_mul, py_stO]
    exact py_ile (fun c => absurd c (by omega)) (fun _ => hK)
  by_cases hab : (0 ≤ a ∧ a < 16) ∧ 0 ≤ b ∧ b < 16
  · obtain ⟨q1, q2⟩ := h.pv (r := a.toNat) (by omega)
    obtain ⟨qb1, qb2⟩ := h.pv (r := b.toNat) (by omega)
    have hM0 : ∀ K : ty_S → Int32 → Prop, (if py_o 0 ≤ py_o (t 43 a.toNat) then (if py_o i < py_o 0 then jX5_set_51 K (py_o a) (py_o i) (py_o b) (py_O t) else (vp_in (py_o a) 16 ∧ (vp_in (py_o (t 43 a.toNat)) 640 ∧ (if py_o i < py_o (t 33 (py_o (t 43 a.toNat)).toNatClampNeg) then jX5_set_56 K (py_o a) (py_o i) (py_o b) (py_o 0) (py_O t) else jX5_set_51 K (py_o a) (py_o i) (py_o b) (py_O t))))) else jX5_set_56 K (py_o a) (py_o i) (py_o b) (py_o 2) (py_O t)) → eX5_set (py_O t) (py_o a) (py_o i) (py_o b) K := fun K hK => by
      unfold eX5_set
      try simp only [py_O_ap, py_l0, py_l1, py_l2, py_l3, py_l4, py_l5, py_l6, py_l7, py_l8, py_l9, py_l12, py_l16, py_l32, py_l40, py_l100, py_l640, py_l1280, py_neg, py_add, py_sub, py_mul, py_stO]
      refine pm_noRegister ra (fun _ _ => ?_) (fun c => absurd hab.1 c)
      refine py_ieq (fun _ => ?_) (fun c => absurd rfl c)
      refine pm_noRegister rb (fun _ _ => ?_) (fun c => absurd hab.2 c)
      refine py_ieq (fun _ => py_and ?_) (fun c => absurd rfl c)
      rw [py_nat (by omega)]
      exact hK
    by_cases h43 : 0 ≤ t 43 a.toNat
    · obtain ⟨c0, k0, hc0, hk0, g1, g2, g3, g4, g5, g6, g7, g8, g9⟩ := h.thing q1 h43
      by_cases hi : 0 ≤ i ∧ i < t 33 (t 43 a.toNat).toNat
      · obtain ⟨r1, r2, r3, r4, r5, r6, c, k, hc, hk, r7, r8⟩ := h.refAt hab.1 h43 hi
        have hR := (h.setWord (g := 35) (i := i.toNat) (y := t 43 b.toNat) (v := ph_E t (t 43 b.toNat)) hc hk (Or.inl ⟨rfl, by rw [r7]; omega, qb1, rfl⟩)).t60 0
        rw [if_pos rfl, r7, ← r8] at hR
        refine ⟨_, _, if t 35 (12 * (t 43 a.toNat).toNat + i.toNat) < 0 then 0 else t 30 (t 35 (12 * (t 43 a.toNat).toNat + i.toNat)).toNat, hR.mono (by omega) (by omega), fun K hK => hM0 K ?_, Or.inl ⟨py_se, fun K KX hK => ?_⟩⟩
        · refine py_ile (fun _ => ?_) (fun c => absurd c (by omega))
          refine py_ilt (fun c => absurd c (by omega)) (fun _ => py_and (py_and ?_))
          rw [py_nat (by omega)]
          refine py_ilt (fun _ => ?_) (fun c => absurd c (by omega))
          unfold jX5_set_56
          try simp only [py_O_ap, py_l0, py_l1, py_l2, py_l3, py_l4, py_l5, py_l6, py_l7, py_l8, py_l9, py_l12, py_l16, py_l32, py_l40, py_l100, py_l640, py_l1280, py_neg, py_add, py_sub, py_mul, py_stO]
          rw [if_pos (Int32.le_refl _)]
          refine py_and ?_
          rw [py_nat (by omega)]
          try simp only [py_O_ap, py_l0, py_l1, py_l2, py_l3, py_l4, py_l5, py_l6, py_l7, py_l8, py_l9, py_l12, py_l16, py_l32, py_l40, py_l100, py_l640, py_l1280, py_neg, py_add, py_sub, py_mul, py_stO]
          refine py_and ?_
          rw [py_nat (by omega), r3]
          refine pm_labelOf h r4 (fun i => py_sn (by decide)) (py_and ?_)
          rw [py_nat (by omega)]
          try simp only [py_O_ap, py_l0, py_l1, py_l2, py_l3, py_l4, py_l5, py_l6, py_l7, py_l8, py_l9, py_l12, py_l16, py_l32, py_l40, py_l100, py_l640, py_l1280, py_neg, py_add, py_sub, py_mul, py_stO]
          refine py_and ?_
          rw [py_sn (by decide), py_stc (by decide)]
          exact hK
        · unfold eX4_set
          try simp only [py_O_ap, py_l0, py_l1, py_l2, py_l3, py_l4, py_l5, py_l6, py_l7, py_l8, py_l9, py_l12, py_l16, py_l32, py_l40, py_l100, py_l640, py_l1280, py_neg, py_add, py_sub, py_mul, py_stO]
          refine pr_needRegister rb (fun _ _ => ?_) (fun c => absurd hab.2 c)
          refine pr_placeOfReference h ra ri (fun _ _ _ _ _ => ?_) (fun _ _ _ c => absurd hi c) (fun _ _ c => absurd c (by omega)) (fun c => absurd hab.1 c)
          refine pr_at (fun _ _ => ?_) (fun c => absurd c (by omega))
          rw [r6]
          refine pr_labelE h r4 (fun i => rfl) (py_and ?_)
          rw [py_nat (by omega)]
          try simp only [py_O_ap, py_l0, py_l1, py_l2, py_l3, py_l4, py_l5, py_l6, py_l7, py_l8, py_l9, py_l12, py_l16, py_l32, py_l40, py_l100, py_l640, py_l1280, py_neg, py_add, py_sub, py_mul, py_stO]
          rw [qb2]
          exact pr_write (fun _ _ => hK) (fun c => absurd c (by omega))
      · refine ph_thr h (k := 2) (v := 3) (by omega) rfl (by decide) (fun K KX hK => ?_) (fun K hK => hM0 K ?_)
        · unfold eX4_set
          try simp only [py_O_ap, py_l0, py_l1, py_l2, py_l3, py_l4, py_l5, py_l6, py_l7, py_l8, py_l9, py_l12, py_l16, py_l32, py_l40, py_l100, py_l640, py_l1280, py_neg, py_add, py_sub, py_mul, py_stO]
          refine pr_needRegister rb (fun _ _ => ?_) (fun c => absurd hab.2 c)
          exact pr_placeOfReference h ra ri (fun _ _ _ a1 a2 => absurd ⟨a1, a2⟩ hi) (fun _ _ _ _ => hK) (fun _ _ c => absurd c (by omega)) (fun c => absurd hab.1 c)
        · have hj : jX5_set_51 K (py_o a) (py_o i) (py_o b) (py_O t) := hthr 3 (by omega) (by omega) K hK
          refine py_ile (fun _ => ?_) (fun c => absurd c (by omega))
          refine py_ilt (fun _ => hj) (fun _ => py_and (py_and ?_))
          rw [py_nat (by omega)]
          exact py_ilt (fun c => absurd ⟨by omega, c⟩ hi) (fun _ => hj)
    · have h43b : -1 ≤ t 43 a.toNat := by rcases q1 with e | ⟨e, _⟩ <;> omega
      refine ph_thr h (k := 1) (v := 2) (by omega) rfl (by decide) (fun K KX hK => ?_) (fun K hK => hM0 K ?_)
      · unfold eX4_set
        try simp only [py_O_ap, py_l0, py_l1, py_l2, py_l3, py_l4, py_l5, py_l6, py_l7, py_l8, py_l9, py_l12, py_l16, py_l32, py_l40, py_l100, py_l640, py_l1280, py_neg, py_add, py_sub, py_mul, py_stO]
        refine pr_needRegister rb (fun _ _ => ?_) (fun c => absurd hab.2 c)
        exact pr_placeOfReference h ra ri (fun _ _ c _ _ => absurd c h43) (fun _ _ c _ => absurd c h43) (fun _ _ _ => hK) (fun c => absurd hab.1 c)
      · exact py_ile (fun c => absurd c h43) (fun _ => hthr 2 (by omega) (by omega) K hK)
  · refine ph_thr h (k := 0) (v := 1) (by omega) rfl (by decide) (fun K KX hK => ?_) (fun K hK => ?_)
    · unfold eX4_set
      try simp only [py_O_ap, py_l0, py_l1, py_l2, py_l3, py_l4, py_l5, py_l6, py_l7, py_l8, py_l9, py_l12, py_l16, py_l32, py_l40, py_l100, py_l640, py_l1280, py_neg, py_add, py_sub, py_mul, py_stO]
      refine pr_needRegister rb (fun b1 b2 => ?_) (fun _ => hK)
      exact pr_placeOfReference h ra ri (fun a1 a2 _ _ _ => absurd ⟨⟨a1, a2⟩, b1, b2⟩ hab) (fun a1 a2 _ _ => absurd ⟨⟨a1, a2⟩, b1, b2⟩ hab) (fun a1 a2 _ => absurd ⟨⟨a1, a2⟩, b1, b2⟩ hab) (fun _ => hK)
    · have hj : jX5_set_15 K (py_o a) (py_o i) (py_o b) (py_O t) := hthr 1 (by omega) (by omega) K hK
      unfold eX5_set
      try simp only [py_O_ap, py_l0, py_l1, py_l2, py_l3, py_l4, py_l5, py_l6, py_l7, py_l8, py_l9, py_l12, py_l16, py_l32, py_l40, py_l100, py_l640, py_l1280, py_neg, py_add, py_sub, py_mul, py_stO]
      refine pm_noRegister ra (fun a1 a2 => ?_) (fun _ => py_ieq (fun c => absurd c (by omega)) (fun _ => hj))
      refine py_ieq (fun _ => ?_) (fun c => absurd rfl c)
      exact pm_noRegister rb (fun b1 b2 => absurd ⟨⟨a1, a2⟩, b1, b2⟩ hab) (fun _ => py_ieq (fun c => absurd c (by omega)) (fun _ => hj))
theorem ph_callGet (h : ph_R s t n m) {b a i : Int} (rb : -2147483648 ≤ b ∧ b < 2147483648) (ra : -2147483648 ≤ a ∧ a < 2147483648) (ri : -2147483648 ≤ i ∧ i < 2147483648) : ph_Out (fun K KX => eX4_get (py_O s) (py_o b) (py_o a) (py_o i) K KX) (fun K => eX5_get (py_O t) (py_o b) (py_o a) (py_o i) K) py_code3 (n + 1) (m + 101) := by
  have hthr : ∀ (v : Int), 0 < v → v < 10 → ∀ K : ty_S → Int32 → Prop, K (py_O (py_st t 60 0 v)) (py_o 0) → jX5_get_56 K (py_o b) (py_o a) (py_o i) (py_o v) (py_O t) := fun v h1 h2 K hK => by
    unfold jX5_get_56
    try simp only [py_O_ap, py_l0, py_l1, py_l2, py_l3, py_l4, py_l5, py_l6, py_l7, py_l8, py_l9, py_l12, py_l16, py_l32, py_l40, py_l100, py_l640, py_l1280, py_neg, py_add, py_sub, py_mul, py_stO]
    exact py_ile (fun c => absurd c (by omega)) (fun _ => hK)
  by_cases hab : (0 ≤ a ∧ a < 16) ∧ 0 ≤ b ∧ b < 16
  · obtain ⟨q1, q2⟩ := h.pv (r := a.toNat) (by omega)
    have hM0 : ∀ K : ty_S → Int32 → Prop, (if py_o 0 ≤ py_o (t 43 a.toNat) then (if py_o i < py_o 0 then jX5_get_51 K (py_o b) (py_o a) (py_o i) (py_O t) else (vp_in (py_o a) 16 ∧ (vp_in (py_o (t 43 a.toNat)) 640 ∧ (if py_o i < py_o (t 33 (py_o (t 43 a.toNat)).toNatClampNeg) then jX5_get_56 K (py_o b) (py_o a) (py_o i) (py_o 0) (py_O t) else jX5_get_51 K (py_o b) (py_o a) (py_o i) (py_O t))))) else jX5_get_56 K (py_o b) (py_o a) (py_o i) (py_o 2) (py_O t)) → eX5_get (py_O t) (py_o b) (py_o a) (py_o i) K := fun K hK => by
      unfold eX5_get
      try simp only [py_O_ap, py_l0, py_l1, py_l2, py_l3, py_l4, py_l5, py_l6, py_l7, py_l8, py_l9, py_l12, py_l16, py_l32, py_l40, py_l100, py_l640, py_l1280, py_neg, py_add, py_sub, py_mul, py_stO]
      refine pm_noRegister rb (fun _ _ => ?_) (fun c => absurd hab.2 c)
      refine py_ieq (fun _ => ?_) (fun c => absurd rfl c)
      refine pm_noRegister ra (fun _ _ => ?_) (fun c => absurd hab.1 c)
      refine py_ieq (fun _ => py_and ?_) (fun c => absurd rfl c)
      rw [py_nat (by omega)]
      exact hK
    by_cases h43 : 0 ≤ t 43 a.toNat
    · obtain ⟨c0, k0, hc0, hk0, g1, g2, g3, g4, g5, g6, g7, g8, g9⟩ := h.thing q1 h43
      by_cases hi : 0 ≤ i ∧ i < t 33 (t 43 a.toNat).toNat
      · obtain ⟨r1, r2, r3, r4, r5, r6, c, k, hc, hk, r7, r8⟩ := h.refAt hab.1 h43 hi
        have hR := (h.setReg (r := b.toNat) (by omega) r4).t60 0
        refine ⟨_, _, if t 35 (12 * (t 43 a.toNat).toNat + i.toNat) < 0 then 0 else t 30 (t 35 (12 * (t 43 a.toNat).toNat + i.toNat)).toNat, hR.mono (by omega) (by omega), fun K hK => hM0 K ?_, Or.inl ⟨py_se, fun K KX hK => ?_⟩⟩
        · refine py_ile (fun _ => ?_) (fun c => absurd c (by omega))
          refine py_ilt (fun c => absurd c (by omega)) (fun _ => py_and (py_and ?_))
          rw [py_nat (by omega)]
          refine py_ilt (fun _ => ?_) (fun c => absurd c (by omega))
          unfold jX5_get_56
          try simp only [py_O_ap, py_l0, py_l1, py_l2, py_l3, py_l4, py_l5, py_l6, py_l7, py_l8, py_l9, py_l12, py_l16, py_l32, py_l40, py_l100, py_l640, py_l1280, py_neg, py_add, py_sub, py_mul, py_stO]
          rw [if_pos (Int32.le_refl _)]
          refine py_and ?_
          rw [py_nat (by omega), py_nat (by omega)]
          try simp only [py_O_ap, py_l0, py_l1, py_l2, py_l3, py_l4, py_l5, py_l6, py_l7, py_l8, py_l9, py_l12, py_l16, py_l32, py_l40, py_l100, py_l640, py_l1280, py_neg, py_add, py_sub, py_mul, py_stO]
          refine py_and (py_and (py_and ?_))
          rw [py_nat (by omega), r3]
          try simp only [py_O_ap, py_l0, py_l1, py_l2, py_l3, py_l4, py_l5, py_l6, py_l7, py_l8, py_l9, py_l12, py_l16, py_l32, py_l40, py_l100, py_l640, py_l1280, py_neg, py_add, py_sub, py_mul, py_stO]
          rw [py_se]
          refine pm_labelOf h r4 (fun i => by rw [py_sn (by decide), py_sn (by decide)]) ?_
          rw [py_stc (by decide)]
          exact hK
        · unfold eX4_get
          try simp only [py_O_ap, py_l0, py_l1, py_l2, py_l3, py_l4, py_l5, py_l6, py_l7, py_l8, py_l9, py_l12, py_l16, py_l32, py_l40, py_l100, py_l640, py_l1280, py_neg, py_add, py_sub, py_mul, py_stO]
          refine pr_needRegister rb (fun _ _ => ?_) (fun c => absurd hab.2 c)
          refine pr_placeOfReference h ra ri (fun _ _ _ _ _ => ?_) (fun _ _ _ c => absurd hi c) (fun _ _ c => absurd c (by omega)) (fun c => absurd hab.1 c)
          refine pr_at (fun _ _ => py_and (py_and ?_)) (fun c => absurd c (by omega))
          rw [py_nat (by omega), r6]
          try simp only [py_O_ap, py_l0, py_l1, py_l2, py_l3, py_l4, py_l5, py_l6, py_l7, py_l8, py_l9, py_l12, py_l16, py_l32, py_l40, py_l100, py_l640, py_l1280, py_neg, py_add, py_sub, py_mul, py_stO]
          rw [py_se]
          exact pr_labelE h r4 (fun i => py_sn (by decide)) hK
      · refine ph_thr h (k := 2) (v := 3) (by omega) rfl (by decide) (fun K KX hK => ?_) (fun K hK => hM0 K ?_)
        · unfold eX4_get
          try simp only [py_O_ap, py_l0, py_l1, py_l2, py_l3, py_l4, py_l5, py_l6, py_l7, py_l8, py_l9, py_l12, py_l16, py_l32, py_l40, py_l100, py_l640, py_l1280, py_neg, py_add, py_sub, py_mul, py_stO]
          refine pr_needRegister rb (fun _ _ => ?_) (fun c => absurd hab.2 c)
          exact pr_placeOfReference h ra ri (fun _ _ _ a1 a2 => absurd ⟨a1, a2⟩ hi) (fun _ _ _ _ => hK) (fun _ _ c => absurd c (by omega)) (fun c => absurd hab.1 c)
        · have hj : jX5_get_51 K (py_o b) (py_o a) (py_o i) (py_O t) := hthr 3 (by omega) (by omega) K hK
          refine py_ile (fun _ => ?_) (fun c => absurd c (by omega))
          refine py_ilt (fun _ => hj) (fun _ => py_and (py_and ?_))
          rw [py_nat (by omega)]
          exact py_ilt (fun c => absurd ⟨by omega, c⟩ hi) (fun _ => hj)
    · have h43b : -1 ≤ t 43 a.toNat := by rcases q1 with e | ⟨e, _⟩ <;> omega
      refine ph_thr h (k := 1) (v := 2) (by omega) rfl (by decide) (fun K KX hK => ?_) (fun K hK => hM0 K ?_)
      · unfold eX4_get
        try simp only [py_O_ap, py_l0, py_l1, py_l2, py_l3, py_l4, py_l5, py_l6, py_l7, py_l8, py_l9, py_l12, py_l16, py_l32, py_l40, py_l100, py_l640, py_l1280, py_neg, py_add, py_sub, py_mul, py_stO]
        refine pr_needRegister rb (fun _ _ => ?_) (fun c => absurd hab.2 c)
        exact pr_placeOfReference h ra ri (fun _ _ c _ _ => absurd c h43) (fun _ _ c _ => absurd c h43) (fun _ _ _ => hK) (fun c => absurd hab.1 c)
      · exact py_ile (fun c => absurd c h43) (fun _ => hthr 2 (by omega) (by omega) K hK)
  · refine ph_thr h (k := 0) (v := 1) (by omega) rfl (by decide) (fun K KX hK => ?_) (fun K hK => ?_)
    · unfold eX4_get
      try simp only [py_O_ap, py_l0, py_l1, py_l2, py_l3, py_l4, py_l5, py_l6, py_l7, py_l8, py_l9, py_l12, py_l16, py_l32, py_l40, py_l100, py_l640, py_l1280, py_neg, py_add, py_sub, py_mul, py_stO]
      refine pr_needRegister rb (fun b1 b2 => ?_) (fun _ => hK)
      exact pr_placeOfReference h ra ri (fun a1 a2 _ _ _ => absurd ⟨⟨a1, a2⟩, b1, b2⟩ hab) (fun a1 a2 _ _ => absurd ⟨⟨a1, a2⟩, b1, b2⟩ hab) (fun a1 a2 _ => absurd ⟨⟨a1, a2⟩, b1, b2⟩ hab) (fun _ => hK)
    · have hj : jX5_get_15 K (py_o b) (py_o a) (py_o i) (py_O t) := hthr 1 (by omega) (by omega) K hK
      unfold eX5_get
      try simp only [py_O_ap, py_l0, py_l1, py_l2, py_l3, py_l4, py_l5, py_l6, py_l7, py_l8, py_l9, py_l12, py_l16, py_l32, py_l40, py_l100, py_l640, py_l1280, py_neg, py_add, py_sub, py_mul, py_stO]
      refine pm_noRegister rb (fun b1 b2 => ?_) (fun _ => py_ieq (fun c => absurd c (by omega)) (fun _ => hj))
      refine py_ieq (fun _ => ?_) (fun c => absurd rfl c)
      exact pm_noRegister ra (fun a1 a2 => absurd ⟨⟨a1, a2⟩, b1, b2⟩ hab) (fun _ => py_ieq (fun c => absurd c (by omega)) (fun _ => hj))
theorem ph_callLabel (h : ph_R s t n m) {a i : Int} (ra : -2147483648 ≤ a ∧ a < 2147483648) (ri : -2147483648 ≤ i ∧ i < 2147483648) : ph_Out (fun K KX => eX4_label (py_O s) (py_o a) (py_o i) K KX) (fun K => eX5_label (py_O t) (py_o a) (py_o i) K) py_code3 (n + 1) (m + 101) := by
  have hthr : ∀ (v : Int), 0 < v → v < 10 → ∀ K : ty_S → Int32 → Prop, K (py_O (py_st t 60 0 v)) (py_o 0) → jX5_label_49 K (py_o a) (py_o i) (py_o v) (py_O t) := fun v h1 h2 K hK => by
    unfold jX5_label_49
    try simp only [py_O_ap, py_l0, py_l1, py_l2, py_l3, py_l4, py_l5, py_l6, py_l7, py_l8, py_l9, py_l12, py_l16, py_l32, py_l40, py_l100, py_l640, py_l1280, py_neg, py_add, py_sub, py_mul, py_stO]
    exact py_ile (fun c => absurd c (by omega)) (fun _ => hK)
  by_cases ha : 0 ≤ a ∧ a < 16
  · obtain ⟨q1, q2⟩ := h.pv (r := a.toNat) (by omega)
    have hM0 : ∀ K : ty_S → Int32 → Prop, (if py_o 0 ≤ py_o (t 43 a.toNat) then (if py_o i < py_o 0 then jX5_label_44 K (py_o a) (py_o i) (py_O t) else (vp_in (py_o a) 16 ∧ (vp_in (py_o (t 43 a.toNat)) 640 ∧ (if py_o i < py_o (t 33 (py_o (t 43 a.toNat)).toNatClampNeg) then jX5_label_49 K (py_o a) (py_o i) (py_o 0) (py_O t) else jX5_label_44 K (py_o a) (py_o i) (py_O t))))) else jX5_label_49 K (py_o a) (py_o i) (py_o 2) (py_O t)) → eX5_label (py_O t) (py_o a) (py_o i) K := fun K hK => by
      unfold eX5_label
      try simp only [py_O_ap, py_l0, py_l1, py_l2, py_l3, py_l4, py_l5, py_l6, py_l7, py_l8, py_l9, py_l12, py_l16, py_l32, py_l40, py_l100, py_l640, py_l1280, py_neg, py_add, py_sub, py_mul, py_stO]
      refine pm_noRegister ra (fun _ _ => ?_) (fun c => absurd ha c)
      refine py_ieq (fun _ => py_and ?_) (fun c => absurd rfl c)
      rw [py_nat (by omega)]
      exact hK
    by_cases h43 : 0 ≤ t 43 a.toNat
    · obtain ⟨c0, k0, hc0, hk0, g1, g2, g3, g4, g5, g6, g7, g8, g9⟩ := h.thing q1 h43
      by_cases hi : 0 ≤ i ∧ i < t 33 (t 43 a.toNat).toNat
      · obtain ⟨r1, r2, r3, r4, r5, r6, c, k, hc, hk, r7, r8⟩ := h.refAt ha h43 hi
        refine ph_ret h (r := if t 35 (12 * (t 43 a.toNat).toNat + i.toNat) < 0 then 0 else t 30 (t 35 (12 * (t 43 a.toNat).toNat + i.toNat)).toNat) (fun K KX hK => ?_) (fun K hK => hM0 K ?_)
        · unfold eX4_label
          try simp only [py_O_ap, py_l0, py_l1, py_l2, py_l3, py_l4, py_l5, py_l6, py_l7, py_l8, py_l9, py_l12, py_l16, py_l32, py_l40, py_l100, py_l640, py_l1280, py_neg, py_add, py_sub, py_mul, py_stO]
          refine pr_placeOfReference h ra ri (fun _ _ _ _ _ => ?_) (fun _ _ _ c => absurd hi c) (fun _ _ c => absurd c (by omega)) (fun c => absurd ha c)
          refine pr_at (fun _ _ => ?_) (fun c => absurd c (by omega))
          rw [r6]
          exact pr_labelE h r4 (fun i => rfl) hK
        · refine py_ile (fun _ => ?_) (fun c => absurd c (by omega))
          refine py_ilt (fun c => absurd c (by omega)) (fun _ => py_and (py_and ?_))
          rw [py_nat (by omega)]
          refine py_ilt (fun _ => ?_) (fun c => absurd c (by omega))
          unfold jX5_label_49
          try simp only [py_O_ap, py_l0, py_l1, py_l2, py_l3, py_l4, py_l5, py_l6, py_l7, py_l8, py_l9, py_l12, py_l16, py_l32, py_l40, py_l100, py_l640, py_l1280, py_neg, py_add, py_sub, py_mul, py_stO]
          rw [if_pos (Int32.le_refl _)]
          refine py_and ?_
          rw [py_nat (by omega)]
          try simp only [py_O_ap, py_l0, py_l1, py_l2, py_l3, py_l4, py_l5, py_l6, py_l7, py_l8, py_l9, py_l12, py_l16, py_l32, py_l40, py_l100, py_l640, py_l1280, py_neg, py_add, py_sub, py_mul, py_stO]
          refine py_and ?_
          rw [py_nat (by omega), r3]
          exact pm_labelOf h r4 (fun i => py_sn (by decide)) hK
      · refine ph_thr h (k := 2) (v := 3) (by omega) rfl (by decide) (fun K KX hK => ?_) (fun K hK => hM0 K ?_)
        · unfold eX4_label
          try simp only [py_O_ap, py_l0, py_l1, py_l2, py_l3, py_l4, py_l5, py_l6, py_l7, py_l8, py_l9, py_l12, py_l16, py_l32, py_l40, py_l100, py_l640, py_l1280, py_neg, py_add, py_sub, py_mul, py_stO]
          exact pr_placeOfReference h ra ri (fun _ _ _ a1 a2 => absurd ⟨a1, a2⟩ hi) (fun _ _ _ _ => hK) (fun _ _ c => absurd c (by omega)) (fun c => absurd ha c)
        · have hj : jX5_label_44 K (py_o a) (py_o i) (py_O t) := hthr 3 (by omega) (by omega) K hK
          refine py_ile (fun _ => ?_) (fun c => absurd c (by omega))
          refine py_ilt (fun _ => hj) (fun _ => py_and (py_and ?_))
          rw [py_nat (by omega)]
          exact py_ilt (fun c => absurd ⟨by omega, c⟩ hi) (fun _ => hj)
    · have h43b : -1 ≤ t 43 a.toNat := by rcases q1 with e | ⟨e, _⟩ <;> omega
      refine ph_thr h (k := 1) (v := 2) (by omega) rfl (by decide) (fun K KX hK => ?_) (fun K hK => hM0 K ?_)
      · unfold eX4_label
        try simp only [py_O_ap, py_l0, py_l1, py_l2, py_l3, py_l4, py_l5, py_l6, py_l7, py_l8, py_l9, py_l12, py_l16, py_l32, py_l40, py_l100, py_l640, py_l1280, py_neg, py_add, py_sub, py_mul, py_stO]
        exact pr_placeOfReference h ra ri (fun _ _ c _ _ => absurd c h43) (fun _ _ c _ => absurd c h43) (fun _ _ _ => hK) (fun c => absurd ha c)
      · exact py_ile (fun c => absurd c h43) (fun _ => hthr 2 (by omega) (by omega) K hK)
  · refine ph_thr h (k := 0) (v := 1) (by omega) rfl (by decide) (fun K KX hK => ?_) (fun K hK => ?_)
    · unfold eX4_label
      try simp only [py_O_ap, py_l0, py_l1, py_l2, py_l3, py_l4, py_l5, py_l6, py_l7, py_l8, py_l9, py_l12, py_l16, py_l32, py_l40, py_l100, py_l640, py_l1280, py_neg, py_add, py_sub, py_mul, py_stO]
      exact pr_placeOfReference h ra ri (fun a1 a2 _ _ _ => absurd ⟨a1, a2⟩ ha) (fun a1 a2 _ _ => absurd ⟨a1, a2⟩ ha) (fun a1 a2 _ => absurd ⟨a1, a2⟩ ha) (fun _ => hK)
    · unfold eX5_label
      try simp only [py_O_ap, py_l0, py_l1, py_l2, py_l3, py_l4, py_l5, py_l6, py_l7, py_l8, py_l9, py_l12, py_l16, py_l32, py_l40, py_l100, py_l640, py_l1280, py_neg, py_add, py_sub, py_mul, py_stO]
      exact pm_noRegister ra (fun a1 a2 => absurd ⟨a1, a2⟩ ha) (fun _ => py_ieq (fun c => absurd c (by omega)) (fun _ => hthr 1 (by omega) (by omega) K hK))
/-- the check of a number -/
theorem pm_noNumber (h : ph_R s t n m) {a i : Int} {K : ty_S → Int32 → Prop} (ra : -2147483648 ≤ a ∧ a < 2147483648) (ri : -2147483648 ≤ i ∧ i < 2147483648) (h1 : (0 ≤ a ∧ a < 16) → 0 ≤ t 43 a.toNat → (0 ≤ i ∧ i < t 34 (t 43 a.toNat).toNat) → K (py_O (py_st t 60 0 0)) (py_o 0)) (h3 : (0 ≤ a ∧ a < 16) → 0 ≤ t 43 a.toNat → ¬ (0 ≤ i ∧ i < t 34 (t 43 a.toNat).toNat) → K (py_O (py_st t 60 0 3)) (py_o 1)) (h2 : (0 ≤ a ∧ a < 16) → t 43 a.toNat < 0 → K (py_O (py_st t 60 0 2)) (py_o 1)) (h0 : ¬ (0 ≤ a ∧ a < 16) → K (py_O (py_st t 60 0 1)) (py_o 1)) : eX5_noNumber (py_O t) (py_o a) (py_o i) K := by
  have hthr : ∀ (v : Int), 0 < v → v < 10 → K (py_O (py_st t 60 0 v)) (py_o 1) → jX5_noNumber_49 K (py_o v) (py_O t) := fun v h1 h2 hK => by
    unfold jX5_noNumber_49
    try simp only [py_O_ap, py_l0, py_l1, py_l2, py_l3, py_l4, py_l5, py_l6, py_l7, py_l8, py_l9, py_l12, py_l16, py_l32, py_l40, py_l100, py_l640, py_l1280, py_neg, py_add, py_sub, py_mul, py_stO]
    exact py_ile (fun c => absurd c (by omega)) (fun _ => hK)
  unfold eX5_noNumber
  try simp only [py_O_ap, py_l0, py_l1, py_l2, py_l3, py_l4, py_l5, py_l6, py_l7, py_l8, py_l9, py_l12, py_l16, py_l32, py_l40, py_l100, py_l640, py_l1280, py_neg, py_add, py_sub, py_mul, py_stO]
  refine pm_noRegister ra (fun a1 a2 => ?_) (fun c => py_ieq (fun c => absurd c (by omega)) (fun _ => hthr 1 (by omega) (by omega) (h0 c)))
  refine py_ieq (fun _ => py_and ?_) (fun c => absurd rfl c)
  rw [py_nat (by omega)]
  obtain ⟨q1, q2⟩ := h.pv (r := a.toNat) (by omega)
  try simp only [py_O_ap, py_l0, py_l1, py_l2, py_l3, py_l4, py_l5, py_l6, py_l7, py_l8, py_l9, py_l12, py_l16, py_l32, py_l40, py_l100, py_l640, py_l1280, py_neg, py_add, py_sub, py_mul, py_stO]
  by_cases h43 : 0 ≤ t 43 a.toNat
  · obtain ⟨c0, k0, hc0, hk0, g1, g2, g3, g4, g5, g6, g7, g8, g9⟩ := h.thing q1 h43
    refine py_ile (fun _ => ?_) (fun c => absurd c (by omega))
    refine py_ilt (fun c => ?_) (fun c => py_and (py_and ?_))
    · exact hthr 3 (by omega) (by omega) (h3 ⟨a1, a2⟩ h43 (by omega))
    · simp only [py_nat (show -2147483648 ≤ t 43 a.toNat ∧ t 43 a.toNat < 2147483648 by omega)]
      refine py_ilt (fun c2 => ?_) (fun c2 => hthr 3 (by omega) (by omega) (h3 ⟨a1, a2⟩ h43 (by omega)))
      unfold jX5_noNumber_49
      try simp only [py_O_ap, py_l0, py_l1, py_l2, py_l3, py_l4, py_l5, py_l6, py_l7, py_l8, py_l9, py_l12, py_l16, py_l32, py_l40, py_l100, py_l640, py_l1280, py_neg, py_add, py_sub, py_mul, py_stO]
      rw [if_pos (Int32.le_refl _)]
      exact h1 ⟨a1, a2⟩ h43 ⟨c, c2⟩
  · have h43b : -1 ≤ t 43 a.toNat := by rcases q1 with e | ⟨e, _⟩ <;> omega
    exact py_ile (fun c => absurd c h43) (fun _ => hthr 2 (by omega) (by omega) (h2 ⟨a1, a2⟩ (by omega)))
theorem ph_R.numAt (h : ph_R s t n m) {a i : Int} (ha : 0 ≤ a ∧ a < 16) (h43 : 0 ≤ t 43 a.toNat) (hi : 0 ≤ i ∧ i < t 34 (t 43 a.toNat).toNat) : t 43 a.toNat < 640 ∧ t 34 (t 43 a.toNat).toNat ≤ 12 ∧ (12 * t 43 a.toNat + i).toNat = 12 * (t 43 a.toNat).toNat + i.toNat ∧
    (0 ≤ ph_E t (t 43 a.toNat) + 2 + t 33 (t 43 a.toNat).toNat + i ∧ ph_E t (t 43 a.toNat) + 2 + t 33 (t 43 a.toNat).toNat + i < 1280) ∧ s 0 (ph_E t (t 43 a.toNat) + 2 + t 33 (t 43 a.toNat).toNat + i).toNat = t 36 (12 * (t 43 a.toNat).toNat + i.toNat) ∧ ∃ c k : Nat, c < 40 ∧ (k : Int) < t 38 c ∧ ph_x t c k = (t 43 a.toNat).toNat ∧ (ph_E t (t 43 a.toNat) + 2 + t 33 (t 43 a.toNat).toNat + i).toNat = 32 * c + ph_pos t c k + 2 + (t 33 (ph_x t c k)).toNat + i.toNat := by
  obtain ⟨q1, q2⟩ := h.pv (r := a.toNat) (by omega)
  obtain ⟨c, k, hc, hk, g1, g2, g3, g4, g5, g6, g7, g8, g9, g10, g11, g12, g13⟩ := h.thing q1 h43
  have e1 : (ph_E t (t 43 a.toNat) + 2 + t 33 (t 43 a.toNat).toNat + i).toNat = 32 * c + ph_pos t c k + 2 + (t 33 (t 43 a.toNat).toNat).toNat + i.toNat := by omega
  refine ⟨by omega, g8.2, by omega, by omega, ?_, c, k, hc, hk, g1, by rw [g1]; exact e1⟩
  rw [e1, g12 i.toNat (by omega)]
theorem ph_callPut (h : ph_R s t n m) {a i v : Int} (ra : -2147483648 ≤ a ∧ a < 2147483648) (ri : -2147483648 ≤ i ∧ i < 2147483648) : ph_Out (fun K KX => eX4_put (py_O s) (py_o a) (py_o i) (py_o v) K KX) (fun K => eX5_put (py_O t) (py_o a) (py_o i) (py_o v) K) py_code3 (n + 1) (m + 101) := by
  have hx : ∀ w : Int, ∀ K : ty_S → Int32 → Prop, K (py_O (py_st t 60 0 w)) (py_o 0) → (if py_o 1 = py_o 0 then (vp_in (py_o a) 16 ∧ (vp_in ((py_o 12 * (py_O (py_st t 60 0 w) 43 (py_o a).toNatClampNeg)) + py_o i) 7680 ∧ (vp_in ((py_o 12 * (py_O (py_st t 60 0 w) 43 (py_o a).toNatClampNeg)) + py_o i) 7680 ∧ K (ty_st (py_O (py_st t 60 0 w)) 36 ((py_o 12 * (py_O (py_st t 60 0 w) 43 (py_o a).toNatClampNeg)) + py_o i).toNatClampNeg (py_o v)) (py_O (py_st t 60 0 w) 36 ((py_o 12 * (py_O (py_st t 60 0 w) 43 (py_o a).toNatClampNeg)) + py_o i).toNatClampNeg)))) else K (py_O (py_st t 60 0 w)) (py_o 0)) := fun w K hK => py_ieq (fun c => absurd c (by omega)) (fun _ => hK)
  by_cases ha : 0 ≤ a ∧ a < 16
  · by_cases h43 : 0 ≤ t 43 a.toNat
    · by_cases hi : 0 ≤ i ∧ i < t 34 (t 43 a.toNat).toNat
      · obtain ⟨r1, r2, r3, r5, r6, c, k, hc, hk, r7, r8⟩ := h.numAt ha h43 hi
        have hR := (h.setWord (g := 36) (i := i.toNat) (y := v) (v := v) hc hk (Or.inr ⟨rfl, by rw [r7]; omega, rfl⟩)).t60 0
        rw [if_neg (by decide), ← r8, r7] at hR
        refine ⟨_, _, t 36 (12 * (t 43 a.toNat).toNat + i.toNat), hR.mono (by omega) (by omega), fun K hK => ?_, Or.inl ⟨py_se, fun K KX hK => ?_⟩⟩
        · unfold eX5_put
          try simp only [py_O_ap, py_l0, py_l1, py_l2, py_l3, py_l4, py_l5, py_l6, py_l7, py_l8, py_l9, py_l12, py_l16, py_l32, py_l40, py_l100, py_l640, py_l1280, py_neg, py_add, py_sub, py_mul, py_stO]
          refine pm_noNumber h ra ri (fun _ _ _ => ?_) (fun _ _ c => absurd hi c) (fun _ c => absurd c (by omega)) (fun c => absurd ha c)
          refine py_ieq (fun _ => py_and ?_) (fun c => absurd rfl c)
          rw [py_nat (by omega)]
          try simp only [py_O_ap, py_l0, py_l1, py_l2, py_l3, py_l4, py_l5, py_l6, py_l7, py_l8, py_l9, py_l12, py_l16, py_l32, py_l40, py_l100, py_l640, py_l1280, py_neg, py_add, py_sub, py_mul, py_stO]
          rw [py_sn (by decide)]
          refine py_and (py_and ?_)
          rw [py_nat (by omega), r3, py_sn (by decide), py_stc (by decide)]
          exact hK
        · unfold eX4_put
          try simp only [py_O_ap, py_l0, py_l1, py_l2, py_l3, py_l4, py_l5, py_l6, py_l7, py_l8, py_l9, py_l12, py_l16, py_l32, py_l40, py_l100, py_l640, py_l1280, py_neg, py_add, py_sub, py_mul, py_stO]
          refine pr_placeOfNumber h ra ri (fun _ _ _ _ _ => ?_) (fun _ _ _ c => absurd hi c) (fun _ _ c => absurd c (by omega)) (fun c => absurd ha c)
          refine pr_at (fun _ _ => ?_) (fun c => absurd c (by omega))
          rw [r6]
          exact pr_write (fun _ _ => hK) (fun c => absurd c (by omega))
      · refine ph_thr h (k := 2) (v := 3) (by omega) rfl (by decide) (fun K KX hK => ?_) (fun K hK => ?_)
        · unfold eX4_put
          try simp only [py_O_ap, py_l0, py_l1, py_l2, py_l3, py_l4, py_l5, py_l6, py_l7, py_l8, py_l9, py_l12, py_l16, py_l32, py_l40, py_l100, py_l640, py_l1280, py_neg, py_add, py_sub, py_mul, py_stO]
          exact pr_placeOfNumber h ra ri (fun _ _ _ a1 a2 => absurd ⟨a1, a2⟩ hi) (fun _ _ _ _ => hK) (fun _ _ c => absurd c (by omega)) (fun c => absurd ha c)
        · unfold eX5_put
          rw [py_l12, py_l0]
          exact pm_noNumber h ra ri (fun _ _ c => absurd c hi) (fun _ _ _ => hx 3 K hK) (fun _ c => absurd c (by omega)) (fun c => absurd ha c)
    · refine ph_thr h (k := 1) (v := 2) (by omega) rfl (by decide) (fun K KX hK => ?_) (fun K hK => ?_)
      · unfold eX4_put
        try simp only [py_O_ap, py_l0, py_l1, py_l2, py_l3, py_l4, py_l5, py_l6, py_l7, py_l8, py_l9, py_l12, py_l16, py_l32, py_l40, py_l100, py_l640, py_l1280, py_neg, py_add, py_sub, py_mul, py_stO]
        exact pr_placeOfNumber h ra ri (fun _ _ c _ _ => absurd c h43) (fun _ _ c _ => absurd c h43) (fun _ _ _ => hK) (fun c => absurd ha c)
      · unfold eX5_put
        rw [py_l12, py_l0]
        exact pm_noNumber h ra ri (fun _ c _ => absurd c h43) (fun _ c _ => absurd c h43) (fun _ _ => hx 2 K hK) (fun c => absurd ha c)
  · refine ph_thr h (k := 0) (v := 1) (by omega) rfl (by decide) (fun K KX hK => ?_) (fun K hK => ?_)
    · unfold eX4_put
      try simp only [py_O_ap, py_l0, py_l1, py_l2, py_l3, py_l4, py_l5, py_l6, py_l7, py_l8, py_l9, py_l12, py_l16, py_l32, py_l40, py_l100, py_l640, py_l1280, py_neg, py_add, py_sub, py_mul, py_stO]
      exact pr_placeOfNumber h ra ri (fun a1 a2 _ _ _ => absurd ⟨a1, a2⟩ ha) (fun a1 a2 _ _ => absurd ⟨a1, a2⟩ ha) (fun a1 a2 _ => absurd ⟨a1, a2⟩ ha) (fun _ => hK)
    · unfold eX5_put
      rw [py_l12, py_l0]
      exact pm_noNumber h ra ri (fun c _ _ => absurd c ha) (fun c _ _ => absurd c ha) (fun c _ => absurd c ha) (fun _ => hx 1 K hK)
theorem ph_callNumber (h : ph_R s t n m) {a i : Int} (ra : -2147483648 ≤ a ∧ a < 2147483648) (ri : -2147483648 ≤ i ∧ i < 2147483648) : ph_Out (fun K KX => eX4_number (py_O s) (py_o a) (py_o i) K KX) (fun K => eX5_number (py_O t) (py_o a) (py_o i) K) py_code3 (n + 1) (m + 101) := by
  by_cases ha : 0 ≤ a ∧ a < 16
  · by_cases h43 : 0 ≤ t 43 a.toNat
    · by_cases hi : 0 ≤ i ∧ i < t 34 (t 43 a.toNat).toNat
      · obtain ⟨r1, r2, r3, r5, r6, c, k, hc, hk, r7, r8⟩ := h.numAt ha h43 hi
        refine ph_ret h (r := t 36 (12 * (t 43 a.toNat).toNat + i.toNat)) (fun K KX hK => ?_) (fun K hK => ?_)
        · unfold eX4_number
          try simp only [py_O_ap, py_l0, py_l1, py_l2, py_l3, py_l4, py_l5, py_l6, py_l7, py_l8, py_l9, py_l12, py_l16, py_l32, py_l40, py_l100, py_l640, py_l1280, py_neg, py_add, py_sub, py_mul, py_stO]
          refine pr_placeOfNumber h ra ri (fun _ _ _ _ _ => ?_) (fun _ _ _ c => absurd hi c) (fun _ _ c => absurd c (by omega)) (fun c => absurd ha c)
          refine pr_at (fun _ _ => ?_) (fun c => absurd c (by omega))
          rw [r6]; exact hK
        · unfold eX5_number
          try simp only [py_O_ap, py_l0, py_l1, py_l2, py_l3, py_l4, py_l5, py_l6, py_l7, py_l8, py_l9, py_l12, py_l16, py_l32, py_l40, py_l100, py_l640, py_l1280, py_neg, py_add, py_sub, py_mul, py_stO]
          refine pm_noNumber h ra ri (fun _ _ _ => ?_) (fun _ _ c => absurd hi c) (fun _ c => absurd c (by omega)) (fun c => absurd ha c)
          refine py_ieq (fun _ => py_and ?_) (fun c => absurd rfl c)
          rw [py_nat (by omega)]
          try simp only [py_O_ap, py_l0, py_l1, py_l2, py_l3, py_l4, py_l5, py_l6, py_l7, py_l8, py_l9, py_l12, py_l16, py_l32, py_l40, py_l100, py_l640, py_l1280, py_neg, py_add, py_sub, py_mul, py_stO]
          rw [py_sn (by decide)]
          refine py_and ?_
          rw [py_nat (by omega), r3, py_sn (by decide)]
          exact hK
      · refine ph_thr h (k := 2) (v := 3) (by omega) rfl (by decide) (fun K KX hK => ?_) (fun K hK => ?_)
        · unfold eX4_number
          try simp only [py_O_ap, py_l0, py_l1, py_l2, py_l3, py_l4, py_l5, py_l6, py_l7, py_l8, py_l9, py_l12, py_l16, py_l32, py_l40, py_l100, py_l640, py_l1280, py_neg, py_add, py_sub, py_mul, py_stO]
          exact pr_placeOfNumber h ra ri (fun _ _ _ a1 a2 => absurd ⟨a1, a2⟩ hi) (fun _ _ _ _ => hK) (fun _ _ c => absurd c (by omega)) (fun c => absurd ha c)
        · unfold eX5_number
          try simp only [py_O_ap, py_l0, py_l1, py_l2, py_l3, py_l4, py_l5, py_l6, py_l7, py_l8, py_l9, py_l12, py_l16, py_l32, py_l40, py_l100, py_l640, py_l1280, py_neg, py_add, py_sub, py_mul, py_stO]
          exact pm_noNumber h ra ri (fun _ _ c => absurd c hi) (fun _ _ _ => py_ieq (fun c => absurd c (by omega)) (fun _ => hK)) (fun _ c => absurd c (by omega)) (fun c => absurd ha c)
    · refine ph_thr h (k := 1) (v := 2) (by omega) rfl (by decide) (fun K KX hK => ?_) (fun K hK => ?_)
      · unfold eX4_number
        try simp only [py_O_ap, py_l0, py_l1, py_l2, py_l3, py_l4, py_l5, py_l6, py_l7, py_l8, py_l9, py_l12, py_l16, py_l32, py_l40, py_l100, py_l640, py_l1280, py_neg, py_add, py_sub, py_mul, py_stO]
        exact pr_placeOfNumber h ra ri (fun _ _ c _ _ => absurd c h43) (fun _ _ c _ => absurd c h43) (fun _ _ _ => hK) (fun c => absurd ha c)
      · unfold eX5_number
        try simp only [py_O_ap, py_l0, py_l1, py_l2, py_l3, py_l4, py_l5, py_l6, py_l7, py_l8, py_l9, py_l12, py_l16, py_l32, py_l40, py_l100, py_l640, py_l1280, py_neg, py_add, py_sub, py_mul, py_stO]
        exact pm_noNumber h ra ri (fun _ c _ => absurd c h43) (fun _ c _ => absurd c h43) (fun _ _ => py_ieq (fun c => absurd c (by omega)) (fun _ => hK)) (fun c => absurd ha c)
  · refine ph_thr h (k := 0) (v := 1) (by omega) rfl (by decide) (fun K KX hK => ?_) (fun K hK => ?_)
    · unfold eX4_number
      try simp only [py_O_ap, py_l0, py_l1, py_l2, py_l3, py_l4, py_l5, py_l6, py_l7, py_l8, py_l9, py_l12, py_l16, py_l32, py_l40, py_l100, py_l640, py_l1280, py_neg, py_add, py_sub, py_mul, py_stO]
      exact pr_placeOfNumber h ra ri (fun a1 a2 _ _ _ => absurd ⟨a1, a2⟩ ha) (fun a1 a2 _ _ => absurd ⟨a1, a2⟩ ha) (fun a1 a2 _ => absurd ⟨a1, a2⟩ ha) (fun _ => hK)
    · unfold eX5_number
      try simp only [py_O_ap, py_l0, py_l1, py_l2, py_l3, py_l4, py_l5, py_l6, py_l7, py_l8, py_l9, py_l12, py_l16, py_l32, py_l40, py_l100, py_l640, py_l1280, py_neg, py_add, py_sub, py_mul, py_stO]
      exact pm_noNumber h ra ri (fun c _ _ => absurd c ha) (fun c _ _ => absurd c ha) (fun c _ => absurd c ha) (fun _ => py_ieq (fun c => absurd c (by omega)) (fun _ => hK))
end PC4
end
section
/-! PURE: thing, word, train, car, told -/
section PC5
variable {s t : py_Z} {n : Nat} {m : Int}
theorem pr_needWhat {a b : Int} {K : ty_S → Prop} {KX : Nat → ty_S → Prop} (ra : -2147483648 ≤ a ∧ a < 2147483648) (rb : 0 ≤ b ∧ b < 100) (h1 : 0 ≤ a → a ≤ b → K (py_O s)) (h0 : ¬ (0 ≤ a ∧ a ≤ b) → KX 0 (py_O s)) : eX4_needWhat (py_O s) (py_o a) (py_o b) K KX := by
  unfold eX4_needWhat
  try simp only [py_O_ap, py_l0, py_l1, py_l2, py_l3, py_l4, py_l5, py_l6, py_l7, py_l8, py_l9, py_l12, py_l16, py_l32, py_l40, py_l100, py_l640, py_l1280, py_neg, py_add, py_sub, py_mul, py_stO]
  exact py_ilt (fun c => h0 (by omega)) (fun c => py_ile (fun c2 => h1 c c2) (fun c2 => h0 (by omega)))
theorem ph_callThing (h : ph_R s t n m) {a w : Int} (ra : -2147483648 ≤ a ∧ a < 2147483648) (rw' : -2147483648 ≤ w ∧ w < 2147483648) : ph_Out (fun K KX => eX4_thing (py_O s) (py_o a) (py_o w) K KX) (fun K => eX5_thing (py_O t) (py_o a) (py_o w) K) py_codeT (n + 1) (m + 101) := by
  have hthr : ∀ (v : Int), 0 < v → v < 10 → ∀ K : ty_S → Int32 → Prop, K (py_O (py_st t 60 0 v)) (py_o 0) → jX5_thing_35 K (py_o a) (py_o w) (py_o v) (py_O t) := fun v h1 h2 K hK => by
    unfold jX5_thing_35
    try simp only [py_O_ap, py_l0, py_l1, py_l2, py_l3, py_l4, py_l5, py_l6, py_l7, py_l8, py_l9, py_l12, py_l16, py_l32, py_l40, py_l100, py_l640, py_l1280, py_neg, py_add, py_sub, py_mul, py_stO]
    exact py_ile (fun c => absurd c (by omega)) (fun _ => hK)
  by_cases haw : (0 ≤ a ∧ a < 16) ∧ 0 ≤ w ∧ w ≤ 4
  · obtain ⟨q1, q2⟩ := h.pv (r := a.toNat) (by omega)
    by_cases h43 : 0 ≤ t 43 a.toNat
    · obtain ⟨c, k, hc, hk, g1, g2, g3, g4, g5, g6, g7, g8, g9, g10, g11, g12, g13⟩ := h.thing q1 h43
      have h6 : s 6 c ≠ 0 := fun e1 => by have := (h.2.1.1 c hc).2.2.2.2.2.1 e1; omega
      obtain ⟨j, kk, hj, hkk, j1, j2, j3, j4, j5⟩ := (h.1.six hc).resolve_left h6
      have h50 := h.1.1
      have h2 := h.t60 0
      refine ph_ret h (r := if w = 0 then t 30 (t 43 a.toNat).toNat else if w = 1 then 32 * t 31 (t 43 a.toNat).toNat + t 32 (t 43 a.toNat).toNat else if w = 2 then t 40 j else if w = 3 then t 33 (t 43 a.toNat).toNat else t 34 (t 43 a.toNat).toNat) (fun K KX hK => ?_) (fun K hK => ?_)
      · unfold eX4_thing
        try simp only [py_O_ap, py_l0, py_l1, py_l2, py_l3, py_l4, py_l5, py_l6, py_l7, py_l8, py_l9, py_l12, py_l16, py_l32, py_l40, py_l100, py_l640, py_l1280, py_neg, py_add, py_sub, py_mul, py_stO]
        refine pr_needWhat rw' (by omega) (fun _ _ => ?_) (fun c => absurd haw.2 c)
        refine pr_heldThing h ra (fun _ _ _ => ?_) (fun _ _ c => absurd c (by omega)) (fun c => absurd haw.1 c)
        have hw9 : s 0 (ph_E t (t 43 a.toNat) + 1).toNat = t 33 (t 43 a.toNat).toNat + 16 * t 34 (t 43 a.toNat).toNat := by
          rw [g6, show (((32 * c + ph_pos t c k : Nat) : Int) + 1).toNat = 32 * c + ph_pos t c k + 1 by omega]; exact g10
        refine py_ieq (fun e1 => ?_) (fun e1 => ?_)
        · rw [if_pos e1] at hK
          rw [g6]
          refine pr_labelOf (fun _ _ => ?_) (fun c => absurd c (by omega))
          simp only [Int.toNat_natCast]
          rw [g13]; exact hK
        · rw [if_neg e1] at hK
          refine py_ieq (fun e2 => ?_) (fun e2 => ?_)
          · rw [if_pos e2] at hK
            have : ph_E t (t 43 a.toNat) = 32 * t 31 (t 43 a.toNat).toNat + t 32 (t 43 a.toNat).toNat := by unfold ph_E; rw [if_neg (by omega)]
            rw [this]; exact hK
          · rw [if_neg e2] at hK
            refine py_ieq (fun e3 => ?_) (fun e3 => ?_)
            · rw [if_pos e3] at hK
              rw [g6]
              refine pr_carOf (fun _ _ => ?_) (fun c => absurd c (by omega))
              rw [show ((32 * c + ph_pos t c k : Nat) : Int) / 32 = c by omega]
              refine pr_trainOf (fun _ _ => ?_) (fun c => absurd c (by omega))
              simp only [Int.toNat_natCast]
              rw [j2]; exact hK
            · rw [if_neg e3] at hK
              refine py_ieq (fun e4 => ?_) (fun e4 => ?_)
              · rw [if_pos e4] at hK
                exact pr_references (r := t 33 (t 43 a.toNat).toNat) (n := t 34 (t 43 a.toNat).toNat) (by omega) (by omega) hw9 (by omega) (by omega) (by omega) (by omega) hK
              · rw [if_neg e4] at hK
                exact pr_numbers (r := t 33 (t 43 a.toNat).toNat) (n := t 34 (t 43 a.toNat).toNat) (by omega) (by omega) hw9 (by omega) (by omega) (by omega) (by omega) hK
      · have hj0 : jX5_thing_35 K (py_o a) (py_o w) (py_o 0) (py_O t) := by
          unfold jX5_thing_35
          try simp only [py_O_ap, py_l0, py_l1, py_l2, py_l3, py_l4, py_l5, py_l6, py_l7, py_l8, py_l9, py_l12, py_l16, py_l32, py_l40, py_l100, py_l640, py_l1280, py_neg, py_add, py_sub, py_mul, py_stO]
          rw [if_pos (Int32.le_refl _)]
          refine py_and ?_
          rw [py_nat (by omega)]
          try simp only [py_O_ap, py_l0, py_l1, py_l2, py_l3, py_l4, py_l5, py_l6, py_l7, py_l8, py_l9, py_l12, py_l16, py_l32, py_l40, py_l100, py_l640, py_l1280, py_neg, py_add, py_sub, py_mul, py_stO]
          refine py_ieq (fun e1 => py_and ?_) (fun e1 => ?_)
          · rw [if_pos e1] at hK
            rw [py_nat (by omega)]; exact hK
          · rw [if_neg e1] at hK
            have e9 : t 43 a.toNat = (((t 43 a.toNat).toNat : Nat) : Int) := by omega
            refine py_ieq (fun e2 => ?_) (fun e2 => ?_)
            · rw [if_pos e2] at hK
              rw [e9]
              refine pm_place g2 ?_
              rw [py_sn (by decide), py_sn (by decide)]
              exact hK
            · rw [if_neg e2] at hK
              refine py_ieq (fun e3 => py_and ?_) (fun e3 => ?_)
              · rw [if_pos e3] at hK
                rw [py_nat (by omega)]
                rw [g4]
                refine pm_trainOf h2.1 hc (fun j8 hj8 e10 => ?_) (fun e10 => absurd e10 h6)
                rw [py_sn (by decide)] at hj8 e10
                have e11 : j8 = j := h.1.num hj8 hj (by rw [← e10, j2])
                subst e11
                refine py_and ?_
                rw [py_nat (by omega)]
                simp only [Int.toNat_natCast]
                try simp only [py_O_ap, py_l0, py_l1, py_l2, py_l3, py_l4, py_l5, py_l6, py_l7, py_l8, py_l9, py_l12, py_l16, py_l32, py_l40, py_l100, py_l640, py_l1280, py_neg, py_add, py_sub, py_mul, py_stO]
                rw [py_sn (by decide)]
                exact hK
              · rw [if_neg e3] at hK
                refine py_ieq (fun e4 => py_and ?_) (fun e4 => py_and ?_)
                · rw [if_pos e4] at hK
                  rw [py_nat (by omega)]; exact hK
                · rw [if_neg e4] at hK
                  rw [py_nat (by omega)]; exact hK
        unfold eX5_thing
        try simp only [py_O_ap, py_l0, py_l1, py_l2, py_l3, py_l4, py_l5, py_l6, py_l7, py_l8, py_l9, py_l12, py_l16, py_l32, py_l40, py_l100, py_l640, py_l1280, py_neg, py_add, py_sub, py_mul, py_stO]
        refine pm_noRegister ra (fun _ _ => ?_) (fun c => absurd haw.1 c)
        refine py_ieq (fun _ => ?_) (fun c => absurd rfl c)
        refine py_ilt (fun c => absurd c (by omega)) (fun _ => py_ile (fun _ => py_and ?_) (fun c => absurd c (by omega)))
        rw [py_nat (by omega)]
        exact py_ile (fun _ => hj0) (fun c => absurd c (by omega))
    · have h43b : -1 ≤ t 43 a.toNat := by rcases q1 with e | ⟨e, _⟩ <;> omega
      refine ph_thr h (k := 1) (v := 2) (by omega) rfl (by decide) (fun K KX hK => ?_) (fun K hK => ?_)
      · unfold eX4_thing
        try simp only [py_O_ap, py_l0, py_l1, py_l2, py_l3, py_l4, py_l5, py_l6, py_l7, py_l8, py_l9, py_l12, py_l16, py_l32, py_l40, py_l100, py_l640, py_l1280, py_neg, py_add, py_sub, py_mul, py_stO]
        refine pr_needWhat rw' (by omega) (fun _ _ => ?_) (fun c => absurd haw.2 c)
        exact pr_heldThing h ra (fun _ _ c => absurd c h43) (fun _ _ _ => hK) (fun c => absurd haw.1 c)
      · unfold eX5_thing
        try simp only [py_O_ap, py_l0, py_l1, py_l2, py_l3, py_l4, py_l5, py_l6, py_l7, py_l8, py_l9, py_l12, py_l16, py_l32, py_l40, py_l100, py_l640, py_l1280, py_neg, py_add, py_sub, py_mul, py_stO]
        refine pm_noRegister ra (fun _ _ => ?_) (fun c => absurd haw.1 c)
        refine py_ieq (fun _ => ?_) (fun c => absurd rfl c)
        refine py_ilt (fun c => absurd c (by omega)) (fun _ => py_ile (fun _ => py_and ?_) (fun c => absurd c (by omega)))
        rw [py_nat (by omega)]
        exact py_ile (fun c => absurd c h43) (fun _ => hthr 2 (by omega) (by omega) K hK)
  · refine ph_thr h (k := 0) (v := 1) (by omega) rfl (by decide) (fun K KX hK => ?_) (fun K hK => ?_)
    · unfold eX4_thing
      try simp only [py_O_ap, py_l0, py_l1, py_l2, py_l3, py_l4, py_l5, py_l6, py_l7, py_l8, py_l9, py_l12, py_l16, py_l32, py_l40, py_l100, py_l640, py_l1280, py_neg, py_add, py_sub, py_mul, py_stO]
      refine pr_needWhat rw' (by omega) (fun w1 w2 => ?_) (fun _ => hK)
      exact pr_heldThing h ra (fun a1 a2 _ => absurd ⟨⟨a1, a2⟩, w1, w2⟩ haw) (fun a1 a2 _ => absurd ⟨⟨a1, a2⟩, w1, w2⟩ haw) (fun _ => hK)
    · have hj : jX5_thing_17 K (py_o a) (py_o w) (py_O t) := hthr 1 (by omega) (by omega) K hK
      unfold eX5_thing
      try simp only [py_O_ap, py_l0, py_l1, py_l2, py_l3, py_l4, py_l5, py_l6, py_l7, py_l8, py_l9, py_l12, py_l16, py_l32, py_l40, py_l100, py_l640, py_l1280, py_neg, py_add, py_sub, py_mul, py_stO]
      refine pm_noRegister ra (fun a1 a2 => ?_) (fun _ => py_ieq (fun c => absurd c (by omega)) (fun _ => hj))
      refine py_ieq (fun _ => ?_) (fun c => absurd rfl c)
      exact py_ilt (fun _ => hj) (fun w1 => py_ile (fun w2 => absurd ⟨⟨a1, a2⟩, w1, w2⟩ haw) (fun _ => hj))
/-- the things of one train -/
theorem pm_sumIn (h : ph_R s t n m) {j : Nat} (hj : (j : Int) < t 50 0) : ∀ k : Nat, (k : Int) ≤ t 41 j → py_sum (fun i => s 3 (s 5 (pr_off t j + i)).toNat) k = py_sum (fun i => t 38 (t 42 (40 * j + i)).toNat) k
  | 0, _ => rfl
  | k + 1, hk => by
    simp only [py_sum]
    obtain ⟨d1, d2, d3⟩ := h.1.2.2.2.1 j k hj (by omega)
    rw [pm_sumIn h hj k (by omega), d1, (h.2.1.1 (t 42 (40 * j + k)).toNat (by omega)).1]
theorem ph_callTrain (h : ph_R s t n m) {a w : Int} (ra : -2147483648 ≤ a ∧ a < 2147483648) (rw' : -2147483648 ≤ w ∧ w < 2147483648) : ph_Out (fun K KX => eX4_train (py_O s) (py_o a) (py_o w) K KX) (fun K => eX5_train (py_O t) (py_o a) (py_o w) K) py_code0 (n + 1) (m + 101) := by
  have h50 := h.1.1
  have hc0 := h.1.cnt
  have h2 := h.t60 0
  by_cases haw : (0 ≤ a ∧ a < t 50 0) ∧ 0 ≤ w ∧ w ≤ 2
  · have h41 := h.1.2.1 a.toNat (by omega)
    have hlt := h.1.lt (j := a.toNat) (k := 0) (by omega) (by omega)
    have hend := h.1.end_le (j := a.toNat) (by omega)
    obtain ⟨d1, d2, d3⟩ := h.1.2.2.2.1 a.toNat 0 (by omega) (by omega)
    simp only [Nat.add_zero] at d1 d2 d3 hlt
    obtain ⟨r, hr⟩ : ∃ r, r = (if w = 0 then t 40 a.toNat else if w = 1 then t 41 a.toNat else py_sum (fun i => t 38 (t 42 (40 * a.toNat + i)).toNat) (t 41 a.toNat).toNat) := ⟨_, rfl⟩
    refine ph_ret h (r := r) (fun K KX hK => ?_) (fun K hK => ?_)
    · unfold eX4_train
      try simp only [py_O_ap, py_l0, py_l1, py_l2, py_l3, py_l4, py_l5, py_l6, py_l7, py_l8, py_l9, py_l12, py_l16, py_l32, py_l40, py_l100, py_l640, py_l1280, py_neg, py_add, py_sub, py_mul, py_stO]
      refine pr_needWhat rw' (by omega) (fun _ _ => ?_) (fun c => absurd haw.2 c)
      unfold eX4_startOfTrain
      try simp only [py_O_ap, py_l0, py_l1, py_l2, py_l3, py_l4, py_l5, py_l6, py_l7, py_l8, py_l9, py_l12, py_l16, py_l32, py_l40, py_l100, py_l640, py_l1280, py_neg, py_add, py_sub, py_mul, py_stO]
      refine pr_startOf h.1 ra (fun _ _ => ?_) (fun c => absurd c (by omega))
      refine py_ieq (fun c => absurd c (by omega)) (fun _ => ?_)
      refine pr_carAt hc0 (fun _ _ => ?_) (fun c => absurd c (by omega))
      simp only [Int.toNat_natCast]
      refine pr_trainOf (fun _ _ => ?_) (fun c => absurd c (by omega))
      rw [d1, d3]
      refine pr_carsOf h.1 (by omega) ?_
      refine py_ieq (fun e1 => ?_) (fun e1 => ?_)
      · rw [hr, if_pos e1] at hK; exact hK
      · rw [if_neg e1] at hr
        refine py_ieq (fun e2 => ?_) (fun e2 => ?_)
        · rw [hr, if_pos e2] at hK; exact hK
        · rw [if_neg e2] at hr
          rw [show t 41 a.toNat = (((t 41 a.toNat).toNat : Nat) : Int) by omega]
          refine pr_thingsIn hc0 (by omega) (fun k hk => (h.1.car hk).1) (fun c hc => by have := h.2.1.1 c hc; have h3' := this.1; have := this.2.2.1; omega) ?_
          rw [pm_sumIn h (by omega) _ (by omega), ← hr]
          exact hK
    · have key : ∀ d k : Nat, (k : Int) + d = t 41 a.toNat → ∃ n9, lX5_train_44 K n9 (py_o a) (py_o w) (py_o (py_sum (fun i => t 38 (t 42 (40 * a.toNat + i)).toNat) k)) (py_o k) (py_O (py_st t 60 0 0)) := by
        intro d
        induction d with
        | zero =>
          intro k hk
          refine ⟨1, ?_⟩
          unfold lX5_train_44
          try simp only [py_O_ap, py_l0, py_l1, py_l2, py_l3, py_l4, py_l5, py_l6, py_l7, py_l8, py_l9, py_l12, py_l16, py_l32, py_l40, py_l100, py_l640, py_l1280, py_neg, py_add, py_sub, py_mul, py_stO]
          refine py_and ?_
          rw [py_nat (by omega)]
          have e41 : py_st t 60 0 0 41 a.toNat = t 41 a.toNat := py_sn (by decide)
          have e40 : py_st t 60 0 0 40 a.toNat = t 40 a.toNat := py_sn (by decide)
          refine py_ile (fun _ => ?_) (fun c => absurd c (by omega))
          refine py_ieq (fun e1 => py_and ?_) (fun e1 => ?_)
          · rw [hr, if_pos e1] at hK
            rw [e40]; exact hK
          · rw [if_neg e1] at hr
            refine py_ieq (fun e2 => py_and ?_) (fun e2 => ?_)
            · rw [hr, if_pos e2] at hK
              rw [e41]; exact hK
            · rw [if_neg e2] at hr
              rw [show k = (t 41 a.toNat).toNat by omega, ← hr]
              exact hK
        | succ d ih =>
          intro k hk
          obtain ⟨n9, hn9⟩ := ih (k + 1) (by omega)
          obtain ⟨q1, q2, q3⟩ := h.1.2.2.2.1 a.toNat k (by omega) (by omega)
          have e41 : py_st t 60 0 0 41 a.toNat = t 41 a.toNat := py_sn (by decide)
          refine ⟨n9 + 1, ?_⟩
          unfold lX5_train_44
          try simp only [py_O_ap, py_l0, py_l1, py_l2, py_l3, py_l4, py_l5, py_l6, py_l7, py_l8, py_l9, py_l12, py_l16, py_l32, py_l40, py_l100, py_l640, py_l1280, py_neg, py_add, py_sub, py_mul, py_stO]
          refine py_and ?_
          rw [py_nat (by omega)]
          refine py_ile (fun c => absurd c (by omega)) (fun _ => py_and ?_)
          rw [py_nat (by omega), show (40 * a + (k : Int)).toNat = 40 * a.toNat + k by omega, py_sn (by decide)]
          refine py_and ?_
          rw [py_nat (by omega), py_sn (by decide)]
          exact hn9
      have hj : jX5_train_27 K (py_o a) (py_o w) (py_o 0) (py_O t) := by
        unfold jX5_train_27
        try simp only [py_O_ap, py_l0, py_l1, py_l2, py_l3, py_l4, py_l5, py_l6, py_l7, py_l8, py_l9, py_l12, py_l16, py_l32, py_l40, py_l100, py_l640, py_l1280, py_neg, py_add, py_sub, py_mul, py_stO]
        rw [if_pos (Int32.le_refl _)]
        exact key (t 41 a.toNat).toNat 0 (by omega)
      unfold eX5_train
      try simp only [py_O_ap, py_l0, py_l1, py_l2, py_l3, py_l4, py_l5, py_l6, py_l7, py_l8, py_l9, py_l12, py_l16, py_l32, py_l40, py_l100, py_l640, py_l1280, py_neg, py_add, py_sub, py_mul, py_stO]
      exact py_ilt (fun c => absurd c (by omega)) (fun _ => py_ile (fun c => absurd c (by omega)) (fun _ => py_ilt (fun c => absurd c (by omega)) (fun _ => py_ile (fun _ => hj) (fun c => absurd c (by omega)))))
  · refine ph_thr h (k := 0) (v := 1) (by omega) rfl (by decide) (fun K KX hK => ?_) (fun K hK => ?_)
    · unfold eX4_train
      try simp only [py_O_ap, py_l0, py_l1, py_l2, py_l3, py_l4, py_l5, py_l6, py_l7, py_l8, py_l9, py_l12, py_l16, py_l32, py_l40, py_l100, py_l640, py_l1280, py_neg, py_add, py_sub, py_mul, py_stO]
      refine pr_needWhat rw' (by omega) (fun w1 w2 => ?_) (fun _ => hK)
      unfold eX4_startOfTrain
      try simp only [py_O_ap, py_l0, py_l1, py_l2, py_l3, py_l4, py_l5, py_l6, py_l7, py_l8, py_l9, py_l12, py_l16, py_l32, py_l40, py_l100, py_l640, py_l1280, py_neg, py_add, py_sub, py_mul, py_stO]
      refine pr_startOf h.1 ra (fun a1 a2 => absurd ⟨⟨a1, a2⟩, w1, w2⟩ haw) (fun _ => ?_)
      exact py_ieq (fun _ => hK) (fun c => absurd rfl c)
    · have hj : jX5_train_22 K (py_o a) (py_o w) (py_O t) := by
        unfold jX5_train_22 jX5_train_27
        try simp only [py_O_ap, py_l0, py_l1, py_l2, py_l3, py_l4, py_l5, py_l6, py_l7, py_l8, py_l9, py_l12, py_l16, py_l32, py_l40, py_l100, py_l640, py_l1280, py_neg, py_add, py_sub, py_mul, py_stO]
        exact py_ile (fun c => absurd c (by omega)) (fun _ => hK)
      unfold eX5_train
      try simp only [py_O_ap, py_l0, py_l1, py_l2, py_l3, py_l4, py_l5, py_l6, py_l7, py_l8, py_l9, py_l12, py_l16, py_l32, py_l40, py_l100, py_l640, py_l1280, py_neg, py_add, py_sub, py_mul, py_stO]
      exact py_ilt (fun _ => hj) (fun a1 => py_ile (fun _ => hj) (fun a2 => py_ilt (fun _ => hj) (fun w1 => py_ile (fun w2 => absurd ⟨⟨a1, a2⟩, w1, w2⟩ haw) (fun _ => hj))))
theorem ph_callCar (h : ph_R s t n m) {a k : Int} (ra : -2147483648 ≤ a ∧ a < 2147483648) (rk : -2147483648 ≤ k ∧ k < 2147483648) : ph_Out (fun K KX => eX4_car (py_O s) (py_o a) (py_o k) K KX) (fun K => eX5_car (py_O t) (py_o a) (py_o k) K) py_code0 (n + 1) (m + 101) := by
  have h50 := h.1.1
  have hc0 := h.1.cnt
  have hthr : ∀ K : ty_S → Int32 → Prop, K (py_O (py_st t 60 0 1)) (py_o 0) → jX5_car_27 K (py_o a) (py_o k) (py_O t) := fun K hK => by
    unfold jX5_car_27 jX5_car_32
    try simp only [py_O_ap, py_l0, py_l1, py_l2, py_l3, py_l4, py_l5, py_l6, py_l7, py_l8, py_l9, py_l12, py_l16, py_l32, py_l40, py_l100, py_l640, py_l1280, py_neg, py_add, py_sub, py_mul, py_stO]
    exact py_ile (fun c => absurd c (by omega)) (fun _ => hK)
  by_cases ha : 0 ≤ a ∧ a < t 50 0
  · have h41 := h.1.2.1 a.toNat (by omega)
    have hlt := h.1.lt (j := a.toNat) (k := 0) (by omega) (by omega)
    have hend := h.1.end_le (j := a.toNat) (by omega)
    obtain ⟨d1, d2, d3⟩ := h.1.2.2.2.1 a.toNat 0 (by omega) (by omega)
    simp only [Nat.add_zero] at d1 d2 d3 hlt
    by_cases hk : 0 ≤ k ∧ k < t 41 a.toNat
    · obtain ⟨q1, q2, q3⟩ := h.1.2.2.2.1 a.toNat k.toNat (by omega) (by omega)
      refine ph_ret h (r := t 42 (40 * a.toNat + k.toNat)) (fun K KX hK => ?_) (fun K hK => ?_)
      · unfold eX4_car
        try simp only [py_O_ap, py_l0, py_l1, py_l2, py_l3, py_l4, py_l5, py_l6, py_l7, py_l8, py_l9, py_l12, py_l16, py_l32, py_l40, py_l100, py_l640, py_l1280, py_neg, py_add, py_sub, py_mul, py_stO]
        unfold eX4_startOfTrain
        try simp only [py_O_ap, py_l0, py_l1, py_l2, py_l3, py_l4, py_l5, py_l6, py_l7, py_l8, py_l9, py_l12, py_l16, py_l32, py_l40, py_l100, py_l640, py_l1280, py_neg, py_add, py_sub, py_mul, py_stO]
        refine pr_startOf h.1 ra (fun _ _ => ?_) (fun c => absurd c (by omega))
        refine py_ieq (fun c => absurd c (by omega)) (fun _ => ?_)
        refine pr_carAt hc0 (fun _ _ => ?_) (fun c => absurd c (by omega))
        simp only [Int.toNat_natCast]
        refine pr_trainOf (fun _ _ => ?_) (fun c => absurd c (by omega))
        rw [d1, d3]
        refine py_ilt (fun c => absurd c (by omega)) (fun _ => ?_)
        refine pr_carsOf h.1 (by omega) ?_
        refine py_ilt (fun _ => ?_) (fun c => absurd c (by omega))
        try simp only [py_O_ap, py_l0, py_l1, py_l2, py_l3, py_l4, py_l5, py_l6, py_l7, py_l8, py_l9, py_l12, py_l16, py_l32, py_l40, py_l100, py_l640, py_l1280, py_neg, py_add, py_sub, py_mul, py_stO]
        refine pr_carAt hc0 (fun _ _ => ?_) (fun c => absurd c (by omega))
        rw [show ((pr_off t a.toNat : Nat) + k).toNat = pr_off t a.toNat + k.toNat by omega, q1]
        exact hK
      · have hj : jX5_car_32 K (py_o a) (py_o k) (py_o 0) (py_O t) := by
          unfold jX5_car_32
          try simp only [py_O_ap, py_l0, py_l1, py_l2, py_l3, py_l4, py_l5, py_l6, py_l7, py_l8, py_l9, py_l12, py_l16, py_l32, py_l40, py_l100, py_l640, py_l1280, py_neg, py_add, py_sub, py_mul, py_stO]
          rw [if_pos (Int32.le_refl _)]
          refine py_and ?_
          rw [py_nat (by omega), show (40 * a + k).toNat = 40 * a.toNat + k.toNat by omega]
          exact hK
        unfold eX5_car
        try simp only [py_O_ap, py_l0, py_l1, py_l2, py_l3, py_l4, py_l5, py_l6, py_l7, py_l8, py_l9, py_l12, py_l16, py_l32, py_l40, py_l100, py_l640, py_l1280, py_neg, py_add, py_sub, py_mul, py_stO]
        refine py_ilt (fun c => absurd c (by omega)) (fun _ => py_ile (fun c => absurd c (by omega)) (fun _ => py_ilt (fun c => absurd c (by omega)) (fun _ => py_and ?_)))
        rw [py_nat (by omega)]
        exact py_ilt (fun _ => hj) (fun c => absurd c (by omega))
    · refine ph_thr h (k := 0) (v := 1) (by omega) rfl (by decide) (fun K KX hK => ?_) (fun K hK => ?_)
      · unfold eX4_car
        try simp only [py_O_ap, py_l0, py_l1, py_l2, py_l3, py_l4, py_l5, py_l6, py_l7, py_l8, py_l9, py_l12, py_l16, py_l32, py_l40, py_l100, py_l640, py_l1280, py_neg, py_add, py_sub, py_mul, py_stO]
        unfold eX4_startOfTrain
        try simp only [py_O_ap, py_l0, py_l1, py_l2, py_l3, py_l4, py_l5, py_l6, py_l7, py_l8, py_l9, py_l12, py_l16, py_l32, py_l40, py_l100, py_l640, py_l1280, py_neg, py_add, py_sub, py_mul, py_stO]
        refine pr_startOf h.1 ra (fun _ _ => ?_) (fun c => absurd c (by omega))
        refine py_ieq (fun c => absurd c (by omega)) (fun _ => ?_)
        refine pr_carAt hc0 (fun _ _ => ?_) (fun c => absurd c (by omega))
        simp only [Int.toNat_natCast]
        refine pr_trainOf (fun _ _ => ?_) (fun c => absurd c (by omega))
        rw [d1, d3]
        refine py_ilt (fun _ => hK) (fun c => ?_)
        refine pr_carsOf h.1 (by omega) ?_
        exact py_ilt (fun c2 => absurd ⟨c, c2⟩ hk) (fun _ => hK)
      · unfold eX5_car
        try simp only [py_O_ap, py_l0, py_l1, py_l2, py_l3, py_l4, py_l5, py_l6, py_l7, py_l8, py_l9, py_l12, py_l16, py_l32, py_l40, py_l100, py_l640, py_l1280, py_neg, py_add, py_sub, py_mul, py_stO]
        refine py_ilt (fun c => absurd c (by omega)) (fun _ => py_ile (fun c => absurd c (by omega)) (fun _ => py_ilt (fun _ => hthr K hK) (fun c => py_and ?_)))
        rw [py_nat (by omega)]
        exact py_ilt (fun c2 => absurd ⟨c, c2⟩ hk) (fun _ => hthr K hK)
  · refine ph_thr h (k := 0) (v := 1) (by omega) rfl (by decide) (fun K KX hK => ?_) (fun K hK => ?_)
    · unfold eX4_car
      try simp only [py_O_ap, py_l0, py_l1, py_l2, py_l3, py_l4, py_l5, py_l6, py_l7, py_l8, py_l9, py_l12, py_l16, py_l32, py_l40, py_l100, py_l640, py_l1280, py_neg, py_add, py_sub, py_mul, py_stO]
      unfold eX4_startOfTrain
      try simp only [py_O_ap, py_l0, py_l1, py_l2, py_l3, py_l4, py_l5, py_l6, py_l7, py_l8, py_l9, py_l12, py_l16, py_l32, py_l40, py_l100, py_l640, py_l1280, py_neg, py_add, py_sub, py_mul, py_stO]
      refine pr_startOf h.1 ra (fun a1 a2 => absurd ⟨a1, a2⟩ ha) (fun _ => ?_)
      exact py_ieq (fun _ => hK) (fun c => absurd rfl c)
    · unfold eX5_car
      try simp only [py_O_ap, py_l0, py_l1, py_l2, py_l3, py_l4, py_l5, py_l6, py_l7, py_l8, py_l9, py_l12, py_l16, py_l32, py_l40, py_l100, py_l640, py_l1280, py_neg, py_add, py_sub, py_mul, py_stO]
      exact py_ilt (fun _ => hthr K hK) (fun a1 => py_ile (fun _ => hthr K hK) (fun a2 => absurd ⟨a1, a2⟩ ha))
/-- word -/
theorem ph_callWord (h : ph_R s t n m) {a : Int} (ra : -2147483648 ≤ a ∧ a < 2147483648) : ph_Out (fun K KX => eX4_word (py_O s) (py_o a) K KX) (fun K => eX5_word (py_O t) (py_o a) K) py_code0 (n + 1) (m + 101) := by
  by_cases ha : 0 ≤ a ∧ a < 1280
  · have hCl : ∀ (K : ty_S → Int32 → Prop) (KX : Nat → ty_S → Prop), K (py_O s) (py_o (s 0 a.toNat)) → eX4_word (py_O s) (py_o a) K KX := fun K KX hK => by
      unfold eX4_word
      try simp only [py_O_ap, py_l0, py_l1, py_l2, py_l3, py_l4, py_l5, py_l6, py_l7, py_l8, py_l9, py_l12, py_l16, py_l32, py_l40, py_l100, py_l640, py_l1280, py_neg, py_add, py_sub, py_mul, py_stO]
      refine pr_isPlace (fun _ _ => ?_) (fun c => absurd c (by omega))
      refine py_ieq (fun c => absurd c (by omega)) (fun _ => ?_)
      exact pr_at (fun _ _ => hK) (fun c => absurd c (by omega))
    obtain ⟨c, hc⟩ : ∃ c : Nat, a / 32 = c := ⟨(a / 32).toNat, by omega⟩
    obtain ⟨w, hw⟩ : ∃ w : Nat, a - a / 32 * 32 = w := ⟨(a - a / 32 * 32).toNat, by omega⟩
    have hc40 : c < 40 := by omega
    have hw32 : w < 32 := by omega
    have haN : a.toNat = 32 * c + w := by omega
    obtain ⟨e1, e2, e3, e4, e5, e6, e7, e8⟩ := h.2.1.1 c hc40
    have h2 := h.t60 0
    -- from a thing on
    have key : ∀ (K : ty_S → Int32 → Prop), K (py_O (py_st t 60 0 0)) (py_o (s 0 a.toNat)) → ∀ d k : Nat, (k : Int) + d = t 38 c → ph_pos t c k ≤ w → ∃ n9, lX5_word_42 K n9 (py_o c) (py_o w) (py_o k) (py_O (py_st t 60 0 0)) := by
      intro K hK d
      induction d with
      | zero =>
        intro k hk hp
        have hz : s 0 a.toNat = 0 := by
          rw [haN]
          refine e8 w hw32 ?_
          rw [e4, show (t 38 c).toNat = k by omega]; omega
        have g38 : py_st t 60 0 0 38 c = t 38 c := py_sn (by decide)
        refine ⟨1, ?_⟩
        unfold lX5_word_42
        try simp only [py_O_ap, py_l0, py_l1, py_l2, py_l3, py_l4, py_l5, py_l6, py_l7, py_l8, py_l9, py_l12, py_l16, py_l32, py_l40, py_l100, py_l640, py_l1280, py_neg, py_add, py_sub, py_mul, py_stO]
        refine py_and ?_
        rw [py_nat (by omega)]
        simp only [Int.toNat_natCast]
        rw [hz] at hK
        exact py_ile (fun _ => hK) (fun c => absurd c (by omega))
      | succ d ih =>
        intro k hk hp
        have hkc : (k : Int) < t 38 c := by omega
        obtain ⟨w1, w2, w3, w4, w5, w6, w7⟩ := h.2.1.2.1 c k hc40 hkc
        obtain ⟨f1, f2, f3, f4⟩ := h.2.1.fit hc40 hkc
        obtain ⟨m1, m2, m3⟩ := h.2.2.1.2.2.2.1 c k hc40 (by omega) hkc
        have hx640 : ph_x t c k < 640 := by unfold ph_x; omega
        have e39 : t 39 (16 * c + k) = ((ph_x t c k : Nat) : Int) := by unfold ph_x; omega
        have g38 : py_st t 60 0 0 38 c = t 38 c := py_sn (by decide)
        have g39 : py_st t 60 0 0 39 (16 * c + k) = ((ph_x t c k : Nat) : Int) := by rw [py_sn (by decide)]; exact e39
        have g32 : py_st t 60 0 0 32 (ph_x t c k) = ph_pos t c k := by rw [py_sn (by decide)]; exact m3
        have g33 : py_st t 60 0 0 33 (ph_x t c k) = t 33 (ph_x t c k) := py_sn (by decide)
        have g34 : py_st t 60 0 0 34 (ph_x t c k) = t 34 (ph_x t c k) := py_sn (by decide)
        generalize hx : ph_x t c k = x at *
        have hbase : ∀ n9 : Nat, (w < ph_pos t c k + ph_sz t x → jX5_word_133 K (py_o x) (py_o (w - ph_pos t c k)) (py_o (w - ph_pos t c k - 2)) (py_O (py_st t 60 0 0)) ∨ ∃ y : Int, y = t 35 (12 * x + (w - ph_pos t c k - 2)) ∧ (2 ≤ (w : Int) - ph_pos t c k ∧ (w : Int) - ph_pos t c k - 2 < t 33 x) ∧ jX5_word_134 K (py_o x) (py_o (w - ph_pos t c k)) (py_o (w - ph_pos t c k - 2)) (py_o y) (py_O (py_st t 60 0 0))) → True := fun _ _ => trivial
        by_cases hin : w < ph_pos t c k + ph_sz t x
        · refine ⟨1, ?_⟩
          have hsw : s 0 a.toNat = s 0 (32 * c + ph_pos t c k + (w - ph_pos t c k)) := by rw [haN]; congr 1; omega
          unfold lX5_word_42
          try simp only [py_O_ap, py_l0, py_l1, py_l2, py_l3, py_l4, py_l5, py_l6, py_l7, py_l8, py_l9, py_l12, py_l16, py_l32, py_l40, py_l100, py_l640, py_l1280, py_neg, py_add, py_sub, py_mul, py_stO]
          refine py_and ?_
          rw [py_nat (by omega)]
          simp only [Int.toNat_natCast]
          refine py_ile (fun c => absurd c (by omega)) (fun _ => py_and ?_)
          rw [py_nat (by omega), show ((16 : Int) * c + k).toNat = 16 * c + k by omega, g39]
          refine py_and ?_
          rw [py_nat (by omega)]
          simp only [Int.toNat_natCast]
          rw [g32]
          refine py_ilt (fun c => absurd c (by omega)) (fun _ => ?_)
          refine pm_wordsOf hx640 ?_
          rw [g33, g34]
          refine py_ile (fun c => absurd c (by omega)) (fun _ => ?_)
          have h134 : ∀ y : Int, ((w : Int) - ph_pos t c k - 2 < 0 ∨ t 33 x ≤ (w : Int) - ph_pos t c k - 2 ∨ y = t 35 (12 * x + (w - ph_pos t c k - 2))) → (-1 ≤ y ∧ y < 640) → jX5_word_134 K (py_o x) (py_o (w - ph_pos t c k)) (py_o (w - ph_pos t c k - 2)) (py_o y) (py_O (py_st t 60 0 0)) := fun y hy hyb => by
            unfold jX5_word_134
            try simp only [py_O_ap, py_l0, py_l1, py_l2, py_l3, py_l4, py_l5, py_l6, py_l7, py_l8, py_l9, py_l12, py_l16, py_l32, py_l40, py_l100, py_l640, py_l1280, py_neg, py_add, py_sub, py_mul, py_stO]
            refine py_ieq (fun z1 => py_and ?_) (fun z1 => ?_)
            · rw [py_nat (by omega)]
              simp only [Int.toNat_natCast]
              rw [py_sn (by decide), ← w4, ← show s 0 a.toNat = s 0 (32 * c + ph_pos t c k) by rw [hsw]; congr 1; omega]
              exact hK
            · refine py_ieq (fun z2 => py_and (py_and ?_)) (fun z2 => py_and ?_)
              · rw [py_nat (by omega)]
                simp only [Int.toNat_natCast]
                try simp only [py_O_ap, py_l0, py_l1, py_l2, py_l3, py_l4, py_l5, py_l6, py_l7, py_l8, py_l9, py_l12, py_l16, py_l32, py_l40, py_l100, py_l640, py_l1280, py_neg, py_add, py_sub, py_mul, py_stO]
                rw [g33, g34, ← w5, ← show s 0 a.toNat = s 0 (32 * c + ph_pos t c k + 1) by rw [hsw]; congr 1; omega]
                exact hK
              · rw [py_nat (by omega)]
                simp only [Int.toNat_natCast]
                refine py_ilt (fun z3 => ?_) (fun z3 => py_and (py_and ?_))
                · have hy2 : y = t 35 (12 * x + (w - ph_pos t c k - 2)) := by
                    rcases hy with z4 | z4 | z4
                    · omega
                    · omega
                    · exact z4
                  have h6 := (w6 (w - ph_pos t c k - 2) (by omega)).1
                  rw [← hy2, show 32 * c + ph_pos t c k + 2 + (w - ph_pos t c k - 2) = a.toNat by omega] at h6
                  have hPV := h.2.2.1.2.2.2.2.2 x hx640 m1 (w - ph_pos t c k - 2) (by omega)
                  rw [← hy2] at hPV
                  rw [h6] at hK
                  rcases hPV with z5 | ⟨z5, z6⟩
                  · rw [z5] at hK ⊢
                    exact py_ile (fun c => absurd c (by omega)) (fun _ => hK)
                  · refine py_ile (fun _ => ?_) (fun c => absurd c (by omega))
                    have e9 : y = ((y.toNat : Nat) : Int) := by omega
                    rw [e9]
                    refine pm_place (by omega) ?_
                    rw [py_sn (by decide), py_sn (by decide)]
                    unfold ph_E at hK
                    rw [if_neg (by omega)] at hK
                    exact hK
                · rw [py_nat (by omega)]
                  have h7 := w7 (w - ph_pos t c k - 2 - (t 33 x).toNat) (by omega)
                  rw [show 32 * c + ph_pos t c k + 2 + (t 33 x).toNat + (w - ph_pos t c k - 2 - (t 33 x).toNat) = a.toNat by omega] at h7
                  rw [g33, show ((12 : Int) * x + (w - ph_pos t c k - 2) - t 33 x).toNat = 12 * x + (w - ph_pos t c k - 2 - (t 33 x).toNat) by omega, py_sn (by decide), ← h7]
                  exact hK
          refine py_ilt (fun z1 => ?_) (fun z1 => py_and ?_)
          · unfold jX5_word_133
            rw [py_lm1]
            exact h134 (-1) (Or.inl (by omega)) (by omega)
          · refine py_ile (fun z2 => ?_) (fun z2 => py_and ?_)
            · unfold jX5_word_133
              rw [py_lm1]
              exact h134 (-1) (Or.inr (Or.inl (by omega))) (by omega)
            · rw [py_nat (by omega), show ((12 : Int) * x + (w - ph_pos t c k - 2)).toNat = 12 * x + (w - ph_pos t c k - 2) by omega]
              try simp only [py_O_ap, py_l0, py_l1, py_l2, py_l3, py_l4, py_l5, py_l6, py_l7, py_l8, py_l9, py_l12, py_l16, py_l32, py_l40, py_l100, py_l640, py_l1280, py_neg, py_add, py_sub, py_mul, py_stO]
              rw [py_sn (by decide)]
              have hPV := h.2.2.1.2.2.2.2.2 x hx640 m1 (w - ph_pos t c k - 2) (by omega)
              refine h134 _ (Or.inr (Or.inr rfl)) ?_
              rcases hPV with z5 | ⟨z5, z6⟩ <;> omega
        · have hpe : ph_pos t c (k + 1) = ph_pos t c k + ph_sz t (ph_x t c k) := rfl
          rw [hx] at hpe
          obtain ⟨n9, hn9⟩ := ih (k + 1) (by omega) (by omega)
          refine ⟨n9 + 1, ?_⟩
          unfold lX5_word_42
          try simp only [py_O_ap, py_l0, py_l1, py_l2, py_l3, py_l4, py_l5, py_l6, py_l7, py_l8, py_l9, py_l12, py_l16, py_l32, py_l40, py_l100, py_l640, py_l1280, py_neg, py_add, py_sub, py_mul, py_stO]
          refine py_and ?_
          rw [py_nat (by omega)]
          simp only [Int.toNat_natCast]
          refine py_ile (fun c => absurd c (by omega)) (fun _ => py_and ?_)
          rw [py_nat (by omega), show ((16 : Int) * c + k).toNat = 16 * c + k by omega, g39]
          refine py_and ?_
          rw [py_nat (by omega)]
          simp only [Int.toNat_natCast]
          rw [g32]
          refine py_ilt (fun c => absurd c (by omega)) (fun _ => ?_)
          refine pm_wordsOf hx640 ?_
          rw [g33, g34]
          exact py_ile (fun _ => hn9) (fun c => absurd c (by omega))
    refine ph_ret h (r := s 0 a.toNat) hCl (fun K hK => ?_)
    have hj : jX5_word_17 K (py_o a) (py_o 0) (py_O t) := by
      unfold jX5_word_17
      try simp only [py_O_ap, py_l0, py_l1, py_l2, py_l3, py_l4, py_l5, py_l6, py_l7, py_l8, py_l9, py_l12, py_l16, py_l32, py_l40, py_l100, py_l640, py_l1280, py_neg, py_add, py_sub, py_mul, py_stO]
      rw [if_pos (Int32.le_refl _), py_div (by omega) (by omega)]
      try simp only [py_O_ap, py_l0, py_l1, py_l2, py_l3, py_l4, py_l5, py_l6, py_l7, py_l8, py_l9, py_l12, py_l16, py_l32, py_l40, py_l100, py_l640, py_l1280, py_neg, py_add, py_sub, py_mul, py_stO]
      rw [hc, show a - (c : Int) * 32 = w by omega]
      exact key K hK (t 38 c).toNat 0 (by omega) (by simp [ph_pos])
    unfold eX5_word
    try simp only [py_O_ap, py_l0, py_l1, py_l2, py_l3, py_l4, py_l5, py_l6, py_l7, py_l8, py_l9, py_l12, py_l16, py_l32, py_l40, py_l100, py_l640, py_l1280, py_neg, py_add, py_sub, py_mul, py_stO]
    exact py_ilt (fun c => absurd c (by omega)) (fun _ => py_ilt (fun _ => hj) (fun c => absurd c (by omega)))
  · refine ph_thr h (k := 0) (v := 1) (by omega) rfl (by decide) (fun K KX hK => ?_) (fun K hK => ?_)
    · unfold eX4_word
      try simp only [py_O_ap, py_l0, py_l1, py_l2, py_l3, py_l4, py_l5, py_l6, py_l7, py_l8, py_l9, py_l12, py_l16, py_l32, py_l40, py_l100, py_l640, py_l1280, py_neg, py_add, py_sub, py_mul, py_stO]
      exact pr_isPlace (fun a1 a2 => absurd ⟨a1, a2⟩ ha) (fun _ => py_ieq (fun _ => hK) (fun c => absurd rfl c))
    · have hj : jX5_word_12 K (py_o a) (py_O t) := by
        unfold jX5_word_12 jX5_word_17
        try simp only [py_O_ap, py_l0, py_l1, py_l2, py_l3, py_l4, py_l5, py_l6, py_l7, py_l8, py_l9, py_l12, py_l16, py_l32, py_l40, py_l100, py_l640, py_l1280, py_neg, py_add, py_sub, py_mul, py_stO]
        exact py_ile (fun c => absurd c (by omega)) (fun _ => hK)
      unfold eX5_word
      try simp only [py_O_ap, py_l0, py_l1, py_l2, py_l3, py_l4, py_l5, py_l6, py_l7, py_l8, py_l9, py_l12, py_l16, py_l32, py_l40, py_l100, py_l640, py_l1280, py_neg, py_add, py_sub, py_mul, py_stO]
      exact py_ilt (fun _ => hj) (fun a1 => py_ilt (fun a2 => absurd ⟨a1, a2⟩ ha) (fun _ => hj))
end PC5
end
section
/-! PURE: told -/
theorem py_cnt_add {P : Nat → Bool} {f : Nat → Nat} {N : Nat} : ∀ (n : Nat) (Q : Nat → Bool), (∀ a b : Nat, a < b → b < n → f a ≠ f b) → (∀ k : Nat, k < n → f k < N ∧ P (f k) = false) → (∀ x : Nat, x < N → (Q x = true ↔ P x = true ∨ ∃ k : Nat, k < n ∧ f k = x)) → py_cnt Q N = py_cnt P N + n
  | 0, Q, _, _, hQ => by
    rw [Nat.add_zero]
    refine py_cnt_congr (fun x hx => ?_)
    have := hQ x hx
    have h2 : ¬ ∃ k : Nat, k < 0 ∧ f k = x := fun ⟨k, hk, _⟩ => absurd hk (by omega)
    simp only [h2, or_false] at this
    exact Bool.eq_iff_iff.mpr this
  | n + 1, Q, hf, hP, hQ => by
    have h1 : py_cnt (fun x => Q x && decide (x ≠ f n)) N = py_cnt P N + n := by
      refine py_cnt_add n _ (fun a b hab hb => hf a b hab (by omega)) (fun k hk => hP k (by omega)) (fun x hx => ?_)
      have h2 := hQ x hx
      simp only [Bool.and_eq_true, decide_eq_true_eq, h2]
      constructor
      · intro ⟨h3, h4⟩
        rcases h3 with h5 | ⟨k, hk, h5⟩
        · exact Or.inl h5
        · by_cases e : k = n
          · subst e; exact absurd h5.symm h4
          · exact Or.inr ⟨k, by omega, h5⟩
      · intro h3
        rcases h3 with h5 | ⟨k, hk, h5⟩
        · refine ⟨Or.inl h5, fun e => ?_⟩
          rw [e, (hP n (by omega)).2] at h5
          cases h5
        · exact ⟨Or.inr ⟨k, by omega, h5⟩, fun e => hf k n hk (by omega) (h5.trans e)⟩
    rw [py_cnt_up (P := fun x => Q x && decide (x ≠ f n)) (Q := Q) (k := f n) (hP n (by omega)).1 (by simp) ((hQ _ (hP n (by omega)).1).mpr (Or.inr ⟨n, by omega, rfl⟩)) (fun x hx hne => by simp [hne]), h1]
    omega
section PT
variable {s t : py_Z} {n : Nat} {m : Int}
/-- as many things are in the cars as are live -/
theorem ph_R.count (h : ph_R s t n m) : py_sum (fun k => s 3 (s 5 (0 + k)).toNat) (s 13 0).toNat = (py_cnt (fun x => decide (0 < t 30 x)) 640 : Nat) := by
  have hc0 := h.1.cnt
  have key : ∀ i : Nat, (i : Int) ≤ s 13 0 → py_sum (fun k => s 3 (s 5 (0 + k)).toNat) i = (py_cnt (fun x => decide (0 < t 30 x ∧ ∃ j : Nat, j < i ∧ s 5 j = t 31 x)) 640 : Nat) := by
    intro i
    induction i with
    | zero =>
      intro _
      have : py_cnt (fun x => decide (0 < t 30 x ∧ ∃ j : Nat, j < 0 ∧ s 5 j = t 31 x)) 640 = 0 := py_cnt_none (fun x _ => by simp)
      rw [this]; rfl
    | succ i ih =>
      intro hi
      have hcar := (h.1.car (i := i) (by omega)).1
      obtain ⟨c, hc⟩ : ∃ c : Nat, s 5 i = c := ⟨(s 5 i).toNat, by omega⟩
      have hc40 : c < 40 := by omega
      have hCc := h.2.1.1 c hc40
      have h38 := hCc.2.2.1
      have h3 : s 3 (s 5 i).toNat = t 38 c := by rw [hc]; exact hCc.1
      have hadd := py_cnt_add (P := fun x => decide (0 < t 30 x ∧ ∃ j : Nat, j < i ∧ s 5 j = t 31 x)) (f := fun k => ph_x t c k) (N := 640) (t 38 c).toNat (fun x => decide (0 < t 30 x ∧ ∃ j : Nat, j < i + 1 ∧ s 5 j = t 31 x)) (fun a b hab hb e => by
          have := (h.2.2.1.xinj hc40 (k := a) (by omega) hc40 (k' := b) (by omega) e.symm).2
          omega) (fun k hk => by
          obtain ⟨w1, w2⟩ := h.2.1.2.1 c k hc40 (by omega)
          obtain ⟨g1, g2, g3⟩ := h.2.2.1.2.2.2.1 c k hc40 (by omega) (by omega)
          refine ⟨by unfold ph_x; omega, ?_⟩
          simp only [decide_eq_false_iff_not]
          intro ⟨_, j, hj, e⟩
          have := h.1.inj (i := j) (j := i) (by omega) (by omega) (by omega)
          omega) (fun x hx => by
          simp only [decide_eq_true_eq]
          constructor
          · intro ⟨hl, j, hj, e⟩
            by_cases e1 : j = i
            · subst e1
              obtain ⟨c', k, hc', hk, p1, p2, p3⟩ := h.2.2.1.2.2.1 x hx hl
              have : c' = c := by omega
              subst this
              exact Or.inr ⟨k, by omega, p1⟩
            · exact Or.inl ⟨hl, j, by omega, e⟩
          · intro h9
            rcases h9 with ⟨hl, j, hj, e⟩ | ⟨k, hk, e⟩
            · exact ⟨hl, j, by omega, e⟩
            · obtain ⟨g1, g2, g3⟩ := h.2.2.1.2.2.2.1 c k hc40 (by omega) (by omega)
              have e' : ph_x t c k = x := e
              rw [e'] at g1 g2
              exact ⟨g1, i, by omega, by omega⟩)
      simp only [py_sum]
      rw [ih (by omega), Nat.zero_add, h3, hadd]
      omega
  rw [key _ (by omega)]
  have : py_cnt (fun x => decide (0 < t 30 x ∧ ∃ j : Nat, j < (s 13 0).toNat ∧ s 5 j = t 31 x)) 640 = py_cnt (fun x => decide (0 < t 30 x)) 640 := py_cnt_congr (fun x hx => by
    by_cases hl : 0 < t 30 x
    · obtain ⟨c, k, hc, hk, p1, p2, p3, p4, p5⟩ := ph_live h.2.1 h.2.2.1 hx hl
      obtain ⟨j, hj, e⟩ := h.1.2.2.2.2.2.2.2.1 c hc p4
      have : ∃ j : Nat, j < (s 13 0).toNat ∧ s 5 j = t 31 x := ⟨j, by omega, by omega⟩
      exact (decide_eq_true ⟨hl, this⟩).trans (decide_eq_true hl).symm
    · simp [hl])
  rw [this]
theorem ph_callTold (h : ph_R s t n m) {w : Int} (rw' : -2147483648 ≤ w ∧ w < 2147483648) : ph_Out (fun K KX => eX4_told (py_O s) (py_o w) K KX) (fun K => eX5_told (py_O t) (py_o w) K) py_code0 (n + 1) (m + 101) := by
  have hc0 := h.1.cnt
  have h2 := h.t60 0
  obtain ⟨b1, b2, b3, b4, b5, b6, b7, b8, b9, b10⟩ := id h
  by_cases hw : 0 ≤ w ∧ w ≤ 9
  · obtain ⟨r, hr⟩ : ∃ r : Int, r = (if w = 0 then t 50 0 else if w = 1 then 40 - s 13 0 else if w = 2 then (py_cnt (fun x => decide (0 < t 30 x)) 640 : Nat) else if w = 3 then t 52 0 else if w = 4 then t 53 0 else if w = 5 then t 54 0 else if w = 6 then t 55 0 else if w = 7 then t 56 0 else if w = 8 then t 57 0 else t 58 0) := ⟨_, rfl⟩
    refine ph_ret h (r := r) (fun K KX hK => ?_) (fun K hK => ?_)
    · unfold eX4_told
      try simp only [py_O_ap, py_l0, py_l1, py_l2, py_l3, py_l4, py_l5, py_l6, py_l7, py_l8, py_l9, py_l12, py_l16, py_l32, py_l40, py_l100, py_l640, py_l1280, py_neg, py_add, py_sub, py_mul, py_stO]
      refine pr_needWhat rw' (by omega) (fun _ _ => ?_) (fun c => absurd hw c)
      refine py_ieq (fun e1 => ?_) (fun e1 => ?_)
      · rw [hr, if_pos e1] at hK; exact pr_countTrains h.1 hK
      · rw [if_neg e1] at hr
        refine py_ieq (fun e2 => ?_) (fun e2 => ?_)
        · rw [hr, if_pos e2] at hK; exact pr_countFree hK
        · rw [if_neg e2] at hr
          refine py_ieq (fun e3 => ?_) (fun e3 => ?_)
          · rw [hr, if_pos e3, ← h.count] at hK
            try simp only [py_O_ap, py_l0, py_l1, py_l2, py_l3, py_l4, py_l5, py_l6, py_l7, py_l8, py_l9, py_l12, py_l16, py_l32, py_l40, py_l100, py_l640, py_l1280, py_neg, py_add, py_sub, py_mul, py_stO]
            rw [show s 13 0 = (((s 13 0).toNat : Nat) : Int) by omega, show (0 : Int) = ((0 : Nat) : Int) from rfl]
            exact pr_thingsIn hc0 (by omega) (fun k hk => (h.1.car hk).1) (fun c hc => by have := h.2.1.1 c hc; have h3' := this.1; have := this.2.2.1; omega) hK
          · rw [if_neg e3] at hr
            refine py_ieq (fun e4 => ?_) (fun e4 => ?_)
            · rw [hr, if_pos e4, ← b6.1] at hK; exact hK
            · rw [if_neg e4] at hr
              refine py_ieq (fun e5 => ?_) (fun e5 => ?_)
              · rw [hr, if_pos e5, ← b6.2.1] at hK; exact hK
              · rw [if_neg e5] at hr
                refine py_ieq (fun e6 => ?_) (fun e6 => ?_)
                · rw [hr, if_pos e6, ← b6.2.2.1] at hK; exact hK
                · rw [if_neg e6] at hr
                  refine py_ieq (fun e7 => ?_) (fun e7 => ?_)
                  · rw [hr, if_pos e7, ← b6.2.2.2.1] at hK; exact hK
                  · rw [if_neg e7] at hr
                    refine py_ieq (fun e8 => ?_) (fun e8 => ?_)
                    · rw [hr, if_pos e8, ← b6.2.2.2.2] at hK; exact hK
                    · rw [if_neg e8] at hr
                      refine py_ieq (fun e9 => ?_) (fun e9 => ?_)
                      · rw [hr, if_pos e9, ← b1.2.2.2.2.2.2.1.1] at hK; exact hK
                      · rw [hr, if_neg e9, ← b8.1] at hK; exact hK
    · have key : ∀ d x : Nat, x + d = 640 → ∃ n9, lX5_told_32 K n9 (py_o w) (py_o (py_cnt (fun x => decide (0 < t 30 x)) x)) (py_o x) (py_O (py_st t 60 0 0)) := by
        intro d
        induction d with
        | zero =>
          intro x hx
          refine ⟨1, ?_⟩
          have g : ∀ g i, g ≠ 60 → py_st t 60 0 0 g i = t g i := fun g i hg => py_sn hg
          unfold lX5_told_32
          try simp only [py_O_ap, py_l0, py_l1, py_l2, py_l3, py_l4, py_l5, py_l6, py_l7, py_l8, py_l9, py_l12, py_l16, py_l32, py_l40, py_l100, py_l640, py_l1280, py_neg, py_add, py_sub, py_mul, py_stO]
          refine py_ile (fun _ => ?_) (fun c => absurd c (by omega))
          rw [show x = 640 by omega]
          simp only [g 50 0 (by decide), g 52 0 (by decide), g 53 0 (by decide), g 54 0 (by decide), g 55 0 (by decide), g 56 0 (by decide), g 57 0 (by decide), g 58 0 (by decide)]
          refine py_ieq (fun e1 => ?_) (fun e1 => ?_)
          · rw [hr, if_pos e1] at hK; exact hK
          · rw [if_neg e1] at hr
            refine py_ieq (fun e2 => ?_) (fun e2 => ?_)
            · rw [hr, if_pos e2] at hK; exact pm_freeCars h2.1 hK
            · rw [if_neg e2] at hr
              refine py_ieq (fun e3 => ?_) (fun e3 => ?_)
              · rw [hr, if_pos e3] at hK; exact hK
              · rw [if_neg e3] at hr
                refine py_ieq (fun e4 => ?_) (fun e4 => ?_)
                · rw [hr, if_pos e4] at hK; exact hK
                · rw [if_neg e4] at hr
                  refine py_ieq (fun e5 => ?_) (fun e5 => ?_)
                  · rw [hr, if_pos e5] at hK; exact hK
                  · rw [if_neg e5] at hr
                    refine py_ieq (fun e6 => ?_) (fun e6 => ?_)
                    · rw [hr, if_pos e6] at hK; exact hK
                    · rw [if_neg e6] at hr
                      refine py_ieq (fun e7 => ?_) (fun e7 => ?_)
                      · rw [hr, if_pos e7] at hK; exact hK
                      · rw [if_neg e7] at hr
                        refine py_ieq (fun e8 => ?_) (fun e8 => ?_)
                        · rw [hr, if_pos e8] at hK; exact hK
                        · rw [if_neg e8] at hr
                          refine py_ieq (fun e9 => ?_) (fun e9 => ?_)
                          · rw [hr, if_pos e9] at hK; exact hK
                          · rw [hr, if_neg e9] at hK; exact hK
        | succ d ih =>
          intro x hx
          obtain ⟨n9, hn9⟩ := ih (x + 1) (by omega)
          have hl := b3.2.1 x (by omega)
          have h58 := b3.1
          have g30 : py_st t 60 0 0 30 x = t 30 x := py_sn (by decide)
          have hcs : py_cnt (fun x => decide (0 < t 30 x)) (x + 1) = py_cnt (fun x => decide (0 < t 30 x)) x + (if decide (0 < t 30 x) = true then 1 else 0) := rfl
          refine ⟨n9 + 1, ?_⟩
          unfold lX5_told_32
          try simp only [py_O_ap, py_l0, py_l1, py_l2, py_l3, py_l4, py_l5, py_l6, py_l7, py_l8, py_l9, py_l12, py_l16, py_l32, py_l40, py_l100, py_l640, py_l1280, py_neg, py_add, py_sub, py_mul, py_stO]
          refine py_ile (fun c => absurd c (by omega)) (fun _ => py_and ?_)
          rw [py_nat (by omega)]
          simp only [Int.toNat_natCast]
          refine py_ile (fun c => ?_) (fun c => ?_)
          · rw [hcs, if_neg (by simp; omega)] at hn9
            rw [show ((py_cnt (fun x => decide (0 < t 30 x)) x : Nat) : Int) + 0 = ((py_cnt (fun x => decide (0 < t 30 x)) x + 0 : Nat) : Int) by omega]
            exact hn9
          · rw [hcs, if_pos (by simp; omega)] at hn9
            rw [show ((py_cnt (fun x => decide (0 < t 30 x)) x : Nat) : Int) + 1 = ((py_cnt (fun x => decide (0 < t 30 x)) x + 1 : Nat) : Int) by omega]
            exact hn9
      have hj : jX5_told_16 K (py_o w) (py_o 0) (py_O t) := by
        unfold jX5_told_16
        try simp only [py_O_ap, py_l0, py_l1, py_l2, py_l3, py_l4, py_l5, py_l6, py_l7, py_l8, py_l9, py_l12, py_l16, py_l32, py_l40, py_l100, py_l640, py_l1280, py_neg, py_add, py_sub, py_mul, py_stO]
        rw [if_pos (Int32.le_refl _)]
        exact key 640 0 rfl
      unfold eX5_told
      try simp only [py_O_ap, py_l0, py_l1, py_l2, py_l3, py_l4, py_l5, py_l6, py_l7, py_l8, py_l9, py_l12, py_l16, py_l32, py_l40, py_l100, py_l640, py_l1280, py_neg, py_add, py_sub, py_mul, py_stO]
      exact py_ilt (fun c => absurd c (by omega)) (fun _ => py_ile (fun _ => hj) (fun c => absurd c (by omega)))
  · refine ph_thr h (k := 0) (v := 1) (by omega) rfl (by decide) (fun K KX hK => ?_) (fun K hK => ?_)
    · unfold eX4_told
      try simp only [py_O_ap, py_l0, py_l1, py_l2, py_l3, py_l4, py_l5, py_l6, py_l7, py_l8, py_l9, py_l12, py_l16, py_l32, py_l40, py_l100, py_l640, py_l1280, py_neg, py_add, py_sub, py_mul, py_stO]
      exact pr_needWhat rw' (by omega) (fun a1 a2 => absurd ⟨a1, a2⟩ hw) (fun _ => hK)
    · have hj : jX5_told_11 K (py_o w) (py_O t) := by
        unfold jX5_told_11 jX5_told_16
        try simp only [py_O_ap, py_l0, py_l1, py_l2, py_l3, py_l4, py_l5, py_l6, py_l7, py_l8, py_l9, py_l12, py_l16, py_l32, py_l40, py_l100, py_l640, py_l1280, py_neg, py_add, py_sub, py_mul, py_stO]
        exact py_ile (fun c => absurd c (by omega)) (fun _ => hK)
      unfold eX5_told
      try simp only [py_O_ap, py_l0, py_l1, py_l2, py_l3, py_l4, py_l5, py_l6, py_l7, py_l8, py_l9, py_l12, py_l16, py_l32, py_l40, py_l100, py_l640, py_l1280, py_neg, py_add, py_sub, py_mul, py_stO]
      exact py_ilt (fun _ => hj) (fun a1 => py_ile (fun a2 => absurd ⟨a1, a2⟩ hw) (fun _ => hj))
end PT
end
section
/-! PURE: what a car remembers -/
/-- the reference at this place is one that the car remembers -/
def ph_Rm (s t : py_Z) (c p : Nat) : Prop := ∃ d k i j : Nat, d < 40 ∧ (k : Int) < t 38 d ∧ (i : Int) < t 33 (ph_x t d k) ∧ p = 32 * d + ph_pos t d k + 2 + i ∧ 0 ≤ t 35 (12 * ph_x t d k + i) ∧ t 31 (t 35 (12 * ph_x t d k + i)).toNat = c ∧ (j : Int) < s 13 0 ∧ s 5 j = d ∧ ∀ b : Nat, (b : Int) < s 13 0 → s 5 b = c → b < j
noncomputable def ph_rc (s t : py_Z) (c : Nat) : Nat → Nat := fun B => @py_cnt (fun p => @decide (ph_Rm s t c p) (Classical.propDecidable _)) B
theorem ph_rc_y {s t : py_Z} {c B : Nat} (h : ph_Rm s t c B) : ph_rc s t c (B + 1) = ph_rc s t c B + 1 := by
  show py_cnt _ B + _ = py_cnt _ B + 1
  rw [if_pos (@decide_eq_true _ (Classical.propDecidable _) h)]
theorem ph_rc_n {s t : py_Z} {c B : Nat} (h : ¬ ph_Rm s t c B) : ph_rc s t c (B + 1) = ph_rc s t c B := by
  have e : (fun p => @decide (ph_Rm s t c p) (Classical.propDecidable _)) B = false := @decide_eq_false _ (Classical.propDecidable _) h
  show py_cnt _ B + _ = py_cnt _ B
  rw [if_neg (fun e2 => by rw [e] at e2; cases e2)]
  rfl
theorem ph_rc_gap {s t : py_Z} {c B : Nat} : ∀ (d : Nat), (∀ p : Nat, B ≤ p → p < B + d → ¬ ph_Rm s t c p) → ph_rc s t c (B + d) = ph_rc s t c B
  | 0, _ => rfl
  | d + 1, h => by rw [← Nat.add_assoc, ph_rc_n (h _ (by omega) (by omega)), ph_rc_gap d (fun p h1 h2 => h p h1 (by omega))]
theorem ph_rc_to {s t : py_Z} {c B B' : Nat} (hB : B ≤ B') (h : ∀ p : Nat, B ≤ p → p < B' → ¬ ph_Rm s t c p) : ph_rc s t c B' = ph_rc s t c B := by
  have := ph_rc_gap (s := s) (t := t) (c := c) (B := B) (B' - B) (fun p h1 h2 => h p h1 (by omega))
  rwa [show B + (B' - B) = B' by omega] at this
theorem ph_rc_le {s t : py_Z} {c : Nat} (B : Nat) : ph_rc s t c B ≤ B := py_cnt_le _ _
theorem ph_rc_mono {s t : py_Z} {c B : Nat} : ∀ d : Nat, ph_rc s t c B ≤ ph_rc s t c (B + d)
  | 0 => Nat.le_refl _
  | d + 1 => by
    have h1 := ph_rc_mono (s := s) (t := t) (c := c) (B := B) d
    rcases Classical.em (ph_Rm s t c (B + d)) with h | h
    · rw [← Nat.add_assoc, ph_rc_y h]; omega
    · rw [← Nat.add_assoc, ph_rc_n h]; exact h1
theorem ph_rc_lt {s t : py_Z} {c B B' : Nat} (h : ph_Rm s t c B) (hB : B < B') : ph_rc s t c B < ph_rc s t c B' := by
  have := ph_rc_mono (s := s) (t := t) (c := c) (B := B + 1) (B' - (B + 1))
  rw [show B + 1 + (B' - (B + 1)) = B' by omega, ph_rc_y h] at this
  omega
section PRB
variable {s t : py_Z} {n : Nat} {m : Int}
/-- the next one that the class finds -/
theorem pr_nextRemembered (h : ph_R s t n m) {c a : Nat} (hc : c < 40) (ha : a ≤ 1280) : ∃ q : Nat, a ≤ q ∧ q ≤ 1280 ∧ (q = 1280 ∨ ph_Rm s t c q) ∧ (∀ p : Nat, a ≤ p → p < q → ¬ ph_Rm s t c p) ∧ ∀ K : ty_S → Int32 → Prop, K (py_O s) (py_o q) → eX3_nextRemembered (py_O s) (py_o c) (py_o a) K := by
  have hTH := h.2.1
  have hMH := h.2.2.1
  -- where the car stands
  obtain ⟨ix, hix1, hix2, hix3⟩ : ∃ ix : Int, (-1 ≤ ix ∧ ix < 40) ∧ (∀ K : ty_S → Int32 → Prop, K (py_O s) (py_o ix) → eX1_indexOf (py_O s) (py_o c) K) ∧ (∀ j : Nat, (j : Int) < s 13 0 → (ix < j ↔ ∀ b : Nat, (b : Int) < s 13 0 → s 5 b = c → b < j)) := by
    have hc0 := h.1.cnt
    by_cases e : ∃ i : Nat, (i : Int) < s 13 0 ∧ s 5 i = c
    · obtain ⟨i, hi, e1⟩ := e
      refine ⟨i, by omega, fun K hK => pr_indexOf h.1 (by omega) (fun i' hi' e2 => ?_) (fun hno => absurd e1 (hno i hi)), fun j hj => ⟨fun h1 b hb e2 => ?_, fun h1 => ?_⟩⟩
      · have : i' = i := h.1.inj hi' hi (by omega)
        rw [this]; exact hK
      · have : b = i := h.1.inj hb hi (by omega)
        omega
      · have := h1 i hi e1; omega
    · refine ⟨-1, by omega, fun K hK => pr_indexOf h.1 (by omega) (fun i' hi' e2 => absurd ⟨i', hi', e2⟩ e) (fun _ => hK), fun j hj => ⟨fun _ b hb e2 => absurd ⟨b, hb, e2⟩ e, fun _ => by omega⟩⟩
  -- one reference: taken, or passed
  have hone : ∀ r : Nat, r < 1280 → s 1 r = 1 → ∀ (K : ty_S → Int32 → Prop) (n9 : Nat), (ph_Rm s t c r → K (py_O s) (py_o r)) → (¬ ph_Rm s t c r → eX0_nextReference (py_O s) (py_o (r + 1 : Nat)) (fun S5 r5 => lX3_nextRemembered_19 K n9 (py_o c) (py_o ix) r5 S5)) → lX3_nextRemembered_19 K (n9 + 1) (py_o c) (py_o ix) (py_o r) (py_O s) := fun r hr hs1 K n9 hy hn => by
    obtain ⟨d, k, i, hd, hk, hi, hrp⟩ := ((hTH.2.2 r hr).resolve_left (by omega)).2
    obtain ⟨f1, f2, f3, f4⟩ := hTH.fit hd hk
    obtain ⟨w1, w2, w3, w4, w5, w6, w7⟩ := hTH.2.1 d k hd hk
    obtain ⟨m1, m2, m3⟩ := hMH.2.2.2.1 d k hd (by omega) hk
    have hx640 : ph_x t d k < 640 := by unfold ph_x; omega
    have hPV := hMH.2.2.2.2.2 (ph_x t d k) hx640 m1 i hi
    have hword : s 0 r = ph_E t (t 35 (12 * ph_x t d k + i)) := by rw [hrp, (w6 i hi).1]
    have h6d : s 6 d ≠ 0 := fun e1 => by have := (hTH.1 d hd).2.2.2.2.2.1 e1; omega
    obtain ⟨j, hj, hjd⟩ := h.1.2.2.2.2.2.2.2.1 d hd h6d
    have hc0 := h.1.cnt
    have huniq : ph_Rm s t c r → 0 ≤ t 35 (12 * ph_x t d k + i) ∧ t 31 (t 35 (12 * ph_x t d k + i)).toNat = c ∧ ix < j := fun ⟨d', k', i', j', z1, z2, z3, z4, z5, z6, z7, z8, z9⟩ => by
      obtain ⟨q1, q2, q3⟩ := hTH.refinj z1 z2 z3 hd hk hi (by omega)
      subst q1; subst q2; subst q3
      have : j' = j := h.1.inj z7 hj (by omega)
      subst this
      exact ⟨z5, z6, (hix3 j' hj).mpr z9⟩
    have hmk : 0 ≤ t 35 (12 * ph_x t d k + i) → t 31 (t 35 (12 * ph_x t d k + i)).toNat = c → ix < j → ph_Rm s t c r := fun a1 a2 a3 => ⟨d, k, i, j, hd, hk, hi, hrp, a1, a2, hj, hjd, (hix3 j hj).mp a3⟩
    have hpass : ¬ ph_Rm s t c r → jX3_nextRemembered_62 K (fun a0 a1 a2 S9 => lX3_nextRemembered_19 K n9 a0 a1 a2 S9) (py_o c) (py_o ix) (py_o r) (py_O s) := fun hno => by
      unfold jX3_nextRemembered_62
      try simp only [py_O_ap, py_l0, py_l1, py_l2, py_l3, py_l4, py_l5, py_l6, py_l7, py_l8, py_l9, py_l12, py_l16, py_l32, py_l40, py_l100, py_l640, py_l1280, py_neg, py_add, py_sub, py_mul, py_stO]
      exact hn hno
    have hE : (t 35 (12 * ph_x t d k + i) < 0 ∧ ph_E t (t 35 (12 * ph_x t d k + i)) = -1) ∨ (0 ≤ t 35 (12 * ph_x t d k + i) ∧ (0 ≤ t 31 (t 35 (12 * ph_x t d k + i)).toNat ∧ t 31 (t 35 (12 * ph_x t d k + i)).toNat < 40) ∧ 0 ≤ ph_E t (t 35 (12 * ph_x t d k + i)) ∧ ph_E t (t 35 (12 * ph_x t d k + i)) < 1280 ∧ ph_E t (t 35 (12 * ph_x t d k + i)) / 32 = t 31 (t 35 (12 * ph_x t d k + i)).toNat) := by
      rcases hPV with e1 | ⟨e1, e2⟩
      · exact Or.inl ⟨by omega, by rw [e1]; rfl⟩
      · obtain ⟨c', k', hc', hk', g1, g2, g3, g4, g5, g6⟩ := ph_live hTH hMH (x := (t 35 (12 * ph_x t d k + i)).toNat) (by omega) e2
        have : ph_E t (t 35 (12 * ph_x t d k + i)) = 32 * t 31 (t 35 (12 * ph_x t d k + i)).toNat + t 32 (t 35 (12 * ph_x t d k + i)).toNat := by unfold ph_E; rw [if_neg (by omega)]
        exact Or.inr ⟨e1.1, by omega, by omega, by omega, by omega⟩
    unfold lX3_nextRemembered_19
    try simp only [py_O_ap, py_l0, py_l1, py_l2, py_l3, py_l4, py_l5, py_l6, py_l7, py_l8, py_l9, py_l12, py_l16, py_l32, py_l40, py_l100, py_l640, py_l1280, py_neg, py_add, py_sub, py_mul, py_stO]
    refine py_ile (fun c => absurd c (by omega)) (fun _ => ?_)
    refine pr_at (fun _ _ => ?_) (fun c => absurd c (by omega))
    simp only [Int.toNat_natCast]
    rw [hword]
    rcases hE with ⟨e1, e2⟩ | ⟨e1, e2, e3, e4, e5⟩
    · rw [e2]
      refine pr_carOf (fun c _ => absurd c (by omega)) (fun _ => ?_)
      exact py_ieq (fun c => absurd c (by omega)) (fun _ => hpass (fun hw => by have := (huniq hw).1; omega))
    · refine pr_carOf (fun _ _ => ?_) (fun c => absurd c (by omega))
      rw [e5]
      refine py_ieq (fun e6 => ?_) (fun e6 => hpass (fun hw => e6 (huniq hw).2.1))
      refine pr_carOf (fun _ _ => ?_) (fun c => absurd c (by omega))
      rw [show (r : Int) / 32 = d by omega]
      refine pr_indexOf h.1 (by omega) (fun j' hj' e7 => ?_) (fun hno => absurd hjd (hno j hj))
      have e8 : j' = j := h.1.inj hj' hj (by omega)
      subst e8
      exact py_ile (fun e9 => hpass (fun hw => by have := (huniq hw).2.2; omega)) (fun e9 => hy (hmk e1 e6 e9))
  have key : ∀ d r : Nat, 1280 - r ≤ d → r ≤ 1280 → (r = 1280 ∨ s 1 r = 1) → ∃ q : Nat, r ≤ q ∧ q ≤ 1280 ∧ (q = 1280 ∨ ph_Rm s t c q) ∧ (∀ p : Nat, r ≤ p → p < q → ¬ ph_Rm s t c p) ∧ ∀ K : ty_S → Int32 → Prop, K (py_O s) (py_o q) → ∃ n9, lX3_nextRemembered_19 K n9 (py_o c) (py_o ix) (py_o r) (py_O s) := by
    intro d
    have hend : ∀ r : Nat, r = 1280 → ∃ q : Nat, r ≤ q ∧ q ≤ 1280 ∧ (q = 1280 ∨ ph_Rm s t c q) ∧ (∀ p : Nat, r ≤ p → p < q → ¬ ph_Rm s t c p) ∧ ∀ K : ty_S → Int32 → Prop, K (py_O s) (py_o q) → ∃ n9, lX3_nextRemembered_19 K n9 (py_o c) (py_o ix) (py_o r) (py_O s) := fun r e1 => by
      subst e1
      refine ⟨1280, by omega, by omega, Or.inl rfl, fun p h1 h2 => absurd h2 (by omega), fun K hK => ⟨1, ?_⟩⟩
      unfold lX3_nextRemembered_19
      try simp only [py_O_ap, py_l0, py_l1, py_l2, py_l3, py_l4, py_l5, py_l6, py_l7, py_l8, py_l9, py_l12, py_l16, py_l32, py_l40, py_l100, py_l640, py_l1280, py_neg, py_add, py_sub, py_mul, py_stO]
      exact py_ile (fun _ => hK) (fun c => absurd c (by omega))
    induction d with
    | zero => intro r hd hr _; exact hend r (by omega)
    | succ d ih =>
      intro r hd hr hr1
      by_cases e1 : r = 1280
      · exact hend r e1
      · have hs1 := hr1.resolve_left e1
        rcases Classical.em (ph_Rm s t c r) with hw | hw
        · exact ⟨r, by omega, by omega, Or.inr hw, fun p h1 h2 => absurd h2 (by omega), fun K hK => ⟨1, hone r (by omega) hs1 K 0 (fun _ => hK) (fun hno => absurd hw hno)⟩⟩
        · obtain ⟨r', b1, b2, b3, b4, b5⟩ := pr_nextEx hTH.ir (a := r + 1) (by omega)
          obtain ⟨q, q1, q2, q3, q4, q5⟩ := ih r' (by omega) b2 b3
          refine ⟨q, by omega, q2, q3, fun p h1 h2 hp => ?_, fun K hK => ?_⟩
          · by_cases e2 : p = r
            · rw [e2] at hp; exact hw hp
            · by_cases e3 : p < r'
              · have h4 := b4 p (by omega) e3
                obtain ⟨d', k', i', j', z1, z2, z3, z4, z5⟩ := hp
                have h5 := ((hTH.2.1 d' k' z1 z2).2.2.2.2.2.1 i' z3).2
                rw [← z4] at h5
                omega
              · exact q4 p (by omega) h2 hp
          · obtain ⟨n9, hn9⟩ := q5 K hK
            exact ⟨n9 + 1, hone r (by omega) hs1 K n9 (fun hw2 => absurd hw2 hw) (fun _ => b5 _ hn9)⟩
  obtain ⟨r', b1, b2, b3, b4, b5⟩ := pr_nextEx hTH.ir (a := a) ha
  obtain ⟨q, q1, q2, q3, q4, q5⟩ := key 1280 r' (by omega) b2 b3
  refine ⟨q, by omega, q2, q3, fun p h1 h2 hp => ?_, fun K hK => ?_⟩
  · by_cases e3 : p < r'
    · have h4 := b4 p h1 e3
      obtain ⟨d', k', i', j', z1, z2, z3, z4, z5⟩ := hp
      have h5 := ((hTH.2.1 d' k' z1 z2).2.2.2.2.2.1 i' z3).2
      rw [← z4] at h5
      omega
    · exact q4 p (by omega) h2 hp
  · unfold eX3_nextRemembered
    refine hix2 _ ?_
    exact b5 _ (q5 K hK)
theorem pr_countRemembered (h : ph_R s t n m) {c : Nat} (hc : c < 40) {K : ty_S → Int32 → Prop} (hK : K (py_O s) (py_o (ph_rc s t c 1280))) : eX3_countRemembered (py_O s) (py_o c) K := by
  have key : ∀ d q : Nat, 1280 - q ≤ d → q ≤ 1280 → (q = 1280 ∨ ph_Rm s t c q) → ∃ n9, lX3_countRemembered_9 K n9 (py_o c) (py_o (ph_rc s t c q)) (py_o q) (py_O s) := by
    intro d
    have hend : ∃ n9, lX3_countRemembered_9 K n9 (py_o c) (py_o (ph_rc s t c 1280)) (py_o (1280 : Nat)) (py_O s) := by
      refine ⟨1, ?_⟩
      unfold lX3_countRemembered_9
      try simp only [py_O_ap, py_l0, py_l1, py_l2, py_l3, py_l4, py_l5, py_l6, py_l7, py_l8, py_l9, py_l12, py_l16, py_l32, py_l40, py_l100, py_l640, py_l1280, py_neg, py_add, py_sub, py_mul, py_stO]
      exact py_ile (fun _ => hK) (fun c => absurd c (by omega))
    induction d with
    | zero => intro q hd hq _; rw [show q = 1280 by omega]; exact hend
    | succ d ih =>
      intro q hd hq hq1
      by_cases e1 : q = 1280
      · rw [e1]; exact hend
      · obtain ⟨q', b1, b2, b3, b4, b5⟩ := pr_nextRemembered h hc (a := q + 1) (by omega)
        obtain ⟨n9, hn9⟩ := ih q' (by omega) b2 b3
        rw [ph_rc_to b1 b4, ph_rc_y (hq1.resolve_left e1)] at hn9
        refine ⟨n9 + 1, ?_⟩
        unfold lX3_countRemembered_9
        try simp only [py_O_ap, py_l0, py_l1, py_l2, py_l3, py_l4, py_l5, py_l6, py_l7, py_l8, py_l9, py_l12, py_l16, py_l32, py_l40, py_l100, py_l640, py_l1280, py_neg, py_add, py_sub, py_mul, py_stO]
        refine py_ile (fun c => absurd c (by omega)) (fun _ => ?_)
        exact b5 _ hn9
  obtain ⟨q', b1, b2, b3, b4, b5⟩ := pr_nextRemembered h hc (a := 0) (by omega)
  obtain ⟨n9, hn9⟩ := key 1280 q' (by omega) b2 b3
  rw [ph_rc_to b1 b4] at hn9
  unfold eX3_countRemembered
  rw [py_l0]
  exact b5 _ ⟨n9, hn9⟩
/-- the k-th one, or none -/
theorem pr_remembered (h : ph_R s t n m) {c : Nat} (hc : c < 40) {k : Int} (hk : 0 ≤ k ∧ k < 1280) {K : ty_S → Int32 → Prop} {KX : Nat → ty_S → Prop} (h1 : ∀ p : Nat, p < 1280 → ph_Rm s t c p → (ph_rc s t c p : Int) = k → K (py_O s) (py_o p)) (h0 : (ph_rc s t c 1280 : Int) ≤ k → K (py_O s) (py_o (-1))) : eX4_remembered (py_O s) (py_o c) (py_o k) K KX := by
  have key : ∀ d q i : Nat, 1280 - q ≤ d → q ≤ 1280 → (q = 1280 ∨ ph_Rm s t c q) → (q < 1280 → (i : Int) = ph_rc s t c q) → (q = 1280 → (ph_rc s t c 1280 : Int) ≤ i) → (i : Int) ≤ k → ∃ n9, lX4_remembered_30 K KX n9 (py_o c) (py_o k) (py_o q) (py_o i) (py_O s) := by
    intro d
    induction d with
    | zero =>
      intro q i hd hq _ _ hi2 hik
      have e1 : q = 1280 := by omega
      have := hi2 e1
      have hj : jX4_remembered_61 K KX (py_o q) (py_O s) := by
        unfold jX4_remembered_61
        try simp only [py_O_ap, py_l0, py_l1, py_l2, py_l3, py_l4, py_l5, py_l6, py_l7, py_l8, py_l9, py_l12, py_l16, py_l32, py_l40, py_l100, py_l640, py_l1280, py_neg, py_add, py_sub, py_mul, py_stO]
        exact py_ile (fun _ => h0 (by omega)) (fun c => absurd c (by omega))
      refine ⟨1, ?_⟩
      unfold lX4_remembered_30
      try simp only [py_O_ap, py_l0, py_l1, py_l2, py_l3, py_l4, py_l5, py_l6, py_l7, py_l8, py_l9, py_l12, py_l16, py_l32, py_l40, py_l100, py_l640, py_l1280, py_neg, py_add, py_sub, py_mul, py_stO]
      exact py_ile (fun _ => hj) (fun _ => py_ile (fun _ => hj) (fun c => absurd c (by omega)))
    | succ d ih =>
      intro q i hd hq hq1 hi1 hi2 hik
      by_cases e1 : q = 1280
      · exact ih q i (by omega) hq hq1 hi1 hi2 hik
      · have hw := hq1.resolve_left e1
        have hi := hi1 (by omega)
        by_cases e2 : (i : Int) = k
        · have hj : jX4_remembered_61 K KX (py_o q) (py_O s) := by
            unfold jX4_remembered_61
            try simp only [py_O_ap, py_l0, py_l1, py_l2, py_l3, py_l4, py_l5, py_l6, py_l7, py_l8, py_l9, py_l12, py_l16, py_l32, py_l40, py_l100, py_l640, py_l1280, py_neg, py_add, py_sub, py_mul, py_stO]
            exact py_ile (fun c => absurd c (by omega)) (fun _ => h1 q (by omega) hw (by omega))
          refine ⟨1, ?_⟩
          unfold lX4_remembered_30
          try simp only [py_O_ap, py_l0, py_l1, py_l2, py_l3, py_l4, py_l5, py_l6, py_l7, py_l8, py_l9, py_l12, py_l16, py_l32, py_l40, py_l100, py_l640, py_l1280, py_neg, py_add, py_sub, py_mul, py_stO]
          exact py_ile (fun _ => hj) (fun c => absurd c (by omega))
        · obtain ⟨q', b1, b2, b3, b4, b5⟩ := pr_nextRemembered h hc (a := q + 1) (by omega)
          have hrc := ph_rc_to b1 b4
          rw [ph_rc_y hw] at hrc
          obtain ⟨n9, hn9⟩ := ih q' (i + 1) (by omega) b2 b3 (fun _ => by omega) (fun e3 => by rw [← e3, hrc]; omega) (by omega)
          refine ⟨n9 + 1, ?_⟩
          unfold lX4_remembered_30
          try simp only [py_O_ap, py_l0, py_l1, py_l2, py_l3, py_l4, py_l5, py_l6, py_l7, py_l8, py_l9, py_l12, py_l16, py_l32, py_l40, py_l100, py_l640, py_l1280, py_neg, py_add, py_sub, py_mul, py_stO]
          refine py_ile (fun c => absurd c (by omega)) (fun _ => py_ile (fun c => absurd c (by omega)) (fun _ => ?_))
          exact b5 _ hn9
  obtain ⟨q', b1, b2, b3, b4, b5⟩ := pr_nextRemembered h hc (a := 0) (by omega)
  have hrc := ph_rc_to b1 b4
  have hz : ph_rc s t c 0 = 0 := rfl
  obtain ⟨n9, hn9⟩ := key 1280 q' 0 (by omega) b2 b3 (fun _ => by omega) (fun e => by rw [← e, hrc]; omega) (by omega)
  unfold eX4_remembered
  try simp only [py_O_ap, py_l0, py_l1, py_l2, py_l3, py_l4, py_l5, py_l6, py_l7, py_l8, py_l9, py_l12, py_l16, py_l32, py_l40, py_l100, py_l640, py_l1280, py_neg, py_add, py_sub, py_mul, py_stO]
  unfold eX4_needCar
  try simp only [py_O_ap, py_l0, py_l1, py_l2, py_l3, py_l4, py_l5, py_l6, py_l7, py_l8, py_l9, py_l12, py_l16, py_l32, py_l40, py_l100, py_l640, py_l1280, py_neg, py_add, py_sub, py_mul, py_stO]
  refine pr_isCar (fun _ _ => ?_) (fun c => absurd c (by omega))
  refine py_ieq (fun c => absurd c (by omega)) (fun _ => ?_)
  refine py_ilt (fun c => absurd c (by omega)) (fun _ => py_ilt (fun _ => ?_) (fun c => absurd c (by omega)))
  exact b5 _ ⟨n9, hn9⟩
end PRB
end
section
/-! PURE: what a car remembers, as the reference counts it -/
def ph_OK (s t : py_Z) (c : Nat) (z : Int) (B : Nat) : Prop := ∀ p : Nat, p < B → ph_Rm s t c p → (ph_rc s t c p : Int) ≠ z
theorem ph_OK.to {s t : py_Z} {c B B' : Nat} {z : Int} (h : ph_OK s t c z B) (hno : ∀ p : Nat, B ≤ p → p < B' → ¬ ph_Rm s t c p) : ph_OK s t c z B' := fun p hp hw => by
  by_cases e : p < B
  · exact h p e hw
  · exact absurd hw (hno p (by omega) hp)
theorem ph_OK.one {s t : py_Z} {c B : Nat} {z : Int} (h : ph_OK s t c z B) (hno : ph_Rm s t c B → (ph_rc s t c B : Int) ≠ z) : ph_OK s t c z (B + 1) := fun p hp hw => by
  by_cases e : p < B
  · exact h p e hw
  · have : p = B := by omega
    subst this
    exact hno hw
theorem ph_rc_ivt {s t : py_Z} {c k : Nat} : ∀ B : Nat, k < ph_rc s t c B → ∃ p : Nat, p < B ∧ ph_Rm s t c p ∧ ph_rc s t c p = k
  | 0, h => absurd h (by show ¬ k < 0; omega)
  | B + 1, h => by
    rcases Classical.em (ph_Rm s t c B) with hw | hw
    · by_cases e : ph_rc s t c B = k
      · exact ⟨B, by omega, hw, e⟩
      · rw [ph_rc_y hw] at h
        obtain ⟨p, h1, h2, h3⟩ := ph_rc_ivt (s := s) (t := t) (c := c) (k := k) B (by omega)
        exact ⟨p, by omega, h2, h3⟩
    · rw [ph_rc_n hw] at h
      obtain ⟨p, h1, h2, h3⟩ := ph_rc_ivt B h
      exact ⟨p, by omega, h2, h3⟩
section PRD
variable {s t : py_Z} {n : Nat} {m : Int}
/-- references of one thing -/
theorem pm_rem100 (h : ph_R s t n m) {c d k : Nat} (hc : c < 40) (hd : d < 40) (hk : (k : Int) < t 38 d) {z : Int} (rz : -2147483648 ≤ z ∧ z < 2147483648) {K : ty_S → Int32 → Prop} {R20 : Int32 → Int32 → Int32 → Int32 → Int32 → ty_S → Prop} {R65 : Int32 → Int32 → Int32 → Int32 → Int32 → Int32 → Int32 → ty_S → Prop} {e4 : Int32} {j : Nat} (hj : (j : Int) < s 13 0 ∧ s 5 j = d) (hb : ∀ b : Nat, (b : Int) < s 13 0 → s 5 b = c → b < j)
    (h1 : ∀ p : Nat, p < 1280 → ph_Rm s t c p → (ph_rc s t c p : Int) = z → K (py_O t) (py_o p))
    (hR : ph_OK s t c z (32 * d + ph_pos t d k + 2 + (t 33 (ph_x t d k)).toNat) → R65 (py_o c) (py_o z) (py_o (ph_rc s t c (32 * d + ph_pos t d k + 2 + (t 33 (ph_x t d k)).toNat))) e4 (py_o d) (py_o 1) (py_o (k + 1)) (py_O t)) :
    ∀ f i : Nat, (i : Int) + f = t 33 (ph_x t d k) → ph_OK s t c z (32 * d + ph_pos t d k + 2 + i) → ∃ n9, lX5_remembers_100 K R20 R65 n9 (py_o c) (py_o z) (py_o (ph_rc s t c (32 * d + ph_pos t d k + 2 + i))) e4 (py_o d) (py_o 1) (py_o k) (py_o (ph_x t d k)) (py_o i) (py_O t) := by
  have hTH := h.2.1
  have hMH := h.2.2.1
  obtain ⟨f1, f2, f3, f4⟩ := hTH.fit hd hk
  obtain ⟨w1, w2, w3, w4, w5, w6, w7⟩ := hTH.2.1 d k hd hk
  obtain ⟨m1, m2, m3⟩ := hMH.2.2.2.1 d k hd (by omega) hk
  have hx640 : ph_x t d k < 640 := by unfold ph_x; omega
  have hc0 := h.1.cnt
  intro f
  induction f with
  | zero =>
    intro i hi hOK
    refine ⟨1, ?_⟩
    rw [show (t 33 (ph_x t d k)).toNat = i by omega] at hR
    have hR := hR hOK
    unfold lX5_remembers_100
    try simp only [py_O_ap, py_l0, py_l1, py_l2, py_l3, py_l4, py_l5, py_l6, py_l7, py_l8, py_l9, py_l12, py_l16, py_l32, py_l40, py_l100, py_l640, py_l1280, py_neg, py_add, py_sub, py_mul, py_stO]
    refine py_and ?_
    rw [py_nat (by omega)]
    simp only [Int.toNat_natCast]
    exact py_ile (fun _ => hR) (fun c => absurd c (by omega))
  | succ f ih =>
    intro i hi hOK
    have hPV := hMH.2.2.2.2.2 (ph_x t d k) hx640 m1 i (by omega)
    have e2 : ((12 : Int) * ph_x t d k + i).toNat = 12 * ph_x t d k + i := by omega
    have hle := ph_rc_le (s := s) (t := t) (c := c) (32 * d + ph_pos t d k + 2 + i)
    have hrm : ph_Rm s t c (32 * d + ph_pos t d k + 2 + i) ↔ 0 ≤ t 35 (12 * ph_x t d k + i) ∧ t 31 (t 35 (12 * ph_x t d k + i)).toNat = c := by
      constructor
      · intro ⟨d', k', i', j', z1, z2, z3, z4, z5, z6, z7, z8, z9⟩
        obtain ⟨q1, q2, q3⟩ := hTH.refinj z1 z2 z3 hd hk (i' := i) (by omega) (by omega)
        subst q1; subst q2; subst q3
        exact ⟨z5, z6⟩
      · intro ⟨a1, a2⟩
        exact ⟨d, k, i, j, hd, hk, by omega, rfl, a1, a2, hj.1, hj.2, hb⟩
    have hnext : (ph_Rm s t c (32 * d + ph_pos t d k + 2 + i) → (ph_rc s t c (32 * d + ph_pos t d k + 2 + i) : Int) ≠ z) → ∃ n9, lX5_remembers_100 K R20 R65 n9 (py_o c) (py_o z) (py_o (ph_rc s t c (32 * d + ph_pos t d k + 2 + i + 1))) e4 (py_o d) (py_o 1) (py_o k) (py_o (ph_x t d k)) (py_o (i + 1)) (py_O t) := fun hno => ih (i + 1) (by omega) (hOK.one hno)
    have hbody : ∀ n9 : Nat, (ph_Rm s t c (32 * d + ph_pos t d k + 2 + i) → (ph_rc s t c (32 * d + ph_pos t d k + 2 + i) : Int) ≠ z → lX5_remembers_100 K R20 R65 n9 (py_o c) (py_o z) (py_o (ph_rc s t c (32 * d + ph_pos t d k + 2 + i) + 1)) e4 (py_o d) (py_o 1) (py_o k) (py_o (ph_x t d k)) (py_o (i + 1)) (py_O t)) → (¬ ph_Rm s t c (32 * d + ph_pos t d k + 2 + i) → lX5_remembers_100 K R20 R65 n9 (py_o c) (py_o z) (py_o (ph_rc s t c (32 * d + ph_pos t d k + 2 + i))) e4 (py_o d) (py_o 1) (py_o k) (py_o (ph_x t d k)) (py_o (i + 1)) (py_O t)) → lX5_remembers_100 K R20 R65 (n9 + 1) (py_o c) (py_o z) (py_o (ph_rc s t c (32 * d + ph_pos t d k + 2 + i))) e4 (py_o d) (py_o 1) (py_o k) (py_o (ph_x t d k)) (py_o i) (py_O t) := fun n9 hyy hnn => by
      rw [lX5_remembers_100]
      try simp only [py_O_ap, py_l0, py_l1, py_l2, py_l3, py_l4, py_l5, py_l6, py_l7, py_l8, py_l9, py_l12, py_l16, py_l32, py_l40, py_l100, py_l640, py_l1280, py_neg, py_add, py_sub, py_mul, py_stO]
      refine py_and ?_
      rw [py_nat (by omega), py_nat (by omega), e2]
      simp only [Int.toNat_natCast]
      refine py_ile (fun c => absurd c (by omega)) (fun _ => py_and ?_)
      rcases Classical.em (ph_Rm s t c (32 * d + ph_pos t d k + 2 + i)) with hw | hw
      · obtain ⟨a1, a2⟩ := hrm.mp hw
        have hy := hPV.resolve_left (by omega)
        refine py_ilt (fun c => absurd c (by omega)) (fun _ => py_and ?_)
        rw [py_nat (by omega), a2]
        refine py_ieq (fun _ => ?_) (fun c => absurd rfl c)
        refine py_ieq (fun e3 => ?_) (fun e3 => hyy hw e3)
        unfold eX5_referencePlace
        try simp only [py_O_ap, py_l0, py_l1, py_l2, py_l3, py_l4, py_l5, py_l6, py_l7, py_l8, py_l9, py_l12, py_l16, py_l32, py_l40, py_l100, py_l640, py_l1280, py_neg, py_add, py_sub, py_mul, py_stO]
        refine pm_place hx640 ?_
        try simp only [py_O_ap, py_l0, py_l1, py_l2, py_l3, py_l4, py_l5, py_l6, py_l7, py_l8, py_l9, py_l12, py_l16, py_l32, py_l40, py_l100, py_l640, py_l1280, py_neg, py_add, py_sub, py_mul, py_stO]
        rw [m2, m3, show (32 * (d : Int) + ph_pos t d k + 2 + i) = ((32 * d + ph_pos t d k + 2 + i : Nat) : Int) by omega]
        exact h1 _ (by omega) hw e3
      · rcases hPV with e3 | ⟨e3, e4⟩
        · rw [e3]
          exact py_ilt (fun _ => hnn hw) (fun c => absurd c (by omega))
        · refine py_ilt (fun c => absurd c (by omega)) (fun _ => py_and ?_)
          rw [py_nat (by omega)]
          obtain ⟨c', k', hc', hk', g1, g2, g3, g4⟩ := ph_live hTH hMH (x := (t 35 (12 * ph_x t d k + i)).toNat) (by omega) e4
          exact py_ieq (fun e5 => absurd (hrm.mpr ⟨e3.1, e5⟩) hw) (fun _ => hnn hw)
    rcases Classical.em (ph_Rm s t c (32 * d + ph_pos t d k + 2 + i)) with hw | hw
    · by_cases e3 : (ph_rc s t c (32 * d + ph_pos t d k + 2 + i) : Int) = z
      · exact ⟨1, hbody 0 (fun _ h9 => absurd e3 h9) (fun h9 => absurd hw h9)⟩
      · obtain ⟨n9, hn9⟩ := hnext (fun _ => e3)
        rw [ph_rc_y hw] at hn9
        exact ⟨n9 + 1, hbody n9 (fun _ _ => hn9) (fun h9 => absurd hw h9)⟩
    · obtain ⟨n9, hn9⟩ := hnext (fun h9 => absurd h9 hw)
      rw [ph_rc_n hw] at hn9
      exact ⟨n9 + 1, hbody n9 (fun h9 => absurd h9 hw) (fun _ => hn9)⟩
theorem pm_rem65 (h : ph_R s t n m) {c d : Nat} (hc : c < 40) (hd : d < 40) {z : Int} (rz : -2147483648 ≤ z ∧ z < 2147483648) {K : ty_S → Int32 → Prop} {R20 : Int32 → Int32 → Int32 → Int32 → Int32 → ty_S → Prop} {e4 : Int32} {j : Nat} (hj : (j : Int) < s 13 0 ∧ s 5 j = d) (hb : ∀ b : Nat, (b : Int) < s 13 0 → s 5 b = c → b < j)
    (h1 : ∀ p : Nat, p < 1280 → ph_Rm s t c p → (ph_rc s t c p : Int) = z → K (py_O t) (py_o p))
    (hR : ph_OK s t c z (32 * (d + 1)) → R20 (py_o c) (py_o z) (py_o (ph_rc s t c (32 * (d + 1)))) e4 (py_o (d + 1)) (py_O t)) :
    ∀ f k : Nat, (k : Int) + f = t 38 d → ph_OK s t c z (32 * d + ph_pos t d k) → ∃ n9, lX5_remembers_65 K R20 n9 (py_o c) (py_o z) (py_o (ph_rc s t c (32 * d + ph_pos t d k))) e4 (py_o d) (py_o 1) (py_o k) (py_O t) := by
  have hTH := h.2.1
  have hMH := h.2.2.1
  have hC := hTH.1 d hd
  have h38 := hC.2.2.1
  have h37 := hC.2.2.2.1
  have h32 := hC.2.2.2.2.1
  intro f
  induction f with
  | zero =>
    intro k hk hOK
    have hnoR : ∀ p : Nat, 32 * d + ph_pos t d k ≤ p → p < 32 * (d + 1) → ¬ ph_Rm s t c p := fun p h1 h2 ⟨d', k', i', j', z1, z2, z3, z4, z5⟩ => by
      obtain ⟨f1, f2, f3, f4⟩ := hTH.fit z1 z2
      obtain ⟨w1, w2, w3, w4⟩ := hTH.2.1 d' k' z1 z2
      have e1 : d' = d := by omega
      subst e1
      have := ph_pos_lt (t := t) (c := d') (k := k') (m := k) (by omega)
      omega
    have hgap : ph_rc s t c (32 * (d + 1)) = ph_rc s t c (32 * d + ph_pos t d k) := by
      refine ph_rc_to ?_ hnoR
      rw [show (t 38 d).toNat = k by omega] at h37; omega
    have hR := hR (hOK.to hnoR)
    rw [hgap] at hR
    refine ⟨1, ?_⟩
    unfold lX5_remembers_65
    try simp only [py_O_ap, py_l0, py_l1, py_l2, py_l3, py_l4, py_l5, py_l6, py_l7, py_l8, py_l9, py_l12, py_l16, py_l32, py_l40, py_l100, py_l640, py_l1280, py_neg, py_add, py_sub, py_mul, py_stO]
    refine py_ieq (fun c => absurd c (by omega)) (fun _ => py_and ?_)
    rw [py_nat (by omega)]
    simp only [Int.toNat_natCast]
    exact py_ile (fun _ => hR) (fun c => absurd c (by omega))
  | succ f ih =>
    intro k hk hOK
    have hkd : (k : Int) < t 38 d := by omega
    obtain ⟨f1, f2, f3, f4⟩ := hTH.fit hd hkd
    obtain ⟨w1, w2, w3, w4⟩ := hTH.2.1 d k hd hkd
    have hpe : ph_pos t d (k + 1) = ph_pos t d k + ph_sz t (ph_x t d k) := rfl
    obtain ⟨n0, hn0⟩ : ∃ n0, ph_OK s t c z (32 * d + ph_pos t d (k + 1)) → lX5_remembers_65 K R20 n0 (py_o c) (py_o z) (py_o (ph_rc s t c (32 * d + ph_pos t d (k + 1)))) e4 (py_o d) (py_o 1) (py_o (k + 1)) (py_O t) := by
      rcases Classical.em (ph_OK s t c z (32 * d + ph_pos t d (k + 1))) with h9 | h9
      · obtain ⟨n0, hn0⟩ := ih (k + 1) (by omega) h9
        exact ⟨n0, fun _ => hn0⟩
      · exact ⟨0, fun h8 => absurd h8 h9⟩
    -- no reference between the last one and the next thing
    have hno2 : ∀ p : Nat, 32 * d + ph_pos t d k + 2 + (t 33 (ph_x t d k)).toNat ≤ p → p < 32 * d + ph_pos t d (k + 1) → ¬ ph_Rm s t c p := by
      refine (fun p h1 h2 ⟨d', k', i', j', z1, z2, z3, z4, z5⟩ => ?_)
      obtain ⟨g1, g2, g3, g4⟩ := hTH.fit z1 z2
      obtain ⟨v1, v2, v3, v4⟩ := hTH.2.1 d' k' z1 z2
      have e1 : d' = d := by omega
      subst e1
      rcases Nat.lt_trichotomy k' k with e2 | e2 | e2
      · have := ph_pos_lt (t := t) (c := d') e2; omega
      · subst e2; omega
      · have := ph_pos_lt (t := t) (c := d') e2; omega
    have hgap2 : ph_rc s t c (32 * d + ph_pos t d (k + 1)) = ph_rc s t c (32 * d + ph_pos t d k + 2 + (t 33 (ph_x t d k)).toNat) := ph_rc_to (by omega) hno2
    have hno1 : ∀ p : Nat, 32 * d + ph_pos t d k ≤ p → p < 32 * d + ph_pos t d k + 2 + 0 → ¬ ph_Rm s t c p := by
      refine (fun p h1 h2 ⟨d', k', i', j', z1, z2, z3, z4, z5⟩ => ?_)
      obtain ⟨g1, g2, g3, g4⟩ := hTH.fit z1 z2
      obtain ⟨v1, v2, v3, v4⟩ := hTH.2.1 d' k' z1 z2
      have e1 : d' = d := by omega
      subst e1
      rcases Nat.lt_trichotomy k' k with e2 | e2 | e2
      · have := ph_pos_lt (t := t) (c := d') e2; omega
      · subst e2; omega
      · have := ph_pos_lt (t := t) (c := d') e2; omega
    have hgap1 : ph_rc s t c (32 * d + ph_pos t d k + 2 + 0) = ph_rc s t c (32 * d + ph_pos t d k) := ph_rc_to (by omega) hno1
    rw [hgap2] at hn0
    obtain ⟨n9, hn9⟩ := pm_rem100 h hc hd hkd rz (K := K) (R20 := R20) (R65 := fun a0 a1 a2 a3 a4 a5 a6 S9 => lX5_remembers_65 K R20 n0 a0 a1 a2 a3 a4 a5 a6 S9) (e4 := e4) hj hb h1 (fun h9 => hn0 (h9.to hno2)) (t 33 (ph_x t d k)).toNat 0 (by omega) (hOK.to hno1)
    rw [hgap1] at hn9
    refine ⟨n0 + 1, ?_⟩
    rw [lX5_remembers_65]
    try simp only [py_O_ap, py_l0, py_l1, py_l2, py_l3, py_l4, py_l5, py_l6, py_l7, py_l8, py_l9, py_l12, py_l16, py_l32, py_l40, py_l100, py_l640, py_l1280, py_neg, py_add, py_sub, py_mul, py_stO]
    refine py_ieq (fun c => absurd c (by omega)) (fun _ => py_and ?_)
    rw [py_nat (by omega)]
    simp only [Int.toNat_natCast]
    refine py_ile (fun c => absurd c (by omega)) (fun _ => py_and ?_)
    rw [py_nat (by omega), show ((16 : Int) * d + k).toNat = 16 * d + k by omega]
    have e39 : t 39 (16 * d + k) = ((ph_x t d k : Nat) : Int) := by unfold ph_x; omega
    rw [e39]
    exact ⟨n9, hn9⟩
theorem pm_remembers (h : ph_R s t n m) {c : Nat} (hc : c < 40) {z : Int} (rz : -2147483648 ≤ z ∧ z < 2147483648) {K : ty_S → Int32 → Prop} (h1 : ∀ p : Nat, p < 1280 → ph_Rm s t c p → (ph_rc s t c p : Int) = z → K (py_O t) (py_o p)) (h0 : ph_OK s t c z 1280 → K (py_O t) (py_o (-1 - ph_rc s t c 1280))) : eX5_remembers (py_O t) (py_o c) (py_o z) K := by
  have hTH := h.2.1
  have hMH := h.2.2.1
  have h50 := h.1.1
  have hc0 := h.1.cnt
  by_cases h6 : s 6 c = 0
  · -- a free car remembers nothing
    have hno9 : ∀ p : Nat, 0 ≤ p → p < 1280 → ¬ ph_Rm s t c p := (fun p _ _ ⟨d', k', i', j', z1, z2, z3, z4, z5, z6, z7⟩ => by
        obtain ⟨m1, m2, m3⟩ := hMH.2.2.2.1 d' k' z1 (by omega) z2
        obtain ⟨w1, w2⟩ := hTH.2.1 d' k' z1 z2
        have hx640 : ph_x t d' k' < 640 := by unfold ph_x; omega
        have hPV := (hMH.2.2.2.2.2 (ph_x t d' k') hx640 m1 i' z3).resolve_left (by omega)
        obtain ⟨c', k2, hc', hk', g1, g2, g3, g4, g5⟩ := ph_live hTH hMH (x := (t 35 (12 * ph_x t d' k' + i')).toNat) (by omega) hPV.2
        have : c' = c := by omega
        subst this
        exact g4 h6)
    have hz : ph_rc s t c 1280 = 0 := by
      have : ph_rc s t c 1280 = ph_rc s t c 0 := ph_rc_to (by omega) hno9
      rw [this]; rfl
    have h0 := h0 (fun p hp hw => absurd hw (hno9 p (by omega) hp))
    rw [hz] at h0
    unfold eX5_remembers
    try simp only [py_O_ap, py_l0, py_l1, py_l2, py_l3, py_l4, py_l5, py_l6, py_l7, py_l8, py_l9, py_l12, py_l16, py_l32, py_l40, py_l100, py_l640, py_l1280, py_neg, py_add, py_sub, py_mul, py_stO]
    refine pm_trainOf h.1 hc (fun j hj e1 => ?_) (fun _ => ?_)
    · have := h.1.2.2.2.2.1 j hj; omega
    · refine py_ilt (fun _ => ⟨1, ?_⟩) (fun c => absurd c (by omega))
      unfold lX5_remembers_20
      try simp only [py_O_ap, py_l0, py_l1, py_l2, py_l3, py_l4, py_l5, py_l6, py_l7, py_l8, py_l9, py_l12, py_l16, py_l32, py_l40, py_l100, py_l640, py_l1280, py_neg, py_add, py_sub, py_mul, py_stO]
      refine py_ile (fun c => absurd c (by omega)) (fun _ => ?_)
      rw [if_pos True.intro]
      exact h0
  · obtain ⟨jt, kt, hjt, hkt, t1, t2, t3, t4, t5⟩ := (h.1.six hc).resolve_left h6
    have key : ∀ f d : Nat, d + f = 40 → ph_OK s t c z (32 * d) → ∃ n9, lX5_remembers_20 K n9 (py_o c) (py_o z) (py_o (ph_rc s t c (32 * d))) (py_o 1) (py_o d) (py_O t) := by
      intro f
      induction f with
      | zero =>
        intro d hd hOK
        refine ⟨1, ?_⟩
        unfold lX5_remembers_20
        try simp only [py_O_ap, py_l0, py_l1, py_l2, py_l3, py_l4, py_l5, py_l6, py_l7, py_l8, py_l9, py_l12, py_l16, py_l32, py_l40, py_l100, py_l640, py_l1280, py_neg, py_add, py_sub, py_mul, py_stO]
        refine py_ile (fun _ => ?_) (fun c => absurd c (by omega))
        rw [show 32 * d = 1280 by omega] at hOK ⊢
        exact h0 hOK
      | succ f ih =>
        intro d hd hOK
        have hd40 : d < 40 := by omega
        obtain ⟨n0, hn0⟩ : ∃ n0, ph_OK s t c z (32 * (d + 1)) → lX5_remembers_20 K n0 (py_o c) (py_o z) (py_o (ph_rc s t c (32 * (d + 1)))) (py_o 1) (py_o (d + 1)) (py_O t) := by
          rcases Classical.em (ph_OK s t c z (32 * (d + 1))) with h9 | h9
          · obtain ⟨n0, hn0⟩ := ih (d + 1) (by omega) h9
            exact ⟨n0, fun _ => hn0⟩
          · exact ⟨0, fun h8 => absurd h8 h9⟩
        -- when nothing of this car counts
        have hskip : (∀ p : Nat, 32 * d ≤ p → p < 32 * (d + 1) → ¬ ph_Rm s t c p) → lX5_remembers_20 K n0 (py_o c) (py_o z) (py_o (ph_rc s t c (32 * d))) (py_o 1) (py_o (d + 1)) (py_O t) := fun hno => by
          have hn1 := hn0 (hOK.to hno)
          rw [ph_rc_to (show 32 * d ≤ 32 * (d + 1) by omega) hno] at hn1
          exact hn1
        have h65 : (∀ p : Nat, 32 * d ≤ p → p < 32 * (d + 1) → ¬ ph_Rm s t c p) → ∃ n9, lX5_remembers_65 K (fun a0 a1 a2 a3 a4 S9 => lX5_remembers_20 K n0 a0 a1 a2 a3 a4 S9) n9 (py_o c) (py_o z) (py_o (ph_rc s t c (32 * d))) (py_o 1) (py_o d) (py_o 0) (py_o 0) (py_O t) := fun hno => by
          refine ⟨1, ?_⟩
          unfold lX5_remembers_65
          try simp only [py_O_ap, py_l0, py_l1, py_l2, py_l3, py_l4, py_l5, py_l6, py_l7, py_l8, py_l9, py_l12, py_l16, py_l32, py_l40, py_l100, py_l640, py_l1280, py_neg, py_add, py_sub, py_mul, py_stO]
          rw [if_pos True.intro]
          exact hskip hno
        have hrmd : ∀ p : Nat, 32 * d ≤ p → p < 32 * (d + 1) → ph_Rm s t c p → s 6 d ≠ 0 ∧ ∀ b j : Nat, (b : Int) < s 13 0 → s 5 b = c → (j : Int) < s 13 0 → s 5 j = d → b < j := fun p p1 p2 ⟨d', k', i', j', z1, z2, z3, z4, z5, z6, z7, z8, z9⟩ => by
          obtain ⟨g1, g2, g3, g4⟩ := hTH.fit z1 z2
          obtain ⟨v1, v2, v3, v4⟩ := hTH.2.1 d' k' z1 z2
          have e1 : d' = d := by omega
          subst e1
          refine ⟨fun e2 => by have := (hTH.1 d' z1).2.2.2.2.2.1 e2; omega, fun b j hb hbc hj hjd => ?_⟩
          have : j = j' := h.1.inj hj z7 (by omega)
          subst this
          exact z9 b hb hbc
        refine ⟨n0 + 1, ?_⟩
        unfold lX5_remembers_20
        try simp only [py_O_ap, py_l0, py_l1, py_l2, py_l3, py_l4, py_l5, py_l6, py_l7, py_l8, py_l9, py_l12, py_l16, py_l32, py_l40, py_l100, py_l640, py_l1280, py_neg, py_add, py_sub, py_mul, py_stO]
        refine py_ile (fun c => absurd c (by omega)) (fun _ => ?_)
        refine py_ieq (fun c => absurd c (by omega)) (fun _ => ?_)
        by_cases h6d : s 6 d = 0
        · refine pm_trainOf h.1 hd40 (fun j hj e1 => ?_) (fun _ => ?_)
          · have := h.1.2.2.2.2.1 j hj; omega
          · exact py_ilt (fun _ => h65 (fun p p1 p2 hw => (hrmd p p1 p2 hw).1 h6d)) (fun c => absurd c (by omega))
        · obtain ⟨jd, kd, hjd, hkd, u1, u2, u3, u4, u5⟩ := (h.1.six hd40).resolve_left h6d
          refine pm_trainOf h.1 hd40 (fun j hj e1 => ?_) (fun e1 => absurd e1 h6d)
          refine py_ilt (fun c => absurd c (by omega)) (fun _ => ?_)
          have l1 := h.1.lt hjd hkd
          have l2 := h.1.lt hjt hkt
          rw [show (d : Int) = t 42 (40 * jd + kd) from u1.symm]
          refine pm_rank h.1 hjd hkd ?_
          rw [show (c : Int) = t 42 (40 * jt + kt) from t1.symm]
          refine pm_rank h.1 hjt hkt ?_
          rw [u1, t1]
          refine py_ile (fun e2 => h65 (fun p p1 p2 hw => ?_)) (fun e2 => ?_)
          · have := (hrmd p p1 p2 hw).2 (pr_off t jt + kt) (pr_off t jd + kd) l2 t5 l1 u5
            omega
          · obtain ⟨n9, hn9⟩ := pm_rem65 h hc hd40 rz (K := K) (R20 := fun a0 a1 a2 a3 a4 S9 => lX5_remembers_20 K n0 a0 a1 a2 a3 a4 S9) (e4 := py_o 1) (j := pr_off t jd + kd) ⟨l1, u5⟩ (fun b hb hbc => by
              have : b = pr_off t jt + kt := h.1.inj hb l2 (by omega)
              omega) h1 hn0 (t 38 d).toNat 0 (by have := (hTH.1 d hd40).2.2.1; omega) hOK
            exact ⟨n9, hn9⟩
    unfold eX5_remembers
    try simp only [py_O_ap, py_l0, py_l1, py_l2, py_l3, py_l4, py_l5, py_l6, py_l7, py_l8, py_l9, py_l12, py_l16, py_l32, py_l40, py_l100, py_l640, py_l1280, py_neg, py_add, py_sub, py_mul, py_stO]
    refine pm_trainOf h.1 hc (fun j hj e1 => ?_) (fun e1 => absurd e1 h6)
    refine py_ilt (fun c => absurd c (by omega)) (fun _ => ?_)
    exact key 40 0 rfl (fun p hp => absurd hp (by omega))
theorem ph_callRemembered (h : ph_R s t n m) {a k : Int} (ra : -2147483648 ≤ a ∧ a < 2147483648) (rk : -2147483648 ≤ k ∧ k < 2147483648) : ph_Out (fun K KX => eX4_remembered (py_O s) (py_o a) (py_o k) K KX) (fun K => eX5_remembered (py_O t) (py_o a) (py_o k) K) py_code0 (n + 1) (m + 101) := by
  have h2 := h.t60 0
  by_cases ha : 0 ≤ a ∧ a < 40
  · obtain ⟨c, hca⟩ : ∃ c : Nat, a = c := ⟨a.toNat, by omega⟩
    subst hca
    have hc : c < 40 := by omega
    obtain ⟨u, hu⟩ : ∃ u, u = py_st t 60 0 0 := ⟨_, rfl⟩
    have hu60 : u 60 0 = 0 := by rw [hu, py_se]
    rw [← hu] at h2
    have hle := ph_rc_le (s := s) (t := u) (c := c) 1280
    have hmod : ∀ K : ty_S → Int32 → Prop, jX5_remembered_16 K (py_o c) (py_o k) (py_o 0) (py_O t) → eX5_remembered (py_O t) (py_o c) (py_o k) K := fun K hK => by
      unfold eX5_remembered
      try simp only [py_O_ap, py_l0, py_l1, py_l2, py_l3, py_l4, py_l5, py_l6, py_l7, py_l8, py_l9, py_l12, py_l16, py_l32, py_l40, py_l100, py_l640, py_l1280, py_neg, py_add, py_sub, py_mul, py_stO]
      exact py_ilt (fun c => absurd c (by omega)) (fun _ => py_ilt (fun _ => hK) (fun c => absurd c (by omega)))
    have hnone : ∀ K : ty_S → Int32 → Prop, K (py_O u) (py_o (-1)) → jX5_remembered_30 K (py_O u) := fun K hK => by
      unfold jX5_remembered_30
      try simp only [py_O_ap, py_l0, py_l1, py_l2, py_l3, py_l4, py_l5, py_l6, py_l7, py_l8, py_l9, py_l12, py_l16, py_l32, py_l40, py_l100, py_l640, py_l1280, py_neg, py_add, py_sub, py_mul, py_stO]
      exact py_ile (fun _ => hK) (fun c => absurd c (by omega))
    by_cases hk : 0 ≤ k ∧ k < 1280
    · by_cases hex : ∃ p : Nat, p < 1280 ∧ ph_Rm s u c p ∧ (ph_rc s u c p : Int) = k
      · obtain ⟨p, hp, hw, hkp⟩ := hex
        have huniq : ∀ q : Nat, ph_Rm s u c q → (ph_rc s u c q : Int) = k → q = p := fun q hq hqk => by
          rcases Nat.lt_trichotomy q p with e | e | e
          · have := ph_rc_lt hq e; omega
          · exact e
          · have := ph_rc_lt hw e; omega
        have hlt := ph_rc_lt hw hp
        refine ph_ret h (r := p) (fun K KX hK => pr_remembered h2 hc hk (fun q _ hq hqk => by rw [huniq q hq hqk]; exact hK) (fun c => absurd c (by omega))) (fun K hK => hmod K ?_)
        unfold jX5_remembered_16
        try simp only [py_O_ap, py_l0, py_l1, py_l2, py_l3, py_l4, py_l5, py_l6, py_l7, py_l8, py_l9, py_l12, py_l16, py_l32, py_l40, py_l100, py_l640, py_l1280, py_neg, py_add, py_sub, py_mul, py_stO]
        rw [← hu] at hK ⊢
        refine py_ilt (fun c => absurd c (by omega)) (fun _ => py_ile (fun _ => ?_) (fun c => absurd c (by omega)))
        refine pm_remembers h2 hc rk (fun q hq1 hq hqk => ?_) (fun hOK => absurd hkp (hOK p hp hw))
        rw [huniq q hq hqk]
        exact py_ile (fun _ => hK) (fun c => absurd c (by omega))
      · have hge : (ph_rc s u c 1280 : Int) ≤ k := by
          by_cases e : (ph_rc s u c 1280 : Int) ≤ k
          · exact e
          · obtain ⟨p, p1, p2, p3⟩ := ph_rc_ivt (s := s) (t := u) (c := c) (k := k.toNat) 1280 (by omega)
            exact absurd ⟨p, p1, p2, by omega⟩ hex
        refine ph_ret h (r := -1) (fun K KX hK => pr_remembered h2 hc hk (fun q hq1 hq hqk => absurd ⟨q, hq1, hq, hqk⟩ hex) (fun _ => hK)) (fun K hK => hmod K ?_)
        unfold jX5_remembered_16
        try simp only [py_O_ap, py_l0, py_l1, py_l2, py_l3, py_l4, py_l5, py_l6, py_l7, py_l8, py_l9, py_l12, py_l16, py_l32, py_l40, py_l100, py_l640, py_l1280, py_neg, py_add, py_sub, py_mul, py_stO]
        rw [← hu] at hK ⊢
        refine py_ilt (fun c => absurd c (by omega)) (fun _ => py_ile (fun _ => ?_) (fun c => absurd c (by omega)))
        refine pm_remembers h2 hc rk (fun q hq1 hq hqk => absurd ⟨q, hq1, hq, hqk⟩ hex) (fun _ => ?_)
        exact py_ile (fun c => absurd c (by omega)) (fun _ => hK)
    · refine ph_ret h (r := -1) (fun K KX hK => ?_) (fun K hK => hmod K ?_)
      · unfold eX4_remembered
        try simp only [py_O_ap, py_l0, py_l1, py_l2, py_l3, py_l4, py_l5, py_l6, py_l7, py_l8, py_l9, py_l12, py_l16, py_l32, py_l40, py_l100, py_l640, py_l1280, py_neg, py_add, py_sub, py_mul, py_stO]
        unfold eX4_needCar
        try simp only [py_O_ap, py_l0, py_l1, py_l2, py_l3, py_l4, py_l5, py_l6, py_l7, py_l8, py_l9, py_l12, py_l16, py_l32, py_l40, py_l100, py_l640, py_l1280, py_neg, py_add, py_sub, py_mul, py_stO]
        refine pr_isCar (fun _ _ => ?_) (fun c => absurd c (by omega))
        refine py_ieq (fun c => absurd c (by omega)) (fun _ => ?_)
        exact py_ilt (fun _ => hK) (fun a1 => py_ilt (fun a2 => absurd ⟨a1, a2⟩ hk) (fun _ => hK))
      · unfold jX5_remembered_16
        try simp only [py_O_ap, py_l0, py_l1, py_l2, py_l3, py_l4, py_l5, py_l6, py_l7, py_l8, py_l9, py_l12, py_l16, py_l32, py_l40, py_l100, py_l640, py_l1280, py_neg, py_add, py_sub, py_mul, py_stO]
        rw [← hu] at hK ⊢
        refine py_ilt (fun c => absurd c (by omega)) (fun _ => py_ile (fun a1 => ?_) (fun _ => hnone K hK))
        refine pm_remembers h2 hc rk (fun q hq1 hq hqk => ?_) (fun _ => ?_)
        · have := ph_rc_le (s := s) (t := u) (c := c) q
          omega
        · exact py_ile (fun c => absurd c (by omega)) (fun _ => hK)
  · refine ph_thr h (k := 0) (v := 1) (by omega) rfl (by decide) (fun K KX hK => ?_) (fun K hK => ?_)
    · unfold eX4_remembered
      try simp only [py_O_ap, py_l0, py_l1, py_l2, py_l3, py_l4, py_l5, py_l6, py_l7, py_l8, py_l9, py_l12, py_l16, py_l32, py_l40, py_l100, py_l640, py_l1280, py_neg, py_add, py_sub, py_mul, py_stO]
      unfold eX4_needCar
      try simp only [py_O_ap, py_l0, py_l1, py_l2, py_l3, py_l4, py_l5, py_l6, py_l7, py_l8, py_l9, py_l12, py_l16, py_l32, py_l40, py_l100, py_l640, py_l1280, py_neg, py_add, py_sub, py_mul, py_stO]
      exact pr_isCar (fun a1 a2 => absurd ⟨a1, a2⟩ ha) (fun _ => py_ieq (fun _ => hK) (fun c => absurd rfl c))
    · have hj : jX5_remembered_11 K (py_o a) (py_o k) (py_O t) := by
        unfold jX5_remembered_11 jX5_remembered_16
        try simp only [py_O_ap, py_l0, py_l1, py_l2, py_l3, py_l4, py_l5, py_l6, py_l7, py_l8, py_l9, py_l12, py_l16, py_l32, py_l40, py_l100, py_l640, py_l1280, py_neg, py_add, py_sub, py_mul, py_stO]
        refine py_ilt (fun _ => ?_) (fun c => absurd c (by omega))
        unfold jX5_remembered_30
        try simp only [py_O_ap, py_l0, py_l1, py_l2, py_l3, py_l4, py_l5, py_l6, py_l7, py_l8, py_l9, py_l12, py_l16, py_l32, py_l40, py_l100, py_l640, py_l1280, py_neg, py_add, py_sub, py_mul, py_stO]
        rw [py_se]
        exact py_ile (fun c => absurd c (by omega)) (fun _ => hK)
      unfold eX5_remembered
      try simp only [py_O_ap, py_l0, py_l1, py_l2, py_l3, py_l4, py_l5, py_l6, py_l7, py_l8, py_l9, py_l12, py_l16, py_l32, py_l40, py_l100, py_l640, py_l1280, py_neg, py_add, py_sub, py_mul, py_stO]
      exact py_ilt (fun _ => hj) (fun a1 => py_ilt (fun a2 => absurd ⟨a1, a2⟩ ha) (fun _ => hj))
/-- about -/
theorem ph_callAbout (h : ph_R s t n m) {a w : Int} (ra : -2147483648 ≤ a ∧ a < 2147483648) (rw' : -2147483648 ≤ w ∧ w < 2147483648) : ph_Out (fun K KX => eX4_about (py_O s) (py_o a) (py_o w) K KX) (fun K => eX5_about (py_O t) (py_o a) (py_o w) K) py_code0 (n + 1) (m + 101) := by
  have h2 := h.t60 0
  by_cases haw : (0 ≤ a ∧ a < 40) ∧ 0 ≤ w ∧ w ≤ 4
  · obtain ⟨c, hca⟩ : ∃ c : Nat, a = c := ⟨a.toNat, by omega⟩
    subst hca
    have hc : c < 40 := by omega
    obtain ⟨e1, e2, e3, e4, e5, e6, e7, e8⟩ := h.2.1.1 c hc
    obtain ⟨u, hu⟩ : ∃ u, u = py_st t 60 0 0 := ⟨_, rfl⟩
    have ug : ∀ g i, g ≠ 60 → u g i = t g i := fun g i hg => by rw [hu]; exact py_sn hg
    rw [← hu] at h2
    have hle := ph_rc_le (s := s) (t := u) (c := c) 1280
    have h6b := h.1.six_b hc
    -- the last thing
    have hlast : 0 < t 38 c → (0 ≤ s 4 c ∧ s 4 c < 1280) ∧ (0 ≤ t 39 (16 * c + (t 38 c).toNat - 1) ∧ t 39 (16 * c + (t 38 c).toNat - 1) < 640) ∧ s 0 (s 4 c).toNat = t 30 (t 39 (16 * c + (t 38 c).toNat - 1)).toNat := fun h9 => by
      obtain ⟨w1, w2, w3, w4, w5⟩ := h.2.1.2.1 c ((t 38 c).toNat - 1) hc (by omega)
      obtain ⟨f1, f2, f3, f4⟩ := h.2.1.fit (c := c) (k := (t 38 c).toNat - 1) hc (by omega)
      have h4 := e7 h9
      rw [show 16 * c + ((t 38 c).toNat - 1) = 16 * c + (t 38 c).toNat - 1 by omega] at w1
      refine ⟨by unfold ph_sz at f1; omega, w1, ?_⟩
      rw [h4, show (32 * (c : Int) + ph_pos t c ((t 38 c).toNat - 1)).toNat = 32 * c + ph_pos t c ((t 38 c).toNat - 1) by omega, w4]
      unfold ph_x
      rw [show 16 * c + ((t 38 c).toNat - 1) = 16 * c + (t 38 c).toNat - 1 by omega]
    obtain ⟨r, hr⟩ : ∃ r : Int, r = (if w = 0 then s 6 c else if w = 1 then 32 - t 37 c else if w = 2 then t 38 c else if w = 3 then (ph_rc s u c 1280 : Nat) else if t 38 c = 0 then 0 else t 30 (t 39 (16 * c + (t 38 c).toNat - 1)).toNat) := ⟨_, rfl⟩
    refine ph_ret h (r := r) (fun K KX hK => ?_) (fun K hK => ?_)
    · unfold eX4_about
      try simp only [py_O_ap, py_l0, py_l1, py_l2, py_l3, py_l4, py_l5, py_l6, py_l7, py_l8, py_l9, py_l12, py_l16, py_l32, py_l40, py_l100, py_l640, py_l1280, py_neg, py_add, py_sub, py_mul, py_stO]
      unfold eX4_needCar
      try simp only [py_O_ap, py_l0, py_l1, py_l2, py_l3, py_l4, py_l5, py_l6, py_l7, py_l8, py_l9, py_l12, py_l16, py_l32, py_l40, py_l100, py_l640, py_l1280, py_neg, py_add, py_sub, py_mul, py_stO]
      refine pr_isCar (fun _ _ => ?_) (fun c => absurd c (by omega))
      refine py_ieq (fun c => absurd c (by omega)) (fun _ => ?_)
      refine pr_needWhat rw' (by omega) (fun _ _ => ?_) (fun c => absurd haw.2 c)
      refine py_ieq (fun z1 => ?_) (fun z1 => ?_)
      · rw [hr, if_pos z1] at hK
        refine pr_trainOf (fun _ _ => ?_) (fun c => absurd c (by omega))
        simpa only [Int.toNat_natCast] using hK
      · rw [if_neg z1] at hr
        refine py_ieq (fun z2 => ?_) (fun z2 => ?_)
        · rw [hr, if_pos z2, ← e2] at hK
          refine pr_room (fun _ _ => ?_) (fun c => absurd c (by omega))
          simpa only [Int.toNat_natCast] using hK
        · rw [if_neg z2] at hr
          refine py_ieq (fun z3 => ?_) (fun z3 => ?_)
          · rw [hr, if_pos z3, ← e1] at hK
            refine pr_things (fun _ _ => ?_) (fun c => absurd c (by omega))
            simpa only [Int.toNat_natCast] using hK
          · rw [if_neg z3] at hr
            refine py_ieq (fun z4 => ?_) (fun z4 => ?_)
            · rw [hr, if_pos z4] at hK
              exact pr_countRemembered h2 hc hK
            · rw [if_neg z4] at hr
              refine pr_lastLabel (by omega) (by omega) (by simp only [Int.toNat_natCast]; omega) (fun z5 => ?_) (fun z5 => ?_)
              · simp only [Int.toNat_natCast] at z5
                rw [hr, if_pos (by omega)] at hK; exact hK
              · simp only [Int.toNat_natCast] at z5 ⊢
                obtain ⟨l1, l2, l3⟩ := hlast (by omega)
                rw [hr, if_neg (by omega), ← l3] at hK
                exact ⟨l1, hK⟩
    · have hj : jX5_about_25 K (py_o c) (py_o w) (py_o 0) (py_O t) := by
        unfold jX5_about_25
        try simp only [py_O_ap, py_l0, py_l1, py_l2, py_l3, py_l4, py_l5, py_l6, py_l7, py_l8, py_l9, py_l12, py_l16, py_l32, py_l40, py_l100, py_l640, py_l1280, py_neg, py_add, py_sub, py_mul, py_stO]
        rw [if_pos (Int32.le_refl _)]
        rw [← hu] at hK ⊢
        have hh : ∀ x : Int, (w = 0 → K (py_O u) (py_o (if 0 ≤ x then u 40 x.toNat else 0))) → (-1 ≤ x ∧ x < 41) → (if py_o w = py_o 0 then (if py_o 0 ≤ py_o x then (vp_in (py_o x) 41 ∧ K (py_O u) (py_O u 40 (py_o x).toNatClampNeg)) else K (py_O u) (py_o 0)) else (if py_o w = py_o 1 then (vp_in (py_o c) 40 ∧ K (py_O u) (py_o 32 - py_O u 37 (py_o c).toNatClampNeg)) else (if py_o w = py_o 2 then (vp_in (py_o c) 40 ∧ K (py_O u) (py_O u 38 (py_o c).toNatClampNeg)) else (if py_o w = py_o 3 then (eX5_remembers (py_O u) (py_o c) (py_o (-1)) (fun S2 r2 => K S2 (py_o (-1) - r2))) else (vp_in (py_o c) 40 ∧ (if (py_O u 38 (py_o c).toNatClampNeg) = py_o 0 then K (py_O u) (py_o 0) else (vp_in (py_o c) 40 ∧ (vp_in ((py_o (16 * (c : Int)) + py_O u 38 (py_o c).toNatClampNeg) - py_o 1) 640 ∧ (vp_in (py_O u 39 ((py_o (16 * (c : Int)) + py_O u 38 (py_o c).toNatClampNeg) - py_o 1).toNatClampNeg) 640 ∧ K (py_O u) (py_O u 30 (py_O u 39 ((py_o (16 * (c : Int)) + py_O u 38 (py_o c).toNatClampNeg) - py_o 1).toNatClampNeg).toNatClampNeg)))))))))) := fun x hx hxb => by
          refine py_ieq (fun z1 => ?_) (fun z1 => ?_)
          · have hx := hx z1
            refine py_ile (fun z2 => py_and ?_) (fun z2 => ?_)
            · rw [if_pos z2] at hx
              rw [py_nat (by omega)]; exact hx
            · rw [if_neg (by omega)] at hx; exact hx
          · rw [if_neg z1] at hr
            refine py_ieq (fun z2 => py_and ?_) (fun z2 => ?_)
            · rw [hr, if_pos z2] at hK
              rw [py_nat (by omega)]
              try simp only [py_O_ap, py_l0, py_l1, py_l2, py_l3, py_l4, py_l5, py_l6, py_l7, py_l8, py_l9, py_l12, py_l16, py_l32, py_l40, py_l100, py_l640, py_l1280, py_neg, py_add, py_sub, py_mul, py_stO]
              simp only [Int.toNat_natCast]
              rw [ug 37 c (by decide)]; exact hK
            · rw [if_neg z2] at hr
              refine py_ieq (fun z3 => py_and ?_) (fun z3 => ?_)
              · rw [hr, if_pos z3] at hK
                rw [py_nat (by omega)]
                try simp only [py_O_ap, py_l0, py_l1, py_l2, py_l3, py_l4, py_l5, py_l6, py_l7, py_l8, py_l9, py_l12, py_l16, py_l32, py_l40, py_l100, py_l640, py_l1280, py_neg, py_add, py_sub, py_mul, py_stO]
                simp only [Int.toNat_natCast]
                rw [ug 38 c (by decide)]; exact hK
              · rw [if_neg z3] at hr
                refine py_ieq (fun z4 => ?_) (fun z4 => py_and ?_)
                · rw [hr, if_pos z4] at hK
                  refine pm_remembers h2 hc (by omega) (fun p hp hw9 hpk => absurd hpk (by omega)) (fun _ => ?_)
                  try simp only [py_O_ap, py_l0, py_l1, py_l2, py_l3, py_l4, py_l5, py_l6, py_l7, py_l8, py_l9, py_l12, py_l16, py_l32, py_l40, py_l100, py_l640, py_l1280, py_neg, py_add, py_sub, py_mul, py_stO]
                  rw [show (-1 : Int) - (-1 - (ph_rc s u c 1280 : Nat)) = (ph_rc s u c 1280 : Nat) by omega]
                  exact hK
                · rw [if_neg z4] at hr
                  rw [py_nat (by omega)]
                  try simp only [py_O_ap, py_l0, py_l1, py_l2, py_l3, py_l4, py_l5, py_l6, py_l7, py_l8, py_l9, py_l12, py_l16, py_l32, py_l40, py_l100, py_l640, py_l1280, py_neg, py_add, py_sub, py_mul, py_stO]
                  simp only [Int.toNat_natCast, ug 38 c (show 38 ≠ 60 by decide)]
                  refine py_ieq (fun z5 => ?_) (fun z5 => py_and (py_and ?_))
                  · rw [hr, if_pos z5] at hK; exact hK
                  · obtain ⟨l1, l2, l3⟩ := hlast (by omega)
                    rw [hr, if_neg z5] at hK
                    rw [py_nat (by omega), show ((16 : Int) * c + t 38 c - 1).toNat = 16 * c + (t 38 c).toNat - 1 by omega, ug 39 _ (by decide)]
                    refine py_and ?_
                    rw [py_nat (by omega), ug 30 _ (by decide)]
                    exact hK
        refine pm_trainOf h2.1 hc (fun j hj e9 => hh j (fun z1 => ?_) (by have := h2.1.1; omega)) (fun e9 => hh (-1) (fun z1 => ?_) (by omega))
        · rw [if_pos (by omega)]
          simp only [Int.toNat_natCast]
          rw [← e9]
          rw [hr, if_pos z1] at hK; exact hK
        · rw [if_neg (by omega)]
          rw [hr, if_pos z1, e9] at hK; exact hK
      unfold eX5_about
      try simp only [py_O_ap, py_l0, py_l1, py_l2, py_l3, py_l4, py_l5, py_l6, py_l7, py_l8, py_l9, py_l12, py_l16, py_l32, py_l40, py_l100, py_l640, py_l1280, py_neg, py_add, py_sub, py_mul, py_stO]
      exact py_ilt (fun c => absurd c (by omega)) (fun _ => py_ile (fun c => absurd c (by omega)) (fun _ => py_ilt (fun c => absurd c (by omega)) (fun _ => py_ile (fun _ => hj) (fun c => absurd c (by omega)))))
  · refine ph_thr h (k := 0) (v := 1) (by omega) rfl (by decide) (fun K KX hK => ?_) (fun K hK => ?_)
    · unfold eX4_about
      try simp only [py_O_ap, py_l0, py_l1, py_l2, py_l3, py_l4, py_l5, py_l6, py_l7, py_l8, py_l9, py_l12, py_l16, py_l32, py_l40, py_l100, py_l640, py_l1280, py_neg, py_add, py_sub, py_mul, py_stO]
      unfold eX4_needCar
      try simp only [py_O_ap, py_l0, py_l1, py_l2, py_l3, py_l4, py_l5, py_l6, py_l7, py_l8, py_l9, py_l12, py_l16, py_l32, py_l40, py_l100, py_l640, py_l1280, py_neg, py_add, py_sub, py_mul, py_stO]
      refine pr_isCar (fun a1 a2 => ?_) (fun _ => py_ieq (fun _ => hK) (fun c => absurd rfl c))
      refine py_ieq (fun c => absurd c (by omega)) (fun _ => ?_)
      exact pr_needWhat rw' (by omega) (fun b1 b2 => absurd ⟨⟨a1, a2⟩, b1, b2⟩ haw) (fun _ => hK)
    · have hj : jX5_about_20 K (py_o a) (py_o w) (py_O t) := by
        unfold jX5_about_20 jX5_about_25
        try simp only [py_O_ap, py_l0, py_l1, py_l2, py_l3, py_l4, py_l5, py_l6, py_l7, py_l8, py_l9, py_l12, py_l16, py_l32, py_l40, py_l100, py_l640, py_l1280, py_neg, py_add, py_sub, py_mul, py_stO]
        exact py_ile (fun c => absurd c (by omega)) (fun _ => hK)
      unfold eX5_about
      try simp only [py_O_ap, py_l0, py_l1, py_l2, py_l3, py_l4, py_l5, py_l6, py_l7, py_l8, py_l9, py_l12, py_l16, py_l32, py_l40, py_l100, py_l640, py_l1280, py_neg, py_add, py_sub, py_mul, py_stO]
      exact py_ilt (fun _ => hj) (fun a1 => py_ile (fun _ => hj) (fun a2 => py_ilt (fun _ => hj) (fun b1 => py_ile (fun b2 => absurd ⟨⟨a1, a2⟩, b1, b2⟩ haw) (fun _ => hj))))
end PRD
end
section
/-! PURE: reached -/
def ph_V (s t sB tB : py_Z) (nq : Nat) : Prop :=
  (∀ g i, g ≠ 10 → g ≠ 11 → g ≠ 25 → g ≠ 26 → s g i = sB g i) ∧ (∀ g i, g ≠ 44 → g ≠ 48 → g ≠ 60 → t g i = tB g i) ∧ t 60 0 = 0 ∧
  s 25 0 = nq ∧ s 26 0 = sB 26 0 + 1 ∧ nq = py_cnt (fun x => decide (t 48 x ≠ 0)) 640 ∧
  (∀ p : Nat, p < 1280 → 0 ≤ s 10 p ∧ s 10 p ≤ s 26 0) ∧
  (∀ i : Nat, i < nq → ph_PV tB (t 44 i) ∧ 0 ≤ t 44 i ∧ s 11 i = ph_E tB (t 44 i)) ∧
  (∀ x : Nat, x < 640 → (t 48 x = 0 ∨ t 48 x = 1) ∧ (0 < tB 30 x → (s 10 (ph_E tB x).toNat = s 26 0 ↔ t 48 x = 1)))
section PV
variable {sB tB : py_Z} {n : Nat} {m : Int}
theorem ph_placeinj (h : ph_R sB tB n m) {x y : Nat} (hx : x < 640) (hy : y < 640) (hlx : 0 < tB 30 x) (hly : 0 < tB 30 y) (e : ph_E tB x = ph_E tB y) : x = y := by
  obtain ⟨c, k, hc, hk, g1, g2, g3, g4, g5, g6⟩ := ph_live h.2.1 h.2.2.1 hx hlx
  obtain ⟨c', k', hc', hk', g1', g2', g3', g4', g5', g6'⟩ := ph_live h.2.1 h.2.2.1 hy hly
  unfold ph_E at e
  rw [if_neg (by omega), if_neg (by omega)] at e
  simp only [Int.toNat_natCast] at e
  have e1 : c = c' := by omega
  subst e1
  have e2 : ph_pos tB c k = ph_pos tB c k' := by omega
  rcases Nat.lt_trichotomy k k' with e3 | e3 | e3
  · have := ph_pos_lt (t := tB) (c := c) e3; unfold ph_sz at this; omega
  · subst e3; rw [← g1, ← g1']
  · have := ph_pos_lt (t := tB) (c := c) e3; unfold ph_sz at this; omega
theorem ph_visit (h : ph_R sB tB n m) (hn : n < 1000) {s t : py_Z} {nq : Nat} (hV : ph_V s t sB tB nq) {y : Int} (hy : ph_PV tB y) :
    ((y < 0 ∨ t 48 y.toNat ≠ 0) ∧ ∀ K : ty_S → Prop, K (py_O s) → eX2_visit (py_O s) (py_o (ph_E tB y)) K) ∨
    ((0 ≤ y ∧ y < 640) ∧ t 48 y.toNat = 0 ∧ nq < 640 ∧ ∃ s' : py_Z, (∀ K : ty_S → Prop, K (py_O s') → eX2_visit (py_O s) (py_o (ph_E tB y)) K) ∧ ph_V s' (py_st (py_st t 48 y.toNat 1) 44 nq y) sB tB (nq + 1)) := by
  obtain ⟨v1, v2, v3, v4, v5, v6, v7, v8, v9⟩ := id hV
  have hr := h.2.2.2.2.2.2.2.2.2
  rcases hy with e1 | ⟨e1, e2⟩
  · refine Or.inl ⟨Or.inl (by omega), fun K hK => ?_⟩
    subst e1
    unfold eX2_visit
    try simp only [py_O_ap, py_l0, py_l1, py_l2, py_l3, py_l4, py_l5, py_l6, py_l7, py_l8, py_l9, py_l12, py_l16, py_l32, py_l40, py_l100, py_l640, py_l1280, py_neg, py_add, py_sub, py_mul, py_stO]
    refine pr_isPlace (fun c _ => absurd c (by simp [ph_E])) (fun _ => ?_) (by simp [ph_E])
    exact py_ieq (fun _ => hK) (fun c => absurd rfl c)
  · obtain ⟨c, k, hc, hk, g1, g2, g3, g4, g5, g6⟩ := ph_live h.2.1 h.2.2.1 (x := y.toNat) (by omega) e2
    have hE : ph_E tB y = 32 * tB 31 y.toNat + tB 32 y.toNat := by unfold ph_E; rw [if_neg (by omega)]
    have hy2 : ((y.toNat : Nat) : Int) = y := by omega
    obtain ⟨u1, u2⟩ := v9 y.toNat (by omega)
    have u2 := u2 e2
    rw [hy2] at u2
    have hb10 := v7 (ph_E tB y).toNat (by omega)
    by_cases hs : t 48 y.toNat = 0
    · have hne : s 10 (ph_E tB y).toNat ≠ s 26 0 := fun e => by have := u2.mp e; omega
      have hlt : nq < 640 := by
        rw [v6]
        exact py_cnt_lt (k := y.toNat) (by omega) (by simp [hs])
      refine Or.inr ⟨e1, hs, hlt, py_st (py_st (py_st s 10 (ph_E tB y).toNat (s 26 0)) 11 nq (ph_E tB y)) 25 0 (nq + 1), fun K hK => ?_, ?_⟩
      · unfold eX2_visit
        try simp only [py_O_ap, py_l0, py_l1, py_l2, py_l3, py_l4, py_l5, py_l6, py_l7, py_l8, py_l9, py_l12, py_l16, py_l32, py_l40, py_l100, py_l640, py_l1280, py_neg, py_add, py_sub, py_mul, py_stO]
        refine pr_isPlace (fun _ _ => ?_) (fun c => absurd c (by omega))
        refine py_ieq (fun c => absurd c (by omega)) (fun _ => py_and ?_)
        rw [py_nat (by omega)]
        try simp only [py_O_ap, py_l0, py_l1, py_l2, py_l3, py_l4, py_l5, py_l6, py_l7, py_l8, py_l9, py_l12, py_l16, py_l32, py_l40, py_l100, py_l640, py_l1280, py_neg, py_add, py_sub, py_mul, py_stO]
        refine py_ieq (fun c => absurd c hne) (fun _ => ?_)
        rw [v4]
        refine py_ile (fun c => absurd c (by omega)) (fun _ => py_and (py_and ?_))
        rw [py_nat (by omega)]
        simp only [Int.toNat_natCast]
        exact hK
      · refine ⟨fun g i a b c d => by rw [py_sn c, py_sn b, py_sn a]; exact v1 g i a b c d, fun g i a b c => by rw [py_sn a, py_sn b]; exact v2 g i a b c, by rw [py_sn (by decide), py_sn (by decide)]; exact v3, by rw [py_se]; omega, by rw [py_sn (by decide), py_sn (by decide), py_sn (by decide)]; exact v5, ?_, fun p hp => ?_, fun i hi => ?_, fun x hx => ?_⟩
        · rw [v6]
          refine (py_cnt_up (k := y.toNat) (by omega) (by simp [hs]) (by rw [py_sn (by decide), py_se]; decide) (fun j hj hne => by rw [py_sn (by decide), py_sj hne])).symm
        · rw [py_sn (show 10 ≠ 25 by decide), py_sn (show 10 ≠ 11 by decide), py_ss, py_sn (show 26 ≠ 25 by decide), py_sn (show 26 ≠ 11 by decide), py_sn (show 26 ≠ 10 by decide)]
          split
          · omega
          · exact v7 p hp
        · rw [py_sn (show 11 ≠ 25 by decide)]
          by_cases e : i = nq
          · subst e
            rw [py_se, py_se]
            exact ⟨Or.inr ⟨e1, e2⟩, e1.1, rfl⟩
          · rw [py_sj e, py_sj e, py_sn (by decide), py_sn (by decide)]
            exact v8 i (by omega)
        · rw [py_sn (show 48 ≠ 44 by decide), py_ss, py_sn (show 10 ≠ 25 by decide), py_sn (show 10 ≠ 11 by decide), py_ss, py_sn (show 26 ≠ 25 by decide), py_sn (show 26 ≠ 11 by decide), py_sn (show 26 ≠ 10 by decide)]
          obtain ⟨z1, z2⟩ := v9 x hx
          by_cases e : x = y.toNat
          · subst e
            rw [if_pos rfl, hy2, if_pos rfl]
            exact ⟨Or.inr rfl, fun _ => ⟨fun _ => rfl, fun _ => rfl⟩⟩
          · rw [if_neg e]
            refine ⟨z1, fun hl => ?_⟩
            have hne2 : (ph_E tB x).toNat ≠ (ph_E tB y).toNat := fun e9 => by
              obtain ⟨c', k', hc', hk', q1, q2, q3, q4, q5, q6⟩ := ph_live h.2.1 h.2.2.1 hx hl
              have hEx : ph_E tB x = 32 * tB 31 x + tB 32 x := by unfold ph_E; rw [if_neg (by omega)]; simp
              have := ph_placeinj h hx (y := y.toNat) (by omega) hl e2 (by rw [hy2]; omega)
              exact e this
            rw [if_neg hne2]
            exact z2 hl
    · refine Or.inl ⟨Or.inr hs, fun K hK => ?_⟩
      have h1 : t 48 y.toNat = 1 := u1.resolve_left hs
      unfold eX2_visit
      try simp only [py_O_ap, py_l0, py_l1, py_l2, py_l3, py_l4, py_l5, py_l6, py_l7, py_l8, py_l9, py_l12, py_l16, py_l32, py_l40, py_l100, py_l640, py_l1280, py_neg, py_add, py_sub, py_mul, py_stO]
      refine pr_isPlace (fun _ _ => ?_) (fun c => absurd c (by omega))
      refine py_ieq (fun c => absurd c (by omega)) (fun _ => py_and ?_)
      rw [py_nat (by omega)]
      try simp only [py_O_ap, py_l0, py_l1, py_l2, py_l3, py_l4, py_l5, py_l6, py_l7, py_l8, py_l9, py_l12, py_l16, py_l32, py_l40, py_l100, py_l640, py_l1280, py_neg, py_add, py_sub, py_mul, py_stO]
      exact py_ieq (fun _ => hK) (fun c => absurd (u2.mpr h1) c)
/-- the references of one thing -/
theorem ph_reach99 (h : ph_R sB tB n m) (hn : n < 1000) {k x : Nat} (hx : x < 640) (hl : 0 < tB 30 x) : ∀ (f i nq : Nat) (s t : py_Z), (i : Int) + f = tB 33 x → k < nq → t 44 k = x → ph_V s t sB tB nq →
    ∃ (s' t' : py_Z) (nq' : Nat), (∀ (K : ty_S → Int32 → Prop) (R : Int32 → ty_S → Prop), R (py_o (k + 1)) (py_O s') → ∃ n9, lX2_countFrom_99 K R n9 (py_o k) (py_o (ph_E tB x + 2 + tB 33 x)) (py_o (ph_E tB x + 2 + i)) (py_O s)) ∧
      (∀ (K : ty_S → Int32 → Prop) (R : Int32 → Int32 → ty_S → Prop), R (py_o nq') (py_o (k + 1)) (py_O t') → ∃ n9, lX5_reached_89 K R n9 (py_o nq) (py_o k) (py_o i) (py_O t)) ∧ ph_V s' t' sB tB nq' ∧ nq ≤ nq' ∧ (∀ j : Nat, j < nq → t' 44 j = t 44 j) := by
  obtain ⟨c, k0, hc, hk0, g1, g2, g3, g4, g5, g6, g7⟩ := ph_live h.2.1 h.2.2.1 hx hl
  obtain ⟨w1, w2, w3, w4, w5, w6, w7⟩ := h.2.1.2.1 c k0 hc hk0
  obtain ⟨f1, f2, f3, f4⟩ := h.2.1.fit hc hk0
  rw [g1] at w2 w3 w6 f1 f4
  have hE : ph_E tB x = 32 * c + ph_pos tB c k0 := by unfold ph_E; rw [if_neg (by omega)]; simp only [Int.toNat_natCast]; omega
  intro f
  induction f with
  | zero =>
    intro i nq s t hi hk h44 hV
    obtain ⟨v1, v2, v3, v4, v5, v6, v7, v8, v9⟩ := id hV
    have hle := py_cnt_le (fun x => decide (t 48 x ≠ 0)) 640
    have t33 := v2 33 x (by decide) (by decide) (by decide)
    refine ⟨s, t, nq, fun K R hR => ⟨1, ?_⟩, fun K R hR => ⟨1, ?_⟩, hV, Nat.le_refl _, fun _ _ => rfl⟩
    · unfold lX2_countFrom_99
      try simp only [py_O_ap, py_l0, py_l1, py_l2, py_l3, py_l4, py_l5, py_l6, py_l7, py_l8, py_l9, py_l12, py_l16, py_l32, py_l40, py_l100, py_l640, py_l1280, py_neg, py_add, py_sub, py_mul, py_stO]
      exact py_ile (fun _ => hR) (fun c => absurd c (by omega))
    · unfold lX5_reached_89
      try simp only [py_O_ap, py_l0, py_l1, py_l2, py_l3, py_l4, py_l5, py_l6, py_l7, py_l8, py_l9, py_l12, py_l16, py_l32, py_l40, py_l100, py_l640, py_l1280, py_neg, py_add, py_sub, py_mul, py_stO]
      refine py_and ?_
      rw [py_nat (by omega)]
      simp only [Int.toNat_natCast]
      rw [h44]
      refine py_and ?_
      rw [py_nat (by omega)]
      simp only [Int.toNat_natCast]
      exact py_ile (fun _ => hR) (fun c => absurd c (by omega))
  | succ f ih =>
    intro i nq s t hi hk h44 hV
    obtain ⟨v1, v2, v3, v4, v5, v6, v7, v8, v9⟩ := id hV
    have hle := py_cnt_le (fun x => decide (t 48 x ≠ 0)) 640
    have t33 := v2 33 x (by decide) (by decide) (by decide)
    have t35 := v2 35 (12 * x + i) (by decide) (by decide) (by decide)
    have hPV := h.2.2.1.2.2.2.2.2 x hx hl i (by omega)
    have hword : s 0 (32 * c + ph_pos tB c k0 + 2 + i) = ph_E tB (tB 35 (12 * x + i)) := by rw [v1 0 _ (by decide) (by decide) (by decide) (by decide)]; exact (w6 i (by omega)).1
    have e2 : ((12 : Int) * x + i).toNat = 12 * x + i := by omega
    have hcls : ∀ (K : ty_S → Int32 → Prop) (R : Int32 → ty_S → Prop) (n9 : Nat), eX2_visit (py_O s) (py_o (ph_E tB (tB 35 (12 * x + i)))) (fun S3 => lX2_countFrom_99 K R n9 (py_o k) (py_o (ph_E tB x + 2 + tB 33 x)) (py_o (ph_E tB x + 2 + (i + 1 : Nat))) S3) → lX2_countFrom_99 K R (n9 + 1) (py_o k) (py_o (ph_E tB x + 2 + tB 33 x)) (py_o (ph_E tB x + 2 + i)) (py_O s) := fun K R n9 hK => by
      unfold lX2_countFrom_99
      try simp only [py_O_ap, py_l0, py_l1, py_l2, py_l3, py_l4, py_l5, py_l6, py_l7, py_l8, py_l9, py_l12, py_l16, py_l32, py_l40, py_l100, py_l640, py_l1280, py_neg, py_add, py_sub, py_mul, py_stO]
      refine py_ile (fun c => absurd c (by omega)) (fun _ => ?_)
      refine pr_at (fun _ _ => ?_) (fun c => absurd c (by omega))
      rw [show (ph_E tB x + 2 + i).toNat = 32 * c + ph_pos tB c k0 + 2 + i by omega, hword]
      rw [show ph_E tB x + 2 + ((i + 1 : Nat) : Int) = ph_E tB x + 2 + i + 1 by omega] at hK
      exact hK
    have hmod : ∀ (K : ty_S → Int32 → Prop) (R : Int32 → Int32 → ty_S → Prop) (n9 : Nat), (if py_o (tB 35 (12 * x + i)) < py_o 0 then lX5_reached_89 K R n9 (py_o nq) (py_o k) (py_o (i + 1)) (py_O t) else (vp_in (py_o (tB 35 (12 * x + i))) 640 ∧ (if py_o (t 48 (py_o (tB 35 (12 * x + i))).toNatClampNeg) = py_o 0 then (vp_in (py_o (tB 35 (12 * x + i))) 640 ∧ (vp_in (py_o nq) 640 ∧ lX5_reached_89 K R n9 (py_o (nq + 1)) (py_o k) (py_o (i + 1)) (py_O (py_st (py_st t 48 (py_o (tB 35 (12 * x + i))).toNatClampNeg 1) 44 (py_o nq).toNatClampNeg (tB 35 (12 * x + i)))))) else lX5_reached_89 K R n9 (py_o nq) (py_o k) (py_o (i + 1)) (py_O t)))) → lX5_reached_89 K R (n9 + 1) (py_o nq) (py_o k) (py_o i) (py_O t) := fun K R n9 hK => by
      unfold lX5_reached_89
      try simp only [py_O_ap, py_l0, py_l1, py_l2, py_l3, py_l4, py_l5, py_l6, py_l7, py_l8, py_l9, py_l12, py_l16, py_l32, py_l40, py_l100, py_l640, py_l1280, py_neg, py_add, py_sub, py_mul, py_stO]
      refine py_and ?_
      rw [py_nat (by omega)]
      simp only [Int.toNat_natCast]
      rw [h44]
      refine py_and ?_
      rw [py_nat (by omega)]
      simp only [Int.toNat_natCast]
      refine py_ile (fun c => absurd c (by omega)) (fun _ => py_and (py_and ?_))
      rw [py_nat (a := 12 * (x : Int) + i) (by omega), e2, t35]
      exact hK
    rcases ph_visit h hn hV hPV with ⟨z1, z2⟩ | ⟨z1, z2, z3, s1, z4, z5⟩
    · obtain ⟨s', t', nq', o1, o2, o3, o4, o5⟩ := ih (i + 1) nq s t (by omega) hk h44 hV
      refine ⟨s', t', nq', fun K R hR => ?_, fun K R hR => ?_, o3, o4, o5⟩
      · obtain ⟨n9, hn9⟩ := o1 K R hR
        exact ⟨n9 + 1, hcls K R n9 (z2 _ hn9)⟩
      · obtain ⟨n9, hn9⟩ := o2 K R hR
        refine ⟨n9 + 1, hmod K R n9 ?_⟩
        have hyb : -1 ≤ tB 35 (12 * x + i) ∧ tB 35 (12 * x + i) < 640 := by rcases hPV with e | ⟨e, _⟩ <;> omega
        refine py_ilt (fun _ => hn9) (fun e3 => py_and ?_)
        rw [py_nat (by omega)]
        have h48 := (v9 (tB 35 (12 * x + i)).toNat (by omega)).1
        exact py_ieq (fun e4 => absurd e4 (z1.resolve_left (by omega))) (fun _ => hn9)
    · obtain ⟨s', t', nq', o1, o2, o3, o4, o5⟩ := ih (i + 1) (nq + 1) s1 (py_st (py_st t 48 (tB 35 (12 * x + i)).toNat 1) 44 nq (tB 35 (12 * x + i))) (by omega) (by omega) (by rw [py_sj (by omega), py_sn (by decide)]; exact h44) z5
      refine ⟨s', t', nq', fun K R hR => ?_, fun K R hR => ?_, o3, by omega, fun j hj => by rw [o5 j (by omega), py_sj (by omega), py_sn (by decide)]⟩
      · obtain ⟨n9, hn9⟩ := o1 K R hR
        exact ⟨n9 + 1, hcls K R n9 (z4 _ hn9)⟩
      · obtain ⟨n9, hn9⟩ := o2 K R hR
        refine ⟨n9 + 1, hmod K R n9 ?_⟩
        refine py_ilt (fun c => absurd c (by omega)) (fun e3 => py_and ?_)
        rw [py_nat (by omega)]
        refine py_ieq (fun _ => py_and (py_and ?_)) (fun c => absurd z2 c)
        rw [py_nat (by omega)]
        simp only [Int.toNat_natCast]
        try simp only [py_O_ap, py_l0, py_l1, py_l2, py_l3, py_l4, py_l5, py_l6, py_l7, py_l8, py_l9, py_l12, py_l16, py_l32, py_l40, py_l100, py_l640, py_l1280, py_neg, py_add, py_sub, py_mul, py_stO]
        exact hn9
theorem ph_reachQ (h : ph_R sB tB n m) (hn : n < 1000) : ∀ (d k nq : Nat) (s t : py_Z), k + d = 641 → k ≤ nq → ph_V s t sB tB nq →
    ∃ (s' t' : py_Z) (nq' : Nat), (∀ (K : ty_S → Int32 → Prop), K (py_O s') (py_o nq') → ∃ n9, lX2_countFrom_51 K n9 (py_o k) (py_O s)) ∧
      (∀ (K : ty_S → Int32 → Prop), K (py_O t') (py_o nq') → ∃ n9, lX5_reached_82 K n9 (py_o nq) (py_o k) (py_O t)) ∧ ph_V s' t' sB tB nq' := by
  intro d
  induction d with
  | zero =>
    intro k nq s t hd hk hV
    obtain ⟨v1, v2, v3, v4, v5, v6, v7, v8, v9⟩ := id hV
    have hle := py_cnt_le (fun x => decide (t 48 x ≠ 0)) 640
    omega
  | succ d ih =>
    intro k nq s t hd hk hV
    obtain ⟨v1, v2, v3, v4, v5, v6, v7, v8, v9⟩ := id hV
    have hle := py_cnt_le (fun x => decide (t 48 x ≠ 0)) 640
    by_cases e : k = nq
    · refine ⟨s, t, nq, fun K hK => ⟨1, ?_⟩, fun K hK => ⟨1, ?_⟩, hV⟩
      · unfold lX2_countFrom_51
        try simp only [py_O_ap, py_l0, py_l1, py_l2, py_l3, py_l4, py_l5, py_l6, py_l7, py_l8, py_l9, py_l12, py_l16, py_l32, py_l40, py_l100, py_l640, py_l1280, py_neg, py_add, py_sub, py_mul, py_stO]
        rw [v4]
        exact py_ile (fun _ => hK) (fun c => absurd c (by omega))
      · unfold lX5_reached_82
        try simp only [py_O_ap, py_l0, py_l1, py_l2, py_l3, py_l4, py_l5, py_l6, py_l7, py_l8, py_l9, py_l12, py_l16, py_l32, py_l40, py_l100, py_l640, py_l1280, py_neg, py_add, py_sub, py_mul, py_stO]
        exact py_ile (fun _ => hK) (fun c => absurd c (by omega))
    · obtain ⟨q1, q2, q3⟩ := v8 k (by omega)
      obtain ⟨y1, y2⟩ := q1.resolve_left (by omega)
      obtain ⟨x, hx⟩ : ∃ x : Nat, t 44 k = x := ⟨(t 44 k).toNat, by omega⟩
      rw [hx] at y1 y2 q3
      simp only [Int.toNat_natCast] at y2
      obtain ⟨c, k0, hc, hk0, g1, g2, g3, g4, g5, g6, g7⟩ := ph_live h.2.1 h.2.2.1 (x := x) (by omega) y2
      obtain ⟨w1, w2, w3, w4, w5, w6, w7⟩ := h.2.1.2.1 c k0 hc hk0
      rw [g1] at w2 w3 w5
      have hE : ph_E tB x = 32 * c + ph_pos tB c k0 := by unfold ph_E; rw [if_neg (by omega)]; simp only [Int.toNat_natCast]; omega
      obtain ⟨s1, t1, nq1, o1, o2, o3, o4, o5⟩ := ph_reach99 h hn (k := k) (x := x) (by omega) y2 (tB 33 x).toNat 0 nq s t (by omega) (by omega) hx hV
      obtain ⟨s', t', nq', p1, p2, p3⟩ := ih (k + 1) nq1 s1 t1 (by omega) (by omega) o3
      refine ⟨s', t', nq', fun K hK => ?_, fun K hK => ?_, p3⟩
      · obtain ⟨n0, hn0⟩ := p1 K hK
        obtain ⟨n9, hn9⟩ := o1 K (fun a0 S9 => lX2_countFrom_51 K n0 a0 S9) hn0
        refine ⟨n0 + 1, ?_⟩
        unfold lX2_countFrom_51
        try simp only [py_O_ap, py_l0, py_l1, py_l2, py_l3, py_l4, py_l5, py_l6, py_l7, py_l8, py_l9, py_l12, py_l16, py_l32, py_l40, py_l100, py_l640, py_l1280, py_neg, py_add, py_sub, py_mul, py_stO]
        rw [v4]
        refine py_ile (fun c => absurd c (by omega)) (fun _ => py_ile (fun c => absurd c (by omega)) (fun _ => py_and (py_and ?_)))
        rw [py_nat (by omega)]
        simp only [Int.toNat_natCast]
        rw [q3]
        refine pr_references (r := tB 33 x) (n := tB 34 x) (by omega) (by omega) ?_ (by omega) (by omega) (by omega) (by omega) (py_and ?_)
        · rw [show (ph_E tB x + 1).toNat = 32 * c + ph_pos tB c k0 + 1 by omega, v1 0 _ (by decide) (by decide) (by decide) (by decide)]; exact w5
        · refine ⟨n9, ?_⟩
          try simp only [py_O_ap, py_l0, py_l1, py_l2, py_l3, py_l4, py_l5, py_l6, py_l7, py_l8, py_l9, py_l12, py_l16, py_l32, py_l40, py_l100, py_l640, py_l1280, py_neg, py_add, py_sub, py_mul, py_stO]
          rw [q3]
          simpa using hn9
      · obtain ⟨n0, hn0⟩ := p2 K hK
        obtain ⟨n9, hn9⟩ := o2 K (fun a0 a1 S9 => lX5_reached_82 K n0 a0 a1 S9) hn0
        refine ⟨n0 + 1, ?_⟩
        unfold lX5_reached_82
        try simp only [py_O_ap, py_l0, py_l1, py_l2, py_l3, py_l4, py_l5, py_l6, py_l7, py_l8, py_l9, py_l12, py_l16, py_l32, py_l40, py_l100, py_l640, py_l1280, py_neg, py_add, py_sub, py_mul, py_stO]
        exact py_ile (fun c => absurd c (by omega)) (fun _ => ⟨n9, hn9⟩)
theorem ph_reachR (h : ph_R sB tB n m) (hn : n < 1000) : ∀ (d r nq : Nat) (s t : py_Z), r + d = 16 → ph_V s t sB tB nq →
    ∃ (s' t' : py_Z) (nq' : Nat), (∀ (K : ty_S → Int32 → Prop), K (py_O s') (py_o nq') → ∃ n9, lX2_countFrom_24 K n9 (py_o 16) (py_o r) (py_O s)) ∧
      (∀ (K : ty_S → Int32 → Prop), K (py_O t') (py_o nq') → ∃ n9, lX5_reached_31 K n9 (py_o nq) (py_o r) (py_O t)) ∧ ph_V s' t' sB tB nq' := by
  intro d
  induction d with
  | zero =>
    intro r nq s t hr hV
    obtain ⟨s', t', nq', p1, p2, p3⟩ := ph_reachQ h hn 641 0 nq s t rfl (Nat.zero_le _) hV
    refine ⟨s', t', nq', fun K hK => ⟨1, ?_⟩, fun K hK => ⟨1, ?_⟩, p3⟩
    · unfold lX2_countFrom_24
      try simp only [py_O_ap, py_l0, py_l1, py_l2, py_l3, py_l4, py_l5, py_l6, py_l7, py_l8, py_l9, py_l12, py_l16, py_l32, py_l40, py_l100, py_l640, py_l1280, py_neg, py_add, py_sub, py_mul, py_stO]
      exact py_ile (fun _ => p1 K hK) (fun c => absurd c (by omega))
    · unfold lX5_reached_31
      try simp only [py_O_ap, py_l0, py_l1, py_l2, py_l3, py_l4, py_l5, py_l6, py_l7, py_l8, py_l9, py_l12, py_l16, py_l32, py_l40, py_l100, py_l640, py_l1280, py_neg, py_add, py_sub, py_mul, py_stO]
      exact py_ile (fun _ => p2 K hK) (fun c => absurd c (by omega))
  | succ d ih =>
    intro r nq s t hr hV
    obtain ⟨v1, v2, v3, v4, v5, v6, v7, v8, v9⟩ := id hV
    have hle := py_cnt_le (fun x => decide (t 48 x ≠ 0)) 640
    obtain ⟨hPV, hs7⟩ := h.pv (r := r) (by omega)
    have s7 : s 7 r = ph_E tB (tB 43 r) := by rw [v1 7 r (by decide) (by decide) (by decide) (by decide)]; exact hs7
    have t43 := v2 43 r (by decide) (by decide) (by decide)
    have hyb : -1 ≤ tB 43 r ∧ tB 43 r < 640 := by rcases hPV with e | ⟨e, _⟩ <;> omega
    rcases ph_visit h hn hV hPV with ⟨z1, z2⟩ | ⟨z1, z2, z3, s1, z4, z5⟩
    · obtain ⟨s', t', nq', o1, o2, o3⟩ := ih (r + 1) nq s t (by omega) hV
      refine ⟨s', t', nq', fun K hK => ?_, fun K hK => ?_, o3⟩
      · obtain ⟨n9, hn9⟩ := o1 K hK
        refine ⟨n9 + 1, ?_⟩
        unfold lX2_countFrom_24
        try simp only [py_O_ap, py_l0, py_l1, py_l2, py_l3, py_l4, py_l5, py_l6, py_l7, py_l8, py_l9, py_l12, py_l16, py_l32, py_l40, py_l100, py_l640, py_l1280, py_neg, py_add, py_sub, py_mul, py_stO]
        refine py_ile (fun c => absurd c (by omega)) (fun _ => py_and ?_)
        rw [py_nat (by omega)]
        simp only [Int.toNat_natCast]
        rw [s7]
        exact z2 _ hn9
      · obtain ⟨n9, hn9⟩ := o2 K hK
        refine ⟨n9 + 1, ?_⟩
        unfold lX5_reached_31
        try simp only [py_O_ap, py_l0, py_l1, py_l2, py_l3, py_l4, py_l5, py_l6, py_l7, py_l8, py_l9, py_l12, py_l16, py_l32, py_l40, py_l100, py_l640, py_l1280, py_neg, py_add, py_sub, py_mul, py_stO]
        refine py_ile (fun c => absurd c (by omega)) (fun _ => py_and ?_)
        rw [py_nat (by omega)]
        simp only [Int.toNat_natCast]
        rw [t43]
        refine py_ilt (fun _ => hn9) (fun e3 => py_and ?_)
        rw [py_nat (by omega)]
        have h48 := (v9 (tB 43 r).toNat (by omega)).1
        exact py_ieq (fun e4 => absurd e4 (z1.resolve_left (by omega))) (fun _ => hn9)
    · obtain ⟨s', t', nq', o1, o2, o3⟩ := ih (r + 1) (nq + 1) s1 _ (by omega) z5
      refine ⟨s', t', nq', fun K hK => ?_, fun K hK => ?_, o3⟩
      · obtain ⟨n9, hn9⟩ := o1 K hK
        refine ⟨n9 + 1, ?_⟩
        unfold lX2_countFrom_24
        try simp only [py_O_ap, py_l0, py_l1, py_l2, py_l3, py_l4, py_l5, py_l6, py_l7, py_l8, py_l9, py_l12, py_l16, py_l32, py_l40, py_l100, py_l640, py_l1280, py_neg, py_add, py_sub, py_mul, py_stO]
        refine py_ile (fun c => absurd c (by omega)) (fun _ => py_and ?_)
        rw [py_nat (by omega)]
        simp only [Int.toNat_natCast]
        rw [s7]
        exact z4 _ hn9
      · obtain ⟨n9, hn9⟩ := o2 K hK
        refine ⟨n9 + 1, ?_⟩
        unfold lX5_reached_31
        try simp only [py_O_ap, py_l0, py_l1, py_l2, py_l3, py_l4, py_l5, py_l6, py_l7, py_l8, py_l9, py_l12, py_l16, py_l32, py_l40, py_l100, py_l640, py_l1280, py_neg, py_add, py_sub, py_mul, py_stO]
        refine py_ile (fun c => absurd c (by omega)) (fun _ => py_and ?_)
        rw [py_nat (by omega)]
        simp only [Int.toNat_natCast]
        rw [t43]
        refine py_ilt (fun c => absurd c (by omega)) (fun e3 => py_and ?_)
        rw [py_nat (by omega)]
        refine py_ieq (fun _ => py_and (py_and ?_)) (fun c => absurd z2 c)
        rw [py_nat (by omega)]
        simp only [Int.toNat_natCast]
        try simp only [py_O_ap, py_l0, py_l1, py_l2, py_l3, py_l4, py_l5, py_l6, py_l7, py_l8, py_l9, py_l12, py_l16, py_l32, py_l40, py_l100, py_l640, py_l1280, py_neg, py_add, py_sub, py_mul, py_stO]
        exact hn9
theorem ph_callReached (h : ph_R sB tB n m) (hn : n < 500) : ∃ (s' t' : py_Z) (r : Int), (∀ K : ty_S → Int32 → Prop, K (py_O s') (py_o r) → eX4_reached (py_O sB) K) ∧ (∀ K : ty_S → Int32 → Prop, K (py_O t') (py_o r) → eX5_reached (py_O tB) K) ∧ ph_R s' t' (n + 1) (m + 101) := by
  have hr := h.2.2.2.2.2.2.2.2.2
  obtain ⟨t0, ht0⟩ : ∃ t0 : py_Z, t0 = fun g i => if g = 48 ∧ i < 640 then 0 else py_st tB 60 0 0 g i := ⟨_, rfl⟩
  have hclear : ∀ (K : ty_S → Int32 → Prop), (∃ n9, lX5_reached_31 K n9 (py_o 0) (py_o 0) (py_O t0)) → ∀ d x : Nat, x + d = 640 → ∃ n9, lX5_reached_9 K n9 (py_o 0) (py_o x) (py_O (fun g i => if g = 48 ∧ i < x then 0 else py_st tB 60 0 0 g i)) := by
    intro K hK d
    induction d with
    | zero =>
      intro x hx
      refine ⟨1, ?_⟩
      unfold lX5_reached_9
      try simp only [py_O_ap, py_l0, py_l1, py_l2, py_l3, py_l4, py_l5, py_l6, py_l7, py_l8, py_l9, py_l12, py_l16, py_l32, py_l40, py_l100, py_l640, py_l1280, py_neg, py_add, py_sub, py_mul, py_stO]
      refine py_ile (fun _ => ?_) (fun c => absurd c (by omega))
      rw [show x = 640 by omega, ← ht0]
      exact hK
    | succ d ih =>
      intro x hx
      obtain ⟨n9, hn9⟩ := ih (x + 1) (by omega)
      refine ⟨n9 + 1, ?_⟩
      unfold lX5_reached_9
      try simp only [py_O_ap, py_l0, py_l1, py_l2, py_l3, py_l4, py_l5, py_l6, py_l7, py_l8, py_l9, py_l12, py_l16, py_l32, py_l40, py_l100, py_l640, py_l1280, py_neg, py_add, py_sub, py_mul, py_stO]
      refine py_ile (fun c => absurd c (by omega)) (fun _ => py_and ?_)
      rw [py_nat (by omega)]
      have e : (fun (g i : Nat) => if g = 48 ∧ i < x + 1 then (0 : Int) else py_st tB 60 0 0 g i) = py_st (fun g i => if g = 48 ∧ i < x then 0 else py_st tB 60 0 0 g i) 48 (x : Int).toNat 0 := by
        clear hn9 ih hK ht0
        funext g i
        simp only [py_st, Int.toNat_natCast]
        grind
      rw [e] at hn9
      exact hn9
  have h48 : ∀ x : Nat, x < 640 → t0 48 x = 0 := fun x hx => by rw [ht0]; simp [hx]
  have ht0g : ∀ g i, g ≠ 48 → g ≠ 60 → t0 g i = tB g i := fun g i a b => by
    rw [ht0]
    simp only [a, false_and, if_false]
    exact py_sn b
  have hV : ph_V (py_st (py_st sB 26 0 (sB 26 0 + 1)) 25 0 0) t0 sB tB 0 := by
    refine ⟨fun g i a b c d => by rw [py_sn c, py_sn d], fun g i a b c => ht0g g i b c, ?_, by rw [py_se]; rfl, by rw [py_sn (by decide), py_se], ?_, fun p hp => ?_, fun i hi => absurd hi (by omega), fun x hx => ?_⟩
    · rw [ht0]; simp [py_st]
    · exact (py_cnt_none (fun x hx => by rw [h48 x hx]; decide)).symm
    · rw [py_sn (show 10 ≠ 25 by decide), py_sn (show 10 ≠ 26 by decide), py_sn (show 26 ≠ 25 by decide), py_se]
      have := hr.2.2 p hp
      omega
    · rw [h48 x hx]
      refine ⟨Or.inl rfl, fun hl => ?_⟩
      rw [py_sn (show 10 ≠ 25 by decide), py_sn (show 10 ≠ 26 by decide), py_sn (show 26 ≠ 25 by decide), py_se]
      obtain ⟨c, k, hc, hk, g1, g2, g3, g4, g5, g6⟩ := ph_live h.2.1 h.2.2.1 hx hl
      have hE : ph_E tB x = 32 * tB 31 x + tB 32 x := by unfold ph_E; rw [if_neg (by omega)]; simp
      have := hr.2.2 (ph_E tB x).toNat (by omega)
      omega
  obtain ⟨s', t', nq', o1, o2, o3⟩ := ph_reachR h (by omega) 16 0 0 _ t0 rfl hV
  obtain ⟨v1, v2, v3, v4, v5, v6, v7, v8, v9⟩ := o3
  refine ⟨s', t', nq', fun K hK => ?_, fun K hK => ?_, ?_⟩
  · unfold eX4_reached
    unfold eX2_countFrom
    try simp only [py_O_ap, py_l0, py_l1, py_l2, py_l3, py_l4, py_l5, py_l6, py_l7, py_l8, py_l9, py_l12, py_l16, py_l32, py_l40, py_l100, py_l640, py_l1280, py_neg, py_add, py_sub, py_mul, py_stO]
    exact o1 K hK
  · unfold eX5_reached
    try simp only [py_O_ap, py_l0, py_l1, py_l2, py_l3, py_l4, py_l5, py_l6, py_l7, py_l8, py_l9, py_l12, py_l16, py_l32, py_l40, py_l100, py_l640, py_l1280, py_neg, py_add, py_sub, py_mul, py_stO]
    have := hclear K (o2 K hK) 640 0 rfl
    have e : (fun (g i : Nat) => if g = 48 ∧ i < 0 then (0 : Int) else py_st tB 60 0 0 g i) = py_st tB 60 0 0 := by
      funext g i
      rw [if_neg (by omega)]
    rw [e] at this
    exact this
  · obtain ⟨b1, b2, b3, b4, b5, b6, b7, b8, b9, b10⟩ := h
    have es : ∀ g i, g ≠ 10 → g ≠ 11 → g ≠ 25 → g ≠ 26 → s' g i = sB g i := v1
    have et : ∀ g i, g ≠ 44 → g ≠ 48 → g ≠ 60 → t' g i = tB g i := v2
    have hE : ph_E t' = ph_E tB := ph_E_congr (fun x => et 31 x (by decide) (by decide) (by decide)) (fun x => et 32 x (by decide) (by decide) (by decide))
    refine ⟨b1.congr (fun i => es 5 i (by decide) (by decide) (by decide) (by decide)) (fun i => es 6 i (by decide) (by decide) (by decide) (by decide)) (es 13 0 (by decide) (by decide) (by decide) (by decide)) (es 14 0 (by decide) (by decide) (by decide) (by decide)) (et 50 0 (by decide) (by decide) (by decide)) (et 57 0 (by decide) (by decide) (by decide)) (fun i => et 40 i (by decide) (by decide) (by decide)) (fun i => et 41 i (by decide) (by decide) (by decide)) (fun i => et 42 i (by decide) (by decide) (by decide)), ?_, b3.congr (fun g i hg => et g i (by omega) (by omega) (by omega)), fun r hr2 => ?_, ?_, ?_, ?_, ?_, ?_, ?_⟩
    · rw [hE]; exact b2.congr (fun g i hg => es g i (by omega) (by omega) (by omega) (by omega)) (fun c _ hz => by rwa [es 6 c (by decide) (by decide) (by decide) (by decide)] at hz) (fun g i _ _ _ _ => et g i (by omega) (by omega) (by omega))
    · rw [es 7 r (by decide) (by decide) (by decide) (by decide), et 43 r (by decide) (by decide) (by decide), hE]; exact b4 r hr2
    · rw [es 20 0 (by decide) (by decide) (by decide) (by decide), et 59 0 (by decide) (by decide) (by decide)]; exact b5
    · rw [es 15 0 (by decide) (by decide) (by decide) (by decide), es 16 0 (by decide) (by decide) (by decide) (by decide), es 17 0 (by decide) (by decide) (by decide) (by decide), es 18 0 (by decide) (by decide) (by decide) (by decide), es 19 0 (by decide) (by decide) (by decide) (by decide), et 52 0 (by decide) (by decide) (by decide), et 53 0 (by decide) (by decide) (by decide), et 54 0 (by decide) (by decide) (by decide), et 55 0 (by decide) (by decide) (by decide), et 56 0 (by decide) (by decide) (by decide)]; exact b6
    · rw [es 23 0 (by decide) (by decide) (by decide) (by decide), et 51 0 (by decide) (by decide) (by decide)]; exact b7
    · rw [es 24 0 (by decide) (by decide) (by decide) (by decide), et 58 0 (by decide) (by decide) (by decide)]; exact ⟨b8.1, by omega⟩
    · rw [et 57 0 (by decide) (by decide) (by decide)]; omega
    · exact ⟨by omega, by omega, v7⟩
end PV
end
section
/-! PURE: make -/
section PMK
variable {s t : py_Z} {n : Nat} {m : Int}
/-- the last car has room -/
def ph_LR (s t : py_Z) (z : Int) : Prop := 0 < s 13 0 ∧ z ≤ 32 - t 37 (s 5 (s 13 0 - 1).toNat).toNat
theorem ph_R.fil (h : ph_R s t n m) {c : Nat} (hc : c < 40) : s 2 c = t 37 c ∧ 0 ≤ t 37 c ∧ t 37 c ≤ 32 := by
  have := h.2.1.1 c hc
  have h1 := this.2.1
  have h2 := this.2.2.2.1
  have h3 := this.2.2.2.2.1
  omega
theorem pr_lastHasRoom (h : ph_R s t n m) {z : Int} (hz : 2 ≤ z ∧ z ≤ 26) {K : ty_S → Int32 → Prop} (h1 : ph_LR s t z → K (py_O s) (py_o 1)) (h0 : ¬ ph_LR s t z → K (py_O s) (py_o 0)) : eX3_lastHasRoom (py_O s) (py_o z) K := by
  have hc0 := h.1.cnt
  unfold eX3_lastHasRoom
  try simp only [py_O_ap, py_l0, py_l1, py_l2, py_l3, py_l4, py_l5, py_l6, py_l7, py_l8, py_l9, py_l12, py_l16, py_l32, py_l40, py_l100, py_l640, py_l1280, py_neg, py_add, py_sub, py_mul, py_stO]
  refine pr_carAt hc0 (fun a1 a2 => ?_) (fun c => ?_)
  · have hcar := (h.1.car (i := (s 13 0 - 1).toNat) (by omega)).1
    have hf := h.fil (c := (s 5 (s 13 0 - 1).toNat).toNat) (by omega)
    refine pr_room (fun _ _ => ?_) (fun c => absurd c (by omega))
    rw [hf.1]
    exact py_ilt (fun c => h0 (fun e => by have := e.2; omega)) (fun c => h1 ⟨by omega, c⟩)
  · refine pr_room (fun c _ => absurd c (by omega)) (fun _ => ?_)
    exact py_ilt (fun _ => h0 (fun e => by have := e.1; omega)) (fun c => absurd c (by omega))
/-- the last car of the last train -/
theorem ph_lastCar (hRW : pr_RW s t) (hn : 0 < t 50 0) : t 42 (40 * ((t 50 0).toNat - 1) + ((t 41 ((t 50 0).toNat - 1)).toNat - 1)) = s 5 (s 13 0 - 1).toNat := by
  have h41 := hRW.2.1 ((t 50 0).toNat - 1) (by omega)
  have hl := hRW.last hn
  obtain ⟨d1, d2, d3⟩ := hRW.2.2.2.1 ((t 50 0).toNat - 1) ((t 41 ((t 50 0).toNat - 1)).toNat - 1) (by omega) (by omega)
  rw [← d1]
  congr 1
  omega
theorem pm_lastHasRoom (h : ph_R s t n m) {z : Int} (hz : 2 ≤ z ∧ z ≤ 26) {K : ty_S → Int32 → Prop} (h1 : ph_LR s t z → K (py_O t) (py_o 1)) (h0 : ¬ ph_LR s t z → K (py_O t) (py_o 0)) : eX5_lastHasRoom (py_O t) (py_o z) K := by
  have hc0 := h.1.cnt
  have h50 := h.1.1
  have hs := h.1.some
  unfold eX5_lastHasRoom
  try simp only [py_O_ap, py_l0, py_l1, py_l2, py_l3, py_l4, py_l5, py_l6, py_l7, py_l8, py_l9, py_l12, py_l16, py_l32, py_l40, py_l100, py_l640, py_l1280, py_neg, py_add, py_sub, py_mul, py_stO]
  refine py_ile (fun c => h0 (fun e => by have := e.1; omega)) (fun c => ?_)
  rw [show t 50 0 - 1 = (((t 50 0).toNat - 1 : Nat) : Int) by omega]
  refine pm_lastCar h.1 (by omega) ?_
  rw [ph_lastCar h.1 c]
  have hcar := (h.1.car (i := (s 13 0 - 1).toNat) (by omega)).1
  have hf := h.fil (c := (s 5 (s 13 0 - 1).toNat).toNat) (by omega)
  rw [show s 5 (s 13 0 - 1).toNat = (((s 5 (s 13 0 - 1).toNat).toNat : Nat) : Int) by omega]
  refine pm_hasRoom (by omega) hf.2 (by omega) (fun e => ?_) (fun e => ?_)
  · exact py_ieq (fun c => absurd c (by omega)) (fun _ => h1 ⟨by omega, e⟩)
  · exact py_ieq (fun _ => h0 (fun e2 => by have := e2.2; omega)) (fun c => absurd rfl c)
theorem pr_takesNew (h : ph_R s t n m) {z : Int} (hz : 2 ≤ z ∧ z ≤ 26) {K : ty_S → Int32 → Prop} (h1 : (ph_LR s t z ∨ s 13 0 ≤ 38) → K (py_O s) (py_o 1)) (h0 : ¬ (ph_LR s t z ∨ s 13 0 ≤ 38) → K (py_O s) (py_o 0)) : eX3_takesNew (py_O s) (py_o z) K := by
  have hc0 := h.1.cnt
  unfold eX3_takesNew
  try simp only [py_O_ap, py_l0, py_l1, py_l2, py_l3, py_l4, py_l5, py_l6, py_l7, py_l8, py_l9, py_l12, py_l16, py_l32, py_l40, py_l100, py_l640, py_l1280, py_neg, py_add, py_sub, py_mul, py_stO]
  refine pr_lastHasRoom h hz (fun e => ?_) (fun e => ?_)
  · exact py_ieq (fun c => absurd c (by omega)) (fun _ => h1 (Or.inl e))
  · refine py_ieq (fun _ => ?_) (fun c => absurd rfl c)
    refine pr_countFree ?_
    exact py_ilt (fun c => h0 (fun e2 => e2.elim e (fun e3 => by omega))) (fun c => h1 (Or.inr (by omega)))
/-- only what lies in the cars counts -/
theorem ph_TH.congrX {E : Int → Int} {s' t' : py_Z} (h : ph_TH s t E) (hs : ∀ g i, g ≤ 4 → s' g i = s g i) (h6 : ∀ c : Nat, c < 40 → s' 6 c = 0 → s 6 c = 0) (ht : ∀ g i, 37 ≤ g → g ≤ 39 → t' g i = t g i) (hx : ∀ c k : Nat, c < 40 → (k : Int) < t 38 c → t' 30 (ph_x t c k) = t 30 (ph_x t c k) ∧ t' 33 (ph_x t c k) = t 33 (ph_x t c k) ∧ t' 34 (ph_x t c k) = t 34 (ph_x t c k) ∧ ∀ i : Nat, i < 12 → t' 35 (12 * ph_x t c k + i) = t 35 (12 * ph_x t c k + i) ∧ t' 36 (12 * ph_x t c k + i) = t 36 (12 * ph_x t c k + i)) : ph_TH s' t' E := by
  have ex : ∀ c k, ph_x t' c k = ph_x t c k := fun c k => by unfold ph_x; rw [ht 39 _ (by omega) (by omega)]
  have ep : ∀ c k : Nat, c < 40 → (k : Int) ≤ t 38 c → ph_pos t' c k = ph_pos t c k := fun c k hc hk => ph_pos_congr k (fun m hm => ⟨ex c m, by unfold ph_sz; rw [(hx c m hc (by omega)).2.1, (hx c m hc (by omega)).2.2.1]⟩)
  refine ⟨fun c hc => ?_, fun c k hc hk => ?_, fun p hp => ?_⟩
  · obtain ⟨d1, d2, d3, d4, d5, d6, d7, d8⟩ := h.1 c hc
    refine ⟨by rw [hs 3 c (by omega), ht 38 c (by omega) (by omega)]; exact d1, by rw [hs 2 c (by omega), ht 37 c (by omega) (by omega)]; exact d2, by rw [ht 38 c (by omega) (by omega)]; exact d3, by rw [ht 37 c (by omega) (by omega), ht 38 c (by omega) (by omega), ep c _ hc (by omega)]; exact d4, by rw [ht 37 c (by omega) (by omega)]; exact d5, fun e => by rw [ht 38 c (by omega) (by omega)]; exact d6 (h6 c hc e), fun e => ?_, fun w hw hu => ?_⟩
    · rw [ht 38 c (by omega) (by omega)] at e
      rw [hs 4 c (by omega), ht 38 c (by omega) (by omega), ep c _ hc (by omega)]; exact d7 e
    · rw [ht 37 c (by omega) (by omega)] at hu
      rw [hs 0 _ (by omega)]; exact d8 w hw hu
  · rw [ht 38 c (by omega) (by omega)] at hk
    obtain ⟨w1, w2, w3, w4, w5, w6, w7⟩ := h.2.1 c k hc hk
    obtain ⟨x1, x2, x3, x4⟩ := hx c k hc hk
    unfold ph_W
    simp only [ex, ep c k hc (show (k : Int) ≤ t 38 c by omega), x1, x2, x3]
    refine ⟨by rw [ht 39 _ (by omega) (by omega)]; exact w1, w2, w3, by rw [hs 0 _ (by omega)]; exact w4, by rw [hs 0 _ (by omega)]; exact w5, fun i hi => ⟨by rw [hs 0 _ (by omega), (x4 i (by omega)).1]; exact (w6 i hi).1, by rw [hs 1 _ (by omega)]; exact (w6 i hi).2⟩, fun i hi => by rw [hs 0 _ (by omega), (x4 i (by omega)).2]; exact w7 i hi⟩
  · rw [hs 1 p (by omega)]
    rcases h.2.2 p hp with e1 | ⟨e1, c, k, i, hc, hk, hi, hp2⟩
    · exact Or.inl e1
    · exact Or.inr ⟨e1, c, k, i, hc, by rw [ht 38 c (by omega) (by omega)]; exact hk, by rw [ex, (hx c k hc hk).2.1]; exact hi, by rw [ep c k hc (by omega)]; exact hp2⟩
/-- the car for a new thing: both take the same -/
theorem ph_newCar (h : ph_R s t n m) {z : Int} (hz : 2 ≤ z ∧ z ≤ 26) (hm : m < 99000) (ht : ph_LR s t z ∨ s 13 0 ≤ 38) :
    ∃ (c : Nat) (s' t' : py_Z), c < 40 ∧ t 37 c + z ≤ 32 ∧ s' 6 c ≠ 0 ∧ (∀ K : ty_S → Int32 → Prop, K (py_O s') (py_o c) → eX3_carForNew (py_O s) (py_o z) (py_o (s 23 0)) K) ∧
      (∀ (K : ty_S → Int32 → Prop) (a b d : Int32), (∃ n9, lX5_make_188 K n9 a b d (py_o 0) (py_O t')) → jX5_make_111 K a b d (py_o z) (py_O t)) ∧
      pr_RW s' t' ∧ s' 5 (s' 13 0 - 1).toNat = c ∧ 0 < t' 50 0 ∧ (∀ g i, g ≠ 5 → g ≠ 6 → g ≠ 13 → g ≠ 14 → s' g i = s g i) ∧ (∀ g i, g ≠ 40 → g ≠ 41 → g ≠ 42 → g ≠ 50 → g ≠ 57 → t' g i = t g i) ∧ (∀ c' : Nat, c' < 40 → s' 6 c' = 0 → s 6 c' = 0) ∧ t' 57 0 ≤ t 57 0 + 1 := by
  obtain ⟨b1, b2, b3, b4, b5, b6, b7, b8, b9, b10⟩ := id h
  have hc0 := b1.cnt
  have h50 := b1.1
  have hs := b1.some
  by_cases hLR : ph_LR s t z
  · have hcar := (b1.car (i := (s 13 0 - 1).toNat) (by have := hLR.1; omega)).1
    have hcar2 := b1.rv.car (i := (s 13 0 - 1).toNat) (by have := hLR.1; omega)
    have e1 : s 5 (s 13 0 - 1).toNat = (((s 5 (s 13 0 - 1).toNat).toNat : Nat) : Int) := by omega
    have hL := hLR
    unfold ph_LR at hL
    refine ⟨(s 5 (s 13 0 - 1).toNat).toNat, s, t, by omega, by omega, by omega, fun K hK => ?_, fun K a b d hK => ?_, b1, e1, by omega, fun _ _ _ _ _ _ => rfl, fun _ _ _ _ _ _ _ => rfl, fun _ _ hz => hz, by omega⟩
    · unfold eX3_carForNew
      try simp only [py_O_ap, py_l0, py_l1, py_l2, py_l3, py_l4, py_l5, py_l6, py_l7, py_l8, py_l9, py_l12, py_l16, py_l32, py_l40, py_l100, py_l640, py_l1280, py_neg, py_add, py_sub, py_mul, py_stO]
      refine pr_lastHasRoom h hz (fun _ => ?_) (fun c => absurd hLR c)
      refine py_ieq (fun c => absurd c (by omega)) (fun _ => ?_)
      try simp only [py_O_ap, py_l0, py_l1, py_l2, py_l3, py_l4, py_l5, py_l6, py_l7, py_l8, py_l9, py_l12, py_l16, py_l32, py_l40, py_l100, py_l640, py_l1280, py_neg, py_add, py_sub, py_mul, py_stO]
      refine pr_carAt hc0 (fun _ _ => ?_) (fun c => absurd c (by omega))
      rw [e1]; exact hK
    · unfold jX5_make_111
      rw [py_l0]
      refine pm_lastHasRoom h hz (fun _ => ?_) (fun c => absurd hLR c)
      refine py_ieq (fun c => absurd c (by omega)) (fun _ => ?_)
      unfold jX5_make_134
      try simp only [py_O_ap, py_l0, py_l1, py_l2, py_l3, py_l4, py_l5, py_l6, py_l7, py_l8, py_l9, py_l12, py_l16, py_l32, py_l40, py_l100, py_l640, py_l1280, py_neg, py_add, py_sub, py_mul, py_stO]
      exact py_ieq (fun c => absurd c (by omega)) (fun _ => hK)
  · have hN : s 13 0 ≤ 38 := ht.resolve_left hLR
    obtain ⟨c, hc, hf, hlst⟩ := pp_least b1 (by omega)
    obtain ⟨z1, z2, z3, z4, z5, z6, z7⟩ := b2.1 c hc
    have z38 := z6 hf
    have z37 : t 37 c = 0 := by rw [z38] at z4; exact z4
    have hmodR : ∀ (K : ty_S → Int32 → Prop) (a b d : Int32), jX5_make_134 K a b d (py_o 0) (py_O t) → jX5_make_111 K a b d (py_o z) (py_O t) := fun K a b d hK => by
      unfold jX5_make_111
      rw [py_l0, py_l2]
      refine pm_lastHasRoom h hz (fun c => absurd c hLR) (fun _ => ?_)
      refine py_ieq (fun _ => ?_) (fun c => absurd rfl c)
      refine pm_freeCars b1 ?_
      exact py_ile (fun _ => hK) (fun c => absurd c (by omega))
    by_cases hnew : t 50 0 = 0 ∨ s 23 0 ≤ t 41 ((t 50 0).toNat - 1)
    · have hRW := b1.new (by omega) (by omega) hc hf
      have sg : ∀ g i, g ≠ 5 → g ≠ 6 → g ≠ 13 → g ≠ 14 → pr_new s c g i = s g i := fun g i h5 h6 h13 h14 => by simp [pr_new, pr_ins, py_st, h5, h6, h13, h14]
      have tg : ∀ g i, g ≠ 40 → g ≠ 41 → g ≠ 42 → g ≠ 50 → g ≠ 57 → pm_new t c g i = t g i := fun g i h1 h2 h3 h4 h5 => by
        simp only [pm_new, pm_cpl, pm_nt, h1, h2, h3, h4, h5, if_false]
        by_cases e3 : g = 37 ∨ g = 38
        · rw [if_pos e3]
          by_cases e4 : i = c
          · rw [if_pos e4, e4]
            rcases e3 with e3 | e3 <;> rw [e3] <;> omega
          · rw [if_neg e4]
        · rw [if_neg e3]
      have s13 : pr_new s c 13 0 = s 13 0 + 1 := by simp [pr_new, pr_ins, py_st]
      have s6 : ∀ d, pr_new s c 6 d = if d = c then s 14 0 + 1 else s 6 d := fun d => by simp [pr_new, pr_ins, py_st]
      have h14 := b1.2.2.2.2.2.2.1
      refine ⟨c, pr_new s c, pm_new t c, hc, by omega, by rw [s6, if_pos rfl]; omega, fun K hK => ?_, fun K a b d hK => hmodR K a b d ?_, hRW, ?_, ?_, sg, tg, fun c' hc' hz' => ?_, ?_⟩
      · unfold eX3_carForNew
        try simp only [py_O_ap, py_l0, py_l1, py_l2, py_l3, py_l4, py_l5, py_l6, py_l7, py_l8, py_l9, py_l12, py_l16, py_l32, py_l40, py_l100, py_l640, py_l1280, py_neg, py_add, py_sub, py_mul, py_stO]
        refine pr_lastHasRoom h hz (fun c => absurd c hLR) (fun _ => ?_)
        refine py_ieq (fun _ => ?_) (fun c => absurd rfl c)
        refine pr_lastTrain b1 (fun e1 => ?_) (fun e1 => ?_)
        · try simp only [py_O_ap, py_l0, py_l1, py_l2, py_l3, py_l4, py_l5, py_l6, py_l7, py_l8, py_l9, py_l12, py_l16, py_l32, py_l40, py_l100, py_l640, py_l1280, py_neg, py_add, py_sub, py_mul, py_stO]
          refine py_ieq (fun e2 => absurd e2 (by omega)) (fun _ => ?_)
          have h41 := b1.2.1 ((t 50 0).toNat - 1) (by omega)
          refine pr_carsOf b1 (by omega) ?_
          refine py_ilt (fun e2 => absurd e2 (by omega)) (fun _ => ?_)
          exact pr_addTrain b1 (by omega) hc hf hlst hK
        · try simp only [py_O_ap, py_l0, py_l1, py_l2, py_l3, py_l4, py_l5, py_l6, py_l7, py_l8, py_l9, py_l12, py_l16, py_l32, py_l40, py_l100, py_l640, py_l1280, py_neg, py_add, py_sub, py_mul, py_stO]
          refine py_ieq (fun _ => ?_) (fun e2 => absurd e2 (by omega))
          exact pr_addTrain b1 (by omega) hc hf hlst hK
      · unfold jX5_make_134
        try simp only [py_O_ap, py_l0, py_l1, py_l2, py_l3, py_l4, py_l5, py_l6, py_l7, py_l8, py_l9, py_l12, py_l16, py_l32, py_l40, py_l100, py_l640, py_l1280, py_neg, py_add, py_sub, py_mul, py_stO]
        rw [if_pos True.intro]
        have hlt := b1.trains_le
        refine py_ieq (fun _ => ?_) (fun e1 => py_and ?_)
        · exact pm_newTrain b1 (by omega) hc hf hlst hK
        · have h41 := b1.2.1 ((t 50 0).toNat - 1) (by omega)
          rw [py_nat (by omega), show (t 50 0 - 1).toNat = (t 50 0).toNat - 1 by omega]
          refine py_ilt (fun e2 => absurd e2 (by omega)) (fun _ => ?_)
          exact pm_newTrain b1 (by omega) hc hf hlst hK
      · rw [s13, show (s 13 0 + 1 - 1).toNat = (s 13 0).toNat by omega]
        simp [pr_new, pr_ins, py_st]
      · have : pm_new t c 50 0 = t 50 0 + 1 := by simp [pm_new, pm_cpl, pm_nt]
        omega
      · rw [s6] at hz'
        by_cases e9 : c' = c
        · rw [e9]; exact hf
        · rwa [if_neg e9] at hz'
      · have : pm_new t c 57 0 = t 57 0 + 1 := by simp [pm_new, pm_cpl, pm_nt]
        omega
    · have hj : (((t 50 0).toNat - 1 : Nat) : Int) < t 50 0 := by omega
      have hRW := b1.add (by omega) hj hc hf
      have h41 := b1.2.1 ((t 50 0).toNat - 1) hj
      have hlast := b1.last (by omega)
      have hnum := b1.2.2.2.2.1 ((t 50 0).toNat - 1) hj
      have sg : ∀ g i, g ≠ 5 → g ≠ 6 → g ≠ 13 → g ≠ 14 → pr_ins s (pr_off t ((t 50 0).toNat - 1) + (t 41 ((t 50 0).toNat - 1)).toNat) c (t 40 ((t 50 0).toNat - 1)) g i = s g i := fun g i h5 h6 h13 _ => by simp [pr_ins, h5, h6, h13]
      have tg : ∀ g i, g ≠ 40 → g ≠ 41 → g ≠ 42 → g ≠ 50 → g ≠ 57 → pm_cpl t ((t 50 0).toNat - 1) c g i = t g i := fun g i h1 h2 h3 h4 h5 => by
        simp only [pm_cpl, h2, h3, if_false]
        by_cases e3 : g = 37 ∨ g = 38
        · rw [if_pos e3]
          by_cases e4 : i = c
          · rw [if_pos e4, e4]
            rcases e3 with e3 | e3 <;> rw [e3] <;> omega
          · rw [if_neg e4]
        · rw [if_neg e3]
      have s13 : pr_ins s (pr_off t ((t 50 0).toNat - 1) + (t 41 ((t 50 0).toNat - 1)).toNat) c (t 40 ((t 50 0).toNat - 1)) 13 0 = s 13 0 + 1 := by simp [pr_ins]
      have s6 : ∀ d, pr_ins s (pr_off t ((t 50 0).toNat - 1) + (t 41 ((t 50 0).toNat - 1)).toNat) c (t 40 ((t 50 0).toNat - 1)) 6 d = if d = c then t 40 ((t 50 0).toNat - 1) else s 6 d := fun d => by simp [pr_ins]
      refine ⟨c, _, _, hc, by omega, by rw [s6, if_pos rfl]; omega, fun K hK => ?_, fun K a b d hK => hmodR K a b d ?_, hRW, ?_, ?_, sg, tg, fun c' hc' hz' => ?_, ?_⟩
      · unfold eX3_carForNew
        try simp only [py_O_ap, py_l0, py_l1, py_l2, py_l3, py_l4, py_l5, py_l6, py_l7, py_l8, py_l9, py_l12, py_l16, py_l32, py_l40, py_l100, py_l640, py_l1280, py_neg, py_add, py_sub, py_mul, py_stO]
        refine pr_lastHasRoom h hz (fun c => absurd c hLR) (fun _ => ?_)
        refine py_ieq (fun _ => ?_) (fun c => absurd rfl c)
        refine pr_lastTrain b1 (fun e1 => ?_) (fun e1 => absurd e1 (by omega))
        try simp only [py_O_ap, py_l0, py_l1, py_l2, py_l3, py_l4, py_l5, py_l6, py_l7, py_l8, py_l9, py_l12, py_l16, py_l32, py_l40, py_l100, py_l640, py_l1280, py_neg, py_add, py_sub, py_mul, py_stO]
        refine py_ieq (fun e2 => absurd e2 (by omega)) (fun _ => ?_)
        refine pr_carsOf b1 hj ?_
        refine py_ilt (fun _ => ?_) (fun e2 => absurd e2 (by omega))
        exact pr_addCar_in b1 (by omega) hj hc hf hlst hK
      · unfold jX5_make_134
        try simp only [py_O_ap, py_l0, py_l1, py_l2, py_l3, py_l4, py_l5, py_l6, py_l7, py_l8, py_l9, py_l12, py_l16, py_l32, py_l40, py_l100, py_l640, py_l1280, py_neg, py_add, py_sub, py_mul, py_stO]
        rw [if_pos True.intro]
        refine py_ieq (fun e1 => absurd e1 (by omega)) (fun e1 => py_and ?_)
        rw [py_nat (by omega), show (t 50 0 - 1).toNat = (t 50 0).toNat - 1 by omega]
        refine py_ilt (fun _ => ?_) (fun e2 => absurd e2 (by omega))
        refine pm_freeCar b1 (fun c' hc' h1 h2 => ?_) (fun h1 => absurd hf (h1 c hc))
        have e : c' = c := by
          rcases Nat.lt_trichotomy c' c with e | e | e
          · exact absurd h1 (hlst c' e)
          · exact e
          · exact absurd hf (h2 c e)
        subst e
        try simp only [py_O_ap, py_l0, py_l1, py_l2, py_l3, py_l4, py_l5, py_l6, py_l7, py_l8, py_l9, py_l12, py_l16, py_l32, py_l40, py_l100, py_l640, py_l1280, py_neg, py_add, py_sub, py_mul, py_stO]
        rw [show t 50 0 - 1 = (((t 50 0).toNat - 1 : Nat) : Int) by omega]
        exact pm_couple (by omega) (by have := b1.end_le hj; omega) hc hK
      · rw [s13, show (s 13 0 + 1 - 1).toNat = pr_off t ((t 50 0).toNat - 1) + (t 41 ((t 50 0).toNat - 1)).toNat by omega]
        simp [pr_ins]
      · have : pm_cpl t ((t 50 0).toNat - 1) c 50 0 = t 50 0 := by simp [pm_cpl]
        omega
      · rw [s6] at hz'
        by_cases e9 : c' = c
        · rw [e9]; exact hf
        · rwa [if_neg e9] at hz'
      · have : pm_cpl t ((t 50 0).toNat - 1) c 57 0 = t 57 0 := by simp [pm_cpl]
        omega
end PMK
end
section
/-! PURE: make, the new thing -/
def pm_mk (t : py_Z) (x : Nat) (L r d : Int) (k : Nat) : py_Z := fun g i =>
  if g = 58 then (if i = 0 then L else t 58 i) else if g = 30 then (if i = x then L else t 30 i) else if g = 33 then (if i = x then r else t 33 i)
  else if g = 34 then (if i = x then d else t 34 i) else if g = 35 then (if 12 * x ≤ i ∧ i < 12 * x + k then -1 else t 35 i)
  else if g = 36 then (if 12 * x ≤ i ∧ i < 12 * x + k then 0 else t 36 i) else t g i
theorem pm_mk_0 {t : py_Z} {x : Nat} {L r d : Int} : pm_mk t x L r d 0 = py_st (py_st (py_st (py_st t 58 0 L) 30 x L) 33 x r) 34 x d := by
  funext g i
  simp only [pm_mk, py_st]
  grind
theorem pm_mk_st {t : py_Z} {x k : Nat} {L r d : Int} : pm_mk t x L r d (k + 1) = py_st (py_st (pm_mk t x L r d k) 35 (12 * x + k) (-1)) 36 (12 * x + k) 0 := by
  funext g i
  simp only [pm_mk, py_st]
  grind
section PMM
variable {s t : py_Z} {n : Nat} {m : Int}
/-- a thing is made, in a car that has room -/
theorem ph_create (h : ph_R s t n m) (hn : n < 500) {a r d : Int} (ha : 0 ≤ a ∧ a < 16) (hr : 0 ≤ r ∧ r ≤ 12) (hd : 0 ≤ d ∧ d ≤ 12) (hm : m < 99000) {c : Nat} {s1 t1 : py_Z} (hc : c < 40) (hfit : t 37 c + (2 + r + d) ≤ 32) (h6c : s1 6 c ≠ 0) (hRW : pr_RW s1 t1) (hlast : s1 5 (s1 13 0 - 1).toNat = c) (hn50 : 0 < t1 50 0) (sg : ∀ g i, g ≠ 5 → g ≠ 6 → g ≠ 13 → g ≠ 14 → s1 g i = s g i) (tg : ∀ g i, g ≠ 40 → g ≠ 41 → g ≠ 42 → g ≠ 50 → g ≠ 57 → t1 g i = t g i) (h6 : ∀ c' : Nat, c' < 40 → s1 6 c' = 0 → s 6 c' = 0) (h57 : t1 57 0 ≤ t 57 0 + 1) :
    ∃ (s' t' : py_Z), (∀ (K : ty_S → Int32 → Prop), K (py_O s') (py_o (t 58 0 + 1)) → eX0_load (ty_st (py_O s1) 24 0 (py_o (s1 24 0) + py_o 1)) (py_o c) (py_o (s1 24 0) + py_o 1) (py_o r) (py_o d) (fun S6 r6 => (vp_in (py_o a) 16 ∧ K (ty_st S6 7 (py_o a).toNatClampNeg r6) (S6 24 0)))) ∧
      (∀ (K : ty_S → Int32 → Prop), K (py_O t') (py_o (t 58 0 + 1)) → ∃ n9, lX5_make_188 K n9 (py_o a) (py_o r) (py_o d) (py_o 0) (py_O t1)) ∧ ph_R s' t' (n + 1) (m + 1) ∧ t' 60 0 = t 60 0 := by
  obtain ⟨b1, b2, b3, b4, b5, b6, b7, b8, b9, b10⟩ := id h
  obtain ⟨e1, e2, e3, e4, e5, e6, e7, e8⟩ := b2.1 c hc
  have h58 := b3.1
  have hdead := b3.2.1 (t 58 0).toNat (by omega)
  obtain ⟨x, hx1, hx2, hx3⟩ := py_least (P := fun x => t 30 x = 0) (fun _ => Classical.em _) (n := (t 58 0).toNat) (hdead.2.2 (by omega))
  have hx640 : x < 640 := by omega
  have hL : s1 24 0 = t 58 0 := by rw [sg 24 0 (by decide) (by decide) (by decide) (by decide)]; exact b8.1
  have s12 : s1 2 c = t 37 c := by rw [sg 2 c (by decide) (by decide) (by decide) (by decide)]; exact e2
  have htwo := ph_pos_two (t := t) (c := c) (t 38 c).toNat
  have hc15 : t 38 c ≤ 15 := by omega
  have h50b := hRW.1
  -- live things are others
  have hlx : ∀ y : Nat, 0 < t 30 y → y ≠ x := fun y hl e => by rw [e, hx2] at hl; omega
  obtain ⟨t2, ht2⟩ : ∃ t2, t2 = pm_mk t1 x (t 58 0 + 1) r d 12 := ⟨_, rfl⟩
  have u30 : ∀ y, t2 30 y = if y = x then t 58 0 + 1 else t 30 y := fun y => by rw [ht2]; simp [pm_mk]; rw [tg 30 y (by decide) (by decide) (by decide) (by decide) (by decide)]
  have u33 : ∀ y, t2 33 y = if y = x then r else t 33 y := fun y => by rw [ht2]; simp [pm_mk]; rw [tg 33 y (by decide) (by decide) (by decide) (by decide) (by decide)]
  have u34 : ∀ y, t2 34 y = if y = x then d else t 34 y := fun y => by rw [ht2]; simp [pm_mk]; rw [tg 34 y (by decide) (by decide) (by decide) (by decide) (by decide)]
  have u35 : ∀ i, t2 35 i = if 12 * x ≤ i ∧ i < 12 * x + 12 then -1 else t 35 i := fun i => by rw [ht2]; simp [pm_mk]; rw [tg 35 i (by decide) (by decide) (by decide) (by decide) (by decide)]
  have u36 : ∀ i, t2 36 i = if 12 * x ≤ i ∧ i < 12 * x + 12 then 0 else t 36 i := fun i => by rw [ht2]; simp [pm_mk]; rw [tg 36 i (by decide) (by decide) (by decide) (by decide) (by decide)]
  have u58 : t2 58 0 = t 58 0 + 1 := by rw [ht2]; simp [pm_mk]
  have ug : ∀ g i, g ≠ 58 → g ≠ 30 → g ≠ 33 → g ≠ 34 → g ≠ 35 → g ≠ 36 → t2 g i = t1 g i := fun g i h1 h2 h3 h4 h5 h6 => by rw [ht2]; simp [pm_mk, h1, h2, h3, h4, h5, h6]
  have ug2 : ∀ g i, (g = 31 ∨ g = 32 ∨ g = 37 ∨ g = 38 ∨ g = 39 ∨ g = 43 ∨ (44 ≤ g ∧ g ≤ 48) ∨ (51 ≤ g ∧ g ≤ 56) ∨ 59 ≤ g) → t2 g i = t g i := fun g i hg => by rw [ug g i (by omega) (by omega) (by omega) (by omega) (by omega) (by omega)]; exact tg g i (by omega) (by omega) (by omega) (by omega) (by omega)
  obtain ⟨s4, hs4⟩ : ∃ s4, s4 = py_st (pr_ld (py_st s1 24 0 (t 58 0 + 1)) c (t 58 0 + 1) r d) 7 a.toNat (32 * c + t 37 c) := ⟨_, rfl⟩
  obtain ⟨t4, ht4⟩ : ∃ t4, t4 = py_st (pm_lay t2 x c) 43 a.toNat x := ⟨_, rfl⟩
  have p2 : py_st s1 24 0 (t 58 0 + 1) 2 c = t 37 c := by rw [py_sn (by decide)]; exact s12
  have sg4 : ∀ g i, g ≤ 4 → s1 g i = s g i := fun g i hg => sg g i (by omega) (by omega) (by omega) (by omega)
  have x0 : ∀ q : Nat, s4 0 q = if (q : Int) = 32 * c + t 37 c then t 58 0 + 1 else if (q : Int) = 32 * c + t 37 c + 1 then r + 16 * d else if 32 * c + t 37 c + 2 ≤ (q : Int) ∧ (q : Int) < 32 * c + t 37 c + 2 + r then -1 else s 0 q := fun q => by
    rw [hs4, py_sn (by decide)]; simp only [pr_ld, p2]
    simp only [py_st]; simp [sg4 0 q (by omega)]
  have x1 : ∀ q : Nat, s4 1 q = if 32 * (c : Int) + t 37 c + 2 ≤ q ∧ (q : Int) < 32 * c + t 37 c + 2 + r then 1 else s 1 q := fun q => by
    rw [hs4, py_sn (by decide)]; simp only [pr_ld, p2]
    simp only [py_st]; simp [sg4 1 q (by omega)]
  have x2 : ∀ q : Nat, s4 2 q = if q = c then t 37 c + (2 + r + d) else s 2 q := fun q => by
    rw [hs4, py_sn (by decide)]; simp only [pr_ld, p2]
    simp only [py_st]; simp [sg4 2 q (by omega)]
  have x3 : ∀ q : Nat, s4 3 q = if q = c then t 38 c + 1 else s 3 q := fun q => by
    rw [hs4, py_sn (by decide)]; simp only [pr_ld]
    simp only [py_st]; simp [sg4 3 q (by omega), sg4 3 c (by omega), e1]
  have x4 : ∀ q : Nat, s4 4 q = if q = c then 32 * (c : Int) + t 37 c else s 4 q := fun q => by
    rw [hs4, py_sn (by decide)]; simp only [pr_ld, p2]
    simp only [py_st]; simp [sg4 4 q (by omega)]
  have xg : ∀ g i, 4 < g → g ≠ 7 → g ≠ 24 → s4 g i = s1 g i := fun g i h1 h2 h3 => by
    rw [hs4, py_sn h2]
    simp only [pr_ld]
    rw [if_neg (by omega), if_neg (by omega), if_neg (by omega), if_neg (by omega), if_neg (by omega), py_sn h3]
  have x24 : s4 24 0 = t 58 0 + 1 := by rw [hs4, py_sn (by decide)]; simp [pr_ld, py_st]
  have x7 : ∀ q, s4 7 q = if q = a.toNat then 32 * (c : Int) + t 37 c else s 7 q := fun q => by
    rw [hs4, py_ss]
    simp [pr_ld, py_st]
    rw [sg 7 q (by decide) (by decide) (by decide) (by decide)]
  have y31 : ∀ y, t4 31 y = if y = x then (c : Int) else t 31 y := fun y => by rw [ht4, py_sn (by decide)]; simp [pm_lay]; rw [ug2 31 y (by omega)]
  have y32 : ∀ y, t4 32 y = if y = x then t 37 c else t 32 y := fun y => by rw [ht4, py_sn (by decide)]; simp [pm_lay]; rw [ug2 32 y (by omega), ug2 37 c (by omega)]
  have y38 : ∀ q, t4 38 q = if q = c then t 38 c + 1 else t 38 q := fun q => by rw [ht4, py_sn (by decide)]; simp [pm_lay]; rw [ug2 38 q (by omega), ug2 38 c (by omega)]
  have y39 : ∀ i, t4 39 i = if i = 16 * c + (t 38 c).toNat then (x : Int) else t 39 i := fun i => by rw [ht4, py_sn (by decide)]; simp [pm_lay]; rw [ug2 39 i (by omega), ug2 38 c (by omega)]
  have y43 : ∀ q, t4 43 q = if q = a.toNat then (x : Int) else t 43 q := fun q => by rw [ht4, py_ss]; simp [pm_lay]; rw [ug2 43 q (by omega)]
  have yg : ∀ g i, g ≠ 31 → g ≠ 32 → g ≠ 37 → g ≠ 38 → g ≠ 39 → g ≠ 43 → t4 g i = t2 g i := fun g i h1 h2 h3 h4 h5 h6 => by rw [ht4, py_sn h6]; simp [pm_lay, h1, h2, h3, h4, h5]
  have hEo : ∀ y : Int, ph_PV t y → ph_E t4 y = ph_E t y := fun y hy => by
    rcases hy with e | ⟨e, l⟩
    · rw [e]; rfl
    · unfold ph_E
      rw [y31, y32, if_neg (hlx _ l), if_neg (hlx _ l)]
  have hxx : ∀ q k : Nat, q < 40 → (k : Int) < t 38 q → ph_x t q k ≠ x ∧ ph_x t q k < 640 := fun q k hq hk => by
    obtain ⟨w1, w2⟩ := b2.2.1 q k hq hk
    exact ⟨hlx _ (b3.2.2.2.1 q k hq (by omega) hk).1, by unfold ph_x; omega⟩
  have hTH2 : ph_TH (py_st s1 24 0 (t 58 0 + 1)) t2 (ph_E t4) := by
    have h1 : ph_TH s t (ph_E t4) := b2.code (fun q k i hq hk hi => by
      obtain ⟨w1, w2⟩ := b2.2.1 q k hq hk
      exact hEo _ (b3.2.2.2.2.2 _ (hxx q k hq hk).2 (b3.2.2.2.1 q k hq (by omega) hk).1 i hi))
    refine h1.congrX (fun g i hg => by rw [py_sn (by omega)]; exact sg4 g i hg) (fun q hq hz => by rw [py_sn (by decide)] at hz; exact h6 q hq hz) (fun g i h1 h2 => ug2 g i (by omega)) (fun q k hq hk => ?_)
    obtain ⟨z1, z2⟩ := hxx q k hq hk
    refine ⟨by rw [u30, if_neg z1], by rw [u33, if_neg z1], by rw [u34, if_neg z1], fun i hi => ⟨by rw [u35, if_neg (by omega)], by rw [u36, if_neg (by omega)]⟩⟩
  have hr2 : t2 33 x = r := by rw [u33, if_pos rfl]
  have hd2 : t2 34 x = d := by rw [u34, if_pos rfl]
  have v37 : t2 37 c = t 37 c := ug2 37 c (by omega)
  have v38 : t2 38 c = t 38 c := ug2 38 c (by omega)
  have hu0 : 0 ≤ t 37 c := by omega
  have hTH : ph_TH s4 t4 (ph_E t4) := by
    have h1 := hTH2.lay (s' := s4) (x := x) (c := c) hx640 hc (by rw [hr2]; exact hr) (by rw [hd2]; exact hd) (by rw [v37, hr2, hd2]; exact hfit) (fun q hq => by
        rw [v37, hr2, hd2] at hq
        rw [x0, if_neg (by omega), if_neg (by omega), if_neg (by omega), py_sn (by decide), sg4 0 q (by omega)]) (fun q => by
        rw [v37, hr2, x1, py_sn (by decide), sg4 1 q (by omega)]) (fun q => by
        rw [v37, hr2, hd2, x2, py_sn (by decide), sg4 2 q (by omega)]) (fun q => by
        rw [v38, x3, py_sn (by decide), sg4 3 q (by omega)]) (fun q => by
        rw [v37, x4, py_sn (by decide), sg4 4 q (by omega)]) (fun q hq hz => by
        rw [xg 6 q (by decide) (by decide) (by decide)] at hz
        exact ⟨fun e => h6c (by rw [← e]; exact hz), by rw [py_sn (by decide)]; exact hz⟩) (by
        rw [v37, x0, if_pos (by omega), u30, if_pos rfl]) (by
        rw [v37, hr2, hd2, x0, if_neg (by omega), if_pos (by omega)]) (fun i hi => by
        rw [hr2] at hi
        rw [v37, x0, if_neg (by omega), if_neg (by omega), if_pos (by omega), u35, if_pos (by omega)]; rfl) (fun i hi => by
        rw [hd2] at hi
        rw [v37, hr2, x0, if_neg (by omega), if_neg (by omega), if_neg (by omega), u36, if_pos (by omega)]
        rw [show 32 * c + (t 37 c).toNat + 2 + r.toNat + i = 32 * c + ((t 37 c).toNat + 2 + r.toNat + i) by omega]
        exact e8 _ (by omega) (by omega))
    exact h1.congr (fun _ _ _ => rfl) (fun _ _ hz => hz) (fun g i _ _ _ _ => by rw [ht4, py_sn (by omega)])
  have hcc : (((t 38 c).toNat : Nat) : Int) = t 38 c := Int.toNat_of_nonneg e3.1
  have ex : ∀ q k : Nat, q < 40 → (k : Int) < t 38 q → ph_x t4 q k = ph_x t q k := fun q k hq hk => by
    unfold ph_x
    have hq3 := (b2.1 q hq).2.2.1
    rw [y39, if_neg]
    intro e9
    have e10 : q = c := by omega
    subst e10
    omega
  have exn : ph_x t4 c (t 38 c).toNat = x := by unfold ph_x; rw [y39, if_pos rfl]; simp
  have ep : ∀ q k : Nat, q < 40 → (k : Int) ≤ t 38 q → ph_pos t4 q k = ph_pos t q k := fun q k hq hk => ph_pos_congr k (fun i hi => by
    obtain ⟨z1, z2⟩ := hxx q i hq (by omega)
    refine ⟨ex q i hq (by omega), ?_⟩
    unfold ph_sz
    rw [yg 33 _ (by decide) (by decide) (by decide) (by decide) (by decide) (by decide), yg 34 _ (by decide) (by decide) (by decide) (by decide) (by decide) (by decide), u33, u34, if_neg z1, if_neg z1])
  have y30 : ∀ y, t4 30 y = if y = x then t 58 0 + 1 else t 30 y := fun y => by rw [yg 30 y (by decide) (by decide) (by decide) (by decide) (by decide) (by decide)]; exact u30 y
  have y33 : ∀ y, t4 33 y = if y = x then r else t 33 y := fun y => by rw [yg 33 y (by decide) (by decide) (by decide) (by decide) (by decide) (by decide)]; exact u33 y
  have y35 : ∀ i, t4 35 i = if 12 * x ≤ i ∧ i < 12 * x + 12 then -1 else t 35 i := fun i => by rw [yg 35 i (by decide) (by decide) (by decide) (by decide) (by decide) (by decide)]; exact u35 i
  have y58 : t4 58 0 = t 58 0 + 1 := by rw [yg 58 0 (by decide) (by decide) (by decide) (by decide) (by decide) (by decide)]; exact u58
  have hPV : ∀ y : Int, ph_PV t y → ph_PV t4 y := fun y hy => by
    rcases hy with e | ⟨e, l⟩
    · exact Or.inl e
    · exact Or.inr ⟨e, by rw [y30, if_neg (hlx _ l)]; exact l⟩
  have hMH : ph_MH t4 (-1) := by
    refine ⟨by omega, fun y hy => ?_, fun y hy hl => ?_, fun q k hq _ hk => ?_, fun q hq => ?_, fun y hy hl i hi => ?_⟩
    · have := b3.2.1 y hy
      rw [y30, y58]
      by_cases e : y = x
      · rw [if_pos e]; exact ⟨by omega, by omega, fun h9 => by omega⟩
      · rw [if_neg e]; exact ⟨by omega, by omega, fun h9 => this.2.2 (by omega)⟩
    · by_cases e : y = x
      · subst e
        exact ⟨c, (t 38 c).toNat, hc, by rw [y38, if_pos rfl, hcc]; exact Int.lt_add_one_of_le (Int.le_refl _), exn, by rw [y31, if_pos rfl], by rw [y32, if_pos rfl, ep c _ hc (Int.le_of_eq hcc)]; exact e4⟩
      · rw [y30, if_neg e] at hl
        obtain ⟨q, k, hq, hk, g1, g2, g3⟩ := b3.2.2.1 y hy hl
        refine ⟨q, k, hq, ?_, by rw [ex q k hq hk]; exact g1, by rw [y31, if_neg e]; exact g2, by rw [y32, if_neg e, ep q k hq (by omega)]; exact g3⟩
        rw [y38]
        split
        · rename_i e10; subst e10; omega
        · exact hk
    · by_cases e9 : q = c ∧ k = (t 38 c).toNat
      · obtain ⟨e10, e11⟩ := e9
        subst e10; subst e11
        rw [exn, y30, y31, y32, if_pos rfl, if_pos rfl, if_pos rfl, ep q _ hq (by omega)]
        exact ⟨by omega, rfl, e4⟩
      · have hk2 : (k : Int) < t 38 q := by
          rw [y38] at hk
          by_cases e10 : q = c
          · subst e10; rw [if_pos rfl] at hk; omega
          · rwa [if_neg e10] at hk
        obtain ⟨g1, g2, g3⟩ := b3.2.2.2.1 q k hq (by omega) hk2
        have hne := (hxx q k hq hk2).1
        rw [ex q k hq hk2, ep q k hq (by omega), y30, y31, y32, if_neg hne, if_neg hne, if_neg hne]
        exact ⟨g1, g2, g3⟩
    · rw [y43]
      split
      · exact Or.inr ⟨by omega, by rw [y30, if_pos (by simp)]; omega⟩
      · exact hPV _ (b3.2.2.2.2.1 q hq)
    · by_cases e : y = x
      · subst e
        rw [y33, if_pos rfl] at hi
        rw [y35, if_pos (by omega)]
        exact Or.inl rfl
      · rw [y30, if_neg e] at hl
        rw [y33, if_neg e] at hi
        obtain ⟨q, k, hq, hk, g1, g2, g3, g4, g5, g6, g7⟩ := ph_live b2 b3 hy hl
        rw [y35, if_neg (by omega)]
        exact hPV _ (b3.2.2.2.2.2 y hy hl i hi)
  refine ⟨s4, t4, fun K hK => ?_, fun K hK => ?_, ⟨?_, hTH, hMH, fun q hq => ?_, ?_, ?_, ?_, ?_, ?_, ?_⟩, ?_⟩
  · try simp only [py_O_ap, py_l0, py_l1, py_l2, py_l3, py_l4, py_l5, py_l6, py_l7, py_l8, py_l9, py_l12, py_l16, py_l32, py_l40, py_l100, py_l640, py_l1280, py_neg, py_add, py_sub, py_mul, py_stO]
    rw [hL]
    refine pr_load hc (by rw [p2]; exact hu0) hr.1 hd.1 (by rw [p2]; exact hfit) (py_and ?_)
    rw [py_nat (by omega), p2]
    try simp only [py_O_ap, py_l0, py_l1, py_l2, py_l3, py_l4, py_l5, py_l6, py_l7, py_l8, py_l9, py_l12, py_l16, py_l32, py_l40, py_l100, py_l640, py_l1280, py_neg, py_add, py_sub, py_mul, py_stO]
    have e24 : pr_ld (py_st s1 24 0 (t 58 0 + 1)) c (t 58 0 + 1) r d 24 0 = t 58 0 + 1 := by simp [pr_ld, py_st]
    rw [e24, ← hs4]
    exact hK
  · -- the free slot
    have h188 : ∀ f y : Nat, y + f = x → ∃ n9, lX5_make_188 K n9 (py_o a) (py_o r) (py_o d) (py_o y) (py_O t1) := by
      have h244 : ∀ f i : Nat, i + f = 12 → ∃ n9, lX5_make_244 K n9 (py_o a) (py_o x) (py_o i) (py_O (pm_mk t1 x (t 58 0 + 1) r d i)) := by
        intro f
        induction f with
        | zero =>
          intro i hi
          have e9 : i = 12 := by omega
          subst e9
          rw [← ht2]
          refine ⟨1, ?_⟩
          have hRW2 : pr_RW s1 t2 := hRW.congr (fun _ => rfl) (fun _ => rfl) rfl rfl (ug 50 0 (by decide) (by decide) (by decide) (by decide) (by decide) (by decide)) (ug 57 0 (by decide) (by decide) (by decide) (by decide) (by decide) (by decide)) (fun i => ug 40 i (by decide) (by decide) (by decide) (by decide) (by decide) (by decide)) (fun i => ug 41 i (by decide) (by decide) (by decide) (by decide) (by decide) (by decide)) (fun i => ug 42 i (by decide) (by decide) (by decide) (by decide) (by decide) (by decide))
          have v50 := ug 50 0 (by decide) (by decide) (by decide) (by decide) (by decide) (by decide)
          unfold lX5_make_244
          try simp only [py_O_ap, py_l0, py_l1, py_l2, py_l3, py_l4, py_l5, py_l6, py_l7, py_l8, py_l9, py_l12, py_l16, py_l32, py_l40, py_l100, py_l640, py_l1280, py_neg, py_add, py_sub, py_mul, py_stO]
          refine py_ile (fun _ => ?_) (fun c => absurd c (by omega))
          rw [show t2 50 0 - 1 = (((t2 50 0).toNat - 1 : Nat) : Int) by omega]
          refine pm_lastCar hRW2 (by omega) ?_
          rw [ph_lastCar hRW2 (by omega), hlast]
          refine pm_layM hx640 hc (by rw [v38]; omega) (py_and ?_)
          rw [py_nat (by omega)]
          try simp only [py_O_ap, py_l0, py_l1, py_l2, py_l3, py_l4, py_l5, py_l6, py_l7, py_l8, py_l9, py_l12, py_l16, py_l32, py_l40, py_l100, py_l640, py_l1280, py_neg, py_add, py_sub, py_mul, py_stO]
          have w58 : pm_lay t2 x c 58 0 = t 58 0 + 1 := by simp [pm_lay]; exact u58
          rw [w58, ← ht4]
          exact hK
        | succ f ih =>
          intro i hi
          obtain ⟨n9, hn9⟩ := ih (i + 1) (by omega)
          refine ⟨n9 + 1, ?_⟩
          unfold lX5_make_244
          try simp only [py_O_ap, py_l0, py_l1, py_l2, py_l3, py_l4, py_l5, py_l6, py_l7, py_l8, py_l9, py_l12, py_l16, py_l32, py_l40, py_l100, py_l640, py_l1280, py_neg, py_add, py_sub, py_mul, py_stO]
          refine py_ile (fun c => absurd c (by omega)) (fun _ => py_and (py_and ?_))
          rw [py_nat (by omega), show ((12 : Int) * x + i).toNat = 12 * x + i by omega, ← pm_mk_st]
          exact hn9
      intro f
      induction f with
      | zero =>
        intro y hy
        have e9 : y = x := by omega
        subst e9
        obtain ⟨n9, hn9⟩ := h244 12 0 rfl
        have v30 : t1 30 y = 0 := by rw [tg 30 y (by decide) (by decide) (by decide) (by decide) (by decide)]; exact hx2
        have v58 : t1 58 0 = t 58 0 := tg 58 0 (by decide) (by decide) (by decide) (by decide) (by decide)
        refine ⟨1, ?_⟩
        unfold lX5_make_188
        try simp only [py_O_ap, py_l0, py_l1, py_l2, py_l3, py_l4, py_l5, py_l6, py_l7, py_l8, py_l9, py_l12, py_l16, py_l32, py_l40, py_l100, py_l640, py_l1280, py_neg, py_add, py_sub, py_mul, py_stO]
        refine py_and ?_
        rw [py_nat (by omega)]
        simp only [Int.toNat_natCast]
        refine py_ile (fun _ => py_and (py_and (py_and ?_))) (fun c => absurd c (by omega))
        rw [v58, ← pm_mk_0]
        exact ⟨n9, hn9⟩
      | succ f ih =>
        intro y hy
        obtain ⟨n9, hn9⟩ := ih (y + 1) (by omega)
        have hl := b3.2.1 y (by omega)
        have hne : t 30 y ≠ 0 := hx3 y (by omega)
        have v30 : t1 30 y = t 30 y := tg 30 y (by decide) (by decide) (by decide) (by decide) (by decide)
        refine ⟨n9 + 1, ?_⟩
        unfold lX5_make_188
        try simp only [py_O_ap, py_l0, py_l1, py_l2, py_l3, py_l4, py_l5, py_l6, py_l7, py_l8, py_l9, py_l12, py_l16, py_l32, py_l40, py_l100, py_l640, py_l1280, py_neg, py_add, py_sub, py_mul, py_stO]
        refine py_and ?_
        rw [py_nat (by omega)]
        simp only [Int.toNat_natCast]
        exact py_ile (fun c => absurd c (by omega)) (fun _ => hn9)
    exact h188 x 0 (by omega)
  · exact hRW.congr (fun i => xg 5 i (by decide) (by decide) (by decide)) (fun i => xg 6 i (by decide) (by decide) (by decide)) (xg 13 0 (by decide) (by decide) (by decide)) (xg 14 0 (by decide) (by decide) (by decide)) (by rw [yg 50 0 (by decide) (by decide) (by decide) (by decide) (by decide) (by decide)]; exact ug 50 0 (by decide) (by decide) (by decide) (by decide) (by decide) (by decide)) (by rw [yg 57 0 (by decide) (by decide) (by decide) (by decide) (by decide) (by decide)]; exact ug 57 0 (by decide) (by decide) (by decide) (by decide) (by decide) (by decide)) (fun i => by rw [yg 40 i (by decide) (by decide) (by decide) (by decide) (by decide) (by decide)]; exact ug 40 i (by decide) (by decide) (by decide) (by decide) (by decide) (by decide)) (fun i => by rw [yg 41 i (by decide) (by decide) (by decide) (by decide) (by decide) (by decide)]; exact ug 41 i (by decide) (by decide) (by decide) (by decide) (by decide) (by decide)) (fun i => by rw [yg 42 i (by decide) (by decide) (by decide) (by decide) (by decide) (by decide)]; exact ug 42 i (by decide) (by decide) (by decide) (by decide) (by decide) (by decide))
  · rw [x7, y43]
    by_cases e : q = a.toNat
    · rw [if_pos e, if_pos e]
      unfold ph_E
      rw [if_neg (by omega), y31, y32, if_pos (by simp), if_pos (by simp)]
    · rw [if_neg e, if_neg e, hEo _ (b3.2.2.2.2.1 q hq)]
      exact b4 q hq
  · rw [xg 20 0 (by decide) (by decide) (by decide), sg 20 0 (by decide) (by decide) (by decide) (by decide), yg 59 0 (by decide) (by decide) (by decide) (by decide) (by decide) (by decide), ug2 59 0 (by omega)]; exact b5
  · rw [xg 15 0 (by decide) (by decide) (by decide), xg 16 0 (by decide) (by decide) (by decide), xg 17 0 (by decide) (by decide) (by decide), xg 18 0 (by decide) (by decide) (by decide), xg 19 0 (by decide) (by decide) (by decide), sg 15 0 (by decide) (by decide) (by decide) (by decide), sg 16 0 (by decide) (by decide) (by decide) (by decide), sg 17 0 (by decide) (by decide) (by decide) (by decide), sg 18 0 (by decide) (by decide) (by decide) (by decide), sg 19 0 (by decide) (by decide) (by decide) (by decide)]
    rw [yg 52 0 (by decide) (by decide) (by decide) (by decide) (by decide) (by decide), yg 53 0 (by decide) (by decide) (by decide) (by decide) (by decide) (by decide), yg 54 0 (by decide) (by decide) (by decide) (by decide) (by decide) (by decide), yg 55 0 (by decide) (by decide) (by decide) (by decide) (by decide) (by decide), yg 56 0 (by decide) (by decide) (by decide) (by decide) (by decide) (by decide), ug2 52 0 (by omega), ug2 53 0 (by omega), ug2 54 0 (by omega), ug2 55 0 (by omega), ug2 56 0 (by omega)]
    exact b6
  · rw [xg 23 0 (by decide) (by decide) (by decide), sg 23 0 (by decide) (by decide) (by decide) (by decide), yg 51 0 (by decide) (by decide) (by decide) (by decide) (by decide) (by decide), ug2 51 0 (by omega)]; exact b7
  · rw [x24, y58]; omega
  · rw [yg 57 0 (by decide) (by decide) (by decide) (by decide) (by decide) (by decide), ug 57 0 (by decide) (by decide) (by decide) (by decide) (by decide) (by decide)]; omega
  · rw [xg 26 0 (by decide) (by decide) (by decide), sg 26 0 (by decide) (by decide) (by decide) (by decide)]
    refine ⟨b10.1, by omega, fun p hp => ?_⟩
    rw [xg 10 p (by decide) (by decide) (by decide), sg 10 p (by decide) (by decide) (by decide) (by decide)]
    exact b10.2.2 p hp
  · rw [yg 60 0 (by decide) (by decide) (by decide) (by decide) (by decide) (by decide)]; exact ug2 60 0 (by omega)
end PMM
end
section
/-! PURE: make, whole -/
section PMW
variable {s t : py_Z} {n : Nat} {m : Int}
theorem ph_makeEnd (h : ph_R s t n m) (hn : n < 500) (hm : m < 99000) {a r d : Int} (ha : 0 ≤ a ∧ a < 16) (hr : 0 ≤ r ∧ r ≤ 12) (hd : 0 ≤ d ∧ d ≤ 12) :
    ∃ (s' t' : py_Z) (v : Int), (∀ (K : ty_S → Int32 → Prop) (KX : Nat → ty_S → Prop), K (py_O s') (py_o v) → jX4_make_93 K KX (py_o a) (py_o r) (py_o d) (py_o (2 + r + d)) (py_O s)) ∧ (∀ (K : ty_S → Int32 → Prop), K (py_O t') (py_o v) → jX5_make_111 K (py_o a) (py_o r) (py_o d) (py_o (2 + r + d)) (py_O t)) ∧ ph_R s' t' (n + 1) (m + 1) ∧ t' 60 0 = t 60 0 := by
  have hc0 := h.1.cnt
  by_cases ht : ph_LR s t (2 + r + d) ∨ s 13 0 ≤ 38
  · obtain ⟨c, s1, t1, o1, o2, o3, o4, o5, o6, o7, o8, o9, o10, o11, o12⟩ := ph_newCar h (z := 2 + r + d) (by omega) hm ht
    obtain ⟨s', t', p1, p2, p3, p4⟩ := ph_create h hn ha hr hd hm o1 (by omega) o3 o6 o7 o8 o9 o10 o11 o12
    simp only [py_add, py_stO] at p1
    refine ⟨s', t', t 58 0 + 1, fun K KX hK => ?_, fun K hK => o5 K _ _ _ (p2 K hK), p3, p4⟩
    unfold jX4_make_93
    try simp only [py_O_ap, py_l0, py_l1, py_l2, py_l3, py_l4, py_l5, py_l6, py_l7, py_l8, py_l9, py_l12, py_l16, py_l32, py_l40, py_l100, py_l640, py_l1280, py_neg, py_add, py_sub, py_mul, py_stO]
    refine pr_takesNew h (by omega) (fun _ => ?_) (fun c => absurd ht c)
    refine py_ieq (fun c => absurd c (by omega)) (fun _ => ?_)
    try simp only [py_O_ap, py_l0, py_l1, py_l2, py_l3, py_l4, py_l5, py_l6, py_l7, py_l8, py_l9, py_l12, py_l16, py_l32, py_l40, py_l100, py_l640, py_l1280, py_neg, py_add, py_sub, py_mul, py_stO]
    refine o4 _ ?_
    try simp only [py_O_ap, py_l0, py_l1, py_l2, py_l3, py_l4, py_l5, py_l6, py_l7, py_l8, py_l9, py_l12, py_l16, py_l32, py_l40, py_l100, py_l640, py_l1280, py_neg, py_add, py_sub, py_mul, py_stO]
    exact p1 K hK
  · refine ⟨s, t, -1, fun K KX hK => ?_, fun K hK => ?_, h.mono (by omega) (by omega), rfl⟩
    · unfold jX4_make_93
      try simp only [py_O_ap, py_l0, py_l1, py_l2, py_l3, py_l4, py_l5, py_l6, py_l7, py_l8, py_l9, py_l12, py_l16, py_l32, py_l40, py_l100, py_l640, py_l1280, py_neg, py_add, py_sub, py_mul, py_stO]
      refine pr_takesNew h (by omega) (fun c => absurd c ht) (fun _ => ?_)
      exact py_ieq (fun _ => hK) (fun c => absurd rfl c)
    · unfold jX5_make_111
      try simp only [py_O_ap, py_l0, py_l1, py_l2, py_l3, py_l4, py_l5, py_l6, py_l7, py_l8, py_l9, py_l12, py_l16, py_l32, py_l40, py_l100, py_l640, py_l1280, py_neg, py_add, py_sub, py_mul, py_stO]
      refine pm_lastHasRoom h (by omega) (fun c => absurd (Or.inl c) ht) (fun _ => ?_)
      refine py_ieq (fun _ => ?_) (fun c => absurd rfl c)
      refine pm_freeCars h.1 ?_
      exact py_ile (fun c => absurd (Or.inr (by omega)) ht) (fun _ => hK)
theorem ph_makeLoop (hn : n < 500) {a r d : Int} (ha : 0 ≤ a ∧ a < 16) (hr : 0 ≤ r ∧ r ≤ 12) (hd : 0 ≤ d ∧ d ≤ 12) {b : Int} (hb : 0 ≤ b ∧ b ≤ 40) : ∀ (f k : Nat) (s t : py_Z) (m : Int), (k : Int) + f = b → ph_R s t n m → m + f < 98000 →
    ∃ (s' t' : py_Z) (v : Int), (∀ (K : ty_S → Int32 → Prop) (KX : Nat → ty_S → Prop), K (py_O s') (py_o v) → ∃ n9, lX4_make_50 K KX n9 (py_o a) (py_o r) (py_o d) (py_o (2 + r + d)) (py_o b) (py_o k) (py_O s)) ∧ (∀ (K : ty_S → Int32 → Prop), K (py_O t') (py_o v) → ∃ n9, lX5_make_68 K n9 (py_o a) (py_o r) (py_o d) (py_o (2 + r + d)) (py_o b) (py_o k) (py_O t)) ∧ ph_R s' t' (n + 1) (m + f + 1) ∧ t' 60 0 = t 60 0 := by
  intro f
  induction f with
  | zero =>
    intro k s t m hk h hm
    obtain ⟨s', t', v, o1, o2, o3, o4⟩ := ph_makeEnd h hn (by omega) ha hr hd
    refine ⟨s', t', v, fun K KX hK => ⟨1, ?_⟩, fun K hK => ⟨1, ?_⟩, o3.mono (Nat.le_refl _) (by omega), o4⟩
    · unfold lX4_make_50
      try simp only [py_O_ap, py_l0, py_l1, py_l2, py_l3, py_l4, py_l5, py_l6, py_l7, py_l8, py_l9, py_l12, py_l16, py_l32, py_l40, py_l100, py_l640, py_l1280, py_neg, py_add, py_sub, py_mul, py_stO]
      exact py_ile (fun _ => o1 K KX hK) (fun c => absurd c (by omega))
    · unfold lX5_make_68
      try simp only [py_O_ap, py_l0, py_l1, py_l2, py_l3, py_l4, py_l5, py_l6, py_l7, py_l8, py_l9, py_l12, py_l16, py_l32, py_l40, py_l100, py_l640, py_l1280, py_neg, py_add, py_sub, py_mul, py_stO]
      exact py_ile (fun _ => o2 K hK) (fun c => absurd c (by omega))
  | succ f ih =>
    intro k s t m hk h hm
    have hc0 := h.1.cnt
    by_cases ht : ph_LR s t (2 + r + d) ∨ s 13 0 ≤ 38
    · obtain ⟨s', t', v, o1, o2, o3, o4⟩ := ph_makeEnd h hn (by omega) ha hr hd
      refine ⟨s', t', v, fun K KX hK => ⟨1, ?_⟩, fun K hK => ⟨1, ?_⟩, o3.mono (Nat.le_refl _) (by omega), o4⟩
      · unfold lX4_make_50
        try simp only [py_O_ap, py_l0, py_l1, py_l2, py_l3, py_l4, py_l5, py_l6, py_l7, py_l8, py_l9, py_l12, py_l16, py_l32, py_l40, py_l100, py_l640, py_l1280, py_neg, py_add, py_sub, py_mul, py_stO]
        refine py_ile (fun c => absurd c (by omega)) (fun _ => ?_)
        refine pr_takesNew h (by omega) (fun _ => ?_) (fun c => absurd ht c)
        exact py_ieq (fun c => absurd c (by omega)) (fun _ => o1 K KX hK)
      · unfold lX5_make_68
        try simp only [py_O_ap, py_l0, py_l1, py_l2, py_l3, py_l4, py_l5, py_l6, py_l7, py_l8, py_l9, py_l12, py_l16, py_l32, py_l40, py_l100, py_l640, py_l1280, py_neg, py_add, py_sub, py_mul, py_stO]
        refine py_ile (fun c => absurd c (by omega)) (fun _ => ?_)
        refine pm_lastHasRoom h (by omega) (fun _ => ?_) (fun c => ?_)
        · exact py_ieq (fun c => absurd c (by omega)) (fun _ => o2 K hK)
        · refine py_ieq (fun _ => ?_) (fun c => absurd rfl c)
          refine pm_freeCars h.1 ?_
          exact py_ile (fun _ => o2 K hK) (fun c2 => absurd (ht.resolve_left c) (by omega))
    · have h39 : 39 ≤ s 13 0 := by
        by_cases e : s 13 0 ≤ 38
        · exact absurd (Or.inr e) ht
        · omega
      have hnoLR : ¬ ph_LR s t (2 + r + d) := fun c => ht (Or.inl c)
      by_cases hcan : s 13 0 < 40
      · obtain ⟨s1, t1, r1, p1, p2, p3, p4, p5⟩ := ph_step h (by omega) hcan (by omega)
        obtain ⟨s', t', v, o1, o2, o3, o4⟩ := ih (k + 1) s1 t1 (m + 1) (by omega) p3 (by omega)
        refine ⟨s', t', v, fun K KX hK => ?_, fun K hK => ?_, o3.mono (Nat.le_refl _) (by omega), o4.trans p5⟩
        · obtain ⟨n9, hn9⟩ := o1 K KX hK
          refine ⟨n9 + 1, ?_⟩
          unfold lX4_make_50
          try simp only [py_O_ap, py_l0, py_l1, py_l2, py_l3, py_l4, py_l5, py_l6, py_l7, py_l8, py_l9, py_l12, py_l16, py_l32, py_l40, py_l100, py_l640, py_l1280, py_neg, py_add, py_sub, py_mul, py_stO]
          refine py_ile (fun c => absurd c (by omega)) (fun _ => ?_)
          refine pr_takesNew h (by omega) (fun c => absurd c ht) (fun _ => ?_)
          refine py_ieq (fun _ => ?_) (fun c => absurd rfl c)
          refine pr_canStep hc0 (fun _ _ => ?_) (fun c => absurd c (by omega))
          refine py_ieq (fun c => absurd c (by omega)) (fun _ => ?_)
          exact p1 _ hn9
        · obtain ⟨n9, hn9⟩ := o2 K hK
          refine ⟨n9 + 1, ?_⟩
          unfold lX5_make_68
          try simp only [py_O_ap, py_l0, py_l1, py_l2, py_l3, py_l4, py_l5, py_l6, py_l7, py_l8, py_l9, py_l12, py_l16, py_l32, py_l40, py_l100, py_l640, py_l1280, py_neg, py_add, py_sub, py_mul, py_stO]
          refine py_ile (fun c => absurd c (by omega)) (fun _ => ?_)
          refine pm_lastHasRoom h (by omega) (fun c => absurd c hnoLR) (fun _ => ?_)
          refine py_ieq (fun _ => ?_) (fun c => absurd rfl c)
          refine pm_freeCars h.1 ?_
          refine py_ile (fun c => absurd c (by omega)) (fun _ => ?_)
          refine pm_maySteps h.1 (fun _ _ => ?_) (fun c => absurd c (by omega))
          refine py_ieq (fun c => absurd c (by omega)) (fun _ => ?_)
          exact p2 _ hn9
      · obtain ⟨s', t', v, o1, o2, o3, o4⟩ := ph_makeEnd h hn (by omega) ha hr hd
        refine ⟨s', t', v, fun K KX hK => ⟨1, ?_⟩, fun K hK => ⟨1, ?_⟩, o3.mono (Nat.le_refl _) (by omega), o4⟩
        · unfold lX4_make_50
          try simp only [py_O_ap, py_l0, py_l1, py_l2, py_l3, py_l4, py_l5, py_l6, py_l7, py_l8, py_l9, py_l12, py_l16, py_l32, py_l40, py_l100, py_l640, py_l1280, py_neg, py_add, py_sub, py_mul, py_stO]
          refine py_ile (fun c => absurd c (by omega)) (fun _ => ?_)
          refine pr_takesNew h (by omega) (fun c => absurd c ht) (fun _ => ?_)
          refine py_ieq (fun _ => ?_) (fun c => absurd rfl c)
          refine pr_canStep hc0 (fun _ c => absurd c hcan) (fun _ => ?_)
          exact py_ieq (fun _ => o1 K KX hK) (fun c => absurd rfl c)
        · unfold lX5_make_68
          try simp only [py_O_ap, py_l0, py_l1, py_l2, py_l3, py_l4, py_l5, py_l6, py_l7, py_l8, py_l9, py_l12, py_l16, py_l32, py_l40, py_l100, py_l640, py_l1280, py_neg, py_add, py_sub, py_mul, py_stO]
          refine py_ile (fun c => absurd c (by omega)) (fun _ => ?_)
          refine pm_lastHasRoom h (by omega) (fun c => absurd c hnoLR) (fun _ => ?_)
          refine py_ieq (fun _ => ?_) (fun c => absurd rfl c)
          refine pm_freeCars h.1 ?_
          refine py_ile (fun c => absurd c (by omega)) (fun _ => ?_)
          refine pm_maySteps h.1 (fun _ c => absurd c hcan) (fun _ => ?_)
          exact py_ieq (fun _ => o2 K hK) (fun c => absurd rfl c)
theorem ph_callMake (h : ph_R s t n m) (hn : n < 500) (hm : m < 97000) {a r d : Int} (ra : -2147483648 ≤ a ∧ a < 2147483648) (rr : -2147483648 ≤ r ∧ r < 2147483648) (rd : -2147483648 ≤ d ∧ d < 2147483648) : ph_Out (fun K KX => eX4_make (py_O s) (py_o a) (py_o r) (py_o d) K KX) (fun K => eX5_make (py_O t) (py_o a) (py_o r) (py_o d) K) py_codeM (n + 1) (m + 101) := by
  have hthr : ∀ v : Int, 0 < v → v < 10 → ∀ K : ty_S → Int32 → Prop, K (py_O (py_st t 60 0 v)) (py_o 0) → jX5_make_37 K (py_o a) (py_o r) (py_o d) (py_o v) (py_O t) := fun v h1 h2 K hK => by
    unfold jX5_make_37
    try simp only [py_O_ap, py_l0, py_l1, py_l2, py_l3, py_l4, py_l5, py_l6, py_l7, py_l8, py_l9, py_l12, py_l16, py_l32, py_l40, py_l100, py_l640, py_l1280, py_neg, py_add, py_sub, py_mul, py_stO]
    exact py_ile (fun c => absurd c (by omega)) (fun _ => hK)
  have hc0 := h.1.cnt
  by_cases ha : 0 ≤ a ∧ a < 16
  · by_cases hrd : (0 ≤ r ∧ r ≤ 12) ∧ 0 ≤ d ∧ d ≤ 12
    · have h2 := h.t60 0
      obtain ⟨s', t', v, o1, o2, o3, o4⟩ := ph_makeLoop hn ha hrd.1 hrd.2 (b := s 13 0) hc0 (s 13 0).toNat 0 s (py_st t 60 0 0) m (by omega) h2 (by omega)
      refine ⟨s', t', v, o3.mono (Nat.le_refl _) (by omega), fun K hK => ?_, Or.inl ⟨by rw [o4, py_se], fun K KX hK => ?_⟩⟩
      · have hj : jX5_make_37 K (py_o a) (py_o r) (py_o d) (py_o 0) (py_O t) := by
          unfold jX5_make_37
          try simp only [py_O_ap, py_l0, py_l1, py_l2, py_l3, py_l4, py_l5, py_l6, py_l7, py_l8, py_l9, py_l12, py_l16, py_l32, py_l40, py_l100, py_l640, py_l1280, py_neg, py_add, py_sub, py_mul, py_stO]
          rw [if_pos (Int32.le_refl _)]
          refine pm_freeCars h2.1 ?_
          try simp only [py_O_ap, py_l0, py_l1, py_l2, py_l3, py_l4, py_l5, py_l6, py_l7, py_l8, py_l9, py_l12, py_l16, py_l32, py_l40, py_l100, py_l640, py_l1280, py_neg, py_add, py_sub, py_mul, py_stO]
          rw [show (40 : Int) - (40 - s 13 0) = s 13 0 by omega]
          exact o2 K hK
        unfold eX5_make
        try simp only [py_O_ap, py_l0, py_l1, py_l2, py_l3, py_l4, py_l5, py_l6, py_l7, py_l8, py_l9, py_l12, py_l16, py_l32, py_l40, py_l100, py_l640, py_l1280, py_neg, py_add, py_sub, py_mul, py_stO]
        refine pm_noRegister ra (fun _ _ => ?_) (fun c => absurd ha c)
        refine py_ieq (fun _ => ?_) (fun c => absurd rfl c)
        exact py_ilt (fun c => absurd c (by omega)) (fun _ => py_ilt (fun c => absurd c (by omega)) (fun _ => py_ilt (fun c => absurd c (by omega)) (fun _ => py_ile (fun _ => hj) (fun c => absurd c (by omega)))))
      · unfold eX4_make
        try simp only [py_O_ap, py_l0, py_l1, py_l2, py_l3, py_l4, py_l5, py_l6, py_l7, py_l8, py_l9, py_l12, py_l16, py_l32, py_l40, py_l100, py_l640, py_l1280, py_neg, py_add, py_sub, py_mul, py_stO]
        refine pr_needRegister ra (fun _ _ => ?_) (fun c => absurd ha c)
        refine pr_isAmount (fun _ _ => ?_) (fun c => absurd c (by omega))
        refine py_ieq (fun c => absurd c (by omega)) (fun _ => ?_)
        refine pr_isAmount (fun _ _ => ?_) (fun c => absurd c (by omega))
        refine py_ieq (fun c => absurd c (by omega)) (fun _ => ?_)
        exact o1 K KX hK
    · refine ph_thr h (code := py_codeM) (k := 2) (v := 2) (by omega) rfl (by decide) (fun K KX hK => ?_) (fun K hK => ?_)
      · unfold eX4_make
        try simp only [py_O_ap, py_l0, py_l1, py_l2, py_l3, py_l4, py_l5, py_l6, py_l7, py_l8, py_l9, py_l12, py_l16, py_l32, py_l40, py_l100, py_l640, py_l1280, py_neg, py_add, py_sub, py_mul, py_stO]
        refine pr_needRegister ra (fun _ _ => ?_) (fun c => absurd ha c)
        refine pr_isAmount (fun r1 r2 => ?_) (fun _ => py_ieq (fun _ => hK) (fun c => absurd rfl c))
        refine py_ieq (fun c => absurd c (by omega)) (fun _ => ?_)
        exact pr_isAmount (fun d1 d2 => absurd ⟨⟨r1, r2⟩, d1, d2⟩ hrd) (fun _ => py_ieq (fun _ => hK) (fun c => absurd rfl c))
      · have hj : jX5_make_32 K (py_o a) (py_o r) (py_o d) (py_O t) := hthr 2 (by omega) (by omega) K hK
        unfold eX5_make
        try simp only [py_O_ap, py_l0, py_l1, py_l2, py_l3, py_l4, py_l5, py_l6, py_l7, py_l8, py_l9, py_l12, py_l16, py_l32, py_l40, py_l100, py_l640, py_l1280, py_neg, py_add, py_sub, py_mul, py_stO]
        refine pm_noRegister ra (fun _ _ => ?_) (fun c => absurd ha c)
        refine py_ieq (fun _ => ?_) (fun c => absurd rfl c)
        exact py_ilt (fun _ => hj) (fun r1 => py_ilt (fun _ => hj) (fun r2 => py_ilt (fun _ => hj) (fun d1 => py_ile (fun d2 => absurd ⟨⟨r1, r2⟩, d1, d2⟩ hrd) (fun _ => hj))))
  · refine ph_thr h (code := py_codeM) (k := 0) (v := 1) (by omega) rfl (by decide) (fun K KX hK => ?_) (fun K hK => ?_)
    · unfold eX4_make
      try simp only [py_O_ap, py_l0, py_l1, py_l2, py_l3, py_l4, py_l5, py_l6, py_l7, py_l8, py_l9, py_l12, py_l16, py_l32, py_l40, py_l100, py_l640, py_l1280, py_neg, py_add, py_sub, py_mul, py_stO]
      exact pr_needRegister ra (fun a1 a2 => absurd ⟨a1, a2⟩ ha) (fun _ => hK)
    · unfold eX5_make
      try simp only [py_O_ap, py_l0, py_l1, py_l2, py_l3, py_l4, py_l5, py_l6, py_l7, py_l8, py_l9, py_l12, py_l16, py_l32, py_l40, py_l100, py_l640, py_l1280, py_neg, py_add, py_sub, py_mul, py_stO]
      exact pm_noRegister ra (fun a1 a2 => absurd ⟨a1, a2⟩ ha) (fun _ => py_ieq (fun c => absurd c (by omega)) (fun _ => hthr 1 (by omega) (by omega) K hK))
end PMW
end
section
/-! PURE: the law, case by case -/
theorem pl_cmp (x : Int64) : lg_cmp x x = py_o 0 := by
  unfold lg_cmp
  have h : ¬ x > x := Int64.lt_irrefl
  rw [if_neg h, if_pos rfl]
  rfl
theorem py_n0 : (py_o 0).toNatClampNeg = 0 := rfl
theorem ph_R.out {s t : py_Z} {n : Nat} {m r : Int} (h : ph_R s t n m) : ph_R (py_st s 12 0 r) t n m := h.congr (fun g i _ _ _ h4 _ _ _ => py_sn h4) (fun _ _ _ _ _ _ _ _ _ => rfl)
theorem pl_128 {xs : Nat → Int32} {L : Nat} {R : Int32 → ty_S → ty_S → Prop} {s t : py_Z} {n : Nat} {m : Int} (h : ph_R s t n m) (hn : n < 400) (hm : m < 90000) {i : Nat} (hi : i + 4 ≤ L) (hL : L ≤ 256) (hR : ∀ s' t' : py_Z, ph_R s' t' (n + 1) (m + 101) → R (py_o ((i : Int) + 4)) (py_O s') (py_O t')) : jL_law_128 xs L R (py_o i) (py_O s) (py_O t) := by
  obtain ⟨a, ha, ra⟩ := py_all (xs (i + 1))
  have e1 : (py_o ((i : Int) + 1)).toNatClampNeg = i + 1 := by rw [py_nat (by omega)]; omega
  obtain ⟨s', t', r, o1, o2, o3⟩ := ph_callLength h ra
  unfold jL_law_128 eL_length
  try simp only [py_O_ap, py_l0, py_l1, py_l2, py_l3, py_l4, py_l5, py_l6, py_l7, py_l8, py_l9, py_l12, py_l16, py_l32, py_l40, py_l100, py_l640, py_l1280, py_neg, py_add, py_sub, py_mul, py_stO]
  simp only [e1, ha, py_n0]
  refine py_and ?_
  rcases o3 with ⟨z1, z2⟩ | ⟨k, hk, z1, z3, z2⟩
  · refine z2 _ _ (py_and ?_)
    try simp only [py_O_ap, py_l0, py_l1, py_l2, py_l3, py_l4, py_l5, py_l6, py_l7, py_l8, py_l9, py_l12, py_l16, py_l32, py_l40, py_l100, py_l640, py_l1280, py_neg, py_add, py_sub, py_mul, py_stO]
    refine py_and ?_
    refine o2 _ ?_
    unfold eX5_thrown
    try simp only [py_O_ap, py_l0, py_l1, py_l2, py_l3, py_l4, py_l5, py_l6, py_l7, py_l8, py_l9, py_l12, py_l16, py_l32, py_l40, py_l100, py_l640, py_l1280, py_neg, py_add, py_sub, py_mul, py_stO]
    refine py_ieq (fun _ => ?_) (fun e => absurd z1 e)
    refine py_and ?_
    simp only [py_se, pl_cmp, if_true]
    exact hR _ _ o1.out
  · have hk3 : k = 0 ∨ k = 1 ∨ k = 2 := by omega
    rcases hk3 with e | e | e
    · subst e
      exact absurd z3.1 (by decide)
    · subst e
      exact absurd z3.1 (by decide)
    · subst e
      have z1 : t' 60 0 = 1 := z1
      refine z2 _ _ ?_
      simp only [if_true, if_false, Nat.reduceEqDiff, (show ¬ (1 = 0) by decide), (show ¬ (2 = 0) by decide), (show ¬ (2 = 1) by decide)]
      try simp only [py_O_ap, py_l0, py_l1, py_l2, py_l3, py_l4, py_l5, py_l6, py_l7, py_l8, py_l9, py_l12, py_l16, py_l32, py_l40, py_l100, py_l640, py_l1280, py_neg, py_add, py_sub, py_mul, py_stO]
      refine py_and ?_
      refine o2 _ ?_
      unfold eX5_thrown
      try simp only [py_O_ap, py_l0, py_l1, py_l2, py_l3, py_l4, py_l5, py_l6, py_l7, py_l8, py_l9, py_l12, py_l16, py_l32, py_l40, py_l100, py_l640, py_l1280, py_neg, py_add, py_sub, py_mul, py_stO]
      refine py_ieq (fun _ => ?_) (fun e => absurd z1 e)
      exact py_ieq (fun e => absurd e (by decide)) (fun _ => hR _ _ o1)
theorem pl_184 {xs : Nat → Int32} {L : Nat} {R : Int32 → ty_S → ty_S → Prop} {s t : py_Z} {n : Nat} {m : Int} (h : ph_R s t n m) (hn : n < 400) (hm : m < 90000) {i : Nat} (hi : i + 4 ≤ L) (hL : L ≤ 256) (hR : ∀ s' t' : py_Z, ph_R s' t' (n + 1) (m + 101) → R (py_o ((i : Int) + 4)) (py_O s') (py_O t')) : jL_law_184 xs L R (py_o i) (py_O s) (py_O t) := by
  obtain ⟨a, ha, ra⟩ := py_all (xs (i + 1))
  have e1 : (py_o ((i : Int) + 1)).toNatClampNeg = i + 1 := by rw [py_nat (by omega)]; omega
  obtain ⟨b, hb, rb⟩ := py_all (xs (i + 2))
  have e2 : (py_o ((i : Int) + 2)).toNatClampNeg = i + 2 := by rw [py_nat (by omega)]; omega
  obtain ⟨c, hc, rc⟩ := py_all (xs (i + 3))
  have e3 : (py_o ((i : Int) + 3)).toNatClampNeg = i + 3 := by rw [py_nat (by omega)]; omega
  obtain ⟨s', t', r, o1, o2, o3⟩ := ph_callMake h (by omega) (by omega) ra rb rc
  unfold jL_law_184 eL_make
  try simp only [py_O_ap, py_l0, py_l1, py_l2, py_l3, py_l4, py_l5, py_l6, py_l7, py_l8, py_l9, py_l12, py_l16, py_l32, py_l40, py_l100, py_l640, py_l1280, py_neg, py_add, py_sub, py_mul, py_stO]
  simp only [e1, e2, e3, ha, hb, hc, py_n0]
  refine py_and (py_and (py_and ?_))
  rcases o3 with ⟨z1, z2⟩ | ⟨k, hk, z1, z3, z2⟩
  · refine z2 _ _ (py_and ?_)
    try simp only [py_O_ap, py_l0, py_l1, py_l2, py_l3, py_l4, py_l5, py_l6, py_l7, py_l8, py_l9, py_l12, py_l16, py_l32, py_l40, py_l100, py_l640, py_l1280, py_neg, py_add, py_sub, py_mul, py_stO]
    refine py_and (py_and (py_and ?_))
    refine o2 _ ?_
    unfold eX5_thrown
    try simp only [py_O_ap, py_l0, py_l1, py_l2, py_l3, py_l4, py_l5, py_l6, py_l7, py_l8, py_l9, py_l12, py_l16, py_l32, py_l40, py_l100, py_l640, py_l1280, py_neg, py_add, py_sub, py_mul, py_stO]
    refine py_ieq (fun _ => ?_) (fun e => absurd z1 e)
    refine py_and ?_
    simp only [py_se, pl_cmp, if_true]
    exact hR _ _ o1.out
  · have hk3 : k = 0 ∨ k = 1 ∨ k = 2 := by omega
    rcases hk3 with e | e | e
    · subst e
      have z1 : t' 60 0 = 1 := z1
      refine z2 _ _ ?_
      simp only [if_true, if_false, Nat.reduceEqDiff, (show ¬ (1 = 0) by decide), (show ¬ (2 = 0) by decide), (show ¬ (2 = 1) by decide)]
      try simp only [py_O_ap, py_l0, py_l1, py_l2, py_l3, py_l4, py_l5, py_l6, py_l7, py_l8, py_l9, py_l12, py_l16, py_l32, py_l40, py_l100, py_l640, py_l1280, py_neg, py_add, py_sub, py_mul, py_stO]
      refine py_and (py_and (py_and ?_))
      refine o2 _ ?_
      unfold eX5_thrown
      try simp only [py_O_ap, py_l0, py_l1, py_l2, py_l3, py_l4, py_l5, py_l6, py_l7, py_l8, py_l9, py_l12, py_l16, py_l32, py_l40, py_l100, py_l640, py_l1280, py_neg, py_add, py_sub, py_mul, py_stO]
      refine py_ieq (fun _ => ?_) (fun e => absurd z1 e)
      exact py_ieq (fun e => absurd e (by decide)) (fun _ => hR _ _ o1)
    · subst e
      exact absurd z3.1 (by decide)
    · subst e
      have z1 : t' 60 0 = 2 := z1
      refine z2 _ _ ?_
      simp only [if_true, if_false, Nat.reduceEqDiff, (show ¬ (1 = 0) by decide), (show ¬ (2 = 0) by decide), (show ¬ (2 = 1) by decide)]
      try simp only [py_O_ap, py_l0, py_l1, py_l2, py_l3, py_l4, py_l5, py_l6, py_l7, py_l8, py_l9, py_l12, py_l16, py_l32, py_l40, py_l100, py_l640, py_l1280, py_neg, py_add, py_sub, py_mul, py_stO]
      refine py_and (py_and (py_and ?_))
      refine o2 _ ?_
      unfold eX5_thrown
      try simp only [py_O_ap, py_l0, py_l1, py_l2, py_l3, py_l4, py_l5, py_l6, py_l7, py_l8, py_l9, py_l12, py_l16, py_l32, py_l40, py_l100, py_l640, py_l1280, py_neg, py_add, py_sub, py_mul, py_stO]
      refine py_ieq (fun _ => ?_) (fun e => absurd z1 e)
      exact py_ieq (fun e => absurd e (by decide)) (fun _ => hR _ _ o1)
theorem pl_264 {xs : Nat → Int32} {L : Nat} {R : Int32 → ty_S → ty_S → Prop} {s t : py_Z} {n : Nat} {m : Int} (h : ph_R s t n m) (hn : n < 400) (hm : m < 90000) {i : Nat} (hi : i + 4 ≤ L) (hL : L ≤ 256) (hR : ∀ s' t' : py_Z, ph_R s' t' (n + 1) (m + 101) → R (py_o ((i : Int) + 4)) (py_O s') (py_O t')) : jL_law_264 xs L R (py_o i) (py_O s) (py_O t) := by
  obtain ⟨a, ha, ra⟩ := py_all (xs (i + 1))
  have e1 : (py_o ((i : Int) + 1)).toNatClampNeg = i + 1 := by rw [py_nat (by omega)]; omega
  obtain ⟨b, hb, rb⟩ := py_all (xs (i + 2))
  have e2 : (py_o ((i : Int) + 2)).toNatClampNeg = i + 2 := by rw [py_nat (by omega)]; omega
  obtain ⟨s', t', r, o1, o2, o3⟩ := ph_callCopy h ra rb
  unfold jL_law_264 eL_copy
  try simp only [py_O_ap, py_l0, py_l1, py_l2, py_l3, py_l4, py_l5, py_l6, py_l7, py_l8, py_l9, py_l12, py_l16, py_l32, py_l40, py_l100, py_l640, py_l1280, py_neg, py_add, py_sub, py_mul, py_stO]
  simp only [e1, e2, ha, hb, py_n0]
  refine py_and (py_and ?_)
  rcases o3 with ⟨z1, z2⟩ | ⟨k, hk, z1, z3, z2⟩
  · refine z2 _ _ (py_and ?_)
    try simp only [py_O_ap, py_l0, py_l1, py_l2, py_l3, py_l4, py_l5, py_l6, py_l7, py_l8, py_l9, py_l12, py_l16, py_l32, py_l40, py_l100, py_l640, py_l1280, py_neg, py_add, py_sub, py_mul, py_stO]
    refine py_and (py_and ?_)
    refine o2 _ ?_
    unfold eX5_thrown
    try simp only [py_O_ap, py_l0, py_l1, py_l2, py_l3, py_l4, py_l5, py_l6, py_l7, py_l8, py_l9, py_l12, py_l16, py_l32, py_l40, py_l100, py_l640, py_l1280, py_neg, py_add, py_sub, py_mul, py_stO]
    refine py_ieq (fun _ => ?_) (fun e => absurd z1 e)
    refine py_and ?_
    simp only [py_se, pl_cmp, if_true]
    exact hR _ _ o1.out
  · have hk3 : k = 0 ∨ k = 1 ∨ k = 2 := by omega
    rcases hk3 with e | e | e
    · subst e
      have z1 : t' 60 0 = 1 := z1
      refine z2 _ _ ?_
      simp only [if_true, if_false, Nat.reduceEqDiff, (show ¬ (1 = 0) by decide), (show ¬ (2 = 0) by decide), (show ¬ (2 = 1) by decide)]
      try simp only [py_O_ap, py_l0, py_l1, py_l2, py_l3, py_l4, py_l5, py_l6, py_l7, py_l8, py_l9, py_l12, py_l16, py_l32, py_l40, py_l100, py_l640, py_l1280, py_neg, py_add, py_sub, py_mul, py_stO]
      refine py_and (py_and ?_)
      refine o2 _ ?_
      unfold eX5_thrown
      try simp only [py_O_ap, py_l0, py_l1, py_l2, py_l3, py_l4, py_l5, py_l6, py_l7, py_l8, py_l9, py_l12, py_l16, py_l32, py_l40, py_l100, py_l640, py_l1280, py_neg, py_add, py_sub, py_mul, py_stO]
      refine py_ieq (fun _ => ?_) (fun e => absurd z1 e)
      exact py_ieq (fun e => absurd e (by decide)) (fun _ => hR _ _ o1)
    · subst e
      exact absurd z3.1 (by decide)
    · subst e
      exact absurd z3.1 (by decide)
theorem pl_332 {xs : Nat → Int32} {L : Nat} {R : Int32 → ty_S → ty_S → Prop} {s t : py_Z} {n : Nat} {m : Int} (h : ph_R s t n m) (hn : n < 400) (hm : m < 90000) {i : Nat} (hi : i + 4 ≤ L) (hL : L ≤ 256) (hR : ∀ s' t' : py_Z, ph_R s' t' (n + 1) (m + 101) → R (py_o ((i : Int) + 4)) (py_O s') (py_O t')) : jL_law_332 xs L R (py_o i) (py_O s) (py_O t) := by
  obtain ⟨a, ha, ra⟩ := py_all (xs (i + 1))
  have e1 : (py_o ((i : Int) + 1)).toNatClampNeg = i + 1 := by rw [py_nat (by omega)]; omega
  obtain ⟨s', t', r, o1, o2, o3⟩ := ph_callDrop h ra
  unfold jL_law_332 eL_drop
  try simp only [py_O_ap, py_l0, py_l1, py_l2, py_l3, py_l4, py_l5, py_l6, py_l7, py_l8, py_l9, py_l12, py_l16, py_l32, py_l40, py_l100, py_l640, py_l1280, py_neg, py_add, py_sub, py_mul, py_stO]
  simp only [e1, ha, py_n0]
  refine py_and ?_
  rcases o3 with ⟨z1, z2⟩ | ⟨k, hk, z1, z3, z2⟩
  · refine z2 _ _ (py_and ?_)
    try simp only [py_O_ap, py_l0, py_l1, py_l2, py_l3, py_l4, py_l5, py_l6, py_l7, py_l8, py_l9, py_l12, py_l16, py_l32, py_l40, py_l100, py_l640, py_l1280, py_neg, py_add, py_sub, py_mul, py_stO]
    refine py_and ?_
    refine o2 _ ?_
    unfold eX5_thrown
    try simp only [py_O_ap, py_l0, py_l1, py_l2, py_l3, py_l4, py_l5, py_l6, py_l7, py_l8, py_l9, py_l12, py_l16, py_l32, py_l40, py_l100, py_l640, py_l1280, py_neg, py_add, py_sub, py_mul, py_stO]
    refine py_ieq (fun _ => ?_) (fun e => absurd z1 e)
    refine py_and ?_
    simp only [py_se, pl_cmp, if_true]
    exact hR _ _ o1.out
  · have hk3 : k = 0 ∨ k = 1 ∨ k = 2 := by omega
    rcases hk3 with e | e | e
    · subst e
      have z1 : t' 60 0 = 1 := z1
      refine z2 _ _ ?_
      simp only [if_true, if_false, Nat.reduceEqDiff, (show ¬ (1 = 0) by decide), (show ¬ (2 = 0) by decide), (show ¬ (2 = 1) by decide)]
      try simp only [py_O_ap, py_l0, py_l1, py_l2, py_l3, py_l4, py_l5, py_l6, py_l7, py_l8, py_l9, py_l12, py_l16, py_l32, py_l40, py_l100, py_l640, py_l1280, py_neg, py_add, py_sub, py_mul, py_stO]
      refine py_and ?_
      refine o2 _ ?_
      unfold eX5_thrown
      try simp only [py_O_ap, py_l0, py_l1, py_l2, py_l3, py_l4, py_l5, py_l6, py_l7, py_l8, py_l9, py_l12, py_l16, py_l32, py_l40, py_l100, py_l640, py_l1280, py_neg, py_add, py_sub, py_mul, py_stO]
      refine py_ieq (fun _ => ?_) (fun e => absurd z1 e)
      exact py_ieq (fun e => absurd e (by decide)) (fun _ => hR _ _ o1)
    · subst e
      exact absurd z3.1 (by decide)
    · subst e
      exact absurd z3.1 (by decide)
theorem pl_388 {xs : Nat → Int32} {L : Nat} {R : Int32 → ty_S → ty_S → Prop} {s t : py_Z} {n : Nat} {m : Int} (h : ph_R s t n m) (hn : n < 400) (hm : m < 90000) {i : Nat} (hi : i + 4 ≤ L) (hL : L ≤ 256) (hR : ∀ s' t' : py_Z, ph_R s' t' (n + 1) (m + 101) → R (py_o ((i : Int) + 4)) (py_O s') (py_O t')) : jL_law_388 xs L R (py_o i) (py_O s) (py_O t) := by
  obtain ⟨a, ha, ra⟩ := py_all (xs (i + 1))
  have e1 : (py_o ((i : Int) + 1)).toNatClampNeg = i + 1 := by rw [py_nat (by omega)]; omega
  obtain ⟨b, hb, rb⟩ := py_all (xs (i + 2))
  have e2 : (py_o ((i : Int) + 2)).toNatClampNeg = i + 2 := by rw [py_nat (by omega)]; omega
  obtain ⟨c, hc, rc⟩ := py_all (xs (i + 3))
  have e3 : (py_o ((i : Int) + 3)).toNatClampNeg = i + 3 := by rw [py_nat (by omega)]; omega
  obtain ⟨s', t', r, o1, o2, o3⟩ := ph_callSet h ra rb rc
  unfold jL_law_388 eL_set
  try simp only [py_O_ap, py_l0, py_l1, py_l2, py_l3, py_l4, py_l5, py_l6, py_l7, py_l8, py_l9, py_l12, py_l16, py_l32, py_l40, py_l100, py_l640, py_l1280, py_neg, py_add, py_sub, py_mul, py_stO]
  simp only [e1, e2, e3, ha, hb, hc, py_n0]
  refine py_and (py_and (py_and ?_))
  rcases o3 with ⟨z1, z2⟩ | ⟨k, hk, z1, z3, z2⟩
  · refine z2 _ _ (py_and ?_)
    try simp only [py_O_ap, py_l0, py_l1, py_l2, py_l3, py_l4, py_l5, py_l6, py_l7, py_l8, py_l9, py_l12, py_l16, py_l32, py_l40, py_l100, py_l640, py_l1280, py_neg, py_add, py_sub, py_mul, py_stO]
    refine py_and (py_and (py_and ?_))
    refine o2 _ ?_
    unfold eX5_thrown
    try simp only [py_O_ap, py_l0, py_l1, py_l2, py_l3, py_l4, py_l5, py_l6, py_l7, py_l8, py_l9, py_l12, py_l16, py_l32, py_l40, py_l100, py_l640, py_l1280, py_neg, py_add, py_sub, py_mul, py_stO]
    refine py_ieq (fun _ => ?_) (fun e => absurd z1 e)
    refine py_and ?_
    simp only [py_se, pl_cmp, if_true]
    exact hR _ _ o1.out
  · have hk3 : k = 0 ∨ k = 1 ∨ k = 2 := by omega
    rcases hk3 with e | e | e
    · subst e
      have z1 : t' 60 0 = 1 := z1
      refine z2 _ _ ?_
      simp only [if_true, if_false, Nat.reduceEqDiff, (show ¬ (1 = 0) by decide), (show ¬ (2 = 0) by decide), (show ¬ (2 = 1) by decide)]
      try simp only [py_O_ap, py_l0, py_l1, py_l2, py_l3, py_l4, py_l5, py_l6, py_l7, py_l8, py_l9, py_l12, py_l16, py_l32, py_l40, py_l100, py_l640, py_l1280, py_neg, py_add, py_sub, py_mul, py_stO]
      refine py_and (py_and (py_and ?_))
      refine o2 _ ?_
      unfold eX5_thrown
      try simp only [py_O_ap, py_l0, py_l1, py_l2, py_l3, py_l4, py_l5, py_l6, py_l7, py_l8, py_l9, py_l12, py_l16, py_l32, py_l40, py_l100, py_l640, py_l1280, py_neg, py_add, py_sub, py_mul, py_stO]
      refine py_ieq (fun _ => ?_) (fun e => absurd z1 e)
      exact py_ieq (fun e => absurd e (by decide)) (fun _ => hR _ _ o1)
    · subst e
      have z1 : t' 60 0 = 2 := z1
      refine z2 _ _ ?_
      simp only [if_true, if_false, Nat.reduceEqDiff, (show ¬ (1 = 0) by decide), (show ¬ (2 = 0) by decide), (show ¬ (2 = 1) by decide)]
      try simp only [py_O_ap, py_l0, py_l1, py_l2, py_l3, py_l4, py_l5, py_l6, py_l7, py_l8, py_l9, py_l12, py_l16, py_l32, py_l40, py_l100, py_l640, py_l1280, py_neg, py_add, py_sub, py_mul, py_stO]
      refine py_and (py_and (py_and ?_))
      refine o2 _ ?_
      unfold eX5_thrown
      try simp only [py_O_ap, py_l0, py_l1, py_l2, py_l3, py_l4, py_l5, py_l6, py_l7, py_l8, py_l9, py_l12, py_l16, py_l32, py_l40, py_l100, py_l640, py_l1280, py_neg, py_add, py_sub, py_mul, py_stO]
      refine py_ieq (fun _ => ?_) (fun e => absurd z1 e)
      exact py_ieq (fun e => absurd e (by decide)) (fun _ => hR _ _ o1)
    · subst e
      have z1 : t' 60 0 = 3 := z1
      refine z2 _ _ ?_
      simp only [if_true, if_false, Nat.reduceEqDiff, (show ¬ (1 = 0) by decide), (show ¬ (2 = 0) by decide), (show ¬ (2 = 1) by decide)]
      try simp only [py_O_ap, py_l0, py_l1, py_l2, py_l3, py_l4, py_l5, py_l6, py_l7, py_l8, py_l9, py_l12, py_l16, py_l32, py_l40, py_l100, py_l640, py_l1280, py_neg, py_add, py_sub, py_mul, py_stO]
      refine py_and (py_and (py_and ?_))
      refine o2 _ ?_
      unfold eX5_thrown
      try simp only [py_O_ap, py_l0, py_l1, py_l2, py_l3, py_l4, py_l5, py_l6, py_l7, py_l8, py_l9, py_l12, py_l16, py_l32, py_l40, py_l100, py_l640, py_l1280, py_neg, py_add, py_sub, py_mul, py_stO]
      refine py_ieq (fun _ => ?_) (fun e => absurd z1 e)
      exact py_ieq (fun e => absurd e (by decide)) (fun _ => hR _ _ o1)
theorem pl_468 {xs : Nat → Int32} {L : Nat} {R : Int32 → ty_S → ty_S → Prop} {s t : py_Z} {n : Nat} {m : Int} (h : ph_R s t n m) (hn : n < 400) (hm : m < 90000) {i : Nat} (hi : i + 4 ≤ L) (hL : L ≤ 256) (hR : ∀ s' t' : py_Z, ph_R s' t' (n + 1) (m + 101) → R (py_o ((i : Int) + 4)) (py_O s') (py_O t')) : jL_law_468 xs L R (py_o i) (py_O s) (py_O t) := by
  obtain ⟨a, ha, ra⟩ := py_all (xs (i + 1))
  have e1 : (py_o ((i : Int) + 1)).toNatClampNeg = i + 1 := by rw [py_nat (by omega)]; omega
  obtain ⟨b, hb, rb⟩ := py_all (xs (i + 2))
  have e2 : (py_o ((i : Int) + 2)).toNatClampNeg = i + 2 := by rw [py_nat (by omega)]; omega
  obtain ⟨c, hc, rc⟩ := py_all (xs (i + 3))
  have e3 : (py_o ((i : Int) + 3)).toNatClampNeg = i + 3 := by rw [py_nat (by omega)]; omega
  obtain ⟨s', t', r, o1, o2, o3⟩ := ph_callGet h ra rb rc
  unfold jL_law_468 eL_get
  try simp only [py_O_ap, py_l0, py_l1, py_l2, py_l3, py_l4, py_l5, py_l6, py_l7, py_l8, py_l9, py_l12, py_l16, py_l32, py_l40, py_l100, py_l640, py_l1280, py_neg, py_add, py_sub, py_mul, py_stO]
  simp only [e1, e2, e3, ha, hb, hc, py_n0]
  refine py_and (py_and (py_and ?_))
  rcases o3 with ⟨z1, z2⟩ | ⟨k, hk, z1, z3, z2⟩
  · refine z2 _ _ (py_and ?_)
    try simp only [py_O_ap, py_l0, py_l1, py_l2, py_l3, py_l4, py_l5, py_l6, py_l7, py_l8, py_l9, py_l12, py_l16, py_l32, py_l40, py_l100, py_l640, py_l1280, py_neg, py_add, py_sub, py_mul, py_stO]
    refine py_and (py_and (py_and ?_))
    refine o2 _ ?_
    unfold eX5_thrown
    try simp only [py_O_ap, py_l0, py_l1, py_l2, py_l3, py_l4, py_l5, py_l6, py_l7, py_l8, py_l9, py_l12, py_l16, py_l32, py_l40, py_l100, py_l640, py_l1280, py_neg, py_add, py_sub, py_mul, py_stO]
    refine py_ieq (fun _ => ?_) (fun e => absurd z1 e)
    refine py_and ?_
    simp only [py_se, pl_cmp, if_true]
    exact hR _ _ o1.out
  · have hk3 : k = 0 ∨ k = 1 ∨ k = 2 := by omega
    rcases hk3 with e | e | e
    · subst e
      have z1 : t' 60 0 = 1 := z1
      refine z2 _ _ ?_
      simp only [if_true, if_false, Nat.reduceEqDiff, (show ¬ (1 = 0) by decide), (show ¬ (2 = 0) by decide), (show ¬ (2 = 1) by decide)]
      try simp only [py_O_ap, py_l0, py_l1, py_l2, py_l3, py_l4, py_l5, py_l6, py_l7, py_l8, py_l9, py_l12, py_l16, py_l32, py_l40, py_l100, py_l640, py_l1280, py_neg, py_add, py_sub, py_mul, py_stO]
      refine py_and (py_and (py_and ?_))
      refine o2 _ ?_
      unfold eX5_thrown
      try simp only [py_O_ap, py_l0, py_l1, py_l2, py_l3, py_l4, py_l5, py_l6, py_l7, py_l8, py_l9, py_l12, py_l16, py_l32, py_l40, py_l100, py_l640, py_l1280, py_neg, py_add, py_sub, py_mul, py_stO]
      refine py_ieq (fun _ => ?_) (fun e => absurd z1 e)
      exact py_ieq (fun e => absurd e (by decide)) (fun _ => hR _ _ o1)
    · subst e
      have z1 : t' 60 0 = 2 := z1
      refine z2 _ _ ?_
      simp only [if_true, if_false, Nat.reduceEqDiff, (show ¬ (1 = 0) by decide), (show ¬ (2 = 0) by decide), (show ¬ (2 = 1) by decide)]
      try simp only [py_O_ap, py_l0, py_l1, py_l2, py_l3, py_l4, py_l5, py_l6, py_l7, py_l8, py_l9, py_l12, py_l16, py_l32, py_l40, py_l100, py_l640, py_l1280, py_neg, py_add, py_sub, py_mul, py_stO]
      refine py_and (py_and (py_and ?_))
      refine o2 _ ?_
      unfold eX5_thrown
      try simp only [py_O_ap, py_l0, py_l1, py_l2, py_l3, py_l4, py_l5, py_l6, py_l7, py_l8, py_l9, py_l12, py_l16, py_l32, py_l40, py_l100, py_l640, py_l1280, py_neg, py_add, py_sub, py_mul, py_stO]
      refine py_ieq (fun _ => ?_) (fun e => absurd z1 e)
      exact py_ieq (fun e => absurd e (by decide)) (fun _ => hR _ _ o1)
    · subst e
      have z1 : t' 60 0 = 3 := z1
      refine z2 _ _ ?_
      simp only [if_true, if_false, Nat.reduceEqDiff, (show ¬ (1 = 0) by decide), (show ¬ (2 = 0) by decide), (show ¬ (2 = 1) by decide)]
      try simp only [py_O_ap, py_l0, py_l1, py_l2, py_l3, py_l4, py_l5, py_l6, py_l7, py_l8, py_l9, py_l12, py_l16, py_l32, py_l40, py_l100, py_l640, py_l1280, py_neg, py_add, py_sub, py_mul, py_stO]
      refine py_and (py_and (py_and ?_))
      refine o2 _ ?_
      unfold eX5_thrown
      try simp only [py_O_ap, py_l0, py_l1, py_l2, py_l3, py_l4, py_l5, py_l6, py_l7, py_l8, py_l9, py_l12, py_l16, py_l32, py_l40, py_l100, py_l640, py_l1280, py_neg, py_add, py_sub, py_mul, py_stO]
      refine py_ieq (fun _ => ?_) (fun e => absurd z1 e)
      exact py_ieq (fun e => absurd e (by decide)) (fun _ => hR _ _ o1)
theorem pl_548 {xs : Nat → Int32} {L : Nat} {R : Int32 → ty_S → ty_S → Prop} {s t : py_Z} {n : Nat} {m : Int} (h : ph_R s t n m) (hn : n < 400) (hm : m < 90000) {i : Nat} (hi : i + 4 ≤ L) (hL : L ≤ 256) (hR : ∀ s' t' : py_Z, ph_R s' t' (n + 1) (m + 101) → R (py_o ((i : Int) + 4)) (py_O s') (py_O t')) : jL_law_548 xs L R (py_o i) (py_O s) (py_O t) := by
  obtain ⟨a, ha, ra⟩ := py_all (xs (i + 1))
  have e1 : (py_o ((i : Int) + 1)).toNatClampNeg = i + 1 := by rw [py_nat (by omega)]; omega
  obtain ⟨b, hb, rb⟩ := py_all (xs (i + 2))
  have e2 : (py_o ((i : Int) + 2)).toNatClampNeg = i + 2 := by rw [py_nat (by omega)]; omega
  obtain ⟨c, hc, rc⟩ := py_all (xs (i + 3))
  have e3 : (py_o ((i : Int) + 3)).toNatClampNeg = i + 3 := by rw [py_nat (by omega)]; omega
  obtain ⟨s', t', r, o1, o2, o3⟩ := ph_callPut (v := c) h ra rb
  unfold jL_law_548 eL_put
  try simp only [py_O_ap, py_l0, py_l1, py_l2, py_l3, py_l4, py_l5, py_l6, py_l7, py_l8, py_l9, py_l12, py_l16, py_l32, py_l40, py_l100, py_l640, py_l1280, py_neg, py_add, py_sub, py_mul, py_stO]
  simp only [e1, e2, e3, ha, hb, hc, py_n0]
  refine py_and (py_and (py_and ?_))
  rcases o3 with ⟨z1, z2⟩ | ⟨k, hk, z1, z3, z2⟩
  · refine z2 _ _ (py_and ?_)
    try simp only [py_O_ap, py_l0, py_l1, py_l2, py_l3, py_l4, py_l5, py_l6, py_l7, py_l8, py_l9, py_l12, py_l16, py_l32, py_l40, py_l100, py_l640, py_l1280, py_neg, py_add, py_sub, py_mul, py_stO]
    refine py_and (py_and (py_and ?_))
    refine o2 _ ?_
    unfold eX5_thrown
    try simp only [py_O_ap, py_l0, py_l1, py_l2, py_l3, py_l4, py_l5, py_l6, py_l7, py_l8, py_l9, py_l12, py_l16, py_l32, py_l40, py_l100, py_l640, py_l1280, py_neg, py_add, py_sub, py_mul, py_stO]
    refine py_ieq (fun _ => ?_) (fun e => absurd z1 e)
    refine py_and ?_
    simp only [py_se, pl_cmp, if_true]
    exact hR _ _ o1.out
  · have hk3 : k = 0 ∨ k = 1 ∨ k = 2 := by omega
    rcases hk3 with e | e | e
    · subst e
      have z1 : t' 60 0 = 1 := z1
      refine z2 _ _ ?_
      simp only [if_true, if_false, Nat.reduceEqDiff, (show ¬ (1 = 0) by decide), (show ¬ (2 = 0) by decide), (show ¬ (2 = 1) by decide)]
      try simp only [py_O_ap, py_l0, py_l1, py_l2, py_l3, py_l4, py_l5, py_l6, py_l7, py_l8, py_l9, py_l12, py_l16, py_l32, py_l40, py_l100, py_l640, py_l1280, py_neg, py_add, py_sub, py_mul, py_stO]
      refine py_and (py_and (py_and ?_))
      refine o2 _ ?_
      unfold eX5_thrown
      try simp only [py_O_ap, py_l0, py_l1, py_l2, py_l3, py_l4, py_l5, py_l6, py_l7, py_l8, py_l9, py_l12, py_l16, py_l32, py_l40, py_l100, py_l640, py_l1280, py_neg, py_add, py_sub, py_mul, py_stO]
      refine py_ieq (fun _ => ?_) (fun e => absurd z1 e)
      exact py_ieq (fun e => absurd e (by decide)) (fun _ => hR _ _ o1)
    · subst e
      have z1 : t' 60 0 = 2 := z1
      refine z2 _ _ ?_
      simp only [if_true, if_false, Nat.reduceEqDiff, (show ¬ (1 = 0) by decide), (show ¬ (2 = 0) by decide), (show ¬ (2 = 1) by decide)]
      try simp only [py_O_ap, py_l0, py_l1, py_l2, py_l3, py_l4, py_l5, py_l6, py_l7, py_l8, py_l9, py_l12, py_l16, py_l32, py_l40, py_l100, py_l640, py_l1280, py_neg, py_add, py_sub, py_mul, py_stO]
      refine py_and (py_and (py_and ?_))
      refine o2 _ ?_
      unfold eX5_thrown
      try simp only [py_O_ap, py_l0, py_l1, py_l2, py_l3, py_l4, py_l5, py_l6, py_l7, py_l8, py_l9, py_l12, py_l16, py_l32, py_l40, py_l100, py_l640, py_l1280, py_neg, py_add, py_sub, py_mul, py_stO]
      refine py_ieq (fun _ => ?_) (fun e => absurd z1 e)
      exact py_ieq (fun e => absurd e (by decide)) (fun _ => hR _ _ o1)
    · subst e
      have z1 : t' 60 0 = 3 := z1
      refine z2 _ _ ?_
      simp only [if_true, if_false, Nat.reduceEqDiff, (show ¬ (1 = 0) by decide), (show ¬ (2 = 0) by decide), (show ¬ (2 = 1) by decide)]
      try simp only [py_O_ap, py_l0, py_l1, py_l2, py_l3, py_l4, py_l5, py_l6, py_l7, py_l8, py_l9, py_l12, py_l16, py_l32, py_l40, py_l100, py_l640, py_l1280, py_neg, py_add, py_sub, py_mul, py_stO]
      refine py_and (py_and (py_and ?_))
      refine o2 _ ?_
      unfold eX5_thrown
      try simp only [py_O_ap, py_l0, py_l1, py_l2, py_l3, py_l4, py_l5, py_l6, py_l7, py_l8, py_l9, py_l12, py_l16, py_l32, py_l40, py_l100, py_l640, py_l1280, py_neg, py_add, py_sub, py_mul, py_stO]
      refine py_ieq (fun _ => ?_) (fun e => absurd z1 e)
      exact py_ieq (fun e => absurd e (by decide)) (fun _ => hR _ _ o1)
theorem pl_628 {xs : Nat → Int32} {L : Nat} {R : Int32 → ty_S → ty_S → Prop} {s t : py_Z} {n : Nat} {m : Int} (h : ph_R s t n m) (hn : n < 400) (hm : m < 90000) {i : Nat} (hi : i + 4 ≤ L) (hL : L ≤ 256) (hR : ∀ s' t' : py_Z, ph_R s' t' (n + 1) (m + 101) → R (py_o ((i : Int) + 4)) (py_O s') (py_O t')) : jL_law_628 xs L R (py_o i) (py_O s) (py_O t) := by
  obtain ⟨a, ha, ra⟩ := py_all (xs (i + 1))
  have e1 : (py_o ((i : Int) + 1)).toNatClampNeg = i + 1 := by rw [py_nat (by omega)]; omega
  obtain ⟨b, hb, rb⟩ := py_all (xs (i + 2))
  have e2 : (py_o ((i : Int) + 2)).toNatClampNeg = i + 2 := by rw [py_nat (by omega)]; omega
  obtain ⟨s', t', r, o1, o2, o3⟩ := ph_callNumber h ra rb
  unfold jL_law_628 eL_number
  try simp only [py_O_ap, py_l0, py_l1, py_l2, py_l3, py_l4, py_l5, py_l6, py_l7, py_l8, py_l9, py_l12, py_l16, py_l32, py_l40, py_l100, py_l640, py_l1280, py_neg, py_add, py_sub, py_mul, py_stO]
  simp only [e1, e2, ha, hb, py_n0]
  refine py_and (py_and ?_)
  rcases o3 with ⟨z1, z2⟩ | ⟨k, hk, z1, z3, z2⟩
  · refine z2 _ _ (py_and ?_)
    try simp only [py_O_ap, py_l0, py_l1, py_l2, py_l3, py_l4, py_l5, py_l6, py_l7, py_l8, py_l9, py_l12, py_l16, py_l32, py_l40, py_l100, py_l640, py_l1280, py_neg, py_add, py_sub, py_mul, py_stO]
    refine py_and (py_and ?_)
    refine o2 _ ?_
    unfold eX5_thrown
    try simp only [py_O_ap, py_l0, py_l1, py_l2, py_l3, py_l4, py_l5, py_l6, py_l7, py_l8, py_l9, py_l12, py_l16, py_l32, py_l40, py_l100, py_l640, py_l1280, py_neg, py_add, py_sub, py_mul, py_stO]
    refine py_ieq (fun _ => ?_) (fun e => absurd z1 e)
    refine py_and ?_
    simp only [py_se, pl_cmp, if_true]
    exact hR _ _ o1.out
  · have hk3 : k = 0 ∨ k = 1 ∨ k = 2 := by omega
    rcases hk3 with e | e | e
    · subst e
      have z1 : t' 60 0 = 1 := z1
      refine z2 _ _ ?_
      simp only [if_true, if_false, Nat.reduceEqDiff, (show ¬ (1 = 0) by decide), (show ¬ (2 = 0) by decide), (show ¬ (2 = 1) by decide)]
      try simp only [py_O_ap, py_l0, py_l1, py_l2, py_l3, py_l4, py_l5, py_l6, py_l7, py_l8, py_l9, py_l12, py_l16, py_l32, py_l40, py_l100, py_l640, py_l1280, py_neg, py_add, py_sub, py_mul, py_stO]
      refine py_and (py_and ?_)
      refine o2 _ ?_
      unfold eX5_thrown
      try simp only [py_O_ap, py_l0, py_l1, py_l2, py_l3, py_l4, py_l5, py_l6, py_l7, py_l8, py_l9, py_l12, py_l16, py_l32, py_l40, py_l100, py_l640, py_l1280, py_neg, py_add, py_sub, py_mul, py_stO]
      refine py_ieq (fun _ => ?_) (fun e => absurd z1 e)
      exact py_ieq (fun e => absurd e (by decide)) (fun _ => hR _ _ o1)
    · subst e
      have z1 : t' 60 0 = 2 := z1
      refine z2 _ _ ?_
      simp only [if_true, if_false, Nat.reduceEqDiff, (show ¬ (1 = 0) by decide), (show ¬ (2 = 0) by decide), (show ¬ (2 = 1) by decide)]
      try simp only [py_O_ap, py_l0, py_l1, py_l2, py_l3, py_l4, py_l5, py_l6, py_l7, py_l8, py_l9, py_l12, py_l16, py_l32, py_l40, py_l100, py_l640, py_l1280, py_neg, py_add, py_sub, py_mul, py_stO]
      refine py_and (py_and ?_)
      refine o2 _ ?_
      unfold eX5_thrown
      try simp only [py_O_ap, py_l0, py_l1, py_l2, py_l3, py_l4, py_l5, py_l6, py_l7, py_l8, py_l9, py_l12, py_l16, py_l32, py_l40, py_l100, py_l640, py_l1280, py_neg, py_add, py_sub, py_mul, py_stO]
      refine py_ieq (fun _ => ?_) (fun e => absurd z1 e)
      exact py_ieq (fun e => absurd e (by decide)) (fun _ => hR _ _ o1)
    · subst e
      have z1 : t' 60 0 = 3 := z1
      refine z2 _ _ ?_
      simp only [if_true, if_false, Nat.reduceEqDiff, (show ¬ (1 = 0) by decide), (show ¬ (2 = 0) by decide), (show ¬ (2 = 1) by decide)]
      try simp only [py_O_ap, py_l0, py_l1, py_l2, py_l3, py_l4, py_l5, py_l6, py_l7, py_l8, py_l9, py_l12, py_l16, py_l32, py_l40, py_l100, py_l640, py_l1280, py_neg, py_add, py_sub, py_mul, py_stO]
      refine py_and (py_and ?_)
      refine o2 _ ?_
      unfold eX5_thrown
      try simp only [py_O_ap, py_l0, py_l1, py_l2, py_l3, py_l4, py_l5, py_l6, py_l7, py_l8, py_l9, py_l12, py_l16, py_l32, py_l40, py_l100, py_l640, py_l1280, py_neg, py_add, py_sub, py_mul, py_stO]
      refine py_ieq (fun _ => ?_) (fun e => absurd z1 e)
      exact py_ieq (fun e => absurd e (by decide)) (fun _ => hR _ _ o1)
theorem pl_696 {xs : Nat → Int32} {L : Nat} {R : Int32 → ty_S → ty_S → Prop} {s t : py_Z} {n : Nat} {m : Int} (h : ph_R s t n m) (hn : n < 400) (hm : m < 90000) {i : Nat} (hi : i + 4 ≤ L) (hL : L ≤ 256) (hR : ∀ s' t' : py_Z, ph_R s' t' (n + 1) (m + 101) → R (py_o ((i : Int) + 4)) (py_O s') (py_O t')) : jL_law_696 xs L R (py_o i) (py_O s) (py_O t) := by
  obtain ⟨s', t', r, o1, o2, o3⟩ := ph_callStep h (by omega)
  unfold jL_law_696
  refine o1 _ ?_
  refine o2 _ ?_
  rw [if_pos rfl, py_l4, py_add]
  exact hR _ _ o3
theorem pl_709 {xs : Nat → Int32} {L : Nat} {R : Int32 → ty_S → ty_S → Prop} {s t : py_Z} {n : Nat} {m : Int} (h : ph_R s t n m) (hn : n < 400) (hm : m < 90000) {i : Nat} (hi : i + 4 ≤ L) (hL : L ≤ 256) (hR : ∀ s' t' : py_Z, ph_R s' t' (n + 1) (m + 101) → R (py_o ((i : Int) + 4)) (py_O s') (py_O t')) : jL_law_709 xs L R (py_o i) (py_O s) (py_O t) := by
  obtain ⟨a, ha, ra⟩ := py_all (xs (i + 1))
  have e1 : (py_o ((i : Int) + 1)).toNatClampNeg = i + 1 := by rw [py_nat (by omega)]; omega
  obtain ⟨s', t', r, o1, o2, o3⟩ := ph_callCollect h (by omega) ra
  unfold jL_law_709 eL_collect
  try simp only [py_O_ap, py_l0, py_l1, py_l2, py_l3, py_l4, py_l5, py_l6, py_l7, py_l8, py_l9, py_l12, py_l16, py_l32, py_l40, py_l100, py_l640, py_l1280, py_neg, py_add, py_sub, py_mul, py_stO]
  simp only [e1, ha, py_n0]
  refine py_and ?_
  rcases o3 with ⟨z1, z2⟩ | ⟨k, hk, z1, z3, z2⟩
  · refine z2 _ _ (py_and ?_)
    try simp only [py_O_ap, py_l0, py_l1, py_l2, py_l3, py_l4, py_l5, py_l6, py_l7, py_l8, py_l9, py_l12, py_l16, py_l32, py_l40, py_l100, py_l640, py_l1280, py_neg, py_add, py_sub, py_mul, py_stO]
    refine py_and ?_
    refine o2 _ ?_
    unfold eX5_thrown
    try simp only [py_O_ap, py_l0, py_l1, py_l2, py_l3, py_l4, py_l5, py_l6, py_l7, py_l8, py_l9, py_l12, py_l16, py_l32, py_l40, py_l100, py_l640, py_l1280, py_neg, py_add, py_sub, py_mul, py_stO]
    refine py_ieq (fun _ => ?_) (fun e => absurd z1 e)
    refine py_and ?_
    simp only [py_se, pl_cmp, if_true]
    exact hR _ _ o1.out
  · have hk3 : k = 0 ∨ k = 1 ∨ k = 2 := by omega
    rcases hk3 with e | e | e
    · subst e
      exact absurd z3.1 (by decide)
    · subst e
      exact absurd z3.1 (by decide)
    · subst e
      have z1 : t' 60 0 = 1 := z1
      refine z2 _ _ ?_
      simp only [if_true, if_false, Nat.reduceEqDiff, (show ¬ (1 = 0) by decide), (show ¬ (2 = 0) by decide), (show ¬ (2 = 1) by decide)]
      try simp only [py_O_ap, py_l0, py_l1, py_l2, py_l3, py_l4, py_l5, py_l6, py_l7, py_l8, py_l9, py_l12, py_l16, py_l32, py_l40, py_l100, py_l640, py_l1280, py_neg, py_add, py_sub, py_mul, py_stO]
      refine py_and ?_
      refine o2 _ ?_
      unfold eX5_thrown
      try simp only [py_O_ap, py_l0, py_l1, py_l2, py_l3, py_l4, py_l5, py_l6, py_l7, py_l8, py_l9, py_l12, py_l16, py_l32, py_l40, py_l100, py_l640, py_l1280, py_neg, py_add, py_sub, py_mul, py_stO]
      refine py_ieq (fun _ => ?_) (fun e => absurd z1 e)
      exact py_ieq (fun e => absurd e (by decide)) (fun _ => hR _ _ o1)
theorem pl_765 {xs : Nat → Int32} {L : Nat} {R : Int32 → ty_S → ty_S → Prop} {s t : py_Z} {n : Nat} {m : Int} (h : ph_R s t n m) (hn : n < 400) (hm : m < 90000) {i : Nat} (hi : i + 4 ≤ L) (hL : L ≤ 256) (hR : ∀ s' t' : py_Z, ph_R s' t' (n + 1) (m + 101) → R (py_o ((i : Int) + 4)) (py_O s') (py_O t')) : jL_law_765 xs L R (py_o i) (py_O s) (py_O t) := by
  obtain ⟨a, ha, ra⟩ := py_all (xs (i + 1))
  have e1 : (py_o ((i : Int) + 1)).toNatClampNeg = i + 1 := by rw [py_nat (by omega)]; omega
  obtain ⟨b, hb, rb⟩ := py_all (xs (i + 2))
  have e2 : (py_o ((i : Int) + 2)).toNatClampNeg = i + 2 := by rw [py_nat (by omega)]; omega
  obtain ⟨s', t', r, o1, o2, o3⟩ := ph_callThing h ra rb
  unfold jL_law_765 eL_thing
  try simp only [py_O_ap, py_l0, py_l1, py_l2, py_l3, py_l4, py_l5, py_l6, py_l7, py_l8, py_l9, py_l12, py_l16, py_l32, py_l40, py_l100, py_l640, py_l1280, py_neg, py_add, py_sub, py_mul, py_stO]
  simp only [e1, e2, ha, hb, py_n0]
  refine py_and (py_and ?_)
  rcases o3 with ⟨z1, z2⟩ | ⟨k, hk, z1, z3, z2⟩
  · refine z2 _ _ (py_and ?_)
    try simp only [py_O_ap, py_l0, py_l1, py_l2, py_l3, py_l4, py_l5, py_l6, py_l7, py_l8, py_l9, py_l12, py_l16, py_l32, py_l40, py_l100, py_l640, py_l1280, py_neg, py_add, py_sub, py_mul, py_stO]
    refine py_and (py_and ?_)
    refine o2 _ ?_
    unfold eX5_thrown
    try simp only [py_O_ap, py_l0, py_l1, py_l2, py_l3, py_l4, py_l5, py_l6, py_l7, py_l8, py_l9, py_l12, py_l16, py_l32, py_l40, py_l100, py_l640, py_l1280, py_neg, py_add, py_sub, py_mul, py_stO]
    refine py_ieq (fun _ => ?_) (fun e => absurd z1 e)
    refine py_and ?_
    simp only [py_se, pl_cmp, if_true]
    exact hR _ _ o1.out
  · have hk3 : k = 0 ∨ k = 1 ∨ k = 2 := by omega
    rcases hk3 with e | e | e
    · subst e
      have z1 : t' 60 0 = 1 := z1
      refine z2 _ _ ?_
      simp only [if_true, if_false, Nat.reduceEqDiff, (show ¬ (1 = 0) by decide), (show ¬ (2 = 0) by decide), (show ¬ (2 = 1) by decide)]
      try simp only [py_O_ap, py_l0, py_l1, py_l2, py_l3, py_l4, py_l5, py_l6, py_l7, py_l8, py_l9, py_l12, py_l16, py_l32, py_l40, py_l100, py_l640, py_l1280, py_neg, py_add, py_sub, py_mul, py_stO]
      refine py_and (py_and ?_)
      refine o2 _ ?_
      unfold eX5_thrown
      try simp only [py_O_ap, py_l0, py_l1, py_l2, py_l3, py_l4, py_l5, py_l6, py_l7, py_l8, py_l9, py_l12, py_l16, py_l32, py_l40, py_l100, py_l640, py_l1280, py_neg, py_add, py_sub, py_mul, py_stO]
      refine py_ieq (fun _ => ?_) (fun e => absurd z1 e)
      exact py_ieq (fun e => absurd e (by decide)) (fun _ => hR _ _ o1)
    · subst e
      have z1 : t' 60 0 = 2 := z1
      refine z2 _ _ ?_
      simp only [if_true, if_false, Nat.reduceEqDiff, (show ¬ (1 = 0) by decide), (show ¬ (2 = 0) by decide), (show ¬ (2 = 1) by decide)]
      try simp only [py_O_ap, py_l0, py_l1, py_l2, py_l3, py_l4, py_l5, py_l6, py_l7, py_l8, py_l9, py_l12, py_l16, py_l32, py_l40, py_l100, py_l640, py_l1280, py_neg, py_add, py_sub, py_mul, py_stO]
      refine py_and (py_and ?_)
      refine o2 _ ?_
      unfold eX5_thrown
      try simp only [py_O_ap, py_l0, py_l1, py_l2, py_l3, py_l4, py_l5, py_l6, py_l7, py_l8, py_l9, py_l12, py_l16, py_l32, py_l40, py_l100, py_l640, py_l1280, py_neg, py_add, py_sub, py_mul, py_stO]
      refine py_ieq (fun _ => ?_) (fun e => absurd z1 e)
      exact py_ieq (fun e => absurd e (by decide)) (fun _ => hR _ _ o1)
    · subst e
      exact absurd z3.1 (by decide)
theorem pl_833 {xs : Nat → Int32} {L : Nat} {R : Int32 → ty_S → ty_S → Prop} {s t : py_Z} {n : Nat} {m : Int} (h : ph_R s t n m) (hn : n < 400) (hm : m < 90000) {i : Nat} (hi : i + 4 ≤ L) (hL : L ≤ 256) (hR : ∀ s' t' : py_Z, ph_R s' t' (n + 1) (m + 101) → R (py_o ((i : Int) + 4)) (py_O s') (py_O t')) : jL_law_833 xs L R (py_o i) (py_O s) (py_O t) := by
  obtain ⟨a, ha, ra⟩ := py_all (xs (i + 1))
  have e1 : (py_o ((i : Int) + 1)).toNatClampNeg = i + 1 := by rw [py_nat (by omega)]; omega
  obtain ⟨b, hb, rb⟩ := py_all (xs (i + 2))
  have e2 : (py_o ((i : Int) + 2)).toNatClampNeg = i + 2 := by rw [py_nat (by omega)]; omega
  obtain ⟨s', t', r, o1, o2, o3⟩ := ph_callLabel h ra rb
  unfold jL_law_833 eL_label
  try simp only [py_O_ap, py_l0, py_l1, py_l2, py_l3, py_l4, py_l5, py_l6, py_l7, py_l8, py_l9, py_l12, py_l16, py_l32, py_l40, py_l100, py_l640, py_l1280, py_neg, py_add, py_sub, py_mul, py_stO]
  simp only [e1, e2, ha, hb, py_n0]
  refine py_and (py_and ?_)
  rcases o3 with ⟨z1, z2⟩ | ⟨k, hk, z1, z3, z2⟩
  · refine z2 _ _ (py_and ?_)
    try simp only [py_O_ap, py_l0, py_l1, py_l2, py_l3, py_l4, py_l5, py_l6, py_l7, py_l8, py_l9, py_l12, py_l16, py_l32, py_l40, py_l100, py_l640, py_l1280, py_neg, py_add, py_sub, py_mul, py_stO]
    refine py_and (py_and ?_)
    refine o2 _ ?_
    unfold eX5_thrown
    try simp only [py_O_ap, py_l0, py_l1, py_l2, py_l3, py_l4, py_l5, py_l6, py_l7, py_l8, py_l9, py_l12, py_l16, py_l32, py_l40, py_l100, py_l640, py_l1280, py_neg, py_add, py_sub, py_mul, py_stO]
    refine py_ieq (fun _ => ?_) (fun e => absurd z1 e)
    refine py_and ?_
    simp only [py_se, pl_cmp, if_true]
    exact hR _ _ o1.out
  · have hk3 : k = 0 ∨ k = 1 ∨ k = 2 := by omega
    rcases hk3 with e | e | e
    · subst e
      have z1 : t' 60 0 = 1 := z1
      refine z2 _ _ ?_
      simp only [if_true, if_false, Nat.reduceEqDiff, (show ¬ (1 = 0) by decide), (show ¬ (2 = 0) by decide), (show ¬ (2 = 1) by decide)]
      try simp only [py_O_ap, py_l0, py_l1, py_l2, py_l3, py_l4, py_l5, py_l6, py_l7, py_l8, py_l9, py_l12, py_l16, py_l32, py_l40, py_l100, py_l640, py_l1280, py_neg, py_add, py_sub, py_mul, py_stO]
      refine py_and (py_and ?_)
      refine o2 _ ?_
      unfold eX5_thrown
      try simp only [py_O_ap, py_l0, py_l1, py_l2, py_l3, py_l4, py_l5, py_l6, py_l7, py_l8, py_l9, py_l12, py_l16, py_l32, py_l40, py_l100, py_l640, py_l1280, py_neg, py_add, py_sub, py_mul, py_stO]
      refine py_ieq (fun _ => ?_) (fun e => absurd z1 e)
      exact py_ieq (fun e => absurd e (by decide)) (fun _ => hR _ _ o1)
    · subst e
      have z1 : t' 60 0 = 2 := z1
      refine z2 _ _ ?_
      simp only [if_true, if_false, Nat.reduceEqDiff, (show ¬ (1 = 0) by decide), (show ¬ (2 = 0) by decide), (show ¬ (2 = 1) by decide)]
      try simp only [py_O_ap, py_l0, py_l1, py_l2, py_l3, py_l4, py_l5, py_l6, py_l7, py_l8, py_l9, py_l12, py_l16, py_l32, py_l40, py_l100, py_l640, py_l1280, py_neg, py_add, py_sub, py_mul, py_stO]
      refine py_and (py_and ?_)
      refine o2 _ ?_
      unfold eX5_thrown
      try simp only [py_O_ap, py_l0, py_l1, py_l2, py_l3, py_l4, py_l5, py_l6, py_l7, py_l8, py_l9, py_l12, py_l16, py_l32, py_l40, py_l100, py_l640, py_l1280, py_neg, py_add, py_sub, py_mul, py_stO]
      refine py_ieq (fun _ => ?_) (fun e => absurd z1 e)
      exact py_ieq (fun e => absurd e (by decide)) (fun _ => hR _ _ o1)
    · subst e
      have z1 : t' 60 0 = 3 := z1
      refine z2 _ _ ?_
      simp only [if_true, if_false, Nat.reduceEqDiff, (show ¬ (1 = 0) by decide), (show ¬ (2 = 0) by decide), (show ¬ (2 = 1) by decide)]
      try simp only [py_O_ap, py_l0, py_l1, py_l2, py_l3, py_l4, py_l5, py_l6, py_l7, py_l8, py_l9, py_l12, py_l16, py_l32, py_l40, py_l100, py_l640, py_l1280, py_neg, py_add, py_sub, py_mul, py_stO]
      refine py_and (py_and ?_)
      refine o2 _ ?_
      unfold eX5_thrown
      try simp only [py_O_ap, py_l0, py_l1, py_l2, py_l3, py_l4, py_l5, py_l6, py_l7, py_l8, py_l9, py_l12, py_l16, py_l32, py_l40, py_l100, py_l640, py_l1280, py_neg, py_add, py_sub, py_mul, py_stO]
      refine py_ieq (fun _ => ?_) (fun e => absurd z1 e)
      exact py_ieq (fun e => absurd e (by decide)) (fun _ => hR _ _ o1)
theorem pl_901 {xs : Nat → Int32} {L : Nat} {R : Int32 → ty_S → ty_S → Prop} {s t : py_Z} {n : Nat} {m : Int} (h : ph_R s t n m) (hn : n < 400) (hm : m < 90000) {i : Nat} (hi : i + 4 ≤ L) (hL : L ≤ 256) (hR : ∀ s' t' : py_Z, ph_R s' t' (n + 1) (m + 101) → R (py_o ((i : Int) + 4)) (py_O s') (py_O t')) : jL_law_901 xs L R (py_o i) (py_O s) (py_O t) := by
  obtain ⟨a, ha, ra⟩ := py_all (xs (i + 1))
  have e1 : (py_o ((i : Int) + 1)).toNatClampNeg = i + 1 := by rw [py_nat (by omega)]; omega
  obtain ⟨b, hb, rb⟩ := py_all (xs (i + 2))
  have e2 : (py_o ((i : Int) + 2)).toNatClampNeg = i + 2 := by rw [py_nat (by omega)]; omega
  obtain ⟨s', t', r, o1, o2, o3⟩ := ph_callTrain h ra rb
  unfold jL_law_901 eL_train
  try simp only [py_O_ap, py_l0, py_l1, py_l2, py_l3, py_l4, py_l5, py_l6, py_l7, py_l8, py_l9, py_l12, py_l16, py_l32, py_l40, py_l100, py_l640, py_l1280, py_neg, py_add, py_sub, py_mul, py_stO]
  simp only [e1, e2, ha, hb, py_n0]
  refine py_and (py_and ?_)
  rcases o3 with ⟨z1, z2⟩ | ⟨k, hk, z1, z3, z2⟩
  · refine z2 _ _ (py_and ?_)
    try simp only [py_O_ap, py_l0, py_l1, py_l2, py_l3, py_l4, py_l5, py_l6, py_l7, py_l8, py_l9, py_l12, py_l16, py_l32, py_l40, py_l100, py_l640, py_l1280, py_neg, py_add, py_sub, py_mul, py_stO]
    refine py_and (py_and ?_)
    refine o2 _ ?_
    unfold eX5_thrown
    try simp only [py_O_ap, py_l0, py_l1, py_l2, py_l3, py_l4, py_l5, py_l6, py_l7, py_l8, py_l9, py_l12, py_l16, py_l32, py_l40, py_l100, py_l640, py_l1280, py_neg, py_add, py_sub, py_mul, py_stO]
    refine py_ieq (fun _ => ?_) (fun e => absurd z1 e)
    refine py_and ?_
    simp only [py_se, pl_cmp, if_true]
    exact hR _ _ o1.out
  · have hk3 : k = 0 ∨ k = 1 ∨ k = 2 := by omega
    rcases hk3 with e | e | e
    · subst e
      have z1 : t' 60 0 = 1 := z1
      refine z2 _ _ ?_
      simp only [if_true, if_false, Nat.reduceEqDiff, (show ¬ (1 = 0) by decide), (show ¬ (2 = 0) by decide), (show ¬ (2 = 1) by decide)]
      try simp only [py_O_ap, py_l0, py_l1, py_l2, py_l3, py_l4, py_l5, py_l6, py_l7, py_l8, py_l9, py_l12, py_l16, py_l32, py_l40, py_l100, py_l640, py_l1280, py_neg, py_add, py_sub, py_mul, py_stO]
      refine py_and (py_and ?_)
      refine o2 _ ?_
      unfold eX5_thrown
      try simp only [py_O_ap, py_l0, py_l1, py_l2, py_l3, py_l4, py_l5, py_l6, py_l7, py_l8, py_l9, py_l12, py_l16, py_l32, py_l40, py_l100, py_l640, py_l1280, py_neg, py_add, py_sub, py_mul, py_stO]
      refine py_ieq (fun _ => ?_) (fun e => absurd z1 e)
      exact py_ieq (fun e => absurd e (by decide)) (fun _ => hR _ _ o1)
    · subst e
      exact absurd z3.1 (by decide)
    · subst e
      exact absurd z3.1 (by decide)
theorem pl_969 {xs : Nat → Int32} {L : Nat} {R : Int32 → ty_S → ty_S → Prop} {s t : py_Z} {n : Nat} {m : Int} (h : ph_R s t n m) (hn : n < 400) (hm : m < 90000) {i : Nat} (hi : i + 4 ≤ L) (hL : L ≤ 256) (hR : ∀ s' t' : py_Z, ph_R s' t' (n + 1) (m + 101) → R (py_o ((i : Int) + 4)) (py_O s') (py_O t')) : jL_law_969 xs L R (py_o i) (py_O s) (py_O t) := by
  obtain ⟨a, ha, ra⟩ := py_all (xs (i + 1))
  have e1 : (py_o ((i : Int) + 1)).toNatClampNeg = i + 1 := by rw [py_nat (by omega)]; omega
  obtain ⟨b, hb, rb⟩ := py_all (xs (i + 2))
  have e2 : (py_o ((i : Int) + 2)).toNatClampNeg = i + 2 := by rw [py_nat (by omega)]; omega
  obtain ⟨s', t', r, o1, o2, o3⟩ := ph_callCar h ra rb
  unfold jL_law_969 eL_car
  try simp only [py_O_ap, py_l0, py_l1, py_l2, py_l3, py_l4, py_l5, py_l6, py_l7, py_l8, py_l9, py_l12, py_l16, py_l32, py_l40, py_l100, py_l640, py_l1280, py_neg, py_add, py_sub, py_mul, py_stO]
  simp only [e1, e2, ha, hb, py_n0]
  refine py_and (py_and ?_)
  rcases o3 with ⟨z1, z2⟩ | ⟨k, hk, z1, z3, z2⟩
  · refine z2 _ _ (py_and ?_)
    try simp only [py_O_ap, py_l0, py_l1, py_l2, py_l3, py_l4, py_l5, py_l6, py_l7, py_l8, py_l9, py_l12, py_l16, py_l32, py_l40, py_l100, py_l640, py_l1280, py_neg, py_add, py_sub, py_mul, py_stO]
    refine py_and (py_and ?_)
    refine o2 _ ?_
    unfold eX5_thrown
    try simp only [py_O_ap, py_l0, py_l1, py_l2, py_l3, py_l4, py_l5, py_l6, py_l7, py_l8, py_l9, py_l12, py_l16, py_l32, py_l40, py_l100, py_l640, py_l1280, py_neg, py_add, py_sub, py_mul, py_stO]
    refine py_ieq (fun _ => ?_) (fun e => absurd z1 e)
    refine py_and ?_
    simp only [py_se, pl_cmp, if_true]
    exact hR _ _ o1.out
  · have hk3 : k = 0 ∨ k = 1 ∨ k = 2 := by omega
    rcases hk3 with e | e | e
    · subst e
      have z1 : t' 60 0 = 1 := z1
      refine z2 _ _ ?_
      simp only [if_true, if_false, Nat.reduceEqDiff, (show ¬ (1 = 0) by decide), (show ¬ (2 = 0) by decide), (show ¬ (2 = 1) by decide)]
      try simp only [py_O_ap, py_l0, py_l1, py_l2, py_l3, py_l4, py_l5, py_l6, py_l7, py_l8, py_l9, py_l12, py_l16, py_l32, py_l40, py_l100, py_l640, py_l1280, py_neg, py_add, py_sub, py_mul, py_stO]
      refine py_and (py_and ?_)
      refine o2 _ ?_
      unfold eX5_thrown
      try simp only [py_O_ap, py_l0, py_l1, py_l2, py_l3, py_l4, py_l5, py_l6, py_l7, py_l8, py_l9, py_l12, py_l16, py_l32, py_l40, py_l100, py_l640, py_l1280, py_neg, py_add, py_sub, py_mul, py_stO]
      refine py_ieq (fun _ => ?_) (fun e => absurd z1 e)
      exact py_ieq (fun e => absurd e (by decide)) (fun _ => hR _ _ o1)
    · subst e
      exact absurd z3.1 (by decide)
    · subst e
      exact absurd z3.1 (by decide)
theorem pl_1037 {xs : Nat → Int32} {L : Nat} {R : Int32 → ty_S → ty_S → Prop} {s t : py_Z} {n : Nat} {m : Int} (h : ph_R s t n m) (hn : n < 400) (hm : m < 90000) {i : Nat} (hi : i + 4 ≤ L) (hL : L ≤ 256) (hR : ∀ s' t' : py_Z, ph_R s' t' (n + 1) (m + 101) → R (py_o ((i : Int) + 4)) (py_O s') (py_O t')) : jL_law_1037 xs L R (py_o i) (py_O s) (py_O t) := by
  obtain ⟨a, ha, ra⟩ := py_all (xs (i + 1))
  have e1 : (py_o ((i : Int) + 1)).toNatClampNeg = i + 1 := by rw [py_nat (by omega)]; omega
  obtain ⟨b, hb, rb⟩ := py_all (xs (i + 2))
  have e2 : (py_o ((i : Int) + 2)).toNatClampNeg = i + 2 := by rw [py_nat (by omega)]; omega
  obtain ⟨s', t', r, o1, o2, o3⟩ := ph_callAbout h ra rb
  unfold jL_law_1037 eL_about
  try simp only [py_O_ap, py_l0, py_l1, py_l2, py_l3, py_l4, py_l5, py_l6, py_l7, py_l8, py_l9, py_l12, py_l16, py_l32, py_l40, py_l100, py_l640, py_l1280, py_neg, py_add, py_sub, py_mul, py_stO]
  simp only [e1, e2, ha, hb, py_n0]
  refine py_and (py_and ?_)
  rcases o3 with ⟨z1, z2⟩ | ⟨k, hk, z1, z3, z2⟩
  · refine z2 _ _ (py_and ?_)
    try simp only [py_O_ap, py_l0, py_l1, py_l2, py_l3, py_l4, py_l5, py_l6, py_l7, py_l8, py_l9, py_l12, py_l16, py_l32, py_l40, py_l100, py_l640, py_l1280, py_neg, py_add, py_sub, py_mul, py_stO]
    refine py_and (py_and ?_)
    refine o2 _ ?_
    unfold eX5_thrown
    try simp only [py_O_ap, py_l0, py_l1, py_l2, py_l3, py_l4, py_l5, py_l6, py_l7, py_l8, py_l9, py_l12, py_l16, py_l32, py_l40, py_l100, py_l640, py_l1280, py_neg, py_add, py_sub, py_mul, py_stO]
    refine py_ieq (fun _ => ?_) (fun e => absurd z1 e)
    refine py_and ?_
    simp only [py_se, pl_cmp, if_true]
    exact hR _ _ o1.out
  · have hk3 : k = 0 ∨ k = 1 ∨ k = 2 := by omega
    rcases hk3 with e | e | e
    · subst e
      have z1 : t' 60 0 = 1 := z1
      refine z2 _ _ ?_
      simp only [if_true, if_false, Nat.reduceEqDiff, (show ¬ (1 = 0) by decide), (show ¬ (2 = 0) by decide), (show ¬ (2 = 1) by decide)]
      try simp only [py_O_ap, py_l0, py_l1, py_l2, py_l3, py_l4, py_l5, py_l6, py_l7, py_l8, py_l9, py_l12, py_l16, py_l32, py_l40, py_l100, py_l640, py_l1280, py_neg, py_add, py_sub, py_mul, py_stO]
      refine py_and (py_and ?_)
      refine o2 _ ?_
      unfold eX5_thrown
      try simp only [py_O_ap, py_l0, py_l1, py_l2, py_l3, py_l4, py_l5, py_l6, py_l7, py_l8, py_l9, py_l12, py_l16, py_l32, py_l40, py_l100, py_l640, py_l1280, py_neg, py_add, py_sub, py_mul, py_stO]
      refine py_ieq (fun _ => ?_) (fun e => absurd z1 e)
      exact py_ieq (fun e => absurd e (by decide)) (fun _ => hR _ _ o1)
    · subst e
      exact absurd z3.1 (by decide)
    · subst e
      exact absurd z3.1 (by decide)
theorem pl_1105 {xs : Nat → Int32} {L : Nat} {R : Int32 → ty_S → ty_S → Prop} {s t : py_Z} {n : Nat} {m : Int} (h : ph_R s t n m) (hn : n < 400) (hm : m < 90000) {i : Nat} (hi : i + 4 ≤ L) (hL : L ≤ 256) (hR : ∀ s' t' : py_Z, ph_R s' t' (n + 1) (m + 101) → R (py_o ((i : Int) + 4)) (py_O s') (py_O t')) : jL_law_1105 xs L R (py_o i) (py_O s) (py_O t) := by
  obtain ⟨a, ha, ra⟩ := py_all (xs (i + 1))
  have e1 : (py_o ((i : Int) + 1)).toNatClampNeg = i + 1 := by rw [py_nat (by omega)]; omega
  obtain ⟨b, hb, rb⟩ := py_all (xs (i + 2))
  have e2 : (py_o ((i : Int) + 2)).toNatClampNeg = i + 2 := by rw [py_nat (by omega)]; omega
  obtain ⟨s', t', r, o1, o2, o3⟩ := ph_callRemembered h ra rb
  unfold jL_law_1105 eL_remembered
  try simp only [py_O_ap, py_l0, py_l1, py_l2, py_l3, py_l4, py_l5, py_l6, py_l7, py_l8, py_l9, py_l12, py_l16, py_l32, py_l40, py_l100, py_l640, py_l1280, py_neg, py_add, py_sub, py_mul, py_stO]
  simp only [e1, e2, ha, hb, py_n0]
  refine py_and (py_and ?_)
  rcases o3 with ⟨z1, z2⟩ | ⟨k, hk, z1, z3, z2⟩
  · refine z2 _ _ (py_and ?_)
    try simp only [py_O_ap, py_l0, py_l1, py_l2, py_l3, py_l4, py_l5, py_l6, py_l7, py_l8, py_l9, py_l12, py_l16, py_l32, py_l40, py_l100, py_l640, py_l1280, py_neg, py_add, py_sub, py_mul, py_stO]
    refine py_and (py_and ?_)
    refine o2 _ ?_
    unfold eX5_thrown
    try simp only [py_O_ap, py_l0, py_l1, py_l2, py_l3, py_l4, py_l5, py_l6, py_l7, py_l8, py_l9, py_l12, py_l16, py_l32, py_l40, py_l100, py_l640, py_l1280, py_neg, py_add, py_sub, py_mul, py_stO]
    refine py_ieq (fun _ => ?_) (fun e => absurd z1 e)
    refine py_and ?_
    simp only [py_se, pl_cmp, if_true]
    exact hR _ _ o1.out
  · have hk3 : k = 0 ∨ k = 1 ∨ k = 2 := by omega
    rcases hk3 with e | e | e
    · subst e
      have z1 : t' 60 0 = 1 := z1
      refine z2 _ _ ?_
      simp only [if_true, if_false, Nat.reduceEqDiff, (show ¬ (1 = 0) by decide), (show ¬ (2 = 0) by decide), (show ¬ (2 = 1) by decide)]
      try simp only [py_O_ap, py_l0, py_l1, py_l2, py_l3, py_l4, py_l5, py_l6, py_l7, py_l8, py_l9, py_l12, py_l16, py_l32, py_l40, py_l100, py_l640, py_l1280, py_neg, py_add, py_sub, py_mul, py_stO]
      refine py_and (py_and ?_)
      refine o2 _ ?_
      unfold eX5_thrown
      try simp only [py_O_ap, py_l0, py_l1, py_l2, py_l3, py_l4, py_l5, py_l6, py_l7, py_l8, py_l9, py_l12, py_l16, py_l32, py_l40, py_l100, py_l640, py_l1280, py_neg, py_add, py_sub, py_mul, py_stO]
      refine py_ieq (fun _ => ?_) (fun e => absurd z1 e)
      exact py_ieq (fun e => absurd e (by decide)) (fun _ => hR _ _ o1)
    · subst e
      exact absurd z3.1 (by decide)
    · subst e
      exact absurd z3.1 (by decide)
theorem pl_1173 {xs : Nat → Int32} {L : Nat} {R : Int32 → ty_S → ty_S → Prop} {s t : py_Z} {n : Nat} {m : Int} (h : ph_R s t n m) (hn : n < 400) (hm : m < 90000) {i : Nat} (hi : i + 4 ≤ L) (hL : L ≤ 256) (hR : ∀ s' t' : py_Z, ph_R s' t' (n + 1) (m + 101) → R (py_o ((i : Int) + 4)) (py_O s') (py_O t')) : jL_law_1173 xs L R (py_o i) (py_O s) (py_O t) := by
  obtain ⟨a, ha, ra⟩ := py_all (xs (i + 1))
  have e1 : (py_o ((i : Int) + 1)).toNatClampNeg = i + 1 := by rw [py_nat (by omega)]; omega
  obtain ⟨s', t', r, o1, o2, o3⟩ := ph_callWord h ra
  unfold jL_law_1173 eL_word
  try simp only [py_O_ap, py_l0, py_l1, py_l2, py_l3, py_l4, py_l5, py_l6, py_l7, py_l8, py_l9, py_l12, py_l16, py_l32, py_l40, py_l100, py_l640, py_l1280, py_neg, py_add, py_sub, py_mul, py_stO]
  simp only [e1, ha, py_n0]
  refine py_and ?_
  rcases o3 with ⟨z1, z2⟩ | ⟨k, hk, z1, z3, z2⟩
  · refine z2 _ _ (py_and ?_)
    try simp only [py_O_ap, py_l0, py_l1, py_l2, py_l3, py_l4, py_l5, py_l6, py_l7, py_l8, py_l9, py_l12, py_l16, py_l32, py_l40, py_l100, py_l640, py_l1280, py_neg, py_add, py_sub, py_mul, py_stO]
    refine py_and ?_
    refine o2 _ ?_
    unfold eX5_thrown
    try simp only [py_O_ap, py_l0, py_l1, py_l2, py_l3, py_l4, py_l5, py_l6, py_l7, py_l8, py_l9, py_l12, py_l16, py_l32, py_l40, py_l100, py_l640, py_l1280, py_neg, py_add, py_sub, py_mul, py_stO]
    refine py_ieq (fun _ => ?_) (fun e => absurd z1 e)
    refine py_and ?_
    simp only [py_se, pl_cmp, if_true]
    exact hR _ _ o1.out
  · have hk3 : k = 0 ∨ k = 1 ∨ k = 2 := by omega
    rcases hk3 with e | e | e
    · subst e
      have z1 : t' 60 0 = 1 := z1
      refine z2 _ _ ?_
      simp only [if_true, if_false, Nat.reduceEqDiff, (show ¬ (1 = 0) by decide), (show ¬ (2 = 0) by decide), (show ¬ (2 = 1) by decide)]
      try simp only [py_O_ap, py_l0, py_l1, py_l2, py_l3, py_l4, py_l5, py_l6, py_l7, py_l8, py_l9, py_l12, py_l16, py_l32, py_l40, py_l100, py_l640, py_l1280, py_neg, py_add, py_sub, py_mul, py_stO]
      refine py_and ?_
      refine o2 _ ?_
      unfold eX5_thrown
      try simp only [py_O_ap, py_l0, py_l1, py_l2, py_l3, py_l4, py_l5, py_l6, py_l7, py_l8, py_l9, py_l12, py_l16, py_l32, py_l40, py_l100, py_l640, py_l1280, py_neg, py_add, py_sub, py_mul, py_stO]
      refine py_ieq (fun _ => ?_) (fun e => absurd z1 e)
      exact py_ieq (fun e => absurd e (by decide)) (fun _ => hR _ _ o1)
    · subst e
      exact absurd z3.1 (by decide)
    · subst e
      exact absurd z3.1 (by decide)
theorem pl_1229 {xs : Nat → Int32} {L : Nat} {R : Int32 → ty_S → ty_S → Prop} {s t : py_Z} {n : Nat} {m : Int} (h : ph_R s t n m) (hn : n < 400) (hm : m < 90000) {i : Nat} (hi : i + 4 ≤ L) (hL : L ≤ 256) (hR : ∀ s' t' : py_Z, ph_R s' t' (n + 1) (m + 101) → R (py_o ((i : Int) + 4)) (py_O s') (py_O t')) : jL_law_1229 xs L R (py_o i) (py_O s) (py_O t) := by
  obtain ⟨s', t', r, o1, o2, o3⟩ := ph_callReached h (by omega)
  unfold jL_law_1229
  refine o1 _ ?_
  refine o2 _ ?_
  rw [if_pos rfl, py_l4, py_add]
  exact hR _ _ o3
theorem pl_1242 {xs : Nat → Int32} {L : Nat} {R : Int32 → ty_S → ty_S → Prop} {s t : py_Z} {n : Nat} {m : Int} (h : ph_R s t n m) (hn : n < 400) (hm : m < 90000) {i : Nat} (hi : i + 4 ≤ L) (hL : L ≤ 256) (hR : ∀ s' t' : py_Z, ph_R s' t' (n + 1) (m + 101) → R (py_o ((i : Int) + 4)) (py_O s') (py_O t')) : jL_law_1242 xs L R (py_o i) (py_O s) (py_O t) := by
  obtain ⟨a, ha, ra⟩ := py_all (xs (i + 1))
  have e1 : (py_o ((i : Int) + 1)).toNatClampNeg = i + 1 := by rw [py_nat (by omega)]; omega
  obtain ⟨s', t', r, o1, o2, o3⟩ := ph_callTold h ra
  unfold jL_law_1242 eL_told
  try simp only [py_O_ap, py_l0, py_l1, py_l2, py_l3, py_l4, py_l5, py_l6, py_l7, py_l8, py_l9, py_l12, py_l16, py_l32, py_l40, py_l100, py_l640, py_l1280, py_neg, py_add, py_sub, py_mul, py_stO]
  simp only [e1, ha, py_n0]
  refine py_and ?_
  rcases o3 with ⟨z1, z2⟩ | ⟨k, hk, z1, z3, z2⟩
  · refine z2 _ _ (py_and ?_)
    try simp only [py_O_ap, py_l0, py_l1, py_l2, py_l3, py_l4, py_l5, py_l6, py_l7, py_l8, py_l9, py_l12, py_l16, py_l32, py_l40, py_l100, py_l640, py_l1280, py_neg, py_add, py_sub, py_mul, py_stO]
    refine py_and ?_
    refine o2 _ ?_
    unfold eX5_thrown
    try simp only [py_O_ap, py_l0, py_l1, py_l2, py_l3, py_l4, py_l5, py_l6, py_l7, py_l8, py_l9, py_l12, py_l16, py_l32, py_l40, py_l100, py_l640, py_l1280, py_neg, py_add, py_sub, py_mul, py_stO]
    refine py_ieq (fun _ => ?_) (fun e => absurd z1 e)
    refine py_and ?_
    simp only [py_se, pl_cmp, if_true]
    exact hR _ _ o1.out
  · have hk3 : k = 0 ∨ k = 1 ∨ k = 2 := by omega
    rcases hk3 with e | e | e
    · subst e
      have z1 : t' 60 0 = 1 := z1
      refine z2 _ _ ?_
      simp only [if_true, if_false, Nat.reduceEqDiff, (show ¬ (1 = 0) by decide), (show ¬ (2 = 0) by decide), (show ¬ (2 = 1) by decide)]
      try simp only [py_O_ap, py_l0, py_l1, py_l2, py_l3, py_l4, py_l5, py_l6, py_l7, py_l8, py_l9, py_l12, py_l16, py_l32, py_l40, py_l100, py_l640, py_l1280, py_neg, py_add, py_sub, py_mul, py_stO]
      refine py_and ?_
      refine o2 _ ?_
      unfold eX5_thrown
      try simp only [py_O_ap, py_l0, py_l1, py_l2, py_l3, py_l4, py_l5, py_l6, py_l7, py_l8, py_l9, py_l12, py_l16, py_l32, py_l40, py_l100, py_l640, py_l1280, py_neg, py_add, py_sub, py_mul, py_stO]
      refine py_ieq (fun _ => ?_) (fun e => absurd z1 e)
      exact py_ieq (fun e => absurd e (by decide)) (fun _ => hR _ _ o1)
    · subst e
      exact absurd z3.1 (by decide)
    · subst e
      exact absurd z3.1 (by decide)
theorem pl_ite {c : Prop} [Decidable c] {A B : Prop} (hA : A) (hB : B) : if c then A else B := by split <;> assumption
theorem pl_nat {L : Nat} : Int32.ofNat L = py_o L := by
  apply Int32.toBitVec_inj.mp
  simp [py_o]
theorem pl_law {xs : Nat → Int32} {L : Nat} (hL : L ≤ 256) : ∀ (f n : Nat) (s t : py_Z), n + f = 66 → ph_R s t n (101 * n) → n ≤ 65 → lL_law xs L f (py_o ((4 * n : Nat) : Int)) (py_O s) (py_O t) := by
  intro f
  induction f with
  | zero => intro n s t hf h hn; omega
  | succ f ih =>
    intro n s t hf h hn
    show jL_law_23 xs L (fun a S9 T9 => lL_law xs L f a S9 T9) (py_o ((4 * n : Nat) : Int)) (py_O s) (py_O t)
    unfold jL_law_23
    rw [pl_nat, py_l4, py_sub]
    refine py_ilt (fun _ => True.intro) (fun c => py_and ?_)
    have hi : 4 * n + 4 ≤ L := by omega
    have hR : ∀ s' t' : py_Z, ph_R s' t' (n + 1) (101 * n + 101) → lL_law xs L f (py_o (((4 * n : Nat) : Int) + 4)) (py_O s') (py_O t') := fun s' t' h' => by
      have := ih (n + 1) s' t' (by omega) (h'.mono (Nat.le_refl _) (by omega)) (by omega)
      rw [show ((4 * (n + 1) : Nat) : Int) = ((4 * n : Nat) : Int) + 4 by omega] at this
      exact this
    refine pl_ite (pl_128 (R := fun a S9 T9 => lL_law xs L f a S9 T9) h (by omega) (by omega) hi hL hR) ?_
    refine pl_ite (pl_184 (R := fun a S9 T9 => lL_law xs L f a S9 T9) h (by omega) (by omega) hi hL hR) ?_
    refine pl_ite (pl_264 (R := fun a S9 T9 => lL_law xs L f a S9 T9) h (by omega) (by omega) hi hL hR) ?_
    refine pl_ite (pl_332 (R := fun a S9 T9 => lL_law xs L f a S9 T9) h (by omega) (by omega) hi hL hR) ?_
    refine pl_ite (pl_388 (R := fun a S9 T9 => lL_law xs L f a S9 T9) h (by omega) (by omega) hi hL hR) ?_
    refine pl_ite (pl_468 (R := fun a S9 T9 => lL_law xs L f a S9 T9) h (by omega) (by omega) hi hL hR) ?_
    refine pl_ite (pl_548 (R := fun a S9 T9 => lL_law xs L f a S9 T9) h (by omega) (by omega) hi hL hR) ?_
    refine pl_ite (pl_628 (R := fun a S9 T9 => lL_law xs L f a S9 T9) h (by omega) (by omega) hi hL hR) ?_
    refine pl_ite (pl_696 (R := fun a S9 T9 => lL_law xs L f a S9 T9) h (by omega) (by omega) hi hL hR) ?_
    refine pl_ite (pl_709 (R := fun a S9 T9 => lL_law xs L f a S9 T9) h (by omega) (by omega) hi hL hR) ?_
    refine pl_ite (pl_765 (R := fun a S9 T9 => lL_law xs L f a S9 T9) h (by omega) (by omega) hi hL hR) ?_
    refine pl_ite (pl_833 (R := fun a S9 T9 => lL_law xs L f a S9 T9) h (by omega) (by omega) hi hL hR) ?_
    refine pl_ite (pl_901 (R := fun a S9 T9 => lL_law xs L f a S9 T9) h (by omega) (by omega) hi hL hR) ?_
    refine pl_ite (pl_969 (R := fun a S9 T9 => lL_law xs L f a S9 T9) h (by omega) (by omega) hi hL hR) ?_
    refine pl_ite (pl_1037 (R := fun a S9 T9 => lL_law xs L f a S9 T9) h (by omega) (by omega) hi hL hR) ?_
    refine pl_ite (pl_1105 (R := fun a S9 T9 => lL_law xs L f a S9 T9) h (by omega) (by omega) hi hL hR) ?_
    refine pl_ite (pl_1173 (R := fun a S9 T9 => lL_law xs L f a S9 T9) h (by omega) (by omega) hi hL hR) ?_
    refine pl_ite (pl_1229 (R := fun a S9 T9 => lL_law xs L f a S9 T9) h (by omega) (by omega) hi hL hR) ?_
    refine pl_ite (pl_1242 (R := fun a S9 T9 => lL_law xs L f a S9 T9) h (by omega) (by omega) hi hL hR) ?_
    rw [py_add]
    exact hR s t (h.mono (by omega) (by omega))
/-- the class at first, the reference at first -/
def pl_s0 : py_Z := fun f i => if f = 7 then (if i < 16 then -1 else 0) else if f = 20 then -1 else if f = 23 then 4 else 0
def pl_t0 : py_Z := fun f i => if f = 43 then (if i < 16 then -1 else 0) else if f = 51 then 4 else if f = 59 then -1 else 0
theorem pl_start : ph_R pl_s0 pl_t0 0 0 := by
  have z : ∀ f i, f ≠ 7 → f ≠ 20 → f ≠ 23 → pl_s0 f i = 0 := fun f i a b c => by simp [pl_s0, a, b, c]
  have w : ∀ f i, f ≠ 43 → f ≠ 51 → f ≠ 59 → pl_t0 f i = 0 := fun f i a b c => by simp [pl_t0, a, b, c]
  have w38 : ∀ c, pl_t0 38 c = 0 := fun c => w 38 c (by decide) (by decide) (by decide)
  have w50 : pl_t0 50 0 = 0 := w 50 0 (by decide) (by decide) (by decide)
  refine ⟨⟨by omega, fun j hj => by omega, ?_, fun j k hj hk => by omega, fun j hj => by omega, fun i j _ hj => by omega, ?_, fun c hc h => absurd (z 6 c (by decide) (by decide) (by decide)) h, fun a b _ hb => ?_, ?_⟩, ⟨fun c hc => ?_, fun c k hc hk => ?_, fun p hp => Or.inl (z 1 p (by decide) (by decide) (by decide))⟩, ⟨?_, fun x hx => ?_, fun x hx hl => ?_, fun c k hc _ hk => ?_, fun r hr => ?_, fun x hx hl => ?_⟩, fun r hr => ?_, ?_, ?_, ?_, ?_, ?_, ?_⟩
  · rw [w50, z 13 0 (by decide) (by decide) (by decide)]; exact ⟨rfl, by omega⟩
  · rw [z 14 0 (by decide) (by decide) (by decide), w 57 0 (by decide) (by decide) (by decide)]; omega
  · rw [z 13 0 (by decide) (by decide) (by decide)] at hb; omega
  · rw [z 13 0 (by decide) (by decide) (by decide), py_cnt_none (fun k _ => by rw [z 6 k (by decide) (by decide) (by decide)]; decide)]; rfl
  · refine ⟨by rw [z 3 c (by decide) (by decide) (by decide), w38], by rw [z 2 c (by decide) (by decide) (by decide), w 37 c (by decide) (by decide) (by decide)], by rw [w38]; omega, by rw [w38, w 37 c (by decide) (by decide) (by decide)]; rfl, by rw [w 37 c (by decide) (by decide) (by decide)]; omega, fun _ => w38 c, fun h => by rw [w38] at h; omega, fun q _ _ => z 0 _ (by decide) (by decide) (by decide)⟩
  · rw [w38] at hk; omega
  · rw [w 58 0 (by decide) (by decide) (by decide)]; omega
  · rw [w 30 x (by decide) (by decide) (by decide), w 58 0 (by decide) (by decide) (by decide)]; exact ⟨by omega, by omega, fun _ => rfl⟩
  · rw [w 30 x (by decide) (by decide) (by decide)] at hl; omega
  · rw [w38] at hk; omega
  · exact Or.inl (by simp [pl_t0, hr])
  · rw [w 30 x (by decide) (by decide) (by decide)] at hl; omega
  · have e1 : pl_s0 7 r = -1 := by simp [pl_s0, hr]
    have e2 : pl_t0 43 r = -1 := by simp [pl_t0, hr]
    rw [e1, e2]; rfl
  · exact ⟨by simp [pl_s0], by simp [pl_t0]⟩
  · rw [z 15 0 (by decide) (by decide) (by decide), z 16 0 (by decide) (by decide) (by decide), z 17 0 (by decide) (by decide) (by decide), z 18 0 (by decide) (by decide) (by decide), z 19 0 (by decide) (by decide) (by decide), w 52 0 (by decide) (by decide) (by decide), w 53 0 (by decide) (by decide) (by decide), w 54 0 (by decide) (by decide) (by decide), w 55 0 (by decide) (by decide) (by decide), w 56 0 (by decide) (by decide) (by decide)]
    exact ⟨rfl, rfl, rfl, rfl, rfl⟩
  · have e1 : pl_s0 23 0 = 4 := by simp [pl_s0]
    have e2 : pl_t0 51 0 = 4 := by simp [pl_t0]
    rw [e1, e2]; omega
  · rw [z 24 0 (by decide) (by decide) (by decide), w 58 0 (by decide) (by decide) (by decide)]; exact ⟨rfl, by omega⟩
  · rw [w 57 0 (by decide) (by decide) (by decide)]; omega
  · rw [z 26 0 (by decide) (by decide) (by decide)]
    exact ⟨by omega, by omega, fun p _ => by rw [z 10 p (by decide) (by decide) (by decide)]; omega⟩
/-- the law's loop, over every script -/
theorem pl_main {xs : Nat → Int32} {L : Nat} (hL : L ≤ 256) : lL_law xs L 66 (py_o 0) (py_O pl_s0) (py_O pl_t0) := pl_law hL 66 0 pl_s0 pl_t0 rfl (pl_start.mono (Nat.le_refl _) (by omega)) (by omega)
end
