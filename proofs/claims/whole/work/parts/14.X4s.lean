abbrev rX4_isAmount : Room := { frames := 0, cells := 0, slots := 0, locals := 0 }
def eX4_isAmount (S : ty_S) (x0 : Int32) (K : ty_S → Int32 → Prop) : Prop :=
  (if x0 < (0 : Int32) then K S (0 : Int32) else (if (12 : Int32) < x0 then K S (0 : Int32) else K S (1 : Int32)))
set_option maxHeartbeats 4000000 in
set_option maxRecDepth 100000 in
theorem cX4_isAmount_C (l : Launch) (D : va_G) (cA : Nat → ClassId) (q : Nat → Nat) (S : ty_S) (x0 : Int32) (K : ty_S → Int32 → Prop) (h : eX4_isAmount S x0 K) : ∀ sz, Met l yX4_isAmount wsX4_isAmount rX4_isAmount (ty_Pc D cA q ty_LY S sz [.int x0]) (ty_Qi D cA q ty_LY sz K) 0 0 (ty_A q ty_LY.length sz) := by
  refine ty_ofM (ret := (some .boolean)) (maxL := 1) (cc := cX4_isAmount) (own := RX4) (Qc := fun sz => ty_Qi D cA q ty_LY sz K) (by decide +kernel) rfl (Nat.le_of_ble_eq_true rfl) rfl ?_
  intro p e s m args below meth c ls X hl Y
  have hx := X.1.1
  have hb := X.1.2.1
  have hl : lv_has ls 1 [(0, .int x0)] := hl
  unfold eX4_isAmount at h
  refine lv_iload_n hx hb dX4_isAmount_0 rfl (lv_at hl 0 rfl) ?_
  refine lv_if_lt (tgt := 14) hx hb dX4_isAmount_1 (by decide) (fun c9 => ?_) (fun c9 => ?_)
  · have h := ty_t h c9
    refine lv_iconst (v := (0 : Int32)) hx hb dX4_isAmount_14 (by decide) ?_
    exact ty_zret X Y h rfl dX4_isAmount_15
  · have h := ty_f h c9
    refine lv_iload_n hx hb dX4_isAmount_4 rfl (lv_at hl 0 rfl) ?_
    refine lv_bipush (v := (12 : Int32)) hx hb dX4_isAmount_5 (by decide) ?_
    refine lv_icmp_gt (tgt := 14) hx hb dX4_isAmount_7 (by decide) (fun c9 => ?_) (fun c9 => ?_)
    · have h := ty_t h c9
      refine lv_iconst (v := (0 : Int32)) hx hb dX4_isAmount_14 (by decide) ?_
      exact ty_zret X Y h rfl dX4_isAmount_15
    · have h := ty_f h c9
      refine lv_iconst (v := (1 : Int32)) hx hb dX4_isAmount_10 (by decide) ?_
      refine lv_goto (tgt := 15) hx hb dX4_isAmount_11 (by decide) ?_
      exact ty_zret X Y h rfl dX4_isAmount_15

abbrev rX4_isPlace : Room := { frames := 0, cells := 0, slots := 0, locals := 0 }
def eX4_isPlace (S : ty_S) (x0 : Int32) (K : ty_S → Int32 → Prop) : Prop :=
  (if x0 < (0 : Int32) then K S (0 : Int32) else (if (1280 : Int32) ≤ x0 then K S (0 : Int32) else K S (1 : Int32)))
set_option maxHeartbeats 4000000 in
set_option maxRecDepth 100000 in
theorem cX4_isPlace_C (l : Launch) (D : va_G) (cA : Nat → ClassId) (q : Nat → Nat) (S : ty_S) (x0 : Int32) (K : ty_S → Int32 → Prop) (h : eX4_isPlace S x0 K) : ∀ sz, Met l yX4_isPlace wsX4_isPlace rX4_isPlace (ty_Pc D cA q ty_LY S sz [.int x0]) (ty_Qi D cA q ty_LY sz K) 0 0 (ty_A q ty_LY.length sz) := by
  refine ty_ofM (ret := (some .boolean)) (maxL := 1) (cc := cX4_isPlace) (own := RX4) (Qc := fun sz => ty_Qi D cA q ty_LY sz K) (by decide +kernel) rfl (Nat.le_of_ble_eq_true rfl) rfl ?_
  intro p e s m args below meth c ls X hl Y
  have hx := X.1.1
  have hb := X.1.2.1
  have hl : lv_has ls 1 [(0, .int x0)] := hl
  unfold eX4_isPlace at h
  refine lv_iload_n hx hb dX4_isPlace_0 rfl (lv_at hl 0 rfl) ?_
  refine lv_if_lt (tgt := 15) hx hb dX4_isPlace_1 (by decide) (fun c9 => ?_) (fun c9 => ?_)
  · have h := ty_t h c9
    refine lv_iconst (v := (0 : Int32)) hx hb dX4_isPlace_15 (by decide) ?_
    exact ty_zret X Y h rfl dX4_isPlace_16
  · have h := ty_f h c9
    refine lv_iload_n hx hb dX4_isPlace_4 rfl (lv_at hl 0 rfl) ?_
    refine lv_sipush (v := (1280 : Int32)) hx hb dX4_isPlace_5 (by decide) ?_
    refine lv_icmp_ge (tgt := 15) hx hb dX4_isPlace_8 (by decide) (fun c9 => ?_) (fun c9 => ?_)
    · have h := ty_t h c9
      refine lv_iconst (v := (0 : Int32)) hx hb dX4_isPlace_15 (by decide) ?_
      exact ty_zret X Y h rfl dX4_isPlace_16
    · have h := ty_f h c9
      refine lv_iconst (v := (1 : Int32)) hx hb dX4_isPlace_11 (by decide) ?_
      refine lv_goto (tgt := 16) hx hb dX4_isPlace_12 (by decide) ?_
      exact ty_zret X Y h rfl dX4_isPlace_16

abbrev rX4_carOf : Room := { frames := 1, cells := 0, slots := 0, locals := 20 }
def eX4_carOf (S : ty_S) (x0 : Int32) (K : ty_S → Int32 → Prop) : Prop :=
  (eX4_isPlace S x0 (fun S1 r1 => (if r1 = (0 : Int32) then K S1 (-1 : Int32) else K S1 (x0 / (32 : Int32)))))
set_option maxHeartbeats 4000000 in
set_option maxRecDepth 100000 in
theorem cX4_carOf_C (l : Launch) (D : va_G) (cA : Nat → ClassId) (q : Nat → Nat) (S : ty_S) (x0 : Int32) (K : ty_S → Int32 → Prop) (h : eX4_carOf S x0 K) : ∀ sz, Met l yX4_carOf wsX4_carOf rX4_carOf (ty_Pc D cA q ty_LY S sz [.int x0]) (ty_Qi D cA q ty_LY sz K) 0 0 (ty_A q ty_LY.length sz) := by
  refine ty_ofM (ret := (some .int)) (maxL := 1) (cc := cX4_carOf) (own := RX4) (Qc := fun sz => ty_Qi D cA q ty_LY sz K) (by decide +kernel) rfl (Nat.le_of_ble_eq_true rfl) rfl ?_
  intro p e s m args below meth c ls X hl Y
  have hx := X.1.1
  have hb := X.1.2.1
  have hl : lv_has ls 1 [(0, .int x0)] := hl
  unfold eX4_carOf at h
  refine lv_iload_n hx hb dX4_carOf_0 rfl (lv_at hl 0 rfl) ?_
  refine ty_Si (As := [.int x0]) (rest := []) X Y (cX4_isPlace_C l D cA q S x0 _ h) (fun hts => va_cwS 1 hts gX4_carOf_X4_isPlace rfl rfl rfl (by decide +kernel) ⟨Nat.le_of_ble_eq_true rfl, Nat.le_of_ble_eq_true rfl⟩) rfl hl.1 (Nat.le_of_ble_eq_true rfl) dX4_carOf_1 ⟨Nat.zero_le _, Nat.zero_le _⟩ (fun r1 S1 H locs h Y => ?_)
  refine lv_if_eq (tgt := 14) hx hb dX4_carOf_4 (by decide) (fun c9 => ?_) (fun c9 => ?_)
  · have h := ty_t h c9
    refine lv_iconst (v := (-1 : Int32)) hx hb dX4_carOf_14 (by decide) ?_
    exact ty_iret X Y h dX4_carOf_15
  · have h := ty_f h c9
    refine lv_iload_n hx hb dX4_carOf_7 rfl (lv_at hl 0 rfl) ?_
    refine lv_bipush (v := (32 : Int32)) hx hb dX4_carOf_8 (by decide) ?_
    refine lv_idiv hx hb dX4_carOf_10 (by decide) ?_
    refine lv_goto (tgt := 15) hx hb dX4_carOf_11 (by decide) ?_
    exact ty_iret X Y h dX4_carOf_15

abbrev rX4_isCar : Room := { frames := 0, cells := 0, slots := 0, locals := 0 }
def eX4_isCar (S : ty_S) (x0 : Int32) (K : ty_S → Int32 → Prop) : Prop :=
  (if x0 < (0 : Int32) then K S (0 : Int32) else (if (40 : Int32) ≤ x0 then K S (0 : Int32) else K S (1 : Int32)))
set_option maxHeartbeats 4000000 in
set_option maxRecDepth 100000 in
theorem cX4_isCar_C (l : Launch) (D : va_G) (cA : Nat → ClassId) (q : Nat → Nat) (S : ty_S) (x0 : Int32) (K : ty_S → Int32 → Prop) (h : eX4_isCar S x0 K) : ∀ sz, Met l yX4_isCar wsX4_isCar rX4_isCar (ty_Pc D cA q ty_LY S sz [.int x0]) (ty_Qi D cA q ty_LY sz K) 0 0 (ty_A q ty_LY.length sz) := by
  refine ty_ofM (ret := (some .boolean)) (maxL := 1) (cc := cX4_isCar) (own := RX4) (Qc := fun sz => ty_Qi D cA q ty_LY sz K) (by decide +kernel) rfl (Nat.le_of_ble_eq_true rfl) rfl ?_
  intro p e s m args below meth c ls X hl Y
  have hx := X.1.1
  have hb := X.1.2.1
  have hl : lv_has ls 1 [(0, .int x0)] := hl
  unfold eX4_isCar at h
  refine lv_iload_n hx hb dX4_isCar_0 rfl (lv_at hl 0 rfl) ?_
  refine lv_if_lt (tgt := 14) hx hb dX4_isCar_1 (by decide) (fun c9 => ?_) (fun c9 => ?_)
  · have h := ty_t h c9
    refine lv_iconst (v := (0 : Int32)) hx hb dX4_isCar_14 (by decide) ?_
    exact ty_zret X Y h rfl dX4_isCar_15
  · have h := ty_f h c9
    refine lv_iload_n hx hb dX4_isCar_4 rfl (lv_at hl 0 rfl) ?_
    refine lv_bipush (v := (40 : Int32)) hx hb dX4_isCar_5 (by decide) ?_
    refine lv_icmp_ge (tgt := 14) hx hb dX4_isCar_7 (by decide) (fun c9 => ?_) (fun c9 => ?_)
    · have h := ty_t h c9
      refine lv_iconst (v := (0 : Int32)) hx hb dX4_isCar_14 (by decide) ?_
      exact ty_zret X Y h rfl dX4_isCar_15
    · have h := ty_f h c9
      refine lv_iconst (v := (1 : Int32)) hx hb dX4_isCar_10 (by decide) ?_
      refine lv_goto (tgt := 15) hx hb dX4_isCar_11 (by decide) ?_
      exact ty_zret X Y h rfl dX4_isCar_15
