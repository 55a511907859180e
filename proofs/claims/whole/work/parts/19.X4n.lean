abbrev rX4_step : Room := { frames := 7, cells := 0, slots := 0, locals := 171 }
theorem kX4_step_0 : Cond.fieldLink RX4 12 "TrainYard" "yard" "LTrainYard$Yard;" ∈ wsX4_step := ty_m 1 (by decide +kernel)
theorem iX4_step_X4 : ∀ w ∈ wsX40, w ∈ wsX4_step := ty_inp _ [200, 201, 202, 203] (by decide +kernel)
def eX4_step (S : ty_S)  (K : ty_S → Int32 → Prop) : Prop :=
  (eX3_canStep S  (fun S1 r1 => (if r1 = (0 : Int32) then K S1 (-1 : Int32) else (eX3_doStep S1  (fun S2 r2 => K S2 r2)))))
set_option maxHeartbeats 4000000 in
set_option maxRecDepth 100000 in
theorem cX4_step_C (l : Launch) (D : va_G) (cA : Nat → ClassId) (q : Nat → Nat) (S : ty_S)  (K : ty_S → Int32 → Prop) (h : eX4_step S  K) : ∀ sz, Met l yX4_step wsX4_step rX4_step (ty_Pc D cA q ty_LY S sz [.ref (q 0)]) (ty_Qi D cA q ty_LY sz K) 0 0 (ty_A q ty_LY.length sz) := by
  refine ty_ofM (ret := (some .int)) (maxL := 1) (cc := cX4_step) (own := RX4) (Qc := fun sz => ty_Qi D cA q ty_LY sz K) (by decide +kernel) rfl (Nat.le_of_ble_eq_true rfl) rfl ?_
  intro p e s m args below meth c ls X hl Y
  have hx := X.1.1
  have hb := X.1.2.1
  have hl : lv_has ls 1 [(0, .ref (q 0))] := hl
  unfold eX4_step at h
  refine lv_aload_n hx hb dX4_step_0 rfl (lv_at hl 0 rfl) ?_
  refine tg_X4_yard X Y iX4_step_X4 kX4_step_0 dX4_step_1 ?_
  refine ty_Vi (As := []) (b := 1) (rest := []) X Y (cX3_canStep_C l D cA q S  _ h) rfl rfl (fun hts => cwV 0 hts gX4_step_X3_canStep rfl rfl rfl (by decide +kernel) ⟨Nat.le_of_ble_eq_true rfl, Nat.le_of_ble_eq_true rfl⟩) rfl hl.1 (Nat.le_of_ble_eq_true rfl) dX4_step_4 ⟨Nat.zero_le _, Nat.zero_le _⟩ (fun r1 S1 H locs h Y => ?_)
  refine lv_if_eq (tgt := 20) hx hb dX4_step_7 (by decide) (fun c9 => ?_) (fun c9 => ?_)
  · have h := ty_t h c9
    refine lv_iconst (v := (-1 : Int32)) hx hb dX4_step_20 (by decide) ?_
    exact ty_iret X Y h dX4_step_21
  · have h := ty_f h c9
    refine lv_aload_n hx hb dX4_step_10 rfl (lv_at hl 0 rfl) ?_
    refine tg_X4_yard X Y iX4_step_X4 kX4_step_0 dX4_step_11 ?_
    refine ty_Vi (As := []) (b := 1) (rest := []) X Y (cX3_doStep_C l D cA q S1  _ h) rfl rfl (fun hts => cwV 0 hts gX4_step_X3_doStep rfl rfl rfl (by decide +kernel) ⟨Nat.le_of_ble_eq_true rfl, Nat.le_of_ble_eq_true rfl⟩) rfl hl.1 (Nat.le_of_ble_eq_true rfl) dX4_step_14 ⟨Nat.zero_le _, Nat.zero_le _⟩ (fun r2 S2 H locs h Y => ?_)
    refine lv_goto (tgt := 21) hx hb dX4_step_17 (by decide) ?_
    exact ty_iret X Y h dX4_step_21

abbrev rX4_reached : Room := { frames := 3, cells := 0, slots := 0, locals := 68 }
theorem kX4_reached_0 : Cond.fieldLink RX4 19 "TrainYard" "search" "LTrainYard$Search;" ∈ wsX4_reached := ty_m 1 (by decide +kernel)
theorem kX4_reached_1 : Cond.fieldLink RX4 12 "TrainYard" "yard" "LTrainYard$Yard;" ∈ wsX4_reached := ty_m 2 (by decide +kernel)
theorem iX4_reached_X3 : ∀ w ∈ wsX30, w ∈ wsX4_reached := ty_inp _ [34, 35, 36, 37, 38, 39, 40, 41, 42, 43, 44, 45, 46] (by decide +kernel)
theorem iX4_reached_X4 : ∀ w ∈ wsX40, w ∈ wsX4_reached := ty_inp _ [30, 31, 32, 33] (by decide +kernel)
def eX4_reached (S : ty_S)  (K : ty_S → Int32 → Prop) : Prop :=
  (eX2_countFrom S  (fun S1 r1 => K S1 r1))
set_option maxHeartbeats 4000000 in
set_option maxRecDepth 100000 in
theorem cX4_reached_C (l : Launch) (D : va_G) (cA : Nat → ClassId) (q : Nat → Nat) (S : ty_S)  (K : ty_S → Int32 → Prop) (h : eX4_reached S  K) : ∀ sz, Met l yX4_reached wsX4_reached rX4_reached (ty_Pc D cA q ty_LY S sz [.ref (q 0)]) (ty_Qi D cA q ty_LY sz K) 0 0 (ty_A q ty_LY.length sz) := by
  refine ty_ofM (ret := (some .int)) (maxL := 1) (cc := cX4_reached) (own := RX4) (Qc := fun sz => ty_Qi D cA q ty_LY sz K) (by decide +kernel) rfl (Nat.le_of_ble_eq_true rfl) rfl ?_
  intro p e s m args below meth c ls X hl Y
  have hx := X.1.1
  have hb := X.1.2.1
  have hl : lv_has ls 1 [(0, .ref (q 0))] := hl
  unfold eX4_reached at h
  refine lv_aload_n hx hb dX4_reached_0 rfl (lv_at hl 0 rfl) ?_
  refine tg_X4_search X Y iX4_reached_X4 kX4_reached_0 dX4_reached_1 ?_
  refine lv_aload_n hx hb dX4_reached_4 rfl (lv_at hl 0 rfl) ?_
  refine tg_X4_yard X Y iX4_reached_X4 kX4_reached_1 dX4_reached_5 ?_
  refine tn_X3_held X Y iX4_reached_X3 (ty_m 7 rfl) dX4_reached_8 ?_
  refine lv_aload_n hx hb dX4_reached_11 rfl (lv_at hl 0 rfl) ?_
  refine tg_X4_yard X Y iX4_reached_X4 kX4_reached_1 dX4_reached_12 ?_
  refine tn_X3_freight X Y iX4_reached_X3 (ty_m 5 rfl) dX4_reached_15 ?_
  refine ty_Vi (As := [.ref (q 5), .ref (q 3)]) (b := 2) (rest := []) X Y (cX2_countFrom_C l D cA q S  _ h) rfl rfl (fun hts => cwV 2 hts gX4_reached_X2_countFrom rfl rfl rfl (by decide +kernel) ⟨Nat.le_of_ble_eq_true rfl, Nat.le_of_ble_eq_true rfl⟩) rfl hl.1 (Nat.le_of_ble_eq_true rfl) dX4_reached_18 ⟨Nat.zero_le _, Nat.zero_le _⟩ (fun r1 S1 H locs h Y => ?_)
  exact ty_iret X Y h dX4_reached_21
