abbrev rX0_room : Room := { frames := 0, cells := 0, slots := 0, locals := 0 }
theorem kX0_room_0 : Cond.fieldLink RX0 19 "TrainYard$Freight" "filled" "[I" ∈ wsX0_room := ty_m 1 (by decide +kernel)
theorem iX0_room_X0 : ∀ w ∈ wsX00, w ∈ wsX0_room := ty_inp _ [2, 3, 4, 5, 6] (by decide +kernel)
def eX0_room (S : ty_S) (x1 : Int32) (K : ty_S → Int32 → Prop) : Prop :=
  (if x1 < (0 : Int32) then K S (0 : Int32) else (if (40 : Int32) ≤ x1 then K S (0 : Int32) else (vp_in x1 40 ∧ K S ((32 : Int32) - (S 2 x1.toNatClampNeg)))))
set_option maxHeartbeats 4000000 in
set_option maxRecDepth 100000 in
theorem cX0_room_C (l : Launch) (D : va_G) (cA : Nat → ClassId) (q : Nat → Nat) (S : ty_S) (x1 : Int32) (K : ty_S → Int32 → Prop) (h : eX0_room S x1 K) : ∀ sz, Met l yX0_room wsX0_room rX0_room (ty_Pc D cA q ty_LY S sz [.ref (q 3), .int x1]) (ty_Qi D cA q ty_LY sz K) 0 0 (ty_A q ty_LY.length sz) := by
  refine ty_ofM (ret := (some .int)) (maxL := 2) (cc := cX0_room) (own := RX0) (Qc := fun sz => ty_Qi D cA q ty_LY sz K) (by decide +kernel) rfl (Nat.le_of_ble_eq_true rfl) rfl ?_
  intro p e s m args below meth c ls X hl Y
  have hx := X.1.1
  have hb := X.1.2.1
  have hl : lv_has ls 2 [(0, .ref (q 3)), (1, .int x1)] := hl
  unfold eX0_room at h
  refine lv_iload_n hx hb dX0_room_0 rfl (lv_at hl 1 rfl) ?_
  refine lv_if_lt (tgt := 22) hx hb dX0_room_1 (by decide) (fun c9 => ?_) (fun c9 => ?_)
  · have h := ty_t h c9
    refine lv_iconst (v := (0 : Int32)) hx hb dX0_room_22 (by decide) ?_
    exact ty_iret X Y h dX0_room_23
  · have h := ty_f h c9
    refine lv_iload_n hx hb dX0_room_4 rfl (lv_at hl 1 rfl) ?_
    refine lv_bipush (v := (40 : Int32)) hx hb dX0_room_5 (by decide) ?_
    refine lv_icmp_ge (tgt := 22) hx hb dX0_room_7 (by decide) (fun c9 => ?_) (fun c9 => ?_)
    · have h := ty_t h c9
      refine lv_iconst (v := (0 : Int32)) hx hb dX0_room_22 (by decide) ?_
      exact ty_iret X Y h dX0_room_23
    · have h := ty_f h c9
      refine lv_bipush (v := (32 : Int32)) hx hb dX0_room_10 (by decide) ?_
      refine lv_aload_n hx hb dX0_room_12 rfl (lv_at hl 0 rfl) ?_
      refine tg_X0_filled X Y iX0_room_X0 kX0_room_0 dX0_room_13 ?_
      refine lv_iload_n hx hb dX0_room_16 rfl (lv_at hl 1 rfl) ?_
      refine ty_iald (v := (S 2 x1.toNatClampNeg)) X Y 12 40 2 rfl h.1 rfl dX0_room_17 ?_
      have h := h.2
      refine lv_isub hx hb dX0_room_18 ?_
      refine lv_goto (tgt := 23) hx hb dX0_room_19 (by decide) ?_
      exact ty_iret X Y h dX0_room_23

abbrev rX0_nextReference : Room := { frames := 0, cells := 0, slots := 0, locals := 0 }
theorem kX0_nextReference_0 : Cond.fieldLink RX0 19 "TrainYard$Freight" "filled" "[I" ∈ wsX0_nextReference := ty_m 1 (by decide +kernel)
theorem kX0_nextReference_1 : Cond.fieldLink RX0 15 "TrainYard$Freight" "isReference" "[Z" ∈ wsX0_nextReference := ty_m 2 (by decide +kernel)
theorem iX0_nextReference_X0 : ∀ w ∈ wsX00, w ∈ wsX0_nextReference := ty_inp _ [3, 4, 5, 6, 7] (by decide +kernel)
def lX0_nextReference_2 (K : ty_S → Int32 → Prop)  : Nat → Int32 → ty_S → Prop
  | 0, _, _ => False
  | n + 1, x2, S => (if x2 < (0 : Int32) then K S (1280 : Int32) else (if (1280 : Int32) ≤ x2 then K S (1280 : Int32) else (vp_in (x2 / (32 : Int32)) 40 ∧ (if (x2 - x2 / (32 : Int32) * (32 : Int32)) < (S 2 (x2 / (32 : Int32)).toNatClampNeg) then (vp_in x2 1280 ∧ (if (S 1 x2.toNatClampNeg) = (0 : Int32) then lX0_nextReference_2 K  n (x2 + (1 : Int32)) S else K S x2)) else lX0_nextReference_2 K  n (((x2 / (32 : Int32)) + (1 : Int32)) * (32 : Int32)) S))))
set_option maxHeartbeats 4000000 in
set_option maxRecDepth 100000 in
theorem wlX0_nextReference_2 {p : Program} {l : Launch} {e : Env} {s : State} {m : MethodId} {args : Array Value} {below : List Frame} {meth : Method} {c : Code} {D : va_G} {cA : Nat → ClassId} {q : Nat → Nat} {K : ty_S → Int32 → Prop}  (X : ty_X D cA p s m args meth c cX0_nextReference 4 (some .int) wsX0_nextReference RX0)  : ∀ (n : Nat) (x2 : Int32) (S : ty_S) (H : Heap) (locs : List Loc) (ls : Array Slot), lX0_nextReference_2 K  n x2 S → ty_Y D cA q ty_LY S s H locs → lv_has ls 4 [(0, .ref (q 3)), (2, .int x2)] → W p l e rX0_nextReference s m args below meth c H locs 0 0 (ty_MI D cA q ty_LY K below args s) (F0 m 2 ls []) := by
  have hx := X.1.1
  have hb := X.1.2.1
  intro n
  induction n with
  | zero =>
    intro x2 S H locs ls h
    exact False.elim h
  | succ n ih =>
    intro x2 S H locs ls h Y hl
    unfold lX0_nextReference_2 at h
    refine lv_iload_n hx hb dX0_nextReference_2 rfl (lv_at hl 1 rfl) ?_
    refine lv_if_lt (tgt := 58) hx hb dX0_nextReference_3 (by decide) (fun c9 => ?_) (fun c9 => ?_)
    · have h := ty_t h c9
      refine lv_sipush (v := (1280 : Int32)) hx hb dX0_nextReference_58 (by decide) ?_
      exact ty_iret X Y h dX0_nextReference_61
    · have h := ty_f h c9
      refine lv_iload_n hx hb dX0_nextReference_6 rfl (lv_at hl 1 rfl) ?_
      refine lv_sipush (v := (1280 : Int32)) hx hb dX0_nextReference_7 (by decide) ?_
      refine lv_icmp_ge (tgt := 58) hx hb dX0_nextReference_10 (by decide) (fun c9 => ?_) (fun c9 => ?_)
      · have h := ty_t h c9
        refine lv_sipush (v := (1280 : Int32)) hx hb dX0_nextReference_58 (by decide) ?_
        exact ty_iret X Y h dX0_nextReference_61
      · have h := ty_f h c9
        refine lv_iload_n hx hb dX0_nextReference_13 rfl (lv_at hl 1 rfl) ?_
        refine lv_bipush (v := (32 : Int32)) hx hb dX0_nextReference_14 (by decide) ?_
        refine lv_idiv hx hb dX0_nextReference_16 (by decide) ?_
        refine lv_istore_n (lv' := [(3, .int (x2 / (32 : Int32))), (0, .ref (q 3)), (2, .int x2)]) hx hb dX0_nextReference_17 rfl hl (by decide) rfl (fun ls hl => ?_)
        refine lv_iload_n hx hb dX0_nextReference_18 rfl (lv_at hl 2 rfl) ?_
        refine lv_bipush (v := (32 : Int32)) hx hb dX0_nextReference_19 (by decide) ?_
        refine lv_irem hx hb dX0_nextReference_21 (by decide) ?_
        refine lv_aload_n hx hb dX0_nextReference_22 rfl (lv_at hl 1 rfl) ?_
        refine tg_X0_filled X Y iX0_nextReference_X0 kX0_nextReference_0 dX0_nextReference_23 ?_
        refine lv_iload_n hx hb dX0_nextReference_26 rfl (lv_at hl 0 rfl) ?_
        refine ty_iald (v := (S 2 (x2 / (32 : Int32)).toNatClampNeg)) X Y 12 40 2 rfl h.1 rfl dX0_nextReference_27 ?_
        have h := h.2
        refine lv_icmp_lt (tgt := 41) hx hb dX0_nextReference_28 (by decide) (fun c9 => ?_) (fun c9 => ?_)
        · have h := ty_t h c9
          refine lv_aload_n hx hb dX0_nextReference_41 rfl (lv_at hl 1 rfl) ?_
          refine tg_X0_isReference X Y iX0_nextReference_X0 kX0_nextReference_1 dX0_nextReference_42 ?_
          refine lv_iload_n hx hb dX0_nextReference_45 rfl (lv_at hl 2 rfl) ?_
          refine ty_zald (v := (S 1 x2.toNatClampNeg)) X Y 11 1280 1 rfl h.1 rfl dX0_nextReference_46 ?_
          have h := h.2
          refine lv_if_eq (tgt := 52) hx hb dX0_nextReference_47 (by decide) (fun c9 => ?_) (fun c9 => ?_)
          · have h := ty_t h c9
            refine lv_iinc (v := (x2 + (1 : Int32))) (lv' := [(2, .int (x2 + (1 : Int32))), (3, .int (x2 / (32 : Int32))), (0, .ref (q 3))]) hx hb dX0_nextReference_52 hl (k := 2) rfl rfl (by decide) rfl (fun ls hl => ?_)
            refine lv_goto (tgt := 2) hx hb dX0_nextReference_55 (by decide) ?_
            exact ih _ _ _ _ _ h Y (lv_sub hl [2, 0] rfl)
          · have h := ty_f h c9
            refine lv_iload_n hx hb dX0_nextReference_50 rfl (lv_at hl 2 rfl) ?_
            exact ty_iret X Y h dX0_nextReference_51
        · have h := ty_f h c9
          refine lv_iload_n hx hb dX0_nextReference_31 rfl (lv_at hl 0 rfl) ?_
          refine lv_iconst (v := (1 : Int32)) hx hb dX0_nextReference_32 (by decide) ?_
          refine lv_iadd hx hb dX0_nextReference_33 ?_
          refine lv_bipush (v := (32 : Int32)) hx hb dX0_nextReference_34 (by decide) ?_
          refine lv_imul hx hb dX0_nextReference_36 ?_
          refine lv_istore_n (lv' := [(2, .int (((x2 / (32 : Int32)) + (1 : Int32)) * (32 : Int32))), (3, .int (x2 / (32 : Int32))), (0, .ref (q 3))]) hx hb dX0_nextReference_37 rfl hl (by decide) rfl (fun ls hl => ?_)
          refine lv_goto (tgt := 55) hx hb dX0_nextReference_38 (by decide) ?_
          refine lv_goto (tgt := 2) hx hb dX0_nextReference_55 (by decide) ?_
          exact ih _ _ _ _ _ h Y (lv_sub hl [2, 0] rfl)
def eX0_nextReference (S : ty_S) (x1 : Int32) (K : ty_S → Int32 → Prop) : Prop :=
  ∃ n9, lX0_nextReference_2 K  n9 x1 S
set_option maxHeartbeats 4000000 in
set_option maxRecDepth 100000 in
theorem cX0_nextReference_C (l : Launch) (D : va_G) (cA : Nat → ClassId) (q : Nat → Nat) (S : ty_S) (x1 : Int32) (K : ty_S → Int32 → Prop) (h : eX0_nextReference S x1 K) : ∀ sz, Met l yX0_nextReference wsX0_nextReference rX0_nextReference (ty_Pc D cA q ty_LY S sz [.ref (q 3), .int x1]) (ty_Qi D cA q ty_LY sz K) 0 0 (ty_A q ty_LY.length sz) := by
  refine ty_ofM (ret := (some .int)) (maxL := 4) (cc := cX0_nextReference) (own := RX0) (Qc := fun sz => ty_Qi D cA q ty_LY sz K) (by decide +kernel) rfl (Nat.le_of_ble_eq_true rfl) rfl ?_
  intro p e s m args below meth c ls X hl Y
  have hx := X.1.1
  have hb := X.1.2.1
  have hl : lv_has ls 4 [(0, .ref (q 3)), (1, .int x1)] := hl
  unfold eX0_nextReference at h
  refine lv_iload_n hx hb dX0_nextReference_0 rfl (lv_at hl 1 rfl) ?_
  refine lv_istore_n (lv' := [(2, .int x1), (0, .ref (q 3)), (1, .int x1)]) hx hb dX0_nextReference_1 rfl hl (by decide) rfl (fun ls hl => ?_)
  obtain ⟨n9, h⟩ := h
  exact wlX0_nextReference_2 X  n9 _ _ _ _ _ h Y (lv_sub hl [1, 0] rfl)

abbrev rX0_at : Room := { frames := 0, cells := 0, slots := 0, locals := 0 }
theorem kX0_at_0 : Cond.fieldLink RX0 9 "TrainYard$Freight" "words" "[I" ∈ wsX0_at := ty_m 1 (by decide +kernel)
theorem iX0_at_X0 : ∀ w ∈ wsX00, w ∈ wsX0_at := ty_inp _ [2, 3, 4, 5, 6] (by decide +kernel)
def eX0_at (S : ty_S) (x1 : Int32) (K : ty_S → Int32 → Prop) : Prop :=
  (if x1 < (0 : Int32) then K S (0 : Int32) else (if (1280 : Int32) ≤ x1 then K S (0 : Int32) else (vp_in x1 1280 ∧ K S (S 0 x1.toNatClampNeg))))
set_option maxHeartbeats 4000000 in
set_option maxRecDepth 100000 in
theorem cX0_at_C (l : Launch) (D : va_G) (cA : Nat → ClassId) (q : Nat → Nat) (S : ty_S) (x1 : Int32) (K : ty_S → Int32 → Prop) (h : eX0_at S x1 K) : ∀ sz, Met l yX0_at wsX0_at rX0_at (ty_Pc D cA q ty_LY S sz [.ref (q 3), .int x1]) (ty_Qi D cA q ty_LY sz K) 0 0 (ty_A q ty_LY.length sz) := by
  refine ty_ofM (ret := (some .int)) (maxL := 2) (cc := cX0_at) (own := RX0) (Qc := fun sz => ty_Qi D cA q ty_LY sz K) (by decide +kernel) rfl (Nat.le_of_ble_eq_true rfl) rfl ?_
  intro p e s m args below meth c ls X hl Y
  have hx := X.1.1
  have hb := X.1.2.1
  have hl : lv_has ls 2 [(0, .ref (q 3)), (1, .int x1)] := hl
  unfold eX0_at at h
  refine lv_iload_n hx hb dX0_at_0 rfl (lv_at hl 1 rfl) ?_
  refine lv_if_lt (tgt := 20) hx hb dX0_at_1 (by decide) (fun c9 => ?_) (fun c9 => ?_)
  · have h := ty_t h c9
    refine lv_iconst (v := (0 : Int32)) hx hb dX0_at_20 (by decide) ?_
    exact ty_iret X Y h dX0_at_21
  · have h := ty_f h c9
    refine lv_iload_n hx hb dX0_at_4 rfl (lv_at hl 1 rfl) ?_
    refine lv_sipush (v := (1280 : Int32)) hx hb dX0_at_5 (by decide) ?_
    refine lv_icmp_ge (tgt := 20) hx hb dX0_at_8 (by decide) (fun c9 => ?_) (fun c9 => ?_)
    · have h := ty_t h c9
      refine lv_iconst (v := (0 : Int32)) hx hb dX0_at_20 (by decide) ?_
      exact ty_iret X Y h dX0_at_21
    · have h := ty_f h c9
      refine lv_aload_n hx hb dX0_at_11 rfl (lv_at hl 0 rfl) ?_
      refine tg_X0_words X Y iX0_at_X0 kX0_at_0 dX0_at_12 ?_
      refine lv_iload_n hx hb dX0_at_15 rfl (lv_at hl 1 rfl) ?_
      refine ty_iald (v := (S 0 x1.toNatClampNeg)) X Y 10 1280 0 rfl h.1 rfl dX0_at_16 ?_
      have h := h.2
      refine lv_goto (tgt := 21) hx hb dX0_at_17 (by decide) ?_
      exact ty_iret X Y h dX0_at_21

abbrev rX0_size : Room := { frames := 1, cells := 0, slots := 0, locals := 21 }
def eX0_size (S : ty_S) (x1 : Int32) (K : ty_S → Int32 → Prop) : Prop :=
  (eX0_at S (x1 + (1 : Int32)) (fun S1 r1 => K S1 (((2 : Int32) + (r1 - r1 / (16 : Int32) * (16 : Int32))) + (r1 / (16 : Int32)))))
set_option maxHeartbeats 4000000 in
set_option maxRecDepth 100000 in
theorem cX0_size_C (l : Launch) (D : va_G) (cA : Nat → ClassId) (q : Nat → Nat) (S : ty_S) (x1 : Int32) (K : ty_S → Int32 → Prop) (h : eX0_size S x1 K) : ∀ sz, Met l yX0_size wsX0_size rX0_size (ty_Pc D cA q ty_LY S sz [.ref (q 3), .int x1]) (ty_Qi D cA q ty_LY sz K) 0 0 (ty_A q ty_LY.length sz) := by
  refine ty_ofM (ret := (some .int)) (maxL := 3) (cc := cX0_size) (own := RX0) (Qc := fun sz => ty_Qi D cA q ty_LY sz K) (by decide +kernel) rfl (Nat.le_of_ble_eq_true rfl) rfl ?_
  intro p e s m args below meth c ls X hl Y
  have hx := X.1.1
  have hb := X.1.2.1
  have hl : lv_has ls 3 [(0, .ref (q 3)), (1, .int x1)] := hl
  unfold eX0_size at h
  refine lv_aload_n hx hb dX0_size_0 rfl (lv_at hl 0 rfl) ?_
  refine lv_iload_n hx hb dX0_size_1 rfl (lv_at hl 1 rfl) ?_
  refine lv_iconst (v := (1 : Int32)) hx hb dX0_size_2 (by decide) ?_
  refine lv_iadd hx hb dX0_size_3 ?_
  refine ty_Vi (As := [.int (x1 + (1 : Int32))]) (b := 3) (rest := []) X Y (cX0_at_C l D cA q S (x1 + (1 : Int32)) _ h) rfl rfl (fun hts => cwV 1 hts gX0_size_X0_at rfl rfl rfl (by decide +kernel) ⟨Nat.le_of_ble_eq_true rfl, Nat.le_of_ble_eq_true rfl⟩) rfl hl.1 (Nat.le_of_ble_eq_true rfl) dX0_size_4 ⟨Nat.zero_le _, Nat.zero_le _⟩ (fun r1 S1 H locs h Y => ?_)
  refine lv_istore_n (lv' := [(2, .int r1), (0, .ref (q 3)), (1, .int x1)]) hx hb dX0_size_7 rfl hl (by decide) rfl (fun ls hl => ?_)
  refine lv_iconst (v := (2 : Int32)) hx hb dX0_size_8 (by decide) ?_
  refine lv_iload_n hx hb dX0_size_9 rfl (lv_at hl 0 rfl) ?_
  refine lv_bipush (v := (16 : Int32)) hx hb dX0_size_10 (by decide) ?_
  refine lv_irem hx hb dX0_size_12 (by decide) ?_
  refine lv_iadd hx hb dX0_size_13 ?_
  refine lv_iload_n hx hb dX0_size_14 rfl (lv_at hl 0 rfl) ?_
  refine lv_bipush (v := (16 : Int32)) hx hb dX0_size_15 (by decide) ?_
  refine lv_idiv hx hb dX0_size_17 (by decide) ?_
  refine lv_iadd hx hb dX0_size_18 ?_
  exact ty_iret X Y h dX0_size_19

abbrev rX0_labelOf : Room := { frames := 1, cells := 0, slots := 0, locals := 21 }
def eX0_labelOf (S : ty_S) (x1 : Int32) (K : ty_S → Int32 → Prop) : Prop :=
  (eX0_at S x1 (fun S1 r1 => K S1 r1))
set_option maxHeartbeats 4000000 in
set_option maxRecDepth 100000 in
theorem cX0_labelOf_C (l : Launch) (D : va_G) (cA : Nat → ClassId) (q : Nat → Nat) (S : ty_S) (x1 : Int32) (K : ty_S → Int32 → Prop) (h : eX0_labelOf S x1 K) : ∀ sz, Met l yX0_labelOf wsX0_labelOf rX0_labelOf (ty_Pc D cA q ty_LY S sz [.ref (q 3), .int x1]) (ty_Qi D cA q ty_LY sz K) 0 0 (ty_A q ty_LY.length sz) := by
  refine ty_ofM (ret := (some .int)) (maxL := 2) (cc := cX0_labelOf) (own := RX0) (Qc := fun sz => ty_Qi D cA q ty_LY sz K) (by decide +kernel) rfl (Nat.le_of_ble_eq_true rfl) rfl ?_
  intro p e s m args below meth c ls X hl Y
  have hx := X.1.1
  have hb := X.1.2.1
  have hl : lv_has ls 2 [(0, .ref (q 3)), (1, .int x1)] := hl
  unfold eX0_labelOf at h
  refine lv_aload_n hx hb dX0_labelOf_0 rfl (lv_at hl 0 rfl) ?_
  refine lv_iload_n hx hb dX0_labelOf_1 rfl (lv_at hl 1 rfl) ?_
  refine ty_Vi (As := [.int x1]) (b := 3) (rest := []) X Y (cX0_at_C l D cA q S x1 _ h) rfl rfl (fun hts => cwV 1 hts gX0_labelOf_X0_at rfl rfl rfl (by decide +kernel) ⟨Nat.le_of_ble_eq_true rfl, Nat.le_of_ble_eq_true rfl⟩) rfl hl.1 (Nat.le_of_ble_eq_true rfl) dX0_labelOf_2 ⟨Nat.zero_le _, Nat.zero_le _⟩ (fun r1 S1 H locs h Y => ?_)
  exact ty_iret X Y h dX0_labelOf_5

abbrev rX0_references : Room := { frames := 1, cells := 0, slots := 0, locals := 21 }
def eX0_references (S : ty_S) (x1 : Int32) (K : ty_S → Int32 → Prop) : Prop :=
  (eX0_at S (x1 + (1 : Int32)) (fun S1 r1 => K S1 (r1 - r1 / (16 : Int32) * (16 : Int32))))
set_option maxHeartbeats 4000000 in
set_option maxRecDepth 100000 in
theorem cX0_references_C (l : Launch) (D : va_G) (cA : Nat → ClassId) (q : Nat → Nat) (S : ty_S) (x1 : Int32) (K : ty_S → Int32 → Prop) (h : eX0_references S x1 K) : ∀ sz, Met l yX0_references wsX0_references rX0_references (ty_Pc D cA q ty_LY S sz [.ref (q 3), .int x1]) (ty_Qi D cA q ty_LY sz K) 0 0 (ty_A q ty_LY.length sz) := by
  refine ty_ofM (ret := (some .int)) (maxL := 2) (cc := cX0_references) (own := RX0) (Qc := fun sz => ty_Qi D cA q ty_LY sz K) (by decide +kernel) rfl (Nat.le_of_ble_eq_true rfl) rfl ?_
  intro p e s m args below meth c ls X hl Y
  have hx := X.1.1
  have hb := X.1.2.1
  have hl : lv_has ls 2 [(0, .ref (q 3)), (1, .int x1)] := hl
  unfold eX0_references at h
  refine lv_aload_n hx hb dX0_references_0 rfl (lv_at hl 0 rfl) ?_
  refine lv_iload_n hx hb dX0_references_1 rfl (lv_at hl 1 rfl) ?_
  refine lv_iconst (v := (1 : Int32)) hx hb dX0_references_2 (by decide) ?_
  refine lv_iadd hx hb dX0_references_3 ?_
  refine ty_Vi (As := [.int (x1 + (1 : Int32))]) (b := 3) (rest := []) X Y (cX0_at_C l D cA q S (x1 + (1 : Int32)) _ h) rfl rfl (fun hts => cwV 1 hts gX0_references_X0_at rfl rfl rfl (by decide +kernel) ⟨Nat.le_of_ble_eq_true rfl, Nat.le_of_ble_eq_true rfl⟩) rfl hl.1 (Nat.le_of_ble_eq_true rfl) dX0_references_4 ⟨Nat.zero_le _, Nat.zero_le _⟩ (fun r1 S1 H locs h Y => ?_)
  refine lv_bipush (v := (16 : Int32)) hx hb dX0_references_7 (by decide) ?_
  refine lv_irem hx hb dX0_references_9 (by decide) ?_
  exact ty_iret X Y h dX0_references_10

abbrev rX0_numbers : Room := { frames := 1, cells := 0, slots := 0, locals := 21 }
def eX0_numbers (S : ty_S) (x1 : Int32) (K : ty_S → Int32 → Prop) : Prop :=
  (eX0_at S (x1 + (1 : Int32)) (fun S1 r1 => K S1 (r1 / (16 : Int32))))
set_option maxHeartbeats 4000000 in
set_option maxRecDepth 100000 in
theorem cX0_numbers_C (l : Launch) (D : va_G) (cA : Nat → ClassId) (q : Nat → Nat) (S : ty_S) (x1 : Int32) (K : ty_S → Int32 → Prop) (h : eX0_numbers S x1 K) : ∀ sz, Met l yX0_numbers wsX0_numbers rX0_numbers (ty_Pc D cA q ty_LY S sz [.ref (q 3), .int x1]) (ty_Qi D cA q ty_LY sz K) 0 0 (ty_A q ty_LY.length sz) := by
  refine ty_ofM (ret := (some .int)) (maxL := 2) (cc := cX0_numbers) (own := RX0) (Qc := fun sz => ty_Qi D cA q ty_LY sz K) (by decide +kernel) rfl (Nat.le_of_ble_eq_true rfl) rfl ?_
  intro p e s m args below meth c ls X hl Y
  have hx := X.1.1
  have hb := X.1.2.1
  have hl : lv_has ls 2 [(0, .ref (q 3)), (1, .int x1)] := hl
  unfold eX0_numbers at h
  refine lv_aload_n hx hb dX0_numbers_0 rfl (lv_at hl 0 rfl) ?_
  refine lv_iload_n hx hb dX0_numbers_1 rfl (lv_at hl 1 rfl) ?_
  refine lv_iconst (v := (1 : Int32)) hx hb dX0_numbers_2 (by decide) ?_
  refine lv_iadd hx hb dX0_numbers_3 ?_
  refine ty_Vi (As := [.int (x1 + (1 : Int32))]) (b := 3) (rest := []) X Y (cX0_at_C l D cA q S (x1 + (1 : Int32)) _ h) rfl rfl (fun hts => cwV 1 hts gX0_numbers_X0_at rfl rfl rfl (by decide +kernel) ⟨Nat.le_of_ble_eq_true rfl, Nat.le_of_ble_eq_true rfl⟩) rfl hl.1 (Nat.le_of_ble_eq_true rfl) dX0_numbers_4 ⟨Nat.zero_le _, Nat.zero_le _⟩ (fun r1 S1 H locs h Y => ?_)
  refine lv_bipush (v := (16 : Int32)) hx hb dX0_numbers_7 (by decide) ?_
  refine lv_idiv hx hb dX0_numbers_9 (by decide) ?_
  exact ty_iret X Y h dX0_numbers_10

abbrev rX0_write : Room := { frames := 0, cells := 0, slots := 0, locals := 0 }
theorem kX0_write_0 : Cond.fieldLink RX0 9 "TrainYard$Freight" "words" "[I" ∈ wsX0_write := ty_m 1 (by decide +kernel)
theorem iX0_write_X0 : ∀ w ∈ wsX00, w ∈ wsX0_write := ty_inp _ [2, 3, 4, 5, 6] (by decide +kernel)
def eX0_write (S : ty_S) (x1 : Int32) (x2 : Int32) (K : ty_S → Prop) : Prop :=
  (if x1 < (0 : Int32) then K S else (if (1280 : Int32) ≤ x1 then K S else (vp_in x1 1280 ∧ K (ty_st S 0 x1.toNatClampNeg x2))))
set_option maxHeartbeats 4000000 in
set_option maxRecDepth 100000 in
theorem cX0_write_C (l : Launch) (D : va_G) (cA : Nat → ClassId) (q : Nat → Nat) (S : ty_S) (x1 : Int32) (x2 : Int32) (K : ty_S → Prop) (h : eX0_write S x1 x2 K) : ∀ sz, Met l yX0_write wsX0_write rX0_write (ty_Pc D cA q ty_LY S sz [.ref (q 3), .int x1, .int x2]) (ty_Qv D cA q ty_LY sz K) 0 0 (ty_A q ty_LY.length sz) := by
  refine ty_ofM (ret := none) (maxL := 3) (cc := cX0_write) (own := RX0) (Qc := fun sz => ty_Qv D cA q ty_LY sz K) (by decide +kernel) rfl (Nat.le_of_ble_eq_true rfl) rfl ?_
  intro p e s m args below meth c ls X hl Y
  have hx := X.1.1
  have hb := X.1.2.1
  have hl : lv_has ls 3 [(0, .ref (q 3)), (1, .int x1), (2, .int x2)] := hl
  unfold eX0_write at h
  refine lv_iload_n hx hb dX0_write_0 rfl (lv_at hl 1 rfl) ?_
  refine lv_if_lt (tgt := 18) hx hb dX0_write_1 (by decide) (fun c9 => ?_) (fun c9 => ?_)
  · have h := ty_t h c9
    exact ty_vret X Y h dX0_write_18
  · have h := ty_f h c9
    refine lv_iload_n hx hb dX0_write_4 rfl (lv_at hl 1 rfl) ?_
    refine lv_sipush (v := (1280 : Int32)) hx hb dX0_write_5 (by decide) ?_
    refine lv_icmp_ge (tgt := 18) hx hb dX0_write_8 (by decide) (fun c9 => ?_) (fun c9 => ?_)
    · have h := ty_t h c9
      exact ty_vret X Y h dX0_write_18
    · have h := ty_f h c9
      refine lv_aload_n hx hb dX0_write_11 rfl (lv_at hl 0 rfl) ?_
      refine tg_X0_words X Y iX0_write_X0 kX0_write_0 dX0_write_12 ?_
      refine lv_iload_n hx hb dX0_write_15 rfl (lv_at hl 1 rfl) ?_
      refine lv_iload_n hx hb dX0_write_16 rfl (lv_at hl 2 rfl) ?_
      refine ty_iast X Y 10 1280 0 rfl (by decide) h.1 dX0_write_17 (fun H locs Y => ?_)
      have h := h.2
      exact ty_vret X Y h dX0_write_18

abbrev rX0_load : Room := { frames := 1, cells := 0, slots := 0, locals := 22 }
theorem kX0_load_0 : Cond.fieldLink RX0 19 "TrainYard$Freight" "filled" "[I" ∈ wsX0_load := ty_m 1 (by decide +kernel)
theorem kX0_load_1 : Cond.fieldLink RX0 22 "TrainYard$Freight" "thingCount" "[I" ∈ wsX0_load := ty_m 4 (by decide +kernel)
theorem kX0_load_2 : Cond.fieldLink RX0 25 "TrainYard$Freight" "lastThing" "[I" ∈ wsX0_load := ty_m 5 (by decide +kernel)
theorem kX0_load_3 : Cond.fieldLink RX0 9 "TrainYard$Freight" "words" "[I" ∈ wsX0_load := ty_m 2 (by decide +kernel)
theorem kX0_load_4 : Cond.fieldLink RX0 15 "TrainYard$Freight" "isReference" "[Z" ∈ wsX0_load := ty_m 3 (by decide +kernel)
theorem iX0_load_X0 : ∀ w ∈ wsX00, w ∈ wsX0_load := ty_inp _ [15, 16, 17, 18, 19] (by decide +kernel)
def jX0_load_106 (K : ty_S → Int32 → Prop)  (x1 : Int32) (x5 : Int32) (x6 : Int32) (S : ty_S) : Prop :=
  (vp_in x1 40 ∧ (vp_in x1 40 ∧ (vp_in x1 40 ∧ (vp_in x1 40 ∧ (vp_in x1 40 ∧ K (ty_st (ty_st (ty_st S 2 x1.toNatClampNeg ((S 2 x1.toNatClampNeg) + x5)) 3 x1.toNatClampNeg ((S 3 x1.toNatClampNeg) + (1 : Int32))) 4 x1.toNatClampNeg x6) x6)))))
set_option maxHeartbeats 4000000 in
set_option maxRecDepth 100000 in
theorem wjX0_load_106 {p : Program} {l : Launch} {e : Env} {s : State} {m : MethodId} {args : Array Value} {below : List Frame} {meth : Method} {c : Code} {D : va_G} {cA : Nat → ClassId} {q : Nat → Nat} {K : ty_S → Int32 → Prop}  (X : ty_X D cA p s m args meth c cX0_load 9 (some .int) wsX0_load RX0)  (x1 : Int32) (x5 : Int32) (x6 : Int32) (S : ty_S) (H : Heap) (locs : List Loc) (ls : Array Slot) (h : jX0_load_106 K  x1 x5 x6 S) (Y : ty_Y D cA q ty_LY S s H locs) (hl : lv_has ls 9 [(0, .ref (q 3)), (1, .int x1), (5, .int x5), (6, .int x6)]) : W p l e rX0_load s m args below meth c H locs 0 0 (ty_MI D cA q ty_LY K below args s) (F0 m 106 ls []) := by
  have hx := X.1.1
  have hb := X.1.2.1
  unfold jX0_load_106 at h
  refine lv_aload_n hx hb dX0_load_106 rfl (lv_at hl 0 rfl) ?_
  refine tg_X0_filled X Y iX0_load_X0 kX0_load_0 dX0_load_107 ?_
  refine lv_iload_n hx hb dX0_load_110 rfl (lv_at hl 1 rfl) ?_
  refine lv_dup2_11 hx hb dX0_load_111 rfl rfl ?_
  refine ty_iald (v := (S 2 x1.toNatClampNeg)) X Y 12 40 2 rfl h.1 rfl dX0_load_112 ?_
  have h := h.2
  refine lv_iload hx hb dX0_load_113 (lv_at hl 2 rfl) ?_
  refine lv_iadd hx hb dX0_load_115 ?_
  refine ty_iast X Y 12 40 2 rfl (by decide) h.1 dX0_load_116 (fun H locs Y => ?_)
  have h := h.2
  refine lv_aload_n hx hb dX0_load_117 rfl (lv_at hl 0 rfl) ?_
  refine tg_X0_thingCount X Y iX0_load_X0 kX0_load_1 dX0_load_118 ?_
  refine lv_iload_n hx hb dX0_load_121 rfl (lv_at hl 1 rfl) ?_
  refine lv_dup2_11 hx hb dX0_load_122 rfl rfl ?_
  refine ty_iald (v := (S 3 x1.toNatClampNeg)) X Y 13 40 3 rfl h.1 rfl dX0_load_123 ?_
  have h := h.2
  refine lv_iconst (v := (1 : Int32)) hx hb dX0_load_124 (by decide) ?_
  refine lv_iadd hx hb dX0_load_125 ?_
  refine ty_iast X Y 13 40 3 rfl (by decide) h.1 dX0_load_126 (fun H locs Y => ?_)
  have h := h.2
  refine lv_aload_n hx hb dX0_load_127 rfl (lv_at hl 0 rfl) ?_
  refine tg_X0_lastThing X Y iX0_load_X0 kX0_load_2 dX0_load_128 ?_
  refine lv_iload_n hx hb dX0_load_131 rfl (lv_at hl 1 rfl) ?_
  refine lv_iload hx hb dX0_load_132 (lv_at hl 3 rfl) ?_
  refine ty_iast X Y 14 40 4 rfl (by decide) h.1 dX0_load_134 (fun H locs Y => ?_)
  have h := h.2
  refine lv_iload hx hb dX0_load_135 (lv_at hl 3 rfl) ?_
  exact ty_iret X Y h dX0_load_137
def lX0_load_69 (K : ty_S → Int32 → Prop)  : Nat → Int32 → Int32 → Int32 → Int32 → Int32 → ty_S → Prop
  | 0, _, _, _, _, _, _ => False
  | n + 1, x1, x5, x6, x7, x8, S => (if x7 ≤ x8 then jX0_load_106 K  x1 x5 x6 S else (if (1280 : Int32) ≤ x8 then jX0_load_106 K  x1 x5 x6 S else (vp_in x8 1280 ∧ (vp_in x8 1280 ∧ lX0_load_69 K  n x1 x5 x6 x7 (x8 + (1 : Int32)) (ty_st (ty_st S 0 x8.toNatClampNeg (-1 : Int32)) 1 x8.toNatClampNeg (1 : Int32))))))
set_option maxHeartbeats 4000000 in
set_option maxRecDepth 100000 in
theorem wlX0_load_69 {p : Program} {l : Launch} {e : Env} {s : State} {m : MethodId} {args : Array Value} {below : List Frame} {meth : Method} {c : Code} {D : va_G} {cA : Nat → ClassId} {q : Nat → Nat} {K : ty_S → Int32 → Prop}  (X : ty_X D cA p s m args meth c cX0_load 9 (some .int) wsX0_load RX0)  : ∀ (n : Nat) (x1 : Int32) (x5 : Int32) (x6 : Int32) (x7 : Int32) (x8 : Int32) (S : ty_S) (H : Heap) (locs : List Loc) (ls : Array Slot), lX0_load_69 K  n x1 x5 x6 x7 x8 S → ty_Y D cA q ty_LY S s H locs → lv_has ls 9 [(0, .ref (q 3)), (1, .int x1), (5, .int x5), (6, .int x6), (7, .int x7), (8, .int x8)] → W p l e rX0_load s m args below meth c H locs 0 0 (ty_MI D cA q ty_LY K below args s) (F0 m 69 ls []) := by
  have hx := X.1.1
  have hb := X.1.2.1
  intro n
  induction n with
  | zero =>
    intro x1 x5 x6 x7 x8 S H locs ls h
    exact False.elim h
  | succ n ih =>
    intro x1 x5 x6 x7 x8 S H locs ls h Y hl
    unfold lX0_load_69 at h
    refine lv_iload hx hb dX0_load_69 (lv_at hl 5 rfl) ?_
    refine lv_iload hx hb dX0_load_71 (lv_at hl 4 rfl) ?_
    refine lv_icmp_ge (tgt := 106) hx hb dX0_load_73 (by decide) (fun c9 => ?_) (fun c9 => ?_)
    · have h := ty_t h c9
      exact wjX0_load_106 X  _ _ _ _ _ _ _ h Y (lv_sub hl [0, 1, 2, 3] rfl)
    · have h := ty_f h c9
      refine lv_iload hx hb dX0_load_76 (lv_at hl 5 rfl) ?_
      refine lv_sipush (v := (1280 : Int32)) hx hb dX0_load_78 (by decide) ?_
      refine lv_icmp_ge (tgt := 106) hx hb dX0_load_81 (by decide) (fun c9 => ?_) (fun c9 => ?_)
      · have h := ty_t h c9
        exact wjX0_load_106 X  _ _ _ _ _ _ _ h Y (lv_sub hl [0, 1, 2, 3] rfl)
      · have h := ty_f h c9
        refine lv_aload_n hx hb dX0_load_84 rfl (lv_at hl 0 rfl) ?_
        refine tg_X0_words X Y iX0_load_X0 kX0_load_3 dX0_load_85 ?_
        refine lv_iload hx hb dX0_load_88 (lv_at hl 5 rfl) ?_
        refine lv_iconst (v := (-1 : Int32)) hx hb dX0_load_90 (by decide) ?_
        refine ty_iast X Y 10 1280 0 rfl (by decide) h.1 dX0_load_91 (fun H locs Y => ?_)
        have h := h.2
        refine lv_aload_n hx hb dX0_load_92 rfl (lv_at hl 0 rfl) ?_
        refine tg_X0_isReference X Y iX0_load_X0 kX0_load_4 dX0_load_93 ?_
        refine lv_iload hx hb dX0_load_96 (lv_at hl 5 rfl) ?_
        refine lv_iconst (v := (1 : Int32)) hx hb dX0_load_98 (by decide) ?_
        refine ty_zast X Y 11 1280 1 rfl (by decide) h.1 rfl dX0_load_99 (fun H locs Y => ?_)
        have h := h.2
        refine lv_iinc (v := (x8 + (1 : Int32))) (lv' := [(8, .int (x8 + (1 : Int32))), (0, .ref (q 3)), (1, .int x1), (5, .int x5), (6, .int x6), (7, .int x7)]) hx hb dX0_load_100 hl (k := 5) rfl rfl (by decide) rfl (fun ls hl => ?_)
        refine lv_goto (tgt := 69) hx hb dX0_load_103 (by decide) ?_
        exact ih _ _ _ _ _ _ _ _ _ h Y (lv_sub hl [1, 2, 3, 4, 5, 0] rfl)
def eX0_load (S : ty_S) (x1 : Int32) (x2 : Int32) (x3 : Int32) (x4 : Int32) (K : ty_S → Int32 → Prop) : Prop :=
  (eX0_room S x1 (fun S1 r1 => (if (((2 : Int32) + x3) + x4) ≤ r1 then (vp_in x1 40 ∧ (eX0_write S1 ((x1 * (32 : Int32)) + (S1 2 x1.toNatClampNeg)) x2 (fun S2 => (eX0_write S2 (((x1 * (32 : Int32)) + (S1 2 x1.toNatClampNeg)) + (1 : Int32)) (x3 + ((16 : Int32) * x4)) (fun S3 => ∃ n9, lX0_load_69 K  n9 x1 (((2 : Int32) + x3) + x4) ((x1 * (32 : Int32)) + (S1 2 x1.toNatClampNeg)) ((((x1 * (32 : Int32)) + (S1 2 x1.toNatClampNeg)) + (2 : Int32)) + x3) (((x1 * (32 : Int32)) + (S1 2 x1.toNatClampNeg)) + (2 : Int32)) S3))))) else K S1 (-1 : Int32))))
set_option maxHeartbeats 4000000 in
set_option maxRecDepth 100000 in
theorem cX0_load_C (l : Launch) (D : va_G) (cA : Nat → ClassId) (q : Nat → Nat) (S : ty_S) (x1 : Int32) (x2 : Int32) (x3 : Int32) (x4 : Int32) (K : ty_S → Int32 → Prop) (h : eX0_load S x1 x2 x3 x4 K) : ∀ sz, Met l yX0_load wsX0_load rX0_load (ty_Pc D cA q ty_LY S sz [.ref (q 3), .int x1, .int x2, .int x3, .int x4]) (ty_Qi D cA q ty_LY sz K) 0 0 (ty_A q ty_LY.length sz) := by
  refine ty_ofM (ret := (some .int)) (maxL := 9) (cc := cX0_load) (own := RX0) (Qc := fun sz => ty_Qi D cA q ty_LY sz K) (by decide +kernel) rfl (Nat.le_of_ble_eq_true rfl) rfl ?_
  intro p e s m args below meth c ls X hl Y
  have hx := X.1.1
  have hb := X.1.2.1
  have hl : lv_has ls 9 [(0, .ref (q 3)), (1, .int x1), (2, .int x2), (3, .int x3), (4, .int x4)] := hl
  unfold eX0_load at h
  refine lv_iconst (v := (2 : Int32)) hx hb dX0_load_0 (by decide) ?_
  refine lv_iload_n hx hb dX0_load_1 rfl (lv_at hl 3 rfl) ?_
  refine lv_iadd hx hb dX0_load_2 ?_
  refine lv_iload hx hb dX0_load_3 (lv_at hl 4 rfl) ?_
  refine lv_iadd hx hb dX0_load_5 ?_
  refine lv_istore (lv' := [(5, .int (((2 : Int32) + x3) + x4)), (0, .ref (q 3)), (1, .int x1), (2, .int x2), (3, .int x3), (4, .int x4)]) hx hb dX0_load_6 hl (by decide) rfl (fun ls hl => ?_)
  refine lv_aload_n hx hb dX0_load_8 rfl (lv_at hl 1 rfl) ?_
  refine lv_iload_n hx hb dX0_load_9 rfl (lv_at hl 2 rfl) ?_
  refine ty_Vi (As := [.int x1]) (b := 3) (rest := []) X Y (cX0_room_C l D cA q S x1 _ h) rfl rfl (fun hts => cwV 1 hts gX0_load_X0_room rfl rfl rfl (by decide +kernel) ⟨Nat.le_of_ble_eq_true rfl, Nat.le_of_ble_eq_true rfl⟩) rfl hl.1 (Nat.le_of_ble_eq_true rfl) dX0_load_10 ⟨Nat.zero_le _, Nat.zero_le _⟩ (fun r1 S1 H locs h Y => ?_)
  refine lv_iload hx hb dX0_load_13 (lv_at hl 0 rfl) ?_
  refine lv_icmp_ge (tgt := 20) hx hb dX0_load_15 (by decide) (fun c9 => ?_) (fun c9 => ?_)
  · have h := ty_t h c9
    refine lv_iload_n hx hb dX0_load_20 rfl (lv_at hl 2 rfl) ?_
    refine lv_bipush (v := (32 : Int32)) hx hb dX0_load_21 (by decide) ?_
    refine lv_imul hx hb dX0_load_23 ?_
    refine lv_aload_n hx hb dX0_load_24 rfl (lv_at hl 1 rfl) ?_
    refine tg_X0_filled X Y iX0_load_X0 kX0_load_0 dX0_load_25 ?_
    refine lv_iload_n hx hb dX0_load_28 rfl (lv_at hl 2 rfl) ?_
    refine ty_iald (v := (S1 2 x1.toNatClampNeg)) X Y 12 40 2 rfl h.1 rfl dX0_load_29 ?_
    have h := h.2
    refine lv_iadd hx hb dX0_load_30 ?_
    refine lv_istore (lv' := [(6, .int ((x1 * (32 : Int32)) + (S1 2 x1.toNatClampNeg))), (5, .int (((2 : Int32) + x3) + x4)), (0, .ref (q 3)), (1, .int x1), (2, .int x2), (3, .int x3), (4, .int x4)]) hx hb dX0_load_31 hl (by decide) rfl (fun ls hl => ?_)
    refine lv_aload_n hx hb dX0_load_33 rfl (lv_at hl 2 rfl) ?_
    refine lv_iload hx hb dX0_load_34 (lv_at hl 0 rfl) ?_
    refine lv_iload_n hx hb dX0_load_36 rfl (lv_at hl 4 rfl) ?_
    refine ty_Vv (As := [.int ((x1 * (32 : Int32)) + (S1 2 x1.toNatClampNeg)), .int x2]) (b := 3) (rest := []) X Y (cX0_write_C l D cA q S1 ((x1 * (32 : Int32)) + (S1 2 x1.toNatClampNeg)) x2 _ h) rfl rfl (fun hts => cwV 2 hts gX0_load_X0_write rfl rfl rfl (by decide +kernel) ⟨Nat.le_of_ble_eq_true rfl, Nat.le_of_ble_eq_true rfl⟩) rfl hl.1 (Nat.le_of_ble_eq_true rfl) dX0_load_37 ⟨Nat.zero_le _, Nat.zero_le _⟩ (fun S2 H locs h Y => ?_)
    refine lv_aload_n hx hb dX0_load_40 rfl (lv_at hl 2 rfl) ?_
    refine lv_iload hx hb dX0_load_41 (lv_at hl 0 rfl) ?_
    refine lv_iconst (v := (1 : Int32)) hx hb dX0_load_43 (by decide) ?_
    refine lv_iadd hx hb dX0_load_44 ?_
    refine lv_iload_n hx hb dX0_load_45 rfl (lv_at hl 5 rfl) ?_
    refine lv_bipush (v := (16 : Int32)) hx hb dX0_load_46 (by decide) ?_
    refine lv_iload hx hb dX0_load_48 (lv_at hl 6 rfl) ?_
    refine lv_imul hx hb dX0_load_50 ?_
    refine lv_iadd hx hb dX0_load_51 ?_
    refine ty_Vv (As := [.int (((x1 * (32 : Int32)) + (S1 2 x1.toNatClampNeg)) + (1 : Int32)), .int (x3 + ((16 : Int32) * x4))]) (b := 3) (rest := []) X Y (cX0_write_C l D cA q S2 (((x1 * (32 : Int32)) + (S1 2 x1.toNatClampNeg)) + (1 : Int32)) (x3 + ((16 : Int32) * x4)) _ h) rfl rfl (fun hts => cwV 2 hts gX0_load_X0_write rfl rfl rfl (by decide +kernel) ⟨Nat.le_of_ble_eq_true rfl, Nat.le_of_ble_eq_true rfl⟩) rfl hl.1 (Nat.le_of_ble_eq_true rfl) dX0_load_52 ⟨Nat.zero_le _, Nat.zero_le _⟩ (fun S3 H locs h Y => ?_)
    refine lv_iload hx hb dX0_load_55 (lv_at hl 0 rfl) ?_
    refine lv_iconst (v := (2 : Int32)) hx hb dX0_load_57 (by decide) ?_
    refine lv_iadd hx hb dX0_load_58 ?_
    refine lv_iload_n hx hb dX0_load_59 rfl (lv_at hl 5 rfl) ?_
    refine lv_iadd hx hb dX0_load_60 ?_
    refine lv_istore (lv' := [(7, .int ((((x1 * (32 : Int32)) + (S1 2 x1.toNatClampNeg)) + (2 : Int32)) + x3)), (6, .int ((x1 * (32 : Int32)) + (S1 2 x1.toNatClampNeg))), (5, .int (((2 : Int32) + x3) + x4)), (0, .ref (q 3)), (1, .int x1), (2, .int x2), (3, .int x3), (4, .int x4)]) hx hb dX0_load_61 hl (by decide) rfl (fun ls hl => ?_)
    refine lv_iload hx hb dX0_load_63 (lv_at hl 1 rfl) ?_
    refine lv_iconst (v := (2 : Int32)) hx hb dX0_load_65 (by decide) ?_
    refine lv_iadd hx hb dX0_load_66 ?_
    refine lv_istore (lv' := [(8, .int (((x1 * (32 : Int32)) + (S1 2 x1.toNatClampNeg)) + (2 : Int32))), (7, .int ((((x1 * (32 : Int32)) + (S1 2 x1.toNatClampNeg)) + (2 : Int32)) + x3)), (6, .int ((x1 * (32 : Int32)) + (S1 2 x1.toNatClampNeg))), (5, .int (((2 : Int32) + x3) + x4)), (0, .ref (q 3)), (1, .int x1), (2, .int x2), (3, .int x3), (4, .int x4)]) hx hb dX0_load_67 hl (by decide) rfl (fun ls hl => ?_)
    obtain ⟨n9, h⟩ := h
    exact wlX0_load_69 X  n9 _ _ _ _ _ _ _ _ _ h Y (lv_sub hl [4, 5, 3, 2, 1, 0] rfl)
  · have h := ty_f h c9
    refine lv_iconst (v := (-1 : Int32)) hx hb dX0_load_18 (by decide) ?_
    exact ty_iret X Y h dX0_load_19

abbrev rX0_bring : Room := { frames := 2, cells := 0, slots := 0, locals := 50 }
def lX0_bring_38 (K : ty_S → Int32 → Prop)  : Nat → Int32 → Int32 → Int32 → Int32 → ty_S → Prop
  | 0, _, _, _, _, _ => False
  | n + 1, x1, x3, x4, x5, S => (if x4 ≤ x5 then K S x3 else (eX0_at S (x1 + x5) (fun S6 r6 => (eX0_write S6 (x3 + x5) r6 (fun S7 => lX0_bring_38 K  n x1 x3 x4 (x5 + (1 : Int32)) S7)))))
set_option maxHeartbeats 4000000 in
set_option maxRecDepth 100000 in
theorem wlX0_bring_38 {p : Program} {l : Launch} {e : Env} {s : State} {m : MethodId} {args : Array Value} {below : List Frame} {meth : Method} {c : Code} {D : va_G} {cA : Nat → ClassId} {q : Nat → Nat} {K : ty_S → Int32 → Prop}  (X : ty_X D cA p s m args meth c cX0_bring 6 (some .int) wsX0_bring RX0)  : ∀ (n : Nat) (x1 : Int32) (x3 : Int32) (x4 : Int32) (x5 : Int32) (S : ty_S) (H : Heap) (locs : List Loc) (ls : Array Slot), lX0_bring_38 K  n x1 x3 x4 x5 S → ty_Y D cA q ty_LY S s H locs → lv_has ls 6 [(0, .ref (q 3)), (1, .int x1), (3, .int x3), (4, .int x4), (5, .int x5)] → W p l e rX0_bring s m args below meth c H locs 0 0 (ty_MI D cA q ty_LY K below args s) (F0 m 38 ls []) := by
  have hx := X.1.1
  have hb := X.1.2.1
  intro n
  induction n with
  | zero =>
    intro x1 x3 x4 x5 S H locs ls h
    exact False.elim h
  | succ n ih =>
    intro x1 x3 x4 x5 S H locs ls h Y hl
    unfold lX0_bring_38 at h
    refine lv_iload hx hb dX0_bring_38 (lv_at hl 4 rfl) ?_
    refine lv_iload hx hb dX0_bring_40 (lv_at hl 3 rfl) ?_
    refine lv_icmp_ge (tgt := 67) hx hb dX0_bring_42 (by decide) (fun c9 => ?_) (fun c9 => ?_)
    · have h := ty_t h c9
      refine lv_iload_n hx hb dX0_bring_67 rfl (lv_at hl 2 rfl) ?_
      exact ty_iret X Y h dX0_bring_68
    · have h := ty_f h c9
      refine lv_aload_n hx hb dX0_bring_45 rfl (lv_at hl 0 rfl) ?_
      refine lv_iload_n hx hb dX0_bring_46 rfl (lv_at hl 2 rfl) ?_
      refine lv_iload hx hb dX0_bring_47 (lv_at hl 4 rfl) ?_
      refine lv_iadd hx hb dX0_bring_49 ?_
      refine lv_aload_n hx hb dX0_bring_50 rfl (lv_at hl 0 rfl) ?_
      refine lv_iload_n hx hb dX0_bring_51 rfl (lv_at hl 1 rfl) ?_
      refine lv_iload hx hb dX0_bring_52 (lv_at hl 4 rfl) ?_
      refine lv_iadd hx hb dX0_bring_54 ?_
      refine ty_Vi (As := [.int (x1 + x5)]) (b := 3) (rest := [.int (x3 + x5), .ref (q 3)]) X Y (cX0_at_C l D cA q S (x1 + x5) _ h) rfl rfl (fun hts => cwV 1 hts gX0_bring_X0_at rfl rfl rfl (by decide +kernel) ⟨Nat.le_of_ble_eq_true rfl, Nat.le_of_ble_eq_true rfl⟩) rfl hl.1 (Nat.le_of_ble_eq_true rfl) dX0_bring_55 ⟨Nat.zero_le _, Nat.zero_le _⟩ (fun r6 S6 H locs h Y => ?_)
      refine ty_Vv (As := [.int (x3 + x5), .int r6]) (b := 3) (rest := []) X Y (cX0_write_C l D cA q S6 (x3 + x5) r6 _ h) rfl rfl (fun hts => cwV 2 hts gX0_bring_X0_write rfl rfl rfl (by decide +kernel) ⟨Nat.le_of_ble_eq_true rfl, Nat.le_of_ble_eq_true rfl⟩) rfl hl.1 (Nat.le_of_ble_eq_true rfl) dX0_bring_58 ⟨Nat.zero_le _, Nat.zero_le _⟩ (fun S7 H locs h Y => ?_)
      refine lv_iinc (v := (x5 + (1 : Int32))) (lv' := [(5, .int (x5 + (1 : Int32))), (0, .ref (q 3)), (1, .int x1), (3, .int x3), (4, .int x4)]) hx hb dX0_bring_61 hl (k := 4) rfl rfl (by decide) rfl (fun ls hl => ?_)
      refine lv_goto (tgt := 38) hx hb dX0_bring_64 (by decide) ?_
      exact ih _ _ _ _ _ _ _ _ h Y (lv_sub hl [1, 2, 3, 4, 0] rfl)
def eX0_bring (S : ty_S) (x1 : Int32) (x2 : Int32) (K : ty_S → Int32 → Prop) : Prop :=
  (eX0_labelOf S x1 (fun S1 r1 => (eX0_references S1 x1 (fun S2 r2 => (eX0_numbers S2 x1 (fun S3 r3 => (eX0_load S3 x2 r1 r2 r3 (fun S4 r4 => (if r4 = (-1 : Int32) then K S4 (-1 : Int32) else (eX0_size S4 x1 (fun S5 r5 => ∃ n9, lX0_bring_38 K  n9 x1 r4 r5 (2 : Int32) S5)))))))))))
set_option maxHeartbeats 4000000 in
set_option maxRecDepth 100000 in
theorem cX0_bring_C (l : Launch) (D : va_G) (cA : Nat → ClassId) (q : Nat → Nat) (S : ty_S) (x1 : Int32) (x2 : Int32) (K : ty_S → Int32 → Prop) (h : eX0_bring S x1 x2 K) : ∀ sz, Met l yX0_bring wsX0_bring rX0_bring (ty_Pc D cA q ty_LY S sz [.ref (q 3), .int x1, .int x2]) (ty_Qi D cA q ty_LY sz K) 0 0 (ty_A q ty_LY.length sz) := by
  refine ty_ofM (ret := (some .int)) (maxL := 6) (cc := cX0_bring) (own := RX0) (Qc := fun sz => ty_Qi D cA q ty_LY sz K) (by decide +kernel) rfl (Nat.le_of_ble_eq_true rfl) rfl ?_
  intro p e s m args below meth c ls X hl Y
  have hx := X.1.1
  have hb := X.1.2.1
  have hl : lv_has ls 6 [(0, .ref (q 3)), (1, .int x1), (2, .int x2)] := hl
  unfold eX0_bring at h
  refine lv_aload_n hx hb dX0_bring_0 rfl (lv_at hl 0 rfl) ?_
  refine lv_iload_n hx hb dX0_bring_1 rfl (lv_at hl 2 rfl) ?_
  refine lv_aload_n hx hb dX0_bring_2 rfl (lv_at hl 0 rfl) ?_
  refine lv_iload_n hx hb dX0_bring_3 rfl (lv_at hl 1 rfl) ?_
  refine ty_Vi (As := [.int x1]) (b := 3) (rest := [.int x2, .ref (q 3)]) X Y (cX0_labelOf_C l D cA q S x1 _ h) rfl rfl (fun hts => cwV 1 hts gX0_bring_X0_labelOf rfl rfl rfl (by decide +kernel) ⟨Nat.le_of_ble_eq_true rfl, Nat.le_of_ble_eq_true rfl⟩) rfl hl.1 (Nat.le_of_ble_eq_true rfl) dX0_bring_4 ⟨Nat.zero_le _, Nat.zero_le _⟩ (fun r1 S1 H locs h Y => ?_)
  refine lv_aload_n hx hb dX0_bring_7 rfl (lv_at hl 0 rfl) ?_
  refine lv_iload_n hx hb dX0_bring_8 rfl (lv_at hl 1 rfl) ?_
  refine ty_Vi (As := [.int x1]) (b := 3) (rest := [.int r1, .int x2, .ref (q 3)]) X Y (cX0_references_C l D cA q S1 x1 _ h) rfl rfl (fun hts => cwV 1 hts gX0_bring_X0_references rfl rfl rfl (by decide +kernel) ⟨Nat.le_of_ble_eq_true rfl, Nat.le_of_ble_eq_true rfl⟩) rfl hl.1 (Nat.le_of_ble_eq_true rfl) dX0_bring_9 ⟨Nat.zero_le _, Nat.zero_le _⟩ (fun r2 S2 H locs h Y => ?_)
  refine lv_aload_n hx hb dX0_bring_12 rfl (lv_at hl 0 rfl) ?_
  refine lv_iload_n hx hb dX0_bring_13 rfl (lv_at hl 1 rfl) ?_
  refine ty_Vi (As := [.int x1]) (b := 3) (rest := [.int r2, .int r1, .int x2, .ref (q 3)]) X Y (cX0_numbers_C l D cA q S2 x1 _ h) rfl rfl (fun hts => cwV 1 hts gX0_bring_X0_numbers rfl rfl rfl (by decide +kernel) ⟨Nat.le_of_ble_eq_true rfl, Nat.le_of_ble_eq_true rfl⟩) rfl hl.1 (Nat.le_of_ble_eq_true rfl) dX0_bring_14 ⟨Nat.zero_le _, Nat.zero_le _⟩ (fun r3 S3 H locs h Y => ?_)
  refine ty_Vi (As := [.int x2, .int r1, .int r2, .int r3]) (b := 3) (rest := []) X Y (cX0_load_C l D cA q S3 x2 r1 r2 r3 _ h) rfl rfl (fun hts => cwV 4 hts gX0_bring_X0_load rfl rfl rfl (by decide +kernel) ⟨Nat.le_of_ble_eq_true rfl, Nat.le_of_ble_eq_true rfl⟩) rfl hl.1 (Nat.le_of_ble_eq_true rfl) dX0_bring_17 ⟨Nat.zero_le _, Nat.zero_le _⟩ (fun r4 S4 H locs h Y => ?_)
  refine lv_istore_n (lv' := [(3, .int r4), (0, .ref (q 3)), (1, .int x1), (2, .int x2)]) hx hb dX0_bring_20 rfl hl (by decide) rfl (fun ls hl => ?_)
  refine lv_iload_n hx hb dX0_bring_21 rfl (lv_at hl 0 rfl) ?_
  refine lv_iconst (v := (-1 : Int32)) hx hb dX0_bring_22 (by decide) ?_
  refine lv_icmp_ne (tgt := 28) hx hb dX0_bring_23 (by decide) (fun c9 => ?_) (fun c9 => ?_)
  · have h := ty_f h c9
    refine lv_aload_n hx hb dX0_bring_28 rfl (lv_at hl 1 rfl) ?_
    refine lv_iload_n hx hb dX0_bring_29 rfl (lv_at hl 2 rfl) ?_
    refine ty_Vi (As := [.int x1]) (b := 3) (rest := []) X Y (cX0_size_C l D cA q S4 x1 _ h) rfl rfl (fun hts => cwV 1 hts gX0_bring_X0_size rfl rfl rfl (by decide +kernel) ⟨Nat.le_of_ble_eq_true rfl, Nat.le_of_ble_eq_true rfl⟩) rfl hl.1 (Nat.le_of_ble_eq_true rfl) dX0_bring_30 ⟨Nat.zero_le _, Nat.zero_le _⟩ (fun r5 S5 H locs h Y => ?_)
    refine lv_istore (lv' := [(4, .int r5), (3, .int r4), (0, .ref (q 3)), (1, .int x1), (2, .int x2)]) hx hb dX0_bring_33 hl (by decide) rfl (fun ls hl => ?_)
    refine lv_iconst (v := (2 : Int32)) hx hb dX0_bring_35 (by decide) ?_
    refine lv_istore (lv' := [(5, .int (2 : Int32)), (4, .int r5), (3, .int r4), (0, .ref (q 3)), (1, .int x1), (2, .int x2)]) hx hb dX0_bring_36 hl (by decide) rfl (fun ls hl => ?_)
    obtain ⟨n9, h⟩ := h
    exact wlX0_bring_38 X  n9 _ _ _ _ _ _ _ _ h Y (lv_sub hl [3, 4, 2, 1, 0] rfl)
  · have h := ty_t h c9
    refine lv_iconst (v := (-1 : Int32)) hx hb dX0_bring_26 (by decide) ?_
    exact ty_iret X Y h dX0_bring_27

abbrev rX0_things : Room := { frames := 1, cells := 0, slots := 0, locals := 20 }
theorem kX0_things_0 : Cond.fieldLink RX0 22 "TrainYard$Freight" "thingCount" "[I" ∈ wsX0_things := ty_m 1 (by decide +kernel)
theorem kX0_things_1 : Cond.initialized yX4_isCar.cls ∈ wsX0_things := ty_m 3 (by decide +kernel)
theorem kX0_things_2 : Cond.static yX4_isCar ∈ wsX0_things := ty_m 2 (by decide +kernel)
theorem iX0_things_X0 : ∀ w ∈ wsX00, w ∈ wsX0_things := ty_inp _ [5, 6, 7, 8, 9] (by decide +kernel)
def eX0_things (S : ty_S) (x1 : Int32) (K : ty_S → Int32 → Prop) : Prop :=
  (eX4_isCar S x1 (fun S1 r1 => (if r1 = (0 : Int32) then K S1 (0 : Int32) else (vp_in x1 40 ∧ K S1 (S1 3 x1.toNatClampNeg)))))
set_option maxHeartbeats 4000000 in
set_option maxRecDepth 100000 in
theorem cX0_things_C (l : Launch) (D : va_G) (cA : Nat → ClassId) (q : Nat → Nat) (S : ty_S) (x1 : Int32) (K : ty_S → Int32 → Prop) (h : eX0_things S x1 K) : ∀ sz, Met l yX0_things wsX0_things rX0_things (ty_Pc D cA q ty_LY S sz [.ref (q 3), .int x1]) (ty_Qi D cA q ty_LY sz K) 0 0 (ty_A q ty_LY.length sz) := by
  refine ty_ofM (ret := (some .int)) (maxL := 2) (cc := cX0_things) (own := RX0) (Qc := fun sz => ty_Qi D cA q ty_LY sz K) (by decide +kernel) rfl (Nat.le_of_ble_eq_true rfl) rfl ?_
  intro p e s m args below meth c ls X hl Y
  have hx := X.1.1
  have hb := X.1.2.1
  have hl : lv_has ls 2 [(0, .ref (q 3)), (1, .int x1)] := hl
  unfold eX0_things at h
  refine lv_iload_n hx hb dX0_things_0 rfl (lv_at hl 1 rfl) ?_
  refine ty_SNi (As := [.int x1]) (rest := []) X Y (cX4_isCar_C l D cA q S x1 _ h) (fun hts hN => ty_cwSN 1 hts hN gX0_things_X4_isCar_n32 rfl (ty_m 15 rfl) kX0_things_1 kX0_things_2 rfl rfl (by decide +kernel) ⟨Nat.le_of_ble_eq_true rfl, Nat.le_of_ble_eq_true rfl⟩) rfl hl.1 (Nat.le_of_ble_eq_true rfl) dX0_things_1 ⟨Nat.zero_le _, Nat.zero_le _⟩ (fun r1 S1 H locs h Y => ?_)
  refine lv_if_eq (tgt := 16) hx hb dX0_things_4 (by decide) (fun c9 => ?_) (fun c9 => ?_)
  · have h := ty_t h c9
    refine lv_iconst (v := (0 : Int32)) hx hb dX0_things_16 (by decide) ?_
    exact ty_iret X Y h dX0_things_17
  · have h := ty_f h c9
    refine lv_aload_n hx hb dX0_things_7 rfl (lv_at hl 0 rfl) ?_
    refine tg_X0_thingCount X Y iX0_things_X0 kX0_things_0 dX0_things_8 ?_
    refine lv_iload_n hx hb dX0_things_11 rfl (lv_at hl 1 rfl) ?_
    refine ty_iald (v := (S1 3 x1.toNatClampNeg)) X Y 13 40 3 rfl h.1 rfl dX0_things_12 ?_
    have h := h.2
    refine lv_goto (tgt := 17) hx hb dX0_things_13 (by decide) ?_
    exact ty_iret X Y h dX0_things_17

abbrev rX0_clear : Room := { frames := 1, cells := 0, slots := 0, locals := 20 }
theorem kX0_clear_0 : Cond.fieldLink RX0 19 "TrainYard$Freight" "filled" "[I" ∈ wsX0_clear := ty_m 3 (by decide +kernel)
theorem kX0_clear_1 : Cond.fieldLink RX0 22 "TrainYard$Freight" "thingCount" "[I" ∈ wsX0_clear := ty_m 4 (by decide +kernel)
theorem kX0_clear_2 : Cond.fieldLink RX0 9 "TrainYard$Freight" "words" "[I" ∈ wsX0_clear := ty_m 1 (by decide +kernel)
theorem kX0_clear_3 : Cond.fieldLink RX0 15 "TrainYard$Freight" "isReference" "[Z" ∈ wsX0_clear := ty_m 2 (by decide +kernel)
theorem kX0_clear_4 : Cond.initialized yX4_isCar.cls ∈ wsX0_clear := ty_m 6 (by decide +kernel)
theorem kX0_clear_5 : Cond.static yX4_isCar ∈ wsX0_clear := ty_m 5 (by decide +kernel)
theorem iX0_clear_X0 : ∀ w ∈ wsX00, w ∈ wsX0_clear := ty_inp _ [8, 9, 10, 11, 12] (by decide +kernel)
def jX0_clear_50 (K : ty_S → Prop)  (x1 : Int32) (S : ty_S) : Prop :=
  (vp_in x1 40 ∧ (vp_in x1 40 ∧ K (ty_st (ty_st S 2 x1.toNatClampNeg (0 : Int32)) 3 x1.toNatClampNeg (0 : Int32))))
set_option maxHeartbeats 4000000 in
set_option maxRecDepth 100000 in
theorem wjX0_clear_50 {p : Program} {l : Launch} {e : Env} {s : State} {m : MethodId} {args : Array Value} {below : List Frame} {meth : Method} {c : Code} {D : va_G} {cA : Nat → ClassId} {q : Nat → Nat} {K : ty_S → Prop}  (X : ty_X D cA p s m args meth c cX0_clear 4 none wsX0_clear RX0)  (x1 : Int32) (S : ty_S) (H : Heap) (locs : List Loc) (ls : Array Slot) (h : jX0_clear_50 K  x1 S) (Y : ty_Y D cA q ty_LY S s H locs) (hl : lv_has ls 4 [(0, .ref (q 3)), (1, .int x1)]) : W p l e rX0_clear s m args below meth c H locs 0 0 (ty_MV D cA q ty_LY K below args s) (F0 m 50 ls []) := by
  have hx := X.1.1
  have hb := X.1.2.1
  unfold jX0_clear_50 at h
  refine lv_aload_n hx hb dX0_clear_50 rfl (lv_at hl 0 rfl) ?_
  refine tg_X0_filled X Y iX0_clear_X0 kX0_clear_0 dX0_clear_51 ?_
  refine lv_iload_n hx hb dX0_clear_54 rfl (lv_at hl 1 rfl) ?_
  refine lv_iconst (v := (0 : Int32)) hx hb dX0_clear_55 (by decide) ?_
  refine ty_iast X Y 12 40 2 rfl (by decide) h.1 dX0_clear_56 (fun H locs Y => ?_)
  have h := h.2
  refine lv_aload_n hx hb dX0_clear_57 rfl (lv_at hl 0 rfl) ?_
  refine tg_X0_thingCount X Y iX0_clear_X0 kX0_clear_1 dX0_clear_58 ?_
  refine lv_iload_n hx hb dX0_clear_61 rfl (lv_at hl 1 rfl) ?_
  refine lv_iconst (v := (0 : Int32)) hx hb dX0_clear_62 (by decide) ?_
  refine ty_iast X Y 13 40 3 rfl (by decide) h.1 dX0_clear_63 (fun H locs Y => ?_)
  have h := h.2
  exact ty_vret X Y h dX0_clear_64
def lX0_clear_15 (K : ty_S → Prop)  : Nat → Int32 → Int32 → Int32 → ty_S → Prop
  | 0, _, _, _, _ => False
  | n + 1, x1, x2, x3, S => (if (x2 + (32 : Int32)) ≤ x3 then jX0_clear_50 K  x1 S else (if (1280 : Int32) ≤ x3 then jX0_clear_50 K  x1 S else (vp_in x3 1280 ∧ (vp_in x3 1280 ∧ lX0_clear_15 K  n x1 x2 (x3 + (1 : Int32)) (ty_st (ty_st S 0 x3.toNatClampNeg (0 : Int32)) 1 x3.toNatClampNeg (0 : Int32))))))
set_option maxHeartbeats 4000000 in
set_option maxRecDepth 100000 in
theorem wlX0_clear_15 {p : Program} {l : Launch} {e : Env} {s : State} {m : MethodId} {args : Array Value} {below : List Frame} {meth : Method} {c : Code} {D : va_G} {cA : Nat → ClassId} {q : Nat → Nat} {K : ty_S → Prop}  (X : ty_X D cA p s m args meth c cX0_clear 4 none wsX0_clear RX0)  : ∀ (n : Nat) (x1 : Int32) (x2 : Int32) (x3 : Int32) (S : ty_S) (H : Heap) (locs : List Loc) (ls : Array Slot), lX0_clear_15 K  n x1 x2 x3 S → ty_Y D cA q ty_LY S s H locs → lv_has ls 4 [(0, .ref (q 3)), (1, .int x1), (2, .int x2), (3, .int x3)] → W p l e rX0_clear s m args below meth c H locs 0 0 (ty_MV D cA q ty_LY K below args s) (F0 m 15 ls []) := by
  have hx := X.1.1
  have hb := X.1.2.1
  intro n
  induction n with
  | zero =>
    intro x1 x2 x3 S H locs ls h
    exact False.elim h
  | succ n ih =>
    intro x1 x2 x3 S H locs ls h Y hl
    unfold lX0_clear_15 at h
    refine lv_iload_n hx hb dX0_clear_15 rfl (lv_at hl 3 rfl) ?_
    refine lv_iload_n hx hb dX0_clear_16 rfl (lv_at hl 2 rfl) ?_
    refine lv_bipush (v := (32 : Int32)) hx hb dX0_clear_17 (by decide) ?_
    refine lv_iadd hx hb dX0_clear_19 ?_
    refine lv_icmp_ge (tgt := 50) hx hb dX0_clear_20 (by decide) (fun c9 => ?_) (fun c9 => ?_)
    · have h := ty_t h c9
      exact wjX0_clear_50 X  _ _ _ _ _ h Y (lv_sub hl [0, 1] rfl)
    · have h := ty_f h c9
      refine lv_iload_n hx hb dX0_clear_23 rfl (lv_at hl 3 rfl) ?_
      refine lv_sipush (v := (1280 : Int32)) hx hb dX0_clear_24 (by decide) ?_
      refine lv_icmp_ge (tgt := 50) hx hb dX0_clear_27 (by decide) (fun c9 => ?_) (fun c9 => ?_)
      · have h := ty_t h c9
        exact wjX0_clear_50 X  _ _ _ _ _ h Y (lv_sub hl [0, 1] rfl)
      · have h := ty_f h c9
        refine lv_aload_n hx hb dX0_clear_30 rfl (lv_at hl 0 rfl) ?_
        refine tg_X0_words X Y iX0_clear_X0 kX0_clear_2 dX0_clear_31 ?_
        refine lv_iload_n hx hb dX0_clear_34 rfl (lv_at hl 3 rfl) ?_
        refine lv_iconst (v := (0 : Int32)) hx hb dX0_clear_35 (by decide) ?_
        refine ty_iast X Y 10 1280 0 rfl (by decide) h.1 dX0_clear_36 (fun H locs Y => ?_)
        have h := h.2
        refine lv_aload_n hx hb dX0_clear_37 rfl (lv_at hl 0 rfl) ?_
        refine tg_X0_isReference X Y iX0_clear_X0 kX0_clear_3 dX0_clear_38 ?_
        refine lv_iload_n hx hb dX0_clear_41 rfl (lv_at hl 3 rfl) ?_
        refine lv_iconst (v := (0 : Int32)) hx hb dX0_clear_42 (by decide) ?_
        refine ty_zast X Y 11 1280 1 rfl (by decide) h.1 rfl dX0_clear_43 (fun H locs Y => ?_)
        have h := h.2
        refine lv_iinc (v := (x3 + (1 : Int32))) (lv' := [(3, .int (x3 + (1 : Int32))), (0, .ref (q 3)), (1, .int x1), (2, .int x2)]) hx hb dX0_clear_44 hl (k := 3) rfl rfl (by decide) rfl (fun ls hl => ?_)
        refine lv_goto (tgt := 15) hx hb dX0_clear_47 (by decide) ?_
        exact ih _ _ _ _ _ _ _ h Y (lv_sub hl [1, 2, 3, 0] rfl)
def eX0_clear (S : ty_S) (x1 : Int32) (K : ty_S → Prop) : Prop :=
  (eX4_isCar S x1 (fun S1 r1 => (if r1 = (0 : Int32) then K S1 else ∃ n9, lX0_clear_15 K  n9 x1 (x1 * (32 : Int32)) (x1 * (32 : Int32)) S1)))
set_option maxHeartbeats 4000000 in
set_option maxRecDepth 100000 in
theorem cX0_clear_C (l : Launch) (D : va_G) (cA : Nat → ClassId) (q : Nat → Nat) (S : ty_S) (x1 : Int32) (K : ty_S → Prop) (h : eX0_clear S x1 K) : ∀ sz, Met l yX0_clear wsX0_clear rX0_clear (ty_Pc D cA q ty_LY S sz [.ref (q 3), .int x1]) (ty_Qv D cA q ty_LY sz K) 0 0 (ty_A q ty_LY.length sz) := by
  refine ty_ofM (ret := none) (maxL := 4) (cc := cX0_clear) (own := RX0) (Qc := fun sz => ty_Qv D cA q ty_LY sz K) (by decide +kernel) rfl (Nat.le_of_ble_eq_true rfl) rfl ?_
  intro p e s m args below meth c ls X hl Y
  have hx := X.1.1
  have hb := X.1.2.1
  have hl : lv_has ls 4 [(0, .ref (q 3)), (1, .int x1)] := hl
  unfold eX0_clear at h
  refine lv_iload_n hx hb dX0_clear_0 rfl (lv_at hl 1 rfl) ?_
  refine ty_SNi (As := [.int x1]) (rest := []) X Y (cX4_isCar_C l D cA q S x1 _ h) (fun hts hN => ty_cwSN 1 hts hN gX0_clear_X4_isCar_n32 rfl (ty_m 15 rfl) kX0_clear_4 kX0_clear_5 rfl rfl (by decide +kernel) ⟨Nat.le_of_ble_eq_true rfl, Nat.le_of_ble_eq_true rfl⟩) rfl hl.1 (Nat.le_of_ble_eq_true rfl) dX0_clear_1 ⟨Nat.zero_le _, Nat.zero_le _⟩ (fun r1 S1 H locs h Y => ?_)
  refine lv_if_ne (tgt := 8) hx hb dX0_clear_4 (by decide) (fun c9 => ?_) (fun c9 => ?_)
  · have h := ty_f h c9
    refine lv_iload_n hx hb dX0_clear_8 rfl (lv_at hl 1 rfl) ?_
    refine lv_bipush (v := (32 : Int32)) hx hb dX0_clear_9 (by decide) ?_
    refine lv_imul hx hb dX0_clear_11 ?_
    refine lv_istore_n (lv' := [(2, .int (x1 * (32 : Int32))), (0, .ref (q 3)), (1, .int x1)]) hx hb dX0_clear_12 rfl hl (by decide) rfl (fun ls hl => ?_)
    refine lv_iload_n hx hb dX0_clear_13 rfl (lv_at hl 0 rfl) ?_
    refine lv_istore_n (lv' := [(3, .int (x1 * (32 : Int32))), (2, .int (x1 * (32 : Int32))), (0, .ref (q 3)), (1, .int x1)]) hx hb dX0_clear_14 rfl hl (by decide) rfl (fun ls hl => ?_)
    obtain ⟨n9, h⟩ := h
    exact wlX0_clear_15 X  n9 _ _ _ _ _ _ _ h Y (lv_sub hl [2, 3, 1, 0] rfl)
  · have h := ty_t h c9
    exact ty_vret X Y h dX0_clear_7

abbrev rX0_lastLabel : Room := { frames := 2, cells := 0, slots := 0, locals := 42 }
theorem kX0_lastLabel_0 : Cond.fieldLink RX0 25 "TrainYard$Freight" "lastThing" "[I" ∈ wsX0_lastLabel := ty_m 1 (by decide +kernel)
theorem iX0_lastLabel_X0 : ∀ w ∈ wsX00, w ∈ wsX0_lastLabel := ty_inp _ [20, 21, 22, 23, 24] (by decide +kernel)
def eX0_lastLabel (S : ty_S) (x1 : Int32) (K : ty_S → Int32 → Prop) : Prop :=
  (eX0_things S x1 (fun S1 r1 => (if r1 = (0 : Int32) then K S1 (0 : Int32) else (vp_in x1 40 ∧ (eX0_labelOf S1 (S1 4 x1.toNatClampNeg) (fun S2 r2 => K S2 r2))))))
set_option maxHeartbeats 4000000 in
set_option maxRecDepth 100000 in
theorem cX0_lastLabel_C (l : Launch) (D : va_G) (cA : Nat → ClassId) (q : Nat → Nat) (S : ty_S) (x1 : Int32) (K : ty_S → Int32 → Prop) (h : eX0_lastLabel S x1 K) : ∀ sz, Met l yX0_lastLabel wsX0_lastLabel rX0_lastLabel (ty_Pc D cA q ty_LY S sz [.ref (q 3), .int x1]) (ty_Qi D cA q ty_LY sz K) 0 0 (ty_A q ty_LY.length sz) := by
  refine ty_ofM (ret := (some .int)) (maxL := 2) (cc := cX0_lastLabel) (own := RX0) (Qc := fun sz => ty_Qi D cA q ty_LY sz K) (by decide +kernel) rfl (Nat.le_of_ble_eq_true rfl) rfl ?_
  intro p e s m args below meth c ls X hl Y
  have hx := X.1.1
  have hb := X.1.2.1
  have hl : lv_has ls 2 [(0, .ref (q 3)), (1, .int x1)] := hl
  unfold eX0_lastLabel at h
  refine lv_aload_n hx hb dX0_lastLabel_0 rfl (lv_at hl 0 rfl) ?_
  refine lv_iload_n hx hb dX0_lastLabel_1 rfl (lv_at hl 1 rfl) ?_
  refine ty_Vi (As := [.int x1]) (b := 3) (rest := []) X Y (cX0_things_C l D cA q S x1 _ h) rfl rfl (fun hts => cwV 1 hts gX0_lastLabel_X0_things rfl rfl rfl (by decide +kernel) ⟨Nat.le_of_ble_eq_true rfl, Nat.le_of_ble_eq_true rfl⟩) rfl hl.1 (Nat.le_of_ble_eq_true rfl) dX0_lastLabel_2 ⟨Nat.zero_le _, Nat.zero_le _⟩ (fun r1 S1 H locs h Y => ?_)
  refine lv_if_ne (tgt := 12) hx hb dX0_lastLabel_5 (by decide) (fun c9 => ?_) (fun c9 => ?_)
  · have h := ty_f h c9
    refine lv_aload_n hx hb dX0_lastLabel_12 rfl (lv_at hl 0 rfl) ?_
    refine lv_aload_n hx hb dX0_lastLabel_13 rfl (lv_at hl 0 rfl) ?_
    refine tg_X0_lastThing X Y iX0_lastLabel_X0 kX0_lastLabel_0 dX0_lastLabel_14 ?_
    refine lv_iload_n hx hb dX0_lastLabel_17 rfl (lv_at hl 1 rfl) ?_
    refine ty_iald (v := (S1 4 x1.toNatClampNeg)) X Y 14 40 4 rfl h.1 rfl dX0_lastLabel_18 ?_
    have h := h.2
    refine ty_Vi (As := [.int (S1 4 x1.toNatClampNeg)]) (b := 3) (rest := []) X Y (cX0_labelOf_C l D cA q S1 (S1 4 x1.toNatClampNeg) _ h) rfl rfl (fun hts => cwV 1 hts gX0_lastLabel_X0_labelOf rfl rfl rfl (by decide +kernel) ⟨Nat.le_of_ble_eq_true rfl, Nat.le_of_ble_eq_true rfl⟩) rfl hl.1 (Nat.le_of_ble_eq_true rfl) dX0_lastLabel_19 ⟨Nat.zero_le _, Nat.zero_le _⟩ (fun r2 S2 H locs h Y => ?_)
    exact ty_iret X Y h dX0_lastLabel_22
  · have h := ty_t h c9
    refine lv_iconst (v := (0 : Int32)) hx hb dX0_lastLabel_8 (by decide) ?_
    refine lv_goto (tgt := 22) hx hb dX0_lastLabel_9 (by decide) ?_
    exact ty_iret X Y h dX0_lastLabel_22
