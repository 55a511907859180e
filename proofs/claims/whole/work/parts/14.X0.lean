abbrev rX0_at : Room := { frames := 0, cells := 0, slots := 0, locals := 0 }
theorem kX0_at_0 : Cond.fieldLink RX0 9 "TrainYard$Freight" "words" "[I" ∈ wsX0_at := ty_m 1 (by decide +kernel)
theorem iX0_at_X0 : ∀ w ∈ wsX00, w ∈ wsX0_at := ty_inp _ [2, 3, 4, 5, 6] (by decide +kernel)
def eX0_at (S : ty_S) (x1 : Int32) (K : ty_S → Int32 → Prop) : Prop :=
  (if x1 < (0 : Int32) then K S (0 : Int32) else (if (1280 : Int32) ≤ x1 then K S (0 : Int32) else (vp_in x1 1280 ∧ K S (S 0 x1.toNatClampNeg))))
set_option maxHeartbeats 4000000 in
set_option maxRecDepth 100000 in
theorem cX0_at_C (l : Launch) (D : va_G) (cA : Nat → ClassId) (q : Nat → Nat) (S : ty_S) (x1 : Int32) (K : ty_S → Int32 → Prop) (h : eX0_at S x1 K) : ∀ sz, Met l yX0_at wsX0_at rX0_at (ty_Pc D cA q ty_LY S sz [.ref (q 3), .int x1]) (ty_Qi D cA q ty_LY sz K) 0 0 (ty_A q ty_LY.length sz) := by
  refine ty_ofM (ret := (some .int)) (maxL := 2) (cc := cX0_at) (own := RX0) (Qc := fun sz => ty_Qi D cA q ty_LY sz K) (by decide +kernel) rfl (Nat.le_of_ble_eq_true rfl) rfl ?_
  intro p e s m args below meth c ls X hl Y
  have hx := X.1.1
  have hb := X.1.2.1
  have hl : lv_has ls 2 [(0, .ref (q 3)), (1, .int x1)] := hl
  unfold eX0_at at h
  refine lv_iload_n hx hb dX0_at_0 rfl (lv_at hl 1 rfl) ?_
  refine lv_if_lt (tgt := 20) hx hb dX0_at_1 (by decide) (fun c9 => ?_) (fun c9 => ?_)
  · have h := ty_t h c9
    refine lv_iconst (v := (0 : Int32)) hx hb dX0_at_20 (by decide) ?_
    exact ty_iret X Y h dX0_at_21
  · have h := ty_f h c9
    refine lv_iload_n hx hb dX0_at_4 rfl (lv_at hl 1 rfl) ?_
    refine lv_sipush (v := (1280 : Int32)) hx hb dX0_at_5 (by decide) ?_
    refine lv_icmp_ge (tgt := 20) hx hb dX0_at_8 (by decide) (fun c9 => ?_) (fun c9 => ?_)
    · have h := ty_t h c9
      refine lv_iconst (v := (0 : Int32)) hx hb dX0_at_20 (by decide) ?_
      exact ty_iret X Y h dX0_at_21
    · have h := ty_f h c9
      refine lv_aload_n hx hb dX0_at_11 rfl (lv_at hl 0 rfl) ?_
      refine tg_X0_words X Y iX0_at_X0 kX0_at_0 dX0_at_12 ?_
      refine lv_iload_n hx hb dX0_at_15 rfl (lv_at hl 1 rfl) ?_
      refine ty_iald (v := (S 0 x1.toNatClampNeg)) X Y 10 1280 0 rfl h.1 rfl dX0_at_16 ?_
      have h := h.2
      refine lv_goto (tgt := 21) hx hb dX0_at_17 (by decide) ?_
      exact ty_iret X Y h dX0_at_21

abbrev rX0_write : Room := { frames := 0, cells := 0, slots := 0, locals := 0 }
theorem kX0_write_0 : Cond.fieldLink RX0 9 "TrainYard$Freight" "words" "[I" ∈ wsX0_write := ty_m 1 (by decide +kernel)
theorem iX0_write_X0 : ∀ w ∈ wsX00, w ∈ wsX0_write := ty_inp _ [2, 3, 4, 5, 6] (by decide +kernel)
def eX0_write (S : ty_S) (x1 : Int32) (x2 : Int32) (K : ty_S → Prop) : Prop :=
  (if x1 < (0 : Int32) then K S else (if (1280 : Int32) ≤ x1 then K S else (vp_in x1 1280 ∧ K (ty_st S 0 x1.toNatClampNeg x2))))
set_option maxHeartbeats 4000000 in
set_option maxRecDepth 100000 in
theorem cX0_write_C (l : Launch) (D : va_G) (cA : Nat → ClassId) (q : Nat → Nat) (S : ty_S) (x1 : Int32) (x2 : Int32) (K : ty_S → Prop) (h : eX0_write S x1 x2 K) : ∀ sz, Met l yX0_write wsX0_write rX0_write (ty_Pc D cA q ty_LY S sz [.ref (q 3), .int x1, .int x2]) (ty_Qv D cA q ty_LY sz K) 0 0 (ty_A q ty_LY.length sz) := by
  refine ty_ofM (ret := none) (maxL := 3) (cc := cX0_write) (own := RX0) (Qc := fun sz => ty_Qv D cA q ty_LY sz K) (by decide +kernel) rfl (Nat.le_of_ble_eq_true rfl) rfl ?_
  intro p e s m args below meth c ls X hl Y
  have hx := X.1.1
  have hb := X.1.2.1
  have hl : lv_has ls 3 [(0, .ref (q 3)), (1, .int x1), (2, .int x2)] := hl
  unfold eX0_write at h
  refine lv_iload_n hx hb dX0_write_0 rfl (lv_at hl 1 rfl) ?_
  refine lv_if_lt (tgt := 18) hx hb dX0_write_1 (by decide) (fun c9 => ?_) (fun c9 => ?_)
  · have h := ty_t h c9
    exact ty_vret X Y h dX0_write_18
  · have h := ty_f h c9
    refine lv_iload_n hx hb dX0_write_4 rfl (lv_at hl 1 rfl) ?_
    refine lv_sipush (v := (1280 : Int32)) hx hb dX0_write_5 (by decide) ?_
    refine lv_icmp_ge (tgt := 18) hx hb dX0_write_8 (by decide) (fun c9 => ?_) (fun c9 => ?_)
    · have h := ty_t h c9
      exact ty_vret X Y h dX0_write_18
    · have h := ty_f h c9
      refine lv_aload_n hx hb dX0_write_11 rfl (lv_at hl 0 rfl) ?_
      refine tg_X0_words X Y iX0_write_X0 kX0_write_0 dX0_write_12 ?_
      refine lv_iload_n hx hb dX0_write_15 rfl (lv_at hl 1 rfl) ?_
      refine lv_iload_n hx hb dX0_write_16 rfl (lv_at hl 2 rfl) ?_
      refine ty_iast X Y 10 1280 0 rfl (by decide) h.1 dX0_write_17 (fun H locs Y => ?_)
      have h := h.2
      exact ty_vret X Y h dX0_write_18

abbrev rX0_labelOf : Room := { frames := 1, cells := 0, slots := 0, locals := 21 }
def eX0_labelOf (S : ty_S) (x1 : Int32) (K : ty_S → Int32 → Prop) : Prop :=
  (eX0_at S x1 (fun S1 r1 => K S1 r1))
set_option maxHeartbeats 4000000 in
set_option maxRecDepth 100000 in
theorem cX0_labelOf_C (l : Launch) (D : va_G) (cA : Nat → ClassId) (q : Nat → Nat) (S : ty_S) (x1 : Int32) (K : ty_S → Int32 → Prop) (h : eX0_labelOf S x1 K) : ∀ sz, Met l yX0_labelOf wsX0_labelOf rX0_labelOf (ty_Pc D cA q ty_LY S sz [.ref (q 3), .int x1]) (ty_Qi D cA q ty_LY sz K) 0 0 (ty_A q ty_LY.length sz) := by
  refine ty_ofM (ret := (some .int)) (maxL := 2) (cc := cX0_labelOf) (own := RX0) (Qc := fun sz => ty_Qi D cA q ty_LY sz K) (by decide +kernel) rfl (Nat.le_of_ble_eq_true rfl) rfl ?_
  intro p e s m args below meth c ls X hl Y
  have hx := X.1.1
  have hb := X.1.2.1
  have hl : lv_has ls 2 [(0, .ref (q 3)), (1, .int x1)] := hl
  unfold eX0_labelOf at h
  refine lv_aload_n hx hb dX0_labelOf_0 rfl (lv_at hl 0 rfl) ?_
  refine lv_iload_n hx hb dX0_labelOf_1 rfl (lv_at hl 1 rfl) ?_
  refine ty_Vi (As := [.int x1]) (b := 3) (rest := []) X Y (cX0_at_C l D cA q S x1 _ h) rfl rfl (fun hts => cwV 1 hts gX0_labelOf_X0_at rfl rfl rfl (by decide +kernel) ⟨Nat.le_of_ble_eq_true rfl, Nat.le_of_ble_eq_true rfl⟩) rfl hl.1 (Nat.le_of_ble_eq_true rfl) dX0_labelOf_2 ⟨Nat.zero_le _, Nat.zero_le _⟩ (fun r1 S1 H locs h Y => ?_)
  exact ty_iret X Y h dX0_labelOf_5

abbrev rX0_references : Room := { frames := 1, cells := 0, slots := 0, locals := 21 }
def eX0_references (S : ty_S) (x1 : Int32) (K : ty_S → Int32 → Prop) : Prop :=
  (eX0_at S (x1 + (1 : Int32)) (fun S1 r1 => K S1 (r1 - r1 / (16 : Int32) * (16 : Int32))))
set_option maxHeartbeats 4000000 in
set_option maxRecDepth 100000 in
theorem cX0_references_C (l : Launch) (D : va_G) (cA : Nat → ClassId) (q : Nat → Nat) (S : ty_S) (x1 : Int32) (K : ty_S → Int32 → Prop) (h : eX0_references S x1 K) : ∀ sz, Met l yX0_references wsX0_references rX0_references (ty_Pc D cA q ty_LY S sz [.ref (q 3), .int x1]) (ty_Qi D cA q ty_LY sz K) 0 0 (ty_A q ty_LY.length sz) := by
  refine ty_ofM (ret := (some .int)) (maxL := 2) (cc := cX0_references) (own := RX0) (Qc := fun sz => ty_Qi D cA q ty_LY sz K) (by decide +kernel) rfl (Nat.le_of_ble_eq_true rfl) rfl ?_
  intro p e s m args below meth c ls X hl Y
  have hx := X.1.1
  have hb := X.1.2.1
  have hl : lv_has ls 2 [(0, .ref (q 3)), (1, .int x1)] := hl
  unfold eX0_references at h
  refine lv_aload_n hx hb dX0_references_0 rfl (lv_at hl 0 rfl) ?_
  refine lv_iload_n hx hb dX0_references_1 rfl (lv_at hl 1 rfl) ?_
  refine lv_iconst (v := (1 : Int32)) hx hb dX0_references_2 (by decide) ?_
  refine lv_iadd hx hb dX0_references_3 ?_
  refine ty_Vi (As := [.int (x1 + (1 : Int32))]) (b := 3) (rest := []) X Y (cX0_at_C l D cA q S (x1 + (1 : Int32)) _ h) rfl rfl (fun hts => cwV 1 hts gX0_references_X0_at rfl rfl rfl (by decide +kernel) ⟨Nat.le_of_ble_eq_true rfl, Nat.le_of_ble_eq_true rfl⟩) rfl hl.1 (Nat.le_of_ble_eq_true rfl) dX0_references_4 ⟨Nat.zero_le _, Nat.zero_le _⟩ (fun r1 S1 H locs h Y => ?_)
  refine lv_bipush (v := (16 : Int32)) hx hb dX0_references_7 (by decide) ?_
  refine lv_irem hx hb dX0_references_9 (by decide) ?_
  exact ty_iret X Y h dX0_references_10

abbrev rX0_nextReference : Room := { frames := 0, cells := 0, slots := 0, locals := 0 }
theorem kX0_nextReference_0 : Cond.fieldLink RX0 19 "TrainYard$Freight" "filled" "[I" ∈ wsX0_nextReference := ty_m 1 (by decide +kernel)
theorem kX0_nextReference_1 : Cond.fieldLink RX0 15 "TrainYard$Freight" "isReference" "[Z" ∈ wsX0_nextReference := ty_m 2 (by decide +kernel)
theorem iX0_nextReference_X0 : ∀ w ∈ wsX00, w ∈ wsX0_nextReference := ty_inp _ [3, 4, 5, 6, 7] (by decide +kernel)
def lX0_nextReference_2 (K : ty_S → Int32 → Prop)  : Nat → Int32 → ty_S → Prop
  | 0, _, _ => False
  | n + 1, x2, S => (if x2 < (0 : Int32) then K S (1280 : Int32) else (if (1280 : Int32) ≤ x2 then K S (1280 : Int32) else (vp_in (x2 / (32 : Int32)) 40 ∧ (if (x2 - x2 / (32 : Int32) * (32 : Int32)) < (S 2 (x2 / (32 : Int32)).toNatClampNeg) then (vp_in x2 1280 ∧ (if (S 1 x2.toNatClampNeg) = (0 : Int32) then lX0_nextReference_2 K  n (x2 + (1 : Int32)) S else K S x2)) else lX0_nextReference_2 K  n (((x2 / (32 : Int32)) + (1 : Int32)) * (32 : Int32)) S))))
set_option maxHeartbeats 4000000 in
set_option maxRecDepth 100000 in
theorem wlX0_nextReference_2 {p : Program} {l : Launch} {e : Env} {s : State} {m : MethodId} {args : Array Value} {below : List Frame} {meth : Method} {c : Code} {D : va_G} {cA : Nat → ClassId} {q : Nat → Nat} {K : ty_S → Int32 → Prop}  (X : ty_X D cA p s m args meth c cX0_nextReference 4 (some .int) wsX0_nextReference RX0)  : ∀ (n : Nat) (x2 : Int32) (S : ty_S) (H : Heap) (locs : List Loc) (ls : Array Slot), lX0_nextReference_2 K  n x2 S → ty_Y D cA q ty_LY S s H locs → lv_has ls 4 [(0, .ref (q 3)), (2, .int x2)] → W p l e rX0_nextReference s m args below meth c H locs 0 0 (ty_MI D cA q ty_LY K below args s) (F0 m 2 ls []) := by
  have hx := X.1.1
  have hb := X.1.2.1
  intro n
  induction n with
  | zero =>
    intro x2 S H locs ls h
    exact False.elim h
  | succ n ih =>
    intro x2 S H locs ls h Y hl
    unfold lX0_nextReference_2 at h
    refine lv_iload_n hx hb dX0_nextReference_2 rfl (lv_at hl 1 rfl) ?_
    refine lv_if_lt (tgt := 58) hx hb dX0_nextReference_3 (by decide) (fun c9 => ?_) (fun c9 => ?_)
    · have h := ty_t h c9
      refine lv_sipush (v := (1280 : Int32)) hx hb dX0_nextReference_58 (by decide) ?_
      exact ty_iret X Y h dX0_nextReference_61
    · have h := ty_f h c9
      refine lv_iload_n hx hb dX0_nextReference_6 rfl (lv_at hl 1 rfl) ?_
      refine lv_sipush (v := (1280 : Int32)) hx hb dX0_nextReference_7 (by decide) ?_
      refine lv_icmp_ge (tgt := 58) hx hb dX0_nextReference_10 (by decide) (fun c9 => ?_) (fun c9 => ?_)
      · have h := ty_t h c9
        refine lv_sipush (v := (1280 : Int32)) hx hb dX0_nextReference_58 (by decide) ?_
        exact ty_iret X Y h dX0_nextReference_61
      · have h := ty_f h c9
        refine lv_iload_n hx hb dX0_nextReference_13 rfl (lv_at hl 1 rfl) ?_
        refine lv_bipush (v := (32 : Int32)) hx hb dX0_nextReference_14 (by decide) ?_
        refine lv_idiv hx hb dX0_nextReference_16 (by decide) ?_
        refine lv_istore_n (lv' := [(3, .int (x2 / (32 : Int32))), (0, .ref (q 3)), (2, .int x2)]) hx hb dX0_nextReference_17 rfl hl (by decide) rfl (fun ls hl => ?_)
        refine lv_iload_n hx hb dX0_nextReference_18 rfl (lv_at hl 2 rfl) ?_
        refine lv_bipush (v := (32 : Int32)) hx hb dX0_nextReference_19 (by decide) ?_
        refine lv_irem hx hb dX0_nextReference_21 (by decide) ?_
        refine lv_aload_n hx hb dX0_nextReference_22 rfl (lv_at hl 1 rfl) ?_
        refine tg_X0_filled X Y iX0_nextReference_X0 kX0_nextReference_0 dX0_nextReference_23 ?_
        refine lv_iload_n hx hb dX0_nextReference_26 rfl (lv_at hl 0 rfl) ?_
        refine ty_iald (v := (S 2 (x2 / (32 : Int32)).toNatClampNeg)) X Y 12 40 2 rfl h.1 rfl dX0_nextReference_27 ?_
        have h := h.2
        refine lv_icmp_lt (tgt := 41) hx hb dX0_nextReference_28 (by decide) (fun c9 => ?_) (fun c9 => ?_)
        · have h := ty_t h c9
          refine lv_aload_n hx hb dX0_nextReference_41 rfl (lv_at hl 1 rfl) ?_
          refine tg_X0_isReference X Y iX0_nextReference_X0 kX0_nextReference_1 dX0_nextReference_42 ?_
          refine lv_iload_n hx hb dX0_nextReference_45 rfl (lv_at hl 2 rfl) ?_
          refine ty_zald (v := (S 1 x2.toNatClampNeg)) X Y 11 1280 1 rfl h.1 rfl dX0_nextReference_46 ?_
          have h := h.2
          refine lv_if_eq (tgt := 52) hx hb dX0_nextReference_47 (by decide) (fun c9 => ?_) (fun c9 => ?_)
          · have h := ty_t h c9
            refine lv_iinc (v := (x2 + (1 : Int32))) (lv' := [(2, .int (x2 + (1 : Int32))), (3, .int (x2 / (32 : Int32))), (0, .ref (q 3))]) hx hb dX0_nextReference_52 hl (k := 2) rfl rfl (by decide) rfl (fun ls hl => ?_)
            refine lv_goto (tgt := 2) hx hb dX0_nextReference_55 (by decide) ?_
            exact ih _ _ _ _ _ h Y (lv_sub hl [2, 0] rfl)
          · have h := ty_f h c9
            refine lv_iload_n hx hb dX0_nextReference_50 rfl (lv_at hl 2 rfl) ?_
            exact ty_iret X Y h dX0_nextReference_51
        · have h := ty_f h c9
          refine lv_iload_n hx hb dX0_nextReference_31 rfl (lv_at hl 0 rfl) ?_
          refine lv_iconst (v := (1 : Int32)) hx hb dX0_nextReference_32 (by decide) ?_
          refine lv_iadd hx hb dX0_nextReference_33 ?_
          refine lv_bipush (v := (32 : Int32)) hx hb dX0_nextReference_34 (by decide) ?_
          refine lv_imul hx hb dX0_nextReference_36 ?_
          refine lv_istore_n (lv' := [(2, .int (((x2 / (32 : Int32)) + (1 : Int32)) * (32 : Int32))), (3, .int (x2 / (32 : Int32))), (0, .ref (q 3))]) hx hb dX0_nextReference_37 rfl hl (by decide) rfl (fun ls hl => ?_)
          refine lv_goto (tgt := 55) hx hb dX0_nextReference_38 (by decide) ?_
          refine lv_goto (tgt := 2) hx hb dX0_nextReference_55 (by decide) ?_
          exact ih _ _ _ _ _ h Y (lv_sub hl [2, 0] rfl)
def eX0_nextReference (S : ty_S) (x1 : Int32) (K : ty_S → Int32 → Prop) : Prop :=
  ∃ n, lX0_nextReference_2 K  n x1 S
set_option maxHeartbeats 4000000 in
set_option maxRecDepth 100000 in
theorem cX0_nextReference_C (l : Launch) (D : va_G) (cA : Nat → ClassId) (q : Nat → Nat) (S : ty_S) (x1 : Int32) (K : ty_S → Int32 → Prop) (h : eX0_nextReference S x1 K) : ∀ sz, Met l yX0_nextReference wsX0_nextReference rX0_nextReference (ty_Pc D cA q ty_LY S sz [.ref (q 3), .int x1]) (ty_Qi D cA q ty_LY sz K) 0 0 (ty_A q ty_LY.length sz) := by
  refine ty_ofM (ret := (some .int)) (maxL := 4) (cc := cX0_nextReference) (own := RX0) (Qc := fun sz => ty_Qi D cA q ty_LY sz K) (by decide +kernel) rfl (Nat.le_of_ble_eq_true rfl) rfl ?_
  intro p e s m args below meth c ls X hl Y
  have hx := X.1.1
  have hb := X.1.2.1
  have hl : lv_has ls 4 [(0, .ref (q 3)), (1, .int x1)] := hl
  unfold eX0_nextReference at h
  refine lv_iload_n hx hb dX0_nextReference_0 rfl (lv_at hl 1 rfl) ?_
  refine lv_istore_n (lv' := [(2, .int x1), (0, .ref (q 3)), (1, .int x1)]) hx hb dX0_nextReference_1 rfl hl (by decide) rfl (fun ls hl => ?_)
  obtain ⟨n9, h⟩ := h
  exact wlX0_nextReference_2 X  n9 _ _ _ _ _ h Y (lv_sub hl [1, 0] rfl)

abbrev rX0_room : Room := { frames := 0, cells := 0, slots := 0, locals := 0 }
theorem kX0_room_0 : Cond.fieldLink RX0 19 "TrainYard$Freight" "filled" "[I" ∈ wsX0_room := ty_m 1 (by decide +kernel)
theorem iX0_room_X0 : ∀ w ∈ wsX00, w ∈ wsX0_room := ty_inp _ [2, 3, 4, 5, 6] (by decide +kernel)
def eX0_room (S : ty_S) (x1 : Int32) (K : ty_S → Int32 → Prop) : Prop :=
  (if x1 < (0 : Int32) then K S (0 : Int32) else (if (40 : Int32) ≤ x1 then K S (0 : Int32) else (vp_in x1 40 ∧ K S ((32 : Int32) - (S 2 x1.toNatClampNeg)))))
set_option maxHeartbeats 4000000 in
set_option maxRecDepth 100000 in
theorem cX0_room_C (l : Launch) (D : va_G) (cA : Nat → ClassId) (q : Nat → Nat) (S : ty_S) (x1 : Int32) (K : ty_S → Int32 → Prop) (h : eX0_room S x1 K) : ∀ sz, Met l yX0_room wsX0_room rX0_room (ty_Pc D cA q ty_LY S sz [.ref (q 3), .int x1]) (ty_Qi D cA q ty_LY sz K) 0 0 (ty_A q ty_LY.length sz) := by
  refine ty_ofM (ret := (some .int)) (maxL := 2) (cc := cX0_room) (own := RX0) (Qc := fun sz => ty_Qi D cA q ty_LY sz K) (by decide +kernel) rfl (Nat.le_of_ble_eq_true rfl) rfl ?_
  intro p e s m args below meth c ls X hl Y
  have hx := X.1.1
  have hb := X.1.2.1
  have hl : lv_has ls 2 [(0, .ref (q 3)), (1, .int x1)] := hl
  unfold eX0_room at h
  refine lv_iload_n hx hb dX0_room_0 rfl (lv_at hl 1 rfl) ?_
  refine lv_if_lt (tgt := 22) hx hb dX0_room_1 (by decide) (fun c9 => ?_) (fun c9 => ?_)
  · have h := ty_t h c9
    refine lv_iconst (v := (0 : Int32)) hx hb dX0_room_22 (by decide) ?_
    exact ty_iret X Y h dX0_room_23
  · have h := ty_f h c9
    refine lv_iload_n hx hb dX0_room_4 rfl (lv_at hl 1 rfl) ?_
    refine lv_bipush (v := (40 : Int32)) hx hb dX0_room_5 (by decide) ?_
    refine lv_icmp_ge (tgt := 22) hx hb dX0_room_7 (by decide) (fun c9 => ?_) (fun c9 => ?_)
    · have h := ty_t h c9
      refine lv_iconst (v := (0 : Int32)) hx hb dX0_room_22 (by decide) ?_
      exact ty_iret X Y h dX0_room_23
    · have h := ty_f h c9
      refine lv_bipush (v := (32 : Int32)) hx hb dX0_room_10 (by decide) ?_
      refine lv_aload_n hx hb dX0_room_12 rfl (lv_at hl 0 rfl) ?_
      refine tg_X0_filled X Y iX0_room_X0 kX0_room_0 dX0_room_13 ?_
      refine lv_iload_n hx hb dX0_room_16 rfl (lv_at hl 1 rfl) ?_
      refine ty_iald (v := (S 2 x1.toNatClampNeg)) X Y 12 40 2 rfl h.1 rfl dX0_room_17 ?_
      have h := h.2
      refine lv_isub hx hb dX0_room_18 ?_
      refine lv_goto (tgt := 23) hx hb dX0_room_19 (by decide) ?_
      exact ty_iret X Y h dX0_room_23

