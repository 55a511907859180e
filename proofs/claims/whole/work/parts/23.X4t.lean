theorem tz_ng_34 : ∀ w ∈ (vx_atS RX4 34 "java/lang/IllegalArgumentException" ty_up2).filter (fun w => !goodWord w), w ∈ ty_xw := by decide +kernel
theorem tz_good_30_34 : ∀ w ∈ Cond.classLink RX4 30 "java/lang/IllegalArgumentException" :: Cond.initialized "java/lang/IllegalArgumentException" :: vx_atS RX4 34 "java/lang/IllegalArgumentException" ty_up2, vx_ot w = true := by decide +kernel
theorem tz_fit_2 : Bundle.fit "java/lang/IllegalArgumentException" = true := by decide +kernel
theorem tz_ng_138 : ∀ w ∈ (vx_atS RX4 138 "java/lang/IndexOutOfBoundsException" ty_up2).filter (fun w => !goodWord w), w ∈ ty_xw := by decide +kernel
theorem tz_good_134_138 : ∀ w ∈ Cond.classLink RX4 134 "java/lang/IndexOutOfBoundsException" :: Cond.initialized "java/lang/IndexOutOfBoundsException" :: vx_atS RX4 138 "java/lang/IndexOutOfBoundsException" ty_up2, vx_ot w = true := by decide +kernel
theorem tz_fit_0 : Bundle.fit "java/lang/IndexOutOfBoundsException" = true := by decide +kernel
theorem tz_ng_203 : ∀ w ∈ (vx_atS RX4 203 "java/lang/IllegalStateException" ty_up2).filter (fun w => !goodWord w), w ∈ ty_xw := by decide +kernel
theorem tz_good_199_203 : ∀ w ∈ Cond.classLink RX4 199 "java/lang/IllegalStateException" :: Cond.initialized "java/lang/IllegalStateException" :: vx_atS RX4 203 "java/lang/IllegalStateException" ty_up2, vx_ot w = true := by decide +kernel
theorem tz_fit_1 : Bundle.fit "java/lang/IllegalStateException" = true := by decide +kernel
abbrev rX4_length : Room := { frames := 6, cells := 1, slots := 6, locals := 90 }
theorem kX4_length_0 : Cond.classLink RX4 30 "java/lang/IllegalArgumentException" ∈ wsX4_length := ty_m 1 (by decide +kernel)
theorem kX4_length_1 : Cond.initialized "java/lang/IllegalArgumentException" ∈ wsX4_length := ty_m 2 (by decide +kernel)
theorem kX4_length_2 : Cond.fieldLink RX4 23 "TrainYard" "fullTrain" "I" ∈ wsX4_length := ty_m 3 (by decide +kernel)
theorem iX4_length_X4 : ∀ w ∈ wsX40, w ∈ wsX4_length := ty_inp _ [4, 5, 6, 7] (by decide +kernel)
def eX4_length (S : ty_S) (x1 : Int32) (K : ty_S → Int32 → Prop) (KX : Nat → ty_S → Prop) : Prop :=
  (if x1 < (1 : Int32) then KX 2 S else (if x1 ≤ (40 : Int32) then K (ty_st S 23 0 x1) (S 23 0) else KX 2 S))
set_option maxHeartbeats 4000000 in
set_option maxRecDepth 100000 in
theorem cX4_length_C (l : Launch) (hst : l.stackTraces = false) (D : va_G) (cA : Nat → ClassId) (q : Nat → Nat) (S : ty_S) (x1 : Int32) (K : ty_S → Int32 → Prop) (KX : Nat → ty_S → Prop) (h : eX4_length S x1 K KX) : ∀ sz, tx_Met l yX4_length wsX4_length rX4_length (tx_Pc D cA q ty_LY S sz [.ref (q 0), .int x1]) (ty_Qi D cA q ty_LY sz K) (tx_XC D cA q ty_LY sz KX) 1 6 (ty_A q ty_LY.length sz) := by
  refine tx_ofM hst (ret := (some .int)) (maxL := 3) (cc := cX4_length) (own := RX4) (Qc := fun sz => ty_Qi D cA q ty_LY sz K) (XC := fun sz => tx_XC D cA q ty_LY sz KX) (by decide +kernel) rfl (Nat.le_of_ble_eq_true rfl) rfl ?_
  intro p e s m args below meth c ls X Z hl Y
  have hx := X.1.1
  have hb := X.1.2.1
  have hl : lv_has ls 3 [(0, .ref (q 0)), (1, .int x1)] := hl
  unfold eX4_length at h
  refine lv_iload_n hx hb dX4_length_0 rfl (lv_at hl 1 rfl) ?_
  refine lv_iconst (v := (1 : Int32)) hx hb dX4_length_1 (by decide) ?_
  refine lv_icmp_lt (tgt := 11) hx hb dX4_length_2 (by decide) (fun c9 => ?_) (fun c9 => ?_)
  · have h := ty_t h c9
    exact tx_throw X Z Y 2 (by decide) rfl kX4_length_0 kX4_length_1 (text := "a length is 1 .. 40") (ty_m 0 rfl) (fun _ h => List.mem_cons_of_mem _ (List.mem_append_right _ h)) tz_ng_34 tz_fit_2 tz_good_30_34 hl.1 dX4_length_11 dX4_length_14 dX4_length_15 dX4_length_17 dX4_length_20 (Nat.le_of_ble_eq_true rfl) (Nat.le_of_ble_eq_true rfl) (Nat.le_of_ble_eq_true rfl) (Nat.le_of_ble_eq_true rfl) h
  · have h := ty_f h c9
    refine lv_iload_n hx hb dX4_length_5 rfl (lv_at hl 1 rfl) ?_
    refine lv_bipush (v := (40 : Int32)) hx hb dX4_length_6 (by decide) ?_
    refine lv_icmp_le (tgt := 21) hx hb dX4_length_8 (by decide) (fun c9 => ?_) (fun c9 => ?_)
    · have h := ty_t h c9
      refine lv_aload_n hx hb dX4_length_21 rfl (lv_at hl 0 rfl) ?_
      refine tg_X4_fullTrain (v := (S 23 0)) X Y iX4_length_X4 kX4_length_2 rfl dX4_length_22 ?_
      refine lv_istore_n (lv' := [(2, .int (S 23 0)), (0, .ref (q 0)), (1, .int x1)]) hx hb dX4_length_25 rfl hl (by decide) rfl (fun ls hl => ?_)
      refine lv_aload_n hx hb dX4_length_26 rfl (lv_at hl 1 rfl) ?_
      refine lv_iload_n hx hb dX4_length_27 rfl (lv_at hl 2 rfl) ?_
      refine tp_X4_fullTrain X Y iX4_length_X4 kX4_length_2 dX4_length_28 (fun H locs Y => ?_)
      refine lv_iload_n hx hb dX4_length_31 rfl (lv_at hl 0 rfl) ?_
      exact tx_iret X Y h dX4_length_32
    · have h := ty_f h c9
      exact tx_throw X Z Y 2 (by decide) rfl kX4_length_0 kX4_length_1 (text := "a length is 1 .. 40") (ty_m 0 rfl) (fun _ h => List.mem_cons_of_mem _ (List.mem_append_right _ h)) tz_ng_34 tz_fit_2 tz_good_30_34 hl.1 dX4_length_11 dX4_length_14 dX4_length_15 dX4_length_17 dX4_length_20 (Nat.le_of_ble_eq_true rfl) (Nat.le_of_ble_eq_true rfl) (Nat.le_of_ble_eq_true rfl) (Nat.le_of_ble_eq_true rfl) h

abbrev rX4_needRegister : Room := { frames := 6, cells := 1, slots := 6, locals := 90 }
theorem kX4_needRegister_0 : Cond.classLink RX4 134 "java/lang/IndexOutOfBoundsException" ∈ wsX4_needRegister := ty_m 1 (by decide +kernel)
theorem kX4_needRegister_1 : Cond.initialized "java/lang/IndexOutOfBoundsException" ∈ wsX4_needRegister := ty_m 2 (by decide +kernel)
def eX4_needRegister (S : ty_S) (x0 : Int32) (K : ty_S → Prop) (KX : Nat → ty_S → Prop) : Prop :=
  (if x0 < (0 : Int32) then KX 0 S else (if x0 < (16 : Int32) then K S else KX 0 S))
set_option maxHeartbeats 4000000 in
set_option maxRecDepth 100000 in
theorem cX4_needRegister_C (l : Launch) (hst : l.stackTraces = false) (D : va_G) (cA : Nat → ClassId) (q : Nat → Nat) (S : ty_S) (x0 : Int32) (K : ty_S → Prop) (KX : Nat → ty_S → Prop) (h : eX4_needRegister S x0 K KX) : ∀ sz, tx_Met l yX4_needRegister wsX4_needRegister rX4_needRegister (tx_Pc D cA q ty_LY S sz [.int x0]) (ty_Qv D cA q ty_LY sz K) (tx_XC D cA q ty_LY sz KX) 1 6 (ty_A q ty_LY.length sz) := by
  refine tx_ofM hst (ret := none) (maxL := 1) (cc := cX4_needRegister) (own := RX4) (Qc := fun sz => ty_Qv D cA q ty_LY sz K) (XC := fun sz => tx_XC D cA q ty_LY sz KX) (by decide +kernel) rfl (Nat.le_of_ble_eq_true rfl) rfl ?_
  intro p e s m args below meth c ls X Z hl Y
  have hx := X.1.1
  have hb := X.1.2.1
  have hl : lv_has ls 1 [(0, .int x0)] := hl
  unfold eX4_needRegister at h
  refine lv_iload_n hx hb dX4_needRegister_0 rfl (lv_at hl 0 rfl) ?_
  refine lv_if_lt (tgt := 10) hx hb dX4_needRegister_1 (by decide) (fun c9 => ?_) (fun c9 => ?_)
  · have h := ty_t h c9
    exact tx_throw X Z Y 0 (by decide) rfl kX4_needRegister_0 kX4_needRegister_1 (text := "there is no such register") (ty_m 5 rfl) (fun _ h => List.mem_cons_of_mem _ (List.mem_append_right _ h)) tz_ng_138 tz_fit_0 tz_good_134_138 hl.1 dX4_needRegister_10 dX4_needRegister_13 dX4_needRegister_14 dX4_needRegister_16 dX4_needRegister_19 (Nat.le_of_ble_eq_true rfl) (Nat.le_of_ble_eq_true rfl) (Nat.le_of_ble_eq_true rfl) (Nat.le_of_ble_eq_true rfl) h
  · have h := ty_f h c9
    refine lv_iload_n hx hb dX4_needRegister_4 rfl (lv_at hl 0 rfl) ?_
    refine lv_bipush (v := (16 : Int32)) hx hb dX4_needRegister_5 (by decide) ?_
    refine lv_icmp_lt (tgt := 20) hx hb dX4_needRegister_7 (by decide) (fun c9 => ?_) (fun c9 => ?_)
    · have h := ty_t h c9
      exact tx_vret X Y h dX4_needRegister_20
    · have h := ty_f h c9
      exact tx_throw X Z Y 0 (by decide) rfl kX4_needRegister_0 kX4_needRegister_1 (text := "there is no such register") (ty_m 5 rfl) (fun _ h => List.mem_cons_of_mem _ (List.mem_append_right _ h)) tz_ng_138 tz_fit_0 tz_good_134_138 hl.1 dX4_needRegister_10 dX4_needRegister_13 dX4_needRegister_14 dX4_needRegister_16 dX4_needRegister_19 (Nat.le_of_ble_eq_true rfl) (Nat.le_of_ble_eq_true rfl) (Nat.le_of_ble_eq_true rfl) (Nat.le_of_ble_eq_true rfl) h

abbrev rX4_make : Room := { frames := 7, cells := 1, slots := 6, locals := 171 }
theorem kX4_make_0 : Cond.classLink RX4 30 "java/lang/IllegalArgumentException" ∈ wsX4_make := ty_m 1 (by decide +kernel)
theorem kX4_make_1 : Cond.initialized "java/lang/IllegalArgumentException" ∈ wsX4_make := ty_m 2 (by decide +kernel)
theorem kX4_make_2 : Cond.fieldLink RX4 12 "TrainYard" "yard" "LTrainYard$Yard;" ∈ wsX4_make := ty_m 3 (by decide +kernel)
theorem kX4_make_3 : Cond.fieldLink RX4 23 "TrainYard" "fullTrain" "I" ∈ wsX4_make := ty_m 4 (by decide +kernel)
theorem kX4_make_4 : Cond.fieldLink RX4 27 "TrainYard" "labels" "I" ∈ wsX4_make := ty_m 5 (by decide +kernel)
theorem iX4_make_X1 : ∀ w ∈ wsX10, w ∈ wsX4_make := ty_inp _ [242, 243, 244, 245] (by decide +kernel)
theorem iX4_make_X3 : ∀ w ∈ wsX30, w ∈ wsX4_make := ty_inp _ [229, 230, 231, 232, 233, 234, 235, 236, 237, 238, 239, 240, 241] (by decide +kernel)
theorem iX4_make_X4 : ∀ w ∈ wsX40, w ∈ wsX4_make := ty_inp _ [225, 226, 227, 228] (by decide +kernel)
def jX4_make_93 (K : ty_S → Int32 → Prop) (KX : Nat → ty_S → Prop)  (x1 : Int32) (x2 : Int32) (x3 : Int32) (x4 : Int32) (S : ty_S) : Prop :=
  (eX3_takesNew S x4 (fun S4 r4 => (if r4 = (0 : Int32) then K S4 (-1 : Int32) else (eX3_carForNew S4 x4 (S4 23 0) (fun S5 r5 => (eX0_load (ty_st S5 24 0 ((S5 24 0) + (1 : Int32))) r5 ((S5 24 0) + (1 : Int32)) x2 x3 (fun S6 r6 => (vp_in x1 16 ∧ K (ty_st S6 7 x1.toNatClampNeg r6) (S6 24 0)))))))))
set_option maxHeartbeats 4000000 in
set_option maxRecDepth 100000 in
theorem wjX4_make_93 {p : Program} {l : Launch} {e : Env} {s : State} {m : MethodId} {args : Array Value} {below : List Frame} {meth : Method} {c : Code} {D : va_G} {cA : Nat → ClassId} {q : Nat → Nat} {K : ty_S → Int32 → Prop} {KX : Nat → ty_S → Prop}  (X : ty_X D cA p s m args meth c cX4_make 7 (some .int) wsX4_make RX4) (Z : tx_X l q ty_LY s c)  (x1 : Int32) (x2 : Int32) (x3 : Int32) (x4 : Int32) (S : ty_S) (H : Heap) (locs : List Loc) (ls : Array Slot) (h : jX4_make_93 K KX  x1 x2 x3 x4 S) (Y : ty_Y D cA q ty_LY S s H locs) (hl : lv_has ls 7 [(0, .ref (q 0)), (1, .int x1), (2, .int x2), (3, .int x3), (4, .int x4)]) : W p l e rX4_make s m args below meth c H locs 0 0 (tx_MI D cA q ty_LY K KX below args s) (F0 m 93 ls []) := by
  have hx := X.1.1
  have hb := X.1.2.1
  unfold jX4_make_93 at h
  refine lv_aload_n hx hb dX4_make_93 rfl (lv_at hl 0 rfl) ?_
  refine tg_X4_yard X Y iX4_make_X4 kX4_make_2 dX4_make_94 ?_
  refine lv_iload hx hb dX4_make_97 (lv_at hl 4 rfl) ?_
  refine ty_Vi (As := [.int x4]) (b := 1) (rest := []) X Y (cX3_takesNew_C l D cA q S x4 _ h) rfl rfl (fun hts => cwV 1 hts gX4_make_X3_takesNew rfl rfl rfl (by decide +kernel) ⟨Nat.le_of_ble_eq_true rfl, Nat.le_of_ble_eq_true rfl⟩) rfl hl.1 (Nat.le_of_ble_eq_true rfl) dX4_make_99 ⟨Nat.zero_le _, Nat.zero_le _⟩ (fun r4 S4 H locs h Y => ?_)
  refine lv_if_ne (tgt := 107) hx hb dX4_make_102 (by decide) (fun c9 => ?_) (fun c9 => ?_)
  · have h := ty_f h c9
    refine lv_aload_n hx hb dX4_make_107 rfl (lv_at hl 0 rfl) ?_
    refine tg_X4_yard X Y iX4_make_X4 kX4_make_2 dX4_make_108 ?_
    refine lv_iload hx hb dX4_make_111 (lv_at hl 4 rfl) ?_
    refine lv_aload_n hx hb dX4_make_113 rfl (lv_at hl 0 rfl) ?_
    refine tg_X4_fullTrain (v := (S4 23 0)) X Y iX4_make_X4 kX4_make_3 rfl dX4_make_114 ?_
    refine ty_Vi (As := [.int x4, .int (S4 23 0)]) (b := 1) (rest := []) X Y (cX3_carForNew_C l D cA q S4 x4 (S4 23 0) _ h) rfl rfl (fun hts => cwV 2 hts gX4_make_X3_carForNew rfl rfl rfl (by decide +kernel) ⟨Nat.le_of_ble_eq_true rfl, Nat.le_of_ble_eq_true rfl⟩) rfl hl.1 (Nat.le_of_ble_eq_true rfl) dX4_make_117 ⟨Nat.zero_le _, Nat.zero_le _⟩ (fun r5 S5 H locs h Y => ?_)
    refine lv_istore (lv' := [(6, .int r5), (0, .ref (q 0)), (1, .int x1), (2, .int x2), (3, .int x3), (4, .int x4)]) hx hb dX4_make_120 hl (by decide) rfl (fun ls hl => ?_)
    refine lv_aload_n hx hb dX4_make_122 rfl (lv_at hl 1 rfl) ?_
    refine lv_dup hx hb dX4_make_123 rfl ?_
    refine tg_X4_labels (v := (S5 24 0)) X Y iX4_make_X4 kX4_make_4 rfl dX4_make_124 ?_
    refine lv_iconst (v := (1 : Int32)) hx hb dX4_make_127 (by decide) ?_
    refine lv_iadd hx hb dX4_make_128 ?_
    refine tp_X4_labels X Y iX4_make_X4 kX4_make_4 dX4_make_129 (fun H locs Y => ?_)
    refine lv_aload_n hx hb dX4_make_132 rfl (lv_at hl 1 rfl) ?_
    refine tg_X4_yard X Y iX4_make_X4 kX4_make_2 dX4_make_133 ?_
    refine tn_X3_held X Y iX4_make_X3 (ty_m 7 rfl) dX4_make_136 ?_
    refine lv_iload_n hx hb dX4_make_139 rfl (lv_at hl 2 rfl) ?_
    refine lv_aload_n hx hb dX4_make_140 rfl (lv_at hl 1 rfl) ?_
    refine tg_X4_yard X Y iX4_make_X4 kX4_make_2 dX4_make_141 ?_
    refine tn_X3_freight X Y iX4_make_X3 (ty_m 5 rfl) dX4_make_144 ?_
    refine lv_iload hx hb dX4_make_147 (lv_at hl 0 rfl) ?_
    refine lv_aload_n hx hb dX4_make_149 rfl (lv_at hl 1 rfl) ?_
    refine tg_X4_labels (v := ((S5 24 0) + (1 : Int32))) X Y iX4_make_X4 kX4_make_4 rfl dX4_make_150 ?_
    refine lv_iload_n hx hb dX4_make_153 rfl (lv_at hl 3 rfl) ?_
    refine lv_iload_n hx hb dX4_make_154 rfl (lv_at hl 4 rfl) ?_
    refine ty_Vi (As := [.int r5, .int ((S5 24 0) + (1 : Int32)), .int x2, .int x3]) (b := 3) (rest := [.int x1, .ref (q 5)]) X Y (cX0_load_C l D cA q (ty_st S5 24 0 ((S5 24 0) + (1 : Int32))) r5 ((S5 24 0) + (1 : Int32)) x2 x3 _ h) rfl rfl (fun hts => cwV 4 hts gX4_make_X0_load rfl rfl rfl (by decide +kernel) ⟨Nat.le_of_ble_eq_true rfl, Nat.le_of_ble_eq_true rfl⟩) rfl hl.1 (Nat.le_of_ble_eq_true rfl) dX4_make_155 ⟨Nat.zero_le _, Nat.zero_le _⟩ (fun r6 S6 H locs h Y => ?_)
    refine ty_iast X Y 5 16 7 rfl (by decide) h.1 dX4_make_158 (fun H locs Y => ?_)
    have h := h.2
    refine lv_aload_n hx hb dX4_make_159 rfl (lv_at hl 1 rfl) ?_
    refine tg_X4_labels (v := (S6 24 0)) X Y iX4_make_X4 kX4_make_4 rfl dX4_make_160 ?_
    exact tx_iret X Y h dX4_make_163
  · have h := ty_t h c9
    refine lv_iconst (v := (-1 : Int32)) hx hb dX4_make_105 (by decide) ?_
    exact tx_iret X Y h dX4_make_106
def lX4_make_50 (K : ty_S → Int32 → Prop) (KX : Nat → ty_S → Prop)  : Nat → Int32 → Int32 → Int32 → Int32 → Int32 → Int32 → ty_S → Prop
  | 0, _, _, _, _, _, _, _ => False
  | n + 1, x1, x2, x3, x4, x5, x6, S => (if x5 ≤ x6 then jX4_make_93 K KX  x1 x2 x3 x4 S else (eX3_takesNew S x4 (fun S7 r7 => (if r7 = (0 : Int32) then (eX3_canStep S7  (fun S8 r8 => (if r8 = (0 : Int32) then jX4_make_93 K KX  x1 x2 x3 x4 S8 else (eX3_doStep S8  (fun S9 r9 => lX4_make_50 K KX  n x1 x2 x3 x4 x5 (x6 + (1 : Int32)) S9))))) else jX4_make_93 K KX  x1 x2 x3 x4 S7))))
set_option maxHeartbeats 4000000 in
set_option maxRecDepth 100000 in
theorem wlX4_make_50 {p : Program} {l : Launch} {e : Env} {s : State} {m : MethodId} {args : Array Value} {below : List Frame} {meth : Method} {c : Code} {D : va_G} {cA : Nat → ClassId} {q : Nat → Nat} {K : ty_S → Int32 → Prop} {KX : Nat → ty_S → Prop}  (X : ty_X D cA p s m args meth c cX4_make 7 (some .int) wsX4_make RX4) (Z : tx_X l q ty_LY s c)  : ∀ (n : Nat) (x1 : Int32) (x2 : Int32) (x3 : Int32) (x4 : Int32) (x5 : Int32) (x6 : Int32) (S : ty_S) (H : Heap) (locs : List Loc) (ls : Array Slot), lX4_make_50 K KX  n x1 x2 x3 x4 x5 x6 S → ty_Y D cA q ty_LY S s H locs → lv_has ls 7 [(0, .ref (q 0)), (1, .int x1), (2, .int x2), (3, .int x3), (4, .int x4), (5, .int x5), (6, .int x6)] → W p l e rX4_make s m args below meth c H locs 0 0 (tx_MI D cA q ty_LY K KX below args s) (F0 m 50 ls []) := by
  have hx := X.1.1
  have hb := X.1.2.1
  intro n
  induction n with
  | zero =>
    intro x1 x2 x3 x4 x5 x6 S H locs ls h
    exact False.elim h
  | succ n ih =>
    intro x1 x2 x3 x4 x5 x6 S H locs ls h Y hl
    unfold lX4_make_50 at h
    refine lv_iload hx hb dX4_make_50 (lv_at hl 6 rfl) ?_
    refine lv_iload hx hb dX4_make_52 (lv_at hl 5 rfl) ?_
    refine lv_icmp_ge (tgt := 93) hx hb dX4_make_54 (by decide) (fun c9 => ?_) (fun c9 => ?_)
    · have h := ty_t h c9
      exact wjX4_make_93 X Z  _ _ _ _ _ _ _ _ h Y (lv_sub hl [0, 1, 2, 3, 4] rfl)
    · have h := ty_f h c9
      refine lv_aload_n hx hb dX4_make_57 rfl (lv_at hl 0 rfl) ?_
      refine tg_X4_yard X Y iX4_make_X4 kX4_make_2 dX4_make_58 ?_
      refine lv_iload hx hb dX4_make_61 (lv_at hl 4 rfl) ?_
      refine ty_Vi (As := [.int x4]) (b := 1) (rest := []) X Y (cX3_takesNew_C l D cA q S x4 _ h) rfl rfl (fun hts => cwV 1 hts gX4_make_X3_takesNew rfl rfl rfl (by decide +kernel) ⟨Nat.le_of_ble_eq_true rfl, Nat.le_of_ble_eq_true rfl⟩) rfl hl.1 (Nat.le_of_ble_eq_true rfl) dX4_make_63 ⟨Nat.zero_le _, Nat.zero_le _⟩ (fun r7 S7 H locs h Y => ?_)
      refine lv_if_ne (tgt := 93) hx hb dX4_make_66 (by decide) (fun c9 => ?_) (fun c9 => ?_)
      · have h := ty_f h c9
        exact wjX4_make_93 X Z  _ _ _ _ _ _ _ _ h Y (lv_sub hl [0, 1, 2, 3, 4] rfl)
      · have h := ty_t h c9
        refine lv_aload_n hx hb dX4_make_69 rfl (lv_at hl 0 rfl) ?_
        refine tg_X4_yard X Y iX4_make_X4 kX4_make_2 dX4_make_70 ?_
        refine ty_Vi (As := []) (b := 1) (rest := []) X Y (cX3_canStep_C l D cA q S7  _ h) rfl rfl (fun hts => cwV 0 hts gX4_make_X3_canStep rfl rfl rfl (by decide +kernel) ⟨Nat.le_of_ble_eq_true rfl, Nat.le_of_ble_eq_true rfl⟩) rfl hl.1 (Nat.le_of_ble_eq_true rfl) dX4_make_73 ⟨Nat.zero_le _, Nat.zero_le _⟩ (fun r8 S8 H locs h Y => ?_)
        refine lv_if_eq (tgt := 93) hx hb dX4_make_76 (by decide) (fun c9 => ?_) (fun c9 => ?_)
        · have h := ty_t h c9
          exact wjX4_make_93 X Z  _ _ _ _ _ _ _ _ h Y (lv_sub hl [0, 1, 2, 3, 4] rfl)
        · have h := ty_f h c9
          refine lv_aload_n hx hb dX4_make_79 rfl (lv_at hl 0 rfl) ?_
          refine tg_X4_yard X Y iX4_make_X4 kX4_make_2 dX4_make_80 ?_
          refine ty_Vi (As := []) (b := 1) (rest := []) X Y (cX3_doStep_C l D cA q S8  _ h) rfl rfl (fun hts => cwV 0 hts gX4_make_X3_doStep rfl rfl rfl (by decide +kernel) ⟨Nat.le_of_ble_eq_true rfl, Nat.le_of_ble_eq_true rfl⟩) rfl hl.1 (Nat.le_of_ble_eq_true rfl) dX4_make_83 ⟨Nat.zero_le _, Nat.zero_le _⟩ (fun r9 S9 H locs h Y => ?_)
          refine lv_pop hx hb dX4_make_86 rfl ?_
          refine lv_iinc (v := (x6 + (1 : Int32))) (lv' := [(6, .int (x6 + (1 : Int32))), (0, .ref (q 0)), (1, .int x1), (2, .int x2), (3, .int x3), (4, .int x4), (5, .int x5)]) hx hb dX4_make_87 hl (k := 6) rfl rfl (by decide) rfl (fun ls hl => ?_)
          refine lv_goto (tgt := 50) hx hb dX4_make_90 (by decide) ?_
          exact ih _ _ _ _ _ _ _ _ _ _ h Y (lv_sub hl [1, 2, 3, 4, 5, 6, 0] rfl)
def eX4_make (S : ty_S) (x1 : Int32) (x2 : Int32) (x3 : Int32) (K : ty_S → Int32 → Prop) (KX : Nat → ty_S → Prop) : Prop :=
  (eX4_needRegister S x1 (fun S1 => (eX4_isAmount S1 x2 (fun S2 r2 => (if r2 = (0 : Int32) then KX 2 S2 else (eX4_isAmount S2 x3 (fun S3 r3 => (if r3 = (0 : Int32) then KX 2 S3 else ∃ n9, lX4_make_50 K KX  n9 x1 x2 x3 (((2 : Int32) + x2) + x3) (S3 13 0) (0 : Int32) S3))))))) KX)
set_option maxHeartbeats 4000000 in
set_option maxRecDepth 100000 in
theorem cX4_make_C (l : Launch) (hst : l.stackTraces = false) (D : va_G) (cA : Nat → ClassId) (q : Nat → Nat) (S : ty_S) (x1 : Int32) (x2 : Int32) (x3 : Int32) (K : ty_S → Int32 → Prop) (KX : Nat → ty_S → Prop) (h : eX4_make S x1 x2 x3 K KX) : ∀ sz, tx_Met l yX4_make wsX4_make rX4_make (tx_Pc D cA q ty_LY S sz [.ref (q 0), .int x1, .int x2, .int x3]) (ty_Qi D cA q ty_LY sz K) (tx_XC D cA q ty_LY sz KX) 1 6 (ty_A q ty_LY.length sz) := by
  refine tx_ofM hst (ret := (some .int)) (maxL := 7) (cc := cX4_make) (own := RX4) (Qc := fun sz => ty_Qi D cA q ty_LY sz K) (XC := fun sz => tx_XC D cA q ty_LY sz KX) (by decide +kernel) rfl (Nat.le_of_ble_eq_true rfl) rfl ?_
  intro p e s m args below meth c ls X Z hl Y
  have hx := X.1.1
  have hb := X.1.2.1
  have hl : lv_has ls 7 [(0, .ref (q 0)), (1, .int x1), (2, .int x2), (3, .int x3)] := hl
  unfold eX4_make at h
  refine lv_iload_n hx hb dX4_make_0 rfl (lv_at hl 1 rfl) ?_
  refine tx_Sv (As := [.int x1]) (rest := []) X Z Y (cX4_needRegister_C l Z.1 D cA q S x1 _ _ h) (fun hts => va_cwS 1 hts gX4_make_X4_needRegister rfl rfl rfl (by decide +kernel) ⟨Nat.le_of_ble_eq_true rfl, Nat.le_of_ble_eq_true rfl⟩) rfl hl.1 (Nat.le_of_ble_eq_true rfl) dX4_make_1 ⟨Nat.le_of_ble_eq_true rfl, Nat.le_of_ble_eq_true rfl⟩ (fun S1 H locs h Y => ?_)
  refine lv_iload_n hx hb dX4_make_4 rfl (lv_at hl 2 rfl) ?_
  refine ty_Si (As := [.int x2]) (rest := []) X Y (cX4_isAmount_C l D cA q S1 x2 _ h) (fun hts => va_cwS 1 hts gX4_make_X4_isAmount rfl rfl rfl (by decide +kernel) ⟨Nat.le_of_ble_eq_true rfl, Nat.le_of_ble_eq_true rfl⟩) rfl hl.1 (Nat.le_of_ble_eq_true rfl) dX4_make_5 ⟨Nat.zero_le _, Nat.zero_le _⟩ (fun r2 S2 H locs h Y => ?_)
  refine lv_if_eq (tgt := 18) hx hb dX4_make_8 (by decide) (fun c9 => ?_) (fun c9 => ?_)
  · have h := ty_t h c9
    exact tx_throw X Z Y 2 (by decide) rfl kX4_make_0 kX4_make_1 (text := "there are 0 .. 12 of each") (ty_m 1 rfl) (fun _ h => List.mem_cons_of_mem _ (List.mem_append_left _ (List.mem_append_right _ h))) tz_ng_34 tz_fit_2 tz_good_30_34 hl.1 dX4_make_18 dX4_make_21 dX4_make_22 dX4_make_24 dX4_make_27 (Nat.le_of_ble_eq_true rfl) (Nat.le_of_ble_eq_true rfl) (Nat.le_of_ble_eq_true rfl) (Nat.le_of_ble_eq_true rfl) h
  · have h := ty_f h c9
    refine lv_iload_n hx hb dX4_make_11 rfl (lv_at hl 3 rfl) ?_
    refine ty_Si (As := [.int x3]) (rest := []) X Y (cX4_isAmount_C l D cA q S2 x3 _ h) (fun hts => va_cwS 1 hts gX4_make_X4_isAmount rfl rfl rfl (by decide +kernel) ⟨Nat.le_of_ble_eq_true rfl, Nat.le_of_ble_eq_true rfl⟩) rfl hl.1 (Nat.le_of_ble_eq_true rfl) dX4_make_12 ⟨Nat.zero_le _, Nat.zero_le _⟩ (fun r3 S3 H locs h Y => ?_)
    refine lv_if_ne (tgt := 28) hx hb dX4_make_15 (by decide) (fun c9 => ?_) (fun c9 => ?_)
    · have h := ty_f h c9
      refine lv_iconst (v := (2 : Int32)) hx hb dX4_make_28 (by decide) ?_
      refine lv_iload_n hx hb dX4_make_29 rfl (lv_at hl 2 rfl) ?_
      refine lv_iadd hx hb dX4_make_30 ?_
      refine lv_iload_n hx hb dX4_make_31 rfl (lv_at hl 3 rfl) ?_
      refine lv_iadd hx hb dX4_make_32 ?_
      refine lv_istore (lv' := [(4, .int (((2 : Int32) + x2) + x3)), (0, .ref (q 0)), (1, .int x1), (2, .int x2), (3, .int x3)]) hx hb dX4_make_33 hl (by decide) rfl (fun ls hl => ?_)
      refine lv_aload_n hx hb dX4_make_35 rfl (lv_at hl 1 rfl) ?_
      refine tg_X4_yard X Y iX4_make_X4 kX4_make_2 dX4_make_36 ?_
      refine tn_X3_row X Y iX4_make_X3 (ty_m 6 rfl) dX4_make_39 ?_
      refine tn_X1_count (v := (S3 13 0)) X Y iX4_make_X1 (ty_m 2 rfl) rfl dX4_make_42 ?_
      refine lv_istore (lv' := [(5, .int (S3 13 0)), (4, .int (((2 : Int32) + x2) + x3)), (0, .ref (q 0)), (1, .int x1), (2, .int x2), (3, .int x3)]) hx hb dX4_make_45 hl (by decide) rfl (fun ls hl => ?_)
      refine lv_iconst (v := (0 : Int32)) hx hb dX4_make_47 (by decide) ?_
      refine lv_istore (lv' := [(6, .int (0 : Int32)), (5, .int (S3 13 0)), (4, .int (((2 : Int32) + x2) + x3)), (0, .ref (q 0)), (1, .int x1), (2, .int x2), (3, .int x3)]) hx hb dX4_make_48 hl (by decide) rfl (fun ls hl => ?_)
      obtain ⟨n9, h⟩ := h
      exact wlX4_make_50 X Z  n9 _ _ _ _ _ _ _ _ _ _ h Y (lv_sub hl [3, 4, 5, 6, 2, 1, 0] rfl)
    · have h := ty_t h c9
      exact tx_throw X Z Y 2 (by decide) rfl kX4_make_0 kX4_make_1 (text := "there are 0 .. 12 of each") (ty_m 1 rfl) (fun _ h => List.mem_cons_of_mem _ (List.mem_append_left _ (List.mem_append_right _ h))) tz_ng_34 tz_fit_2 tz_good_30_34 hl.1 dX4_make_18 dX4_make_21 dX4_make_22 dX4_make_24 dX4_make_27 (Nat.le_of_ble_eq_true rfl) (Nat.le_of_ble_eq_true rfl) (Nat.le_of_ble_eq_true rfl) (Nat.le_of_ble_eq_true rfl) h

abbrev rX4_copy : Room := { frames := 7, cells := 1, slots := 6, locals := 110 }
theorem kX4_copy_0 : Cond.fieldLink RX4 12 "TrainYard" "yard" "LTrainYard$Yard;" ∈ wsX4_copy := ty_m 1 (by decide +kernel)
theorem iX4_copy_X3 : ∀ w ∈ wsX30, w ∈ wsX4_copy := ty_inp _ [22, 23, 24, 25, 26, 27, 28, 29, 30, 31, 32, 33, 34] (by decide +kernel)
theorem iX4_copy_X4 : ∀ w ∈ wsX40, w ∈ wsX4_copy := ty_inp _ [18, 19, 20, 21] (by decide +kernel)
def eX4_copy (S : ty_S) (x1 : Int32) (x2 : Int32) (K : ty_S → Int32 → Prop) (KX : Nat → ty_S → Prop) : Prop :=
  (eX4_needRegister S x1 (fun S1 => (eX4_needRegister S1 x2 (fun S2 => (vp_in x2 16 ∧ (vp_in x1 16 ∧ (vp_in x1 16 ∧ (eX0_labelOf (ty_st S2 7 x1.toNatClampNeg (S2 7 x2.toNatClampNeg)) ((ty_st S2 7 x1.toNatClampNeg (S2 7 x2.toNatClampNeg)) 7 x1.toNatClampNeg) (fun S3 r3 => K S3 r3)))))) KX)) KX)
set_option maxHeartbeats 4000000 in
set_option maxRecDepth 100000 in
theorem cX4_copy_C (l : Launch) (hst : l.stackTraces = false) (D : va_G) (cA : Nat → ClassId) (q : Nat → Nat) (S : ty_S) (x1 : Int32) (x2 : Int32) (K : ty_S → Int32 → Prop) (KX : Nat → ty_S → Prop) (h : eX4_copy S x1 x2 K KX) : ∀ sz, tx_Met l yX4_copy wsX4_copy rX4_copy (tx_Pc D cA q ty_LY S sz [.ref (q 0), .int x1, .int x2]) (ty_Qi D cA q ty_LY sz K) (tx_XC D cA q ty_LY sz KX) 1 6 (ty_A q ty_LY.length sz) := by
  refine tx_ofM hst (ret := (some .int)) (maxL := 3) (cc := cX4_copy) (own := RX4) (Qc := fun sz => ty_Qi D cA q ty_LY sz K) (XC := fun sz => tx_XC D cA q ty_LY sz KX) (by decide +kernel) rfl (Nat.le_of_ble_eq_true rfl) rfl ?_
  intro p e s m args below meth c ls X Z hl Y
  have hx := X.1.1
  have hb := X.1.2.1
  have hl : lv_has ls 3 [(0, .ref (q 0)), (1, .int x1), (2, .int x2)] := hl
  unfold eX4_copy at h
  refine lv_iload_n hx hb dX4_copy_0 rfl (lv_at hl 1 rfl) ?_
  refine tx_Sv (As := [.int x1]) (rest := []) X Z Y (cX4_needRegister_C l Z.1 D cA q S x1 _ _ h) (fun hts => va_cwS 1 hts gX4_copy_X4_needRegister rfl rfl rfl (by decide +kernel) ⟨Nat.le_of_ble_eq_true rfl, Nat.le_of_ble_eq_true rfl⟩) rfl hl.1 (Nat.le_of_ble_eq_true rfl) dX4_copy_1 ⟨Nat.le_of_ble_eq_true rfl, Nat.le_of_ble_eq_true rfl⟩ (fun S1 H locs h Y => ?_)
  refine lv_iload_n hx hb dX4_copy_4 rfl (lv_at hl 2 rfl) ?_
  refine tx_Sv (As := [.int x2]) (rest := []) X Z Y (cX4_needRegister_C l Z.1 D cA q S1 x2 _ _ h) (fun hts => va_cwS 1 hts gX4_copy_X4_needRegister rfl rfl rfl (by decide +kernel) ⟨Nat.le_of_ble_eq_true rfl, Nat.le_of_ble_eq_true rfl⟩) rfl hl.1 (Nat.le_of_ble_eq_true rfl) dX4_copy_5 ⟨Nat.le_of_ble_eq_true rfl, Nat.le_of_ble_eq_true rfl⟩ (fun S2 H locs h Y => ?_)
  refine lv_aload_n hx hb dX4_copy_8 rfl (lv_at hl 0 rfl) ?_
  refine tg_X4_yard X Y iX4_copy_X4 kX4_copy_0 dX4_copy_9 ?_
  refine tn_X3_held X Y iX4_copy_X3 (ty_m 7 rfl) dX4_copy_12 ?_
  refine lv_iload_n hx hb dX4_copy_15 rfl (lv_at hl 1 rfl) ?_
  refine lv_aload_n hx hb dX4_copy_16 rfl (lv_at hl 0 rfl) ?_
  refine tg_X4_yard X Y iX4_copy_X4 kX4_copy_0 dX4_copy_17 ?_
  refine tn_X3_held X Y iX4_copy_X3 (ty_m 7 rfl) dX4_copy_20 ?_
  refine lv_iload_n hx hb dX4_copy_23 rfl (lv_at hl 2 rfl) ?_
  refine ty_iald (v := (S2 7 x2.toNatClampNeg)) X Y 5 16 7 rfl h.1 rfl dX4_copy_24 ?_
  have h := h.2
  refine ty_iast X Y 5 16 7 rfl (by decide) h.1 dX4_copy_25 (fun H locs Y => ?_)
  have h := h.2
  refine lv_aload_n hx hb dX4_copy_26 rfl (lv_at hl 0 rfl) ?_
  refine tg_X4_yard X Y iX4_copy_X4 kX4_copy_0 dX4_copy_27 ?_
  refine tn_X3_freight X Y iX4_copy_X3 (ty_m 5 rfl) dX4_copy_30 ?_
  refine lv_aload_n hx hb dX4_copy_33 rfl (lv_at hl 0 rfl) ?_
  refine tg_X4_yard X Y iX4_copy_X4 kX4_copy_0 dX4_copy_34 ?_
  refine tn_X3_held X Y iX4_copy_X3 (ty_m 7 rfl) dX4_copy_37 ?_
  refine lv_iload_n hx hb dX4_copy_40 rfl (lv_at hl 1 rfl) ?_
  refine ty_iald (v := ((ty_st S2 7 x1.toNatClampNeg (S2 7 x2.toNatClampNeg)) 7 x1.toNatClampNeg)) X Y 5 16 7 rfl h.1 rfl dX4_copy_41 ?_
  have h := h.2
  refine ty_Vi (As := [.int ((ty_st S2 7 x1.toNatClampNeg (S2 7 x2.toNatClampNeg)) 7 x1.toNatClampNeg)]) (b := 3) (rest := []) X Y (cX0_labelOf_C l D cA q (ty_st S2 7 x1.toNatClampNeg (S2 7 x2.toNatClampNeg)) ((ty_st S2 7 x1.toNatClampNeg (S2 7 x2.toNatClampNeg)) 7 x1.toNatClampNeg) _ h) rfl rfl (fun hts => cwV 1 hts gX4_copy_X0_labelOf rfl rfl rfl (by decide +kernel) ⟨Nat.le_of_ble_eq_true rfl, Nat.le_of_ble_eq_true rfl⟩) rfl hl.1 (Nat.le_of_ble_eq_true rfl) dX4_copy_42 ⟨Nat.zero_le _, Nat.zero_le _⟩ (fun r3 S3 H locs h Y => ?_)
  exact tx_iret X Y h dX4_copy_45

abbrev rX4_drop : Room := { frames := 7, cells := 1, slots := 6, locals := 110 }
theorem kX4_drop_0 : Cond.fieldLink RX4 12 "TrainYard" "yard" "LTrainYard$Yard;" ∈ wsX4_drop := ty_m 1 (by decide +kernel)
theorem iX4_drop_X3 : ∀ w ∈ wsX30, w ∈ wsX4_drop := ty_inp _ [22, 23, 24, 25, 26, 27, 28, 29, 30, 31, 32, 33, 34] (by decide +kernel)
theorem iX4_drop_X4 : ∀ w ∈ wsX40, w ∈ wsX4_drop := ty_inp _ [18, 19, 20, 21] (by decide +kernel)
def eX4_drop (S : ty_S) (x1 : Int32) (K : ty_S → Int32 → Prop) (KX : Nat → ty_S → Prop) : Prop :=
  (eX4_needRegister S x1 (fun S1 => (vp_in x1 16 ∧ (eX0_labelOf S1 (S1 7 x1.toNatClampNeg) (fun S2 r2 => (vp_in x1 16 ∧ K (ty_st S2 7 x1.toNatClampNeg (-1 : Int32)) r2))))) KX)
set_option maxHeartbeats 4000000 in
set_option maxRecDepth 100000 in
theorem cX4_drop_C (l : Launch) (hst : l.stackTraces = false) (D : va_G) (cA : Nat → ClassId) (q : Nat → Nat) (S : ty_S) (x1 : Int32) (K : ty_S → Int32 → Prop) (KX : Nat → ty_S → Prop) (h : eX4_drop S x1 K KX) : ∀ sz, tx_Met l yX4_drop wsX4_drop rX4_drop (tx_Pc D cA q ty_LY S sz [.ref (q 0), .int x1]) (ty_Qi D cA q ty_LY sz K) (tx_XC D cA q ty_LY sz KX) 1 6 (ty_A q ty_LY.length sz) := by
  refine tx_ofM hst (ret := (some .int)) (maxL := 3) (cc := cX4_drop) (own := RX4) (Qc := fun sz => ty_Qi D cA q ty_LY sz K) (XC := fun sz => tx_XC D cA q ty_LY sz KX) (by decide +kernel) rfl (Nat.le_of_ble_eq_true rfl) rfl ?_
  intro p e s m args below meth c ls X Z hl Y
  have hx := X.1.1
  have hb := X.1.2.1
  have hl : lv_has ls 3 [(0, .ref (q 0)), (1, .int x1)] := hl
  unfold eX4_drop at h
  refine lv_iload_n hx hb dX4_drop_0 rfl (lv_at hl 1 rfl) ?_
  refine tx_Sv (As := [.int x1]) (rest := []) X Z Y (cX4_needRegister_C l Z.1 D cA q S x1 _ _ h) (fun hts => va_cwS 1 hts gX4_drop_X4_needRegister rfl rfl rfl (by decide +kernel) ⟨Nat.le_of_ble_eq_true rfl, Nat.le_of_ble_eq_true rfl⟩) rfl hl.1 (Nat.le_of_ble_eq_true rfl) dX4_drop_1 ⟨Nat.le_of_ble_eq_true rfl, Nat.le_of_ble_eq_true rfl⟩ (fun S1 H locs h Y => ?_)
  refine lv_aload_n hx hb dX4_drop_4 rfl (lv_at hl 0 rfl) ?_
  refine tg_X4_yard X Y iX4_drop_X4 kX4_drop_0 dX4_drop_5 ?_
  refine tn_X3_freight X Y iX4_drop_X3 (ty_m 5 rfl) dX4_drop_8 ?_
  refine lv_aload_n hx hb dX4_drop_11 rfl (lv_at hl 0 rfl) ?_
  refine tg_X4_yard X Y iX4_drop_X4 kX4_drop_0 dX4_drop_12 ?_
  refine tn_X3_held X Y iX4_drop_X3 (ty_m 7 rfl) dX4_drop_15 ?_
  refine lv_iload_n hx hb dX4_drop_18 rfl (lv_at hl 1 rfl) ?_
  refine ty_iald (v := (S1 7 x1.toNatClampNeg)) X Y 5 16 7 rfl h.1 rfl dX4_drop_19 ?_
  have h := h.2
  refine ty_Vi (As := [.int (S1 7 x1.toNatClampNeg)]) (b := 3) (rest := []) X Y (cX0_labelOf_C l D cA q S1 (S1 7 x1.toNatClampNeg) _ h) rfl rfl (fun hts => cwV 1 hts gX4_drop_X0_labelOf rfl rfl rfl (by decide +kernel) ⟨Nat.le_of_ble_eq_true rfl, Nat.le_of_ble_eq_true rfl⟩) rfl hl.1 (Nat.le_of_ble_eq_true rfl) dX4_drop_20 ⟨Nat.zero_le _, Nat.zero_le _⟩ (fun r2 S2 H locs h Y => ?_)
  refine lv_istore_n (lv' := [(2, .int r2), (0, .ref (q 0)), (1, .int x1)]) hx hb dX4_drop_23 rfl hl (by decide) rfl (fun ls hl => ?_)
  refine lv_aload_n hx hb dX4_drop_24 rfl (lv_at hl 1 rfl) ?_
  refine tg_X4_yard X Y iX4_drop_X4 kX4_drop_0 dX4_drop_25 ?_
  refine tn_X3_held X Y iX4_drop_X3 (ty_m 7 rfl) dX4_drop_28 ?_
  refine lv_iload_n hx hb dX4_drop_31 rfl (lv_at hl 2 rfl) ?_
  refine lv_iconst (v := (-1 : Int32)) hx hb dX4_drop_32 (by decide) ?_
  refine ty_iast X Y 5 16 7 rfl (by decide) h.1 dX4_drop_33 (fun H locs Y => ?_)
  have h := h.2
  refine lv_iload_n hx hb dX4_drop_34 rfl (lv_at hl 0 rfl) ?_
  exact tx_iret X Y h dX4_drop_35

abbrev rX4_heldThing : Room := { frames := 7, cells := 1, slots := 6, locals := 110 }
theorem kX4_heldThing_0 : Cond.fieldLink RX4 12 "TrainYard" "yard" "LTrainYard$Yard;" ∈ wsX4_heldThing := ty_m 3 (by decide +kernel)
theorem kX4_heldThing_1 : Cond.classLink RX4 199 "java/lang/IllegalStateException" ∈ wsX4_heldThing := ty_m 1 (by decide +kernel)
theorem kX4_heldThing_2 : Cond.initialized "java/lang/IllegalStateException" ∈ wsX4_heldThing := ty_m 2 (by decide +kernel)
theorem iX4_heldThing_X3 : ∀ w ∈ wsX30, w ∈ wsX4_heldThing := ty_inp _ [14, 15, 16, 17, 18, 19, 20, 21, 22, 23, 24, 25, 26] (by decide +kernel)
theorem iX4_heldThing_X4 : ∀ w ∈ wsX40, w ∈ wsX4_heldThing := ty_inp _ [10, 11, 12, 13] (by decide +kernel)
def eX4_heldThing (S : ty_S) (x1 : Int32) (K : ty_S → Int32 → Prop) (KX : Nat → ty_S → Prop) : Prop :=
  (eX4_needRegister S x1 (fun S1 => (vp_in x1 16 ∧ (if (S1 7 x1.toNatClampNeg) = (-1 : Int32) then KX 1 S1 else K S1 (S1 7 x1.toNatClampNeg)))) KX)
set_option maxHeartbeats 4000000 in
set_option maxRecDepth 100000 in
theorem cX4_heldThing_C (l : Launch) (hst : l.stackTraces = false) (D : va_G) (cA : Nat → ClassId) (q : Nat → Nat) (S : ty_S) (x1 : Int32) (K : ty_S → Int32 → Prop) (KX : Nat → ty_S → Prop) (h : eX4_heldThing S x1 K KX) : ∀ sz, tx_Met l yX4_heldThing wsX4_heldThing rX4_heldThing (tx_Pc D cA q ty_LY S sz [.ref (q 0), .int x1]) (ty_Qi D cA q ty_LY sz K) (tx_XC D cA q ty_LY sz KX) 1 6 (ty_A q ty_LY.length sz) := by
  refine tx_ofM hst (ret := (some .int)) (maxL := 3) (cc := cX4_heldThing) (own := RX4) (Qc := fun sz => ty_Qi D cA q ty_LY sz K) (XC := fun sz => tx_XC D cA q ty_LY sz KX) (by decide +kernel) rfl (Nat.le_of_ble_eq_true rfl) rfl ?_
  intro p e s m args below meth c ls X Z hl Y
  have hx := X.1.1
  have hb := X.1.2.1
  have hl : lv_has ls 3 [(0, .ref (q 0)), (1, .int x1)] := hl
  unfold eX4_heldThing at h
  refine lv_iload_n hx hb dX4_heldThing_0 rfl (lv_at hl 1 rfl) ?_
  refine tx_Sv (As := [.int x1]) (rest := []) X Z Y (cX4_needRegister_C l Z.1 D cA q S x1 _ _ h) (fun hts => va_cwS 1 hts gX4_heldThing_X4_needRegister rfl rfl rfl (by decide +kernel) ⟨Nat.le_of_ble_eq_true rfl, Nat.le_of_ble_eq_true rfl⟩) rfl hl.1 (Nat.le_of_ble_eq_true rfl) dX4_heldThing_1 ⟨Nat.le_of_ble_eq_true rfl, Nat.le_of_ble_eq_true rfl⟩ (fun S1 H locs h Y => ?_)
  refine lv_aload_n hx hb dX4_heldThing_4 rfl (lv_at hl 0 rfl) ?_
  refine tg_X4_yard X Y iX4_heldThing_X4 kX4_heldThing_0 dX4_heldThing_5 ?_
  refine tn_X3_held X Y iX4_heldThing_X3 (ty_m 7 rfl) dX4_heldThing_8 ?_
  refine lv_iload_n hx hb dX4_heldThing_11 rfl (lv_at hl 1 rfl) ?_
  refine ty_iald (v := (S1 7 x1.toNatClampNeg)) X Y 5 16 7 rfl h.1 rfl dX4_heldThing_12 ?_
  have h := h.2
  refine lv_istore_n (lv' := [(2, .int (S1 7 x1.toNatClampNeg)), (0, .ref (q 0)), (1, .int x1)]) hx hb dX4_heldThing_13 rfl hl (by decide) rfl (fun ls hl => ?_)
  refine lv_iload_n hx hb dX4_heldThing_14 rfl (lv_at hl 0 rfl) ?_
  refine lv_iconst (v := (-1 : Int32)) hx hb dX4_heldThing_15 (by decide) ?_
  refine lv_icmp_ne (tgt := 29) hx hb dX4_heldThing_16 (by decide) (fun c9 => ?_) (fun c9 => ?_)
  · have h := ty_f h c9
    refine lv_iload_n hx hb dX4_heldThing_29 rfl (lv_at hl 0 rfl) ?_
    exact tx_iret X Y h dX4_heldThing_30
  · have h := ty_t h c9
    exact tx_throw X Z Y 1 (by decide) rfl kX4_heldThing_1 kX4_heldThing_2 (text := "the register holds none") (ty_m 8 rfl) (fun _ h => List.mem_cons_of_mem _ (List.mem_append_left _ (List.mem_append_right _ h))) tz_ng_203 tz_fit_1 tz_good_199_203 hl.1 dX4_heldThing_19 dX4_heldThing_22 dX4_heldThing_23 dX4_heldThing_25 dX4_heldThing_28 (Nat.le_of_ble_eq_true rfl) (Nat.le_of_ble_eq_true rfl) (Nat.le_of_ble_eq_true rfl) (Nat.le_of_ble_eq_true rfl) h

abbrev rX4_placeOfReference : Room := { frames := 8, cells := 1, slots := 6, locals := 132 }
theorem kX4_placeOfReference_0 : Cond.classLink RX4 30 "java/lang/IllegalArgumentException" ∈ wsX4_placeOfReference := ty_m 1 (by decide +kernel)
theorem kX4_placeOfReference_1 : Cond.initialized "java/lang/IllegalArgumentException" ∈ wsX4_placeOfReference := ty_m 2 (by decide +kernel)
theorem kX4_placeOfReference_2 : Cond.fieldLink RX4 12 "TrainYard" "yard" "LTrainYard$Yard;" ∈ wsX4_placeOfReference := ty_m 3 (by decide +kernel)
theorem iX4_placeOfReference_X3 : ∀ w ∈ wsX30, w ∈ wsX4_placeOfReference := ty_inp _ [30, 31, 32, 33, 34, 35, 36, 37, 38, 39, 40, 41, 42] (by decide +kernel)
theorem iX4_placeOfReference_X4 : ∀ w ∈ wsX40, w ∈ wsX4_placeOfReference := ty_inp _ [26, 27, 28, 29] (by decide +kernel)
def eX4_placeOfReference (S : ty_S) (x1 : Int32) (x2 : Int32) (K : ty_S → Int32 → Prop) (KX : Nat → ty_S → Prop) : Prop :=
  (eX4_heldThing S x1 (fun S1 r1 => (if x2 < (0 : Int32) then KX 2 S1 else (eX0_references S1 r1 (fun S2 r2 => (if x2 < r2 then K S2 ((r1 + (2 : Int32)) + x2) else KX 2 S2))))) KX)
set_option maxHeartbeats 4000000 in
set_option maxRecDepth 100000 in
theorem cX4_placeOfReference_C (l : Launch) (hst : l.stackTraces = false) (D : va_G) (cA : Nat → ClassId) (q : Nat → Nat) (S : ty_S) (x1 : Int32) (x2 : Int32) (K : ty_S → Int32 → Prop) (KX : Nat → ty_S → Prop) (h : eX4_placeOfReference S x1 x2 K KX) : ∀ sz, tx_Met l yX4_placeOfReference wsX4_placeOfReference rX4_placeOfReference (tx_Pc D cA q ty_LY S sz [.ref (q 0), .int x1, .int x2]) (ty_Qi D cA q ty_LY sz K) (tx_XC D cA q ty_LY sz KX) 1 6 (ty_A q ty_LY.length sz) := by
  refine tx_ofM hst (ret := (some .int)) (maxL := 4) (cc := cX4_placeOfReference) (own := RX4) (Qc := fun sz => ty_Qi D cA q ty_LY sz K) (XC := fun sz => tx_XC D cA q ty_LY sz KX) (by decide +kernel) rfl (Nat.le_of_ble_eq_true rfl) rfl ?_
  intro p e s m args below meth c ls X Z hl Y
  have hx := X.1.1
  have hb := X.1.2.1
  have hl : lv_has ls 4 [(0, .ref (q 0)), (1, .int x1), (2, .int x2)] := hl
  unfold eX4_placeOfReference at h
  refine lv_aload_n hx hb dX4_placeOfReference_0 rfl (lv_at hl 0 rfl) ?_
  refine lv_iload_n hx hb dX4_placeOfReference_1 rfl (lv_at hl 1 rfl) ?_
  refine tx_Vi (As := [.int x1]) (b := 0) (rest := []) X Z Y (cX4_heldThing_C l Z.1 D cA q S x1 _ _ h) rfl rfl (fun hts => cwV 1 hts gX4_placeOfReference_X4_heldThing rfl rfl rfl (by decide +kernel) ⟨Nat.le_of_ble_eq_true rfl, Nat.le_of_ble_eq_true rfl⟩) rfl hl.1 (Nat.le_of_ble_eq_true rfl) dX4_placeOfReference_2 ⟨Nat.le_of_ble_eq_true rfl, Nat.le_of_ble_eq_true rfl⟩ (fun r1 S1 H locs h Y => ?_)
  refine lv_istore_n (lv' := [(3, .int r1), (0, .ref (q 0)), (1, .int x1), (2, .int x2)]) hx hb dX4_placeOfReference_5 rfl hl (by decide) rfl (fun ls hl => ?_)
  refine lv_iload_n hx hb dX4_placeOfReference_6 rfl (lv_at hl 3 rfl) ?_
  refine lv_if_lt (tgt := 25) hx hb dX4_placeOfReference_7 (by decide) (fun c9 => ?_) (fun c9 => ?_)
  · have h := ty_t h c9
    exact tx_throw X Z Y 2 (by decide) rfl kX4_placeOfReference_0 kX4_placeOfReference_1 (text := "there is no such reference") (ty_m 9 rfl) (fun _ h => List.mem_cons_of_mem _ (List.mem_append_left _ (List.mem_append_left _ (List.mem_append_right _ h)))) tz_ng_34 tz_fit_2 tz_good_30_34 hl.1 dX4_placeOfReference_25 dX4_placeOfReference_28 dX4_placeOfReference_29 dX4_placeOfReference_31 dX4_placeOfReference_34 (Nat.le_of_ble_eq_true rfl) (Nat.le_of_ble_eq_true rfl) (Nat.le_of_ble_eq_true rfl) (Nat.le_of_ble_eq_true rfl) h
  · have h := ty_f h c9
    refine lv_iload_n hx hb dX4_placeOfReference_10 rfl (lv_at hl 3 rfl) ?_
    refine lv_aload_n hx hb dX4_placeOfReference_11 rfl (lv_at hl 1 rfl) ?_
    refine tg_X4_yard X Y iX4_placeOfReference_X4 kX4_placeOfReference_2 dX4_placeOfReference_12 ?_
    refine tn_X3_freight X Y iX4_placeOfReference_X3 (ty_m 5 rfl) dX4_placeOfReference_15 ?_
    refine lv_iload_n hx hb dX4_placeOfReference_18 rfl (lv_at hl 0 rfl) ?_
    refine ty_Vi (As := [.int r1]) (b := 3) (rest := [.int x2]) X Y (cX0_references_C l D cA q S1 r1 _ h) rfl rfl (fun hts => cwV 1 hts gX4_placeOfReference_X0_references rfl rfl rfl (by decide +kernel) ⟨Nat.le_of_ble_eq_true rfl, Nat.le_of_ble_eq_true rfl⟩) rfl hl.1 (Nat.le_of_ble_eq_true rfl) dX4_placeOfReference_19 ⟨Nat.zero_le _, Nat.zero_le _⟩ (fun r2 S2 H locs h Y => ?_)
    refine lv_icmp_lt (tgt := 35) hx hb dX4_placeOfReference_22 (by decide) (fun c9 => ?_) (fun c9 => ?_)
    · have h := ty_t h c9
      refine lv_iload_n hx hb dX4_placeOfReference_35 rfl (lv_at hl 0 rfl) ?_
      refine lv_iconst (v := (2 : Int32)) hx hb dX4_placeOfReference_36 (by decide) ?_
      refine lv_iadd hx hb dX4_placeOfReference_37 ?_
      refine lv_iload_n hx hb dX4_placeOfReference_38 rfl (lv_at hl 3 rfl) ?_
      refine lv_iadd hx hb dX4_placeOfReference_39 ?_
      exact tx_iret X Y h dX4_placeOfReference_40
    · have h := ty_f h c9
      exact tx_throw X Z Y 2 (by decide) rfl kX4_placeOfReference_0 kX4_placeOfReference_1 (text := "there is no such reference") (ty_m 9 rfl) (fun _ h => List.mem_cons_of_mem _ (List.mem_append_left _ (List.mem_append_left _ (List.mem_append_right _ h)))) tz_ng_34 tz_fit_2 tz_good_30_34 hl.1 dX4_placeOfReference_25 dX4_placeOfReference_28 dX4_placeOfReference_29 dX4_placeOfReference_31 dX4_placeOfReference_34 (Nat.le_of_ble_eq_true rfl) (Nat.le_of_ble_eq_true rfl) (Nat.le_of_ble_eq_true rfl) (Nat.le_of_ble_eq_true rfl) h

abbrev rX4_set : Room := { frames := 9, cells := 1, slots := 6, locals := 155 }
theorem kX4_set_0 : Cond.fieldLink RX4 12 "TrainYard" "yard" "LTrainYard$Yard;" ∈ wsX4_set := ty_m 1 (by decide +kernel)
theorem iX4_set_X3 : ∀ w ∈ wsX30, w ∈ wsX4_set := ty_inp _ [43, 44, 45, 46, 47, 48, 49, 50, 51, 52, 53, 54, 55] (by decide +kernel)
theorem iX4_set_X4 : ∀ w ∈ wsX40, w ∈ wsX4_set := ty_inp _ [39, 40, 41, 42] (by decide +kernel)
def eX4_set (S : ty_S) (x1 : Int32) (x2 : Int32) (x3 : Int32) (K : ty_S → Int32 → Prop) (KX : Nat → ty_S → Prop) : Prop :=
  (eX4_needRegister S x3 (fun S1 => (eX4_placeOfReference S1 x1 x2 (fun S2 r2 => (eX0_at S2 r2 (fun S3 r3 => (eX0_labelOf S3 r3 (fun S4 r4 => (vp_in x3 16 ∧ (eX0_write S4 r2 (S4 7 x3.toNatClampNeg) (fun S5 => K S5 r4)))))))) KX)) KX)
set_option maxHeartbeats 4000000 in
set_option maxRecDepth 100000 in
theorem cX4_set_C (l : Launch) (hst : l.stackTraces = false) (D : va_G) (cA : Nat → ClassId) (q : Nat → Nat) (S : ty_S) (x1 : Int32) (x2 : Int32) (x3 : Int32) (K : ty_S → Int32 → Prop) (KX : Nat → ty_S → Prop) (h : eX4_set S x1 x2 x3 K KX) : ∀ sz, tx_Met l yX4_set wsX4_set rX4_set (tx_Pc D cA q ty_LY S sz [.ref (q 0), .int x1, .int x2, .int x3]) (ty_Qi D cA q ty_LY sz K) (tx_XC D cA q ty_LY sz KX) 1 6 (ty_A q ty_LY.length sz) := by
  refine tx_ofM hst (ret := (some .int)) (maxL := 6) (cc := cX4_set) (own := RX4) (Qc := fun sz => ty_Qi D cA q ty_LY sz K) (XC := fun sz => tx_XC D cA q ty_LY sz KX) (by decide +kernel) rfl (Nat.le_of_ble_eq_true rfl) rfl ?_
  intro p e s m args below meth c ls X Z hl Y
  have hx := X.1.1
  have hb := X.1.2.1
  have hl : lv_has ls 6 [(0, .ref (q 0)), (1, .int x1), (2, .int x2), (3, .int x3)] := hl
  unfold eX4_set at h
  refine lv_iload_n hx hb dX4_set_0 rfl (lv_at hl 3 rfl) ?_
  refine tx_Sv (As := [.int x3]) (rest := []) X Z Y (cX4_needRegister_C l Z.1 D cA q S x3 _ _ h) (fun hts => va_cwS 1 hts gX4_set_X4_needRegister rfl rfl rfl (by decide +kernel) ⟨Nat.le_of_ble_eq_true rfl, Nat.le_of_ble_eq_true rfl⟩) rfl hl.1 (Nat.le_of_ble_eq_true rfl) dX4_set_1 ⟨Nat.le_of_ble_eq_true rfl, Nat.le_of_ble_eq_true rfl⟩ (fun S1 H locs h Y => ?_)
  refine lv_aload_n hx hb dX4_set_4 rfl (lv_at hl 0 rfl) ?_
  refine lv_iload_n hx hb dX4_set_5 rfl (lv_at hl 1 rfl) ?_
  refine lv_iload_n hx hb dX4_set_6 rfl (lv_at hl 2 rfl) ?_
  refine tx_Vi (As := [.int x1, .int x2]) (b := 0) (rest := []) X Z Y (cX4_placeOfReference_C l Z.1 D cA q S1 x1 x2 _ _ h) rfl rfl (fun hts => cwV 2 hts gX4_set_X4_placeOfReference rfl rfl rfl (by decide +kernel) ⟨Nat.le_of_ble_eq_true rfl, Nat.le_of_ble_eq_true rfl⟩) rfl hl.1 (Nat.le_of_ble_eq_true rfl) dX4_set_7 ⟨Nat.le_of_ble_eq_true rfl, Nat.le_of_ble_eq_true rfl⟩ (fun r2 S2 H locs h Y => ?_)
  refine lv_istore (lv' := [(4, .int r2), (0, .ref (q 0)), (1, .int x1), (2, .int x2), (3, .int x3)]) hx hb dX4_set_10 hl (by decide) rfl (fun ls hl => ?_)
  refine lv_aload_n hx hb dX4_set_12 rfl (lv_at hl 1 rfl) ?_
  refine tg_X4_yard X Y iX4_set_X4 kX4_set_0 dX4_set_13 ?_
  refine tn_X3_freight X Y iX4_set_X3 (ty_m 5 rfl) dX4_set_16 ?_
  refine lv_aload_n hx hb dX4_set_19 rfl (lv_at hl 1 rfl) ?_
  refine tg_X4_yard X Y iX4_set_X4 kX4_set_0 dX4_set_20 ?_
  refine tn_X3_freight X Y iX4_set_X3 (ty_m 5 rfl) dX4_set_23 ?_
  refine lv_iload hx hb dX4_set_26 (lv_at hl 0 rfl) ?_
  refine ty_Vi (As := [.int r2]) (b := 3) (rest := [.ref (q 3)]) X Y (cX0_at_C l D cA q S2 r2 _ h) rfl rfl (fun hts => cwV 1 hts gX4_set_X0_at rfl rfl rfl (by decide +kernel) ⟨Nat.le_of_ble_eq_true rfl, Nat.le_of_ble_eq_true rfl⟩) rfl hl.1 (Nat.le_of_ble_eq_true rfl) dX4_set_28 ⟨Nat.zero_le _, Nat.zero_le _⟩ (fun r3 S3 H locs h Y => ?_)
  refine ty_Vi (As := [.int r3]) (b := 3) (rest := []) X Y (cX0_labelOf_C l D cA q S3 r3 _ h) rfl rfl (fun hts => cwV 1 hts gX4_set_X0_labelOf rfl rfl rfl (by decide +kernel) ⟨Nat.le_of_ble_eq_true rfl, Nat.le_of_ble_eq_true rfl⟩) rfl hl.1 (Nat.le_of_ble_eq_true rfl) dX4_set_31 ⟨Nat.zero_le _, Nat.zero_le _⟩ (fun r4 S4 H locs h Y => ?_)
  refine lv_istore (lv' := [(5, .int r4), (4, .int r2), (0, .ref (q 0)), (1, .int x1), (2, .int x2), (3, .int x3)]) hx hb dX4_set_34 hl (by decide) rfl (fun ls hl => ?_)
  refine lv_aload_n hx hb dX4_set_36 rfl (lv_at hl 2 rfl) ?_
  refine tg_X4_yard X Y iX4_set_X4 kX4_set_0 dX4_set_37 ?_
  refine tn_X3_freight X Y iX4_set_X3 (ty_m 5 rfl) dX4_set_40 ?_
  refine lv_iload hx hb dX4_set_43 (lv_at hl 1 rfl) ?_
  refine lv_aload_n hx hb dX4_set_45 rfl (lv_at hl 2 rfl) ?_
  refine tg_X4_yard X Y iX4_set_X4 kX4_set_0 dX4_set_46 ?_
  refine tn_X3_held X Y iX4_set_X3 (ty_m 7 rfl) dX4_set_49 ?_
  refine lv_iload_n hx hb dX4_set_52 rfl (lv_at hl 5 rfl) ?_
  refine ty_iald (v := (S4 7 x3.toNatClampNeg)) X Y 5 16 7 rfl h.1 rfl dX4_set_53 ?_
  have h := h.2
  refine ty_Vv (As := [.int r2, .int (S4 7 x3.toNatClampNeg)]) (b := 3) (rest := []) X Y (cX0_write_C l D cA q S4 r2 (S4 7 x3.toNatClampNeg) _ h) rfl rfl (fun hts => cwV 2 hts gX4_set_X0_write rfl rfl rfl (by decide +kernel) ⟨Nat.le_of_ble_eq_true rfl, Nat.le_of_ble_eq_true rfl⟩) rfl hl.1 (Nat.le_of_ble_eq_true rfl) dX4_set_54 ⟨Nat.zero_le _, Nat.zero_le _⟩ (fun S5 H locs h Y => ?_)
  refine lv_iload hx hb dX4_set_57 (lv_at hl 0 rfl) ?_
  exact tx_iret X Y h dX4_set_59

abbrev rX4_get : Room := { frames := 9, cells := 1, slots := 6, locals := 155 }
theorem kX4_get_0 : Cond.fieldLink RX4 12 "TrainYard" "yard" "LTrainYard$Yard;" ∈ wsX4_get := ty_m 1 (by decide +kernel)
theorem iX4_get_X3 : ∀ w ∈ wsX30, w ∈ wsX4_get := ty_inp _ [39, 40, 41, 42, 43, 44, 45, 46, 47, 48, 49, 50, 51] (by decide +kernel)
theorem iX4_get_X4 : ∀ w ∈ wsX40, w ∈ wsX4_get := ty_inp _ [35, 36, 37, 38] (by decide +kernel)
def eX4_get (S : ty_S) (x1 : Int32) (x2 : Int32) (x3 : Int32) (K : ty_S → Int32 → Prop) (KX : Nat → ty_S → Prop) : Prop :=
  (eX4_needRegister S x1 (fun S1 => (eX4_placeOfReference S1 x2 x3 (fun S2 r2 => (eX0_at S2 r2 (fun S3 r3 => (vp_in x1 16 ∧ (vp_in x1 16 ∧ (eX0_labelOf (ty_st S3 7 x1.toNatClampNeg r3) ((ty_st S3 7 x1.toNatClampNeg r3) 7 x1.toNatClampNeg) (fun S4 r4 => K S4 r4))))))) KX)) KX)
set_option maxHeartbeats 4000000 in
set_option maxRecDepth 100000 in
theorem cX4_get_C (l : Launch) (hst : l.stackTraces = false) (D : va_G) (cA : Nat → ClassId) (q : Nat → Nat) (S : ty_S) (x1 : Int32) (x2 : Int32) (x3 : Int32) (K : ty_S → Int32 → Prop) (KX : Nat → ty_S → Prop) (h : eX4_get S x1 x2 x3 K KX) : ∀ sz, tx_Met l yX4_get wsX4_get rX4_get (tx_Pc D cA q ty_LY S sz [.ref (q 0), .int x1, .int x2, .int x3]) (ty_Qi D cA q ty_LY sz K) (tx_XC D cA q ty_LY sz KX) 1 6 (ty_A q ty_LY.length sz) := by
  refine tx_ofM hst (ret := (some .int)) (maxL := 5) (cc := cX4_get) (own := RX4) (Qc := fun sz => ty_Qi D cA q ty_LY sz K) (XC := fun sz => tx_XC D cA q ty_LY sz KX) (by decide +kernel) rfl (Nat.le_of_ble_eq_true rfl) rfl ?_
  intro p e s m args below meth c ls X Z hl Y
  have hx := X.1.1
  have hb := X.1.2.1
  have hl : lv_has ls 5 [(0, .ref (q 0)), (1, .int x1), (2, .int x2), (3, .int x3)] := hl
  unfold eX4_get at h
  refine lv_iload_n hx hb dX4_get_0 rfl (lv_at hl 1 rfl) ?_
  refine tx_Sv (As := [.int x1]) (rest := []) X Z Y (cX4_needRegister_C l Z.1 D cA q S x1 _ _ h) (fun hts => va_cwS 1 hts gX4_get_X4_needRegister rfl rfl rfl (by decide +kernel) ⟨Nat.le_of_ble_eq_true rfl, Nat.le_of_ble_eq_true rfl⟩) rfl hl.1 (Nat.le_of_ble_eq_true rfl) dX4_get_1 ⟨Nat.le_of_ble_eq_true rfl, Nat.le_of_ble_eq_true rfl⟩ (fun S1 H locs h Y => ?_)
  refine lv_aload_n hx hb dX4_get_4 rfl (lv_at hl 0 rfl) ?_
  refine lv_iload_n hx hb dX4_get_5 rfl (lv_at hl 2 rfl) ?_
  refine lv_iload_n hx hb dX4_get_6 rfl (lv_at hl 3 rfl) ?_
  refine tx_Vi (As := [.int x2, .int x3]) (b := 0) (rest := []) X Z Y (cX4_placeOfReference_C l Z.1 D cA q S1 x2 x3 _ _ h) rfl rfl (fun hts => cwV 2 hts gX4_get_X4_placeOfReference rfl rfl rfl (by decide +kernel) ⟨Nat.le_of_ble_eq_true rfl, Nat.le_of_ble_eq_true rfl⟩) rfl hl.1 (Nat.le_of_ble_eq_true rfl) dX4_get_7 ⟨Nat.le_of_ble_eq_true rfl, Nat.le_of_ble_eq_true rfl⟩ (fun r2 S2 H locs h Y => ?_)
  refine lv_istore (lv' := [(4, .int r2), (0, .ref (q 0)), (1, .int x1), (2, .int x2), (3, .int x3)]) hx hb dX4_get_10 hl (by decide) rfl (fun ls hl => ?_)
  refine lv_aload_n hx hb dX4_get_12 rfl (lv_at hl 1 rfl) ?_
  refine tg_X4_yard X Y iX4_get_X4 kX4_get_0 dX4_get_13 ?_
  refine tn_X3_held X Y iX4_get_X3 (ty_m 7 rfl) dX4_get_16 ?_
  refine lv_iload_n hx hb dX4_get_19 rfl (lv_at hl 2 rfl) ?_
  refine lv_aload_n hx hb dX4_get_20 rfl (lv_at hl 1 rfl) ?_
  refine tg_X4_yard X Y iX4_get_X4 kX4_get_0 dX4_get_21 ?_
  refine tn_X3_freight X Y iX4_get_X3 (ty_m 5 rfl) dX4_get_24 ?_
  refine lv_iload hx hb dX4_get_27 (lv_at hl 0 rfl) ?_
  refine ty_Vi (As := [.int r2]) (b := 3) (rest := [.int x1, .ref (q 5)]) X Y (cX0_at_C l D cA q S2 r2 _ h) rfl rfl (fun hts => cwV 1 hts gX4_get_X0_at rfl rfl rfl (by decide +kernel) ⟨Nat.le_of_ble_eq_true rfl, Nat.le_of_ble_eq_true rfl⟩) rfl hl.1 (Nat.le_of_ble_eq_true rfl) dX4_get_29 ⟨Nat.zero_le _, Nat.zero_le _⟩ (fun r3 S3 H locs h Y => ?_)
  refine ty_iast X Y 5 16 7 rfl (by decide) h.1 dX4_get_32 (fun H locs Y => ?_)
  have h := h.2
  refine lv_aload_n hx hb dX4_get_33 rfl (lv_at hl 1 rfl) ?_
  refine tg_X4_yard X Y iX4_get_X4 kX4_get_0 dX4_get_34 ?_
  refine tn_X3_freight X Y iX4_get_X3 (ty_m 5 rfl) dX4_get_37 ?_
  refine lv_aload_n hx hb dX4_get_40 rfl (lv_at hl 1 rfl) ?_
  refine tg_X4_yard X Y iX4_get_X4 kX4_get_0 dX4_get_41 ?_
  refine tn_X3_held X Y iX4_get_X3 (ty_m 7 rfl) dX4_get_44 ?_
  refine lv_iload_n hx hb dX4_get_47 rfl (lv_at hl 2 rfl) ?_
  refine ty_iald (v := ((ty_st S3 7 x1.toNatClampNeg r3) 7 x1.toNatClampNeg)) X Y 5 16 7 rfl h.1 rfl dX4_get_48 ?_
  have h := h.2
  refine ty_Vi (As := [.int ((ty_st S3 7 x1.toNatClampNeg r3) 7 x1.toNatClampNeg)]) (b := 3) (rest := []) X Y (cX0_labelOf_C l D cA q (ty_st S3 7 x1.toNatClampNeg r3) ((ty_st S3 7 x1.toNatClampNeg r3) 7 x1.toNatClampNeg) _ h) rfl rfl (fun hts => cwV 1 hts gX4_get_X0_labelOf rfl rfl rfl (by decide +kernel) ⟨Nat.le_of_ble_eq_true rfl, Nat.le_of_ble_eq_true rfl⟩) rfl hl.1 (Nat.le_of_ble_eq_true rfl) dX4_get_49 ⟨Nat.zero_le _, Nat.zero_le _⟩ (fun r4 S4 H locs h Y => ?_)
  exact tx_iret X Y h dX4_get_52

abbrev rX4_placeOfNumber : Room := { frames := 8, cells := 1, slots := 6, locals := 132 }
theorem kX4_placeOfNumber_0 : Cond.classLink RX4 30 "java/lang/IllegalArgumentException" ∈ wsX4_placeOfNumber := ty_m 1 (by decide +kernel)
theorem kX4_placeOfNumber_1 : Cond.initialized "java/lang/IllegalArgumentException" ∈ wsX4_placeOfNumber := ty_m 2 (by decide +kernel)
theorem kX4_placeOfNumber_2 : Cond.fieldLink RX4 12 "TrainYard" "yard" "LTrainYard$Yard;" ∈ wsX4_placeOfNumber := ty_m 3 (by decide +kernel)
theorem iX4_placeOfNumber_X3 : ∀ w ∈ wsX30, w ∈ wsX4_placeOfNumber := ty_inp _ [34, 35, 36, 37, 38, 39, 40, 41, 42, 43, 44, 45, 46] (by decide +kernel)
theorem iX4_placeOfNumber_X4 : ∀ w ∈ wsX40, w ∈ wsX4_placeOfNumber := ty_inp _ [30, 31, 32, 33] (by decide +kernel)
def eX4_placeOfNumber (S : ty_S) (x1 : Int32) (x2 : Int32) (K : ty_S → Int32 → Prop) (KX : Nat → ty_S → Prop) : Prop :=
  (eX4_heldThing S x1 (fun S1 r1 => (if x2 < (0 : Int32) then KX 2 S1 else (eX0_numbers S1 r1 (fun S2 r2 => (if x2 < r2 then (eX0_references S2 r1 (fun S3 r3 => K S3 (((r1 + (2 : Int32)) + r3) + x2))) else KX 2 S2))))) KX)
set_option maxHeartbeats 4000000 in
set_option maxRecDepth 100000 in
theorem cX4_placeOfNumber_C (l : Launch) (hst : l.stackTraces = false) (D : va_G) (cA : Nat → ClassId) (q : Nat → Nat) (S : ty_S) (x1 : Int32) (x2 : Int32) (K : ty_S → Int32 → Prop) (KX : Nat → ty_S → Prop) (h : eX4_placeOfNumber S x1 x2 K KX) : ∀ sz, tx_Met l yX4_placeOfNumber wsX4_placeOfNumber rX4_placeOfNumber (tx_Pc D cA q ty_LY S sz [.ref (q 0), .int x1, .int x2]) (ty_Qi D cA q ty_LY sz K) (tx_XC D cA q ty_LY sz KX) 1 6 (ty_A q ty_LY.length sz) := by
  refine tx_ofM hst (ret := (some .int)) (maxL := 4) (cc := cX4_placeOfNumber) (own := RX4) (Qc := fun sz => ty_Qi D cA q ty_LY sz K) (XC := fun sz => tx_XC D cA q ty_LY sz KX) (by decide +kernel) rfl (Nat.le_of_ble_eq_true rfl) rfl ?_
  intro p e s m args below meth c ls X Z hl Y
  have hx := X.1.1
  have hb := X.1.2.1
  have hl : lv_has ls 4 [(0, .ref (q 0)), (1, .int x1), (2, .int x2)] := hl
  unfold eX4_placeOfNumber at h
  refine lv_aload_n hx hb dX4_placeOfNumber_0 rfl (lv_at hl 0 rfl) ?_
  refine lv_iload_n hx hb dX4_placeOfNumber_1 rfl (lv_at hl 1 rfl) ?_
  refine tx_Vi (As := [.int x1]) (b := 0) (rest := []) X Z Y (cX4_heldThing_C l Z.1 D cA q S x1 _ _ h) rfl rfl (fun hts => cwV 1 hts gX4_placeOfNumber_X4_heldThing rfl rfl rfl (by decide +kernel) ⟨Nat.le_of_ble_eq_true rfl, Nat.le_of_ble_eq_true rfl⟩) rfl hl.1 (Nat.le_of_ble_eq_true rfl) dX4_placeOfNumber_2 ⟨Nat.le_of_ble_eq_true rfl, Nat.le_of_ble_eq_true rfl⟩ (fun r1 S1 H locs h Y => ?_)
  refine lv_istore_n (lv' := [(3, .int r1), (0, .ref (q 0)), (1, .int x1), (2, .int x2)]) hx hb dX4_placeOfNumber_5 rfl hl (by decide) rfl (fun ls hl => ?_)
  refine lv_iload_n hx hb dX4_placeOfNumber_6 rfl (lv_at hl 3 rfl) ?_
  refine lv_if_lt (tgt := 25) hx hb dX4_placeOfNumber_7 (by decide) (fun c9 => ?_) (fun c9 => ?_)
  · have h := ty_t h c9
    exact tx_throw X Z Y 2 (by decide) rfl kX4_placeOfNumber_0 kX4_placeOfNumber_1 (text := "there is no such number") (ty_m 10 rfl) (fun _ h => List.mem_cons_of_mem _ (List.mem_append_left _ (List.mem_append_left _ (List.mem_append_right _ h)))) tz_ng_34 tz_fit_2 tz_good_30_34 hl.1 dX4_placeOfNumber_25 dX4_placeOfNumber_28 dX4_placeOfNumber_29 dX4_placeOfNumber_31 dX4_placeOfNumber_34 (Nat.le_of_ble_eq_true rfl) (Nat.le_of_ble_eq_true rfl) (Nat.le_of_ble_eq_true rfl) (Nat.le_of_ble_eq_true rfl) h
  · have h := ty_f h c9
    refine lv_iload_n hx hb dX4_placeOfNumber_10 rfl (lv_at hl 3 rfl) ?_
    refine lv_aload_n hx hb dX4_placeOfNumber_11 rfl (lv_at hl 1 rfl) ?_
    refine tg_X4_yard X Y iX4_placeOfNumber_X4 kX4_placeOfNumber_2 dX4_placeOfNumber_12 ?_
    refine tn_X3_freight X Y iX4_placeOfNumber_X3 (ty_m 5 rfl) dX4_placeOfNumber_15 ?_
    refine lv_iload_n hx hb dX4_placeOfNumber_18 rfl (lv_at hl 0 rfl) ?_
    refine ty_Vi (As := [.int r1]) (b := 3) (rest := [.int x2]) X Y (cX0_numbers_C l D cA q S1 r1 _ h) rfl rfl (fun hts => cwV 1 hts gX4_placeOfNumber_X0_numbers rfl rfl rfl (by decide +kernel) ⟨Nat.le_of_ble_eq_true rfl, Nat.le_of_ble_eq_true rfl⟩) rfl hl.1 (Nat.le_of_ble_eq_true rfl) dX4_placeOfNumber_19 ⟨Nat.zero_le _, Nat.zero_le _⟩ (fun r2 S2 H locs h Y => ?_)
    refine lv_icmp_lt (tgt := 35) hx hb dX4_placeOfNumber_22 (by decide) (fun c9 => ?_) (fun c9 => ?_)
    · have h := ty_t h c9
      refine lv_iload_n hx hb dX4_placeOfNumber_35 rfl (lv_at hl 0 rfl) ?_
      refine lv_iconst (v := (2 : Int32)) hx hb dX4_placeOfNumber_36 (by decide) ?_
      refine lv_iadd hx hb dX4_placeOfNumber_37 ?_
      refine lv_aload_n hx hb dX4_placeOfNumber_38 rfl (lv_at hl 1 rfl) ?_
      refine tg_X4_yard X Y iX4_placeOfNumber_X4 kX4_placeOfNumber_2 dX4_placeOfNumber_39 ?_
      refine tn_X3_freight X Y iX4_placeOfNumber_X3 (ty_m 5 rfl) dX4_placeOfNumber_42 ?_
      refine lv_iload_n hx hb dX4_placeOfNumber_45 rfl (lv_at hl 0 rfl) ?_
      refine ty_Vi (As := [.int r1]) (b := 3) (rest := [.int (r1 + (2 : Int32))]) X Y (cX0_references_C l D cA q S2 r1 _ h) rfl rfl (fun hts => cwV 1 hts gX4_placeOfNumber_X0_references rfl rfl rfl (by decide +kernel) ⟨Nat.le_of_ble_eq_true rfl, Nat.le_of_ble_eq_true rfl⟩) rfl hl.1 (Nat.le_of_ble_eq_true rfl) dX4_placeOfNumber_46 ⟨Nat.zero_le _, Nat.zero_le _⟩ (fun r3 S3 H locs h Y => ?_)
      refine lv_iadd hx hb dX4_placeOfNumber_49 ?_
      refine lv_iload_n hx hb dX4_placeOfNumber_50 rfl (lv_at hl 3 rfl) ?_
      refine lv_iadd hx hb dX4_placeOfNumber_51 ?_
      exact tx_iret X Y h dX4_placeOfNumber_52
    · have h := ty_f h c9
      exact tx_throw X Z Y 2 (by decide) rfl kX4_placeOfNumber_0 kX4_placeOfNumber_1 (text := "there is no such number") (ty_m 10 rfl) (fun _ h => List.mem_cons_of_mem _ (List.mem_append_left _ (List.mem_append_left _ (List.mem_append_right _ h)))) tz_ng_34 tz_fit_2 tz_good_30_34 hl.1 dX4_placeOfNumber_25 dX4_placeOfNumber_28 dX4_placeOfNumber_29 dX4_placeOfNumber_31 dX4_placeOfNumber_34 (Nat.le_of_ble_eq_true rfl) (Nat.le_of_ble_eq_true rfl) (Nat.le_of_ble_eq_true rfl) (Nat.le_of_ble_eq_true rfl) h

abbrev rX4_put : Room := { frames := 9, cells := 1, slots := 6, locals := 155 }
theorem kX4_put_0 : Cond.fieldLink RX4 12 "TrainYard" "yard" "LTrainYard$Yard;" ∈ wsX4_put := ty_m 1 (by decide +kernel)
theorem iX4_put_X3 : ∀ w ∈ wsX30, w ∈ wsX4_put := ty_inp _ [43, 44, 45, 46, 47, 48, 49, 50, 51, 52, 53, 54, 55] (by decide +kernel)
theorem iX4_put_X4 : ∀ w ∈ wsX40, w ∈ wsX4_put := ty_inp _ [39, 40, 41, 42] (by decide +kernel)
def eX4_put (S : ty_S) (x1 : Int32) (x2 : Int32) (x3 : Int32) (K : ty_S → Int32 → Prop) (KX : Nat → ty_S → Prop) : Prop :=
  (eX4_placeOfNumber S x1 x2 (fun S1 r1 => (eX0_at S1 r1 (fun S2 r2 => (eX0_write S2 r1 x3 (fun S3 => K S3 r2))))) KX)
set_option maxHeartbeats 4000000 in
set_option maxRecDepth 100000 in
theorem cX4_put_C (l : Launch) (hst : l.stackTraces = false) (D : va_G) (cA : Nat → ClassId) (q : Nat → Nat) (S : ty_S) (x1 : Int32) (x2 : Int32) (x3 : Int32) (K : ty_S → Int32 → Prop) (KX : Nat → ty_S → Prop) (h : eX4_put S x1 x2 x3 K KX) : ∀ sz, tx_Met l yX4_put wsX4_put rX4_put (tx_Pc D cA q ty_LY S sz [.ref (q 0), .int x1, .int x2, .int x3]) (ty_Qi D cA q ty_LY sz K) (tx_XC D cA q ty_LY sz KX) 1 6 (ty_A q ty_LY.length sz) := by
  refine tx_ofM hst (ret := (some .int)) (maxL := 6) (cc := cX4_put) (own := RX4) (Qc := fun sz => ty_Qi D cA q ty_LY sz K) (XC := fun sz => tx_XC D cA q ty_LY sz KX) (by decide +kernel) rfl (Nat.le_of_ble_eq_true rfl) rfl ?_
  intro p e s m args below meth c ls X Z hl Y
  have hx := X.1.1
  have hb := X.1.2.1
  have hl : lv_has ls 6 [(0, .ref (q 0)), (1, .int x1), (2, .int x2), (3, .int x3)] := hl
  unfold eX4_put at h
  refine lv_aload_n hx hb dX4_put_0 rfl (lv_at hl 0 rfl) ?_
  refine lv_iload_n hx hb dX4_put_1 rfl (lv_at hl 1 rfl) ?_
  refine lv_iload_n hx hb dX4_put_2 rfl (lv_at hl 2 rfl) ?_
  refine tx_Vi (As := [.int x1, .int x2]) (b := 0) (rest := []) X Z Y (cX4_placeOfNumber_C l Z.1 D cA q S x1 x2 _ _ h) rfl rfl (fun hts => cwV 2 hts gX4_put_X4_placeOfNumber rfl rfl rfl (by decide +kernel) ⟨Nat.le_of_ble_eq_true rfl, Nat.le_of_ble_eq_true rfl⟩) rfl hl.1 (Nat.le_of_ble_eq_true rfl) dX4_put_3 ⟨Nat.le_of_ble_eq_true rfl, Nat.le_of_ble_eq_true rfl⟩ (fun r1 S1 H locs h Y => ?_)
  refine lv_istore (lv' := [(4, .int r1), (0, .ref (q 0)), (1, .int x1), (2, .int x2), (3, .int x3)]) hx hb dX4_put_6 hl (by decide) rfl (fun ls hl => ?_)
  refine lv_aload_n hx hb dX4_put_8 rfl (lv_at hl 1 rfl) ?_
  refine tg_X4_yard X Y iX4_put_X4 kX4_put_0 dX4_put_9 ?_
  refine tn_X3_freight X Y iX4_put_X3 (ty_m 5 rfl) dX4_put_12 ?_
  refine lv_iload hx hb dX4_put_15 (lv_at hl 0 rfl) ?_
  refine ty_Vi (As := [.int r1]) (b := 3) (rest := []) X Y (cX0_at_C l D cA q S1 r1 _ h) rfl rfl (fun hts => cwV 1 hts gX4_put_X0_at rfl rfl rfl (by decide +kernel) ⟨Nat.le_of_ble_eq_true rfl, Nat.le_of_ble_eq_true rfl⟩) rfl hl.1 (Nat.le_of_ble_eq_true rfl) dX4_put_17 ⟨Nat.zero_le _, Nat.zero_le _⟩ (fun r2 S2 H locs h Y => ?_)
  refine lv_istore (lv' := [(5, .int r2), (4, .int r1), (0, .ref (q 0)), (1, .int x1), (2, .int x2), (3, .int x3)]) hx hb dX4_put_20 hl (by decide) rfl (fun ls hl => ?_)
  refine lv_aload_n hx hb dX4_put_22 rfl (lv_at hl 2 rfl) ?_
  refine tg_X4_yard X Y iX4_put_X4 kX4_put_0 dX4_put_23 ?_
  refine tn_X3_freight X Y iX4_put_X3 (ty_m 5 rfl) dX4_put_26 ?_
  refine lv_iload hx hb dX4_put_29 (lv_at hl 1 rfl) ?_
  refine lv_iload_n hx hb dX4_put_31 rfl (lv_at hl 5 rfl) ?_
  refine ty_Vv (As := [.int r1, .int x3]) (b := 3) (rest := []) X Y (cX0_write_C l D cA q S2 r1 x3 _ h) rfl rfl (fun hts => cwV 2 hts gX4_put_X0_write rfl rfl rfl (by decide +kernel) ⟨Nat.le_of_ble_eq_true rfl, Nat.le_of_ble_eq_true rfl⟩) rfl hl.1 (Nat.le_of_ble_eq_true rfl) dX4_put_32 ⟨Nat.zero_le _, Nat.zero_le _⟩ (fun S3 H locs h Y => ?_)
  refine lv_iload hx hb dX4_put_35 (lv_at hl 0 rfl) ?_
  exact tx_iret X Y h dX4_put_37

abbrev rX4_number : Room := { frames := 9, cells := 1, slots := 6, locals := 155 }
theorem kX4_number_0 : Cond.fieldLink RX4 12 "TrainYard" "yard" "LTrainYard$Yard;" ∈ wsX4_number := ty_m 1 (by decide +kernel)
theorem iX4_number_X3 : ∀ w ∈ wsX30, w ∈ wsX4_number := ty_inp _ [39, 40, 41, 42, 43, 44, 45, 46, 47, 48, 49, 50, 51] (by decide +kernel)
theorem iX4_number_X4 : ∀ w ∈ wsX40, w ∈ wsX4_number := ty_inp _ [35, 36, 37, 38] (by decide +kernel)
def eX4_number (S : ty_S) (x1 : Int32) (x2 : Int32) (K : ty_S → Int32 → Prop) (KX : Nat → ty_S → Prop) : Prop :=
  (eX4_placeOfNumber S x1 x2 (fun S1 r1 => (eX0_at S1 r1 (fun S2 r2 => K S2 r2))) KX)
set_option maxHeartbeats 4000000 in
set_option maxRecDepth 100000 in
theorem cX4_number_C (l : Launch) (hst : l.stackTraces = false) (D : va_G) (cA : Nat → ClassId) (q : Nat → Nat) (S : ty_S) (x1 : Int32) (x2 : Int32) (K : ty_S → Int32 → Prop) (KX : Nat → ty_S → Prop) (h : eX4_number S x1 x2 K KX) : ∀ sz, tx_Met l yX4_number wsX4_number rX4_number (tx_Pc D cA q ty_LY S sz [.ref (q 0), .int x1, .int x2]) (ty_Qi D cA q ty_LY sz K) (tx_XC D cA q ty_LY sz KX) 1 6 (ty_A q ty_LY.length sz) := by
  refine tx_ofM hst (ret := (some .int)) (maxL := 3) (cc := cX4_number) (own := RX4) (Qc := fun sz => ty_Qi D cA q ty_LY sz K) (XC := fun sz => tx_XC D cA q ty_LY sz KX) (by decide +kernel) rfl (Nat.le_of_ble_eq_true rfl) rfl ?_
  intro p e s m args below meth c ls X Z hl Y
  have hx := X.1.1
  have hb := X.1.2.1
  have hl : lv_has ls 3 [(0, .ref (q 0)), (1, .int x1), (2, .int x2)] := hl
  unfold eX4_number at h
  refine lv_aload_n hx hb dX4_number_0 rfl (lv_at hl 0 rfl) ?_
  refine tg_X4_yard X Y iX4_number_X4 kX4_number_0 dX4_number_1 ?_
  refine tn_X3_freight X Y iX4_number_X3 (ty_m 5 rfl) dX4_number_4 ?_
  refine lv_aload_n hx hb dX4_number_7 rfl (lv_at hl 0 rfl) ?_
  refine lv_iload_n hx hb dX4_number_8 rfl (lv_at hl 1 rfl) ?_
  refine lv_iload_n hx hb dX4_number_9 rfl (lv_at hl 2 rfl) ?_
  refine tx_Vi (As := [.int x1, .int x2]) (b := 0) (rest := [.ref (q 3)]) X Z Y (cX4_placeOfNumber_C l Z.1 D cA q S x1 x2 _ _ h) rfl rfl (fun hts => cwV 2 hts gX4_number_X4_placeOfNumber rfl rfl rfl (by decide +kernel) ⟨Nat.le_of_ble_eq_true rfl, Nat.le_of_ble_eq_true rfl⟩) rfl hl.1 (Nat.le_of_ble_eq_true rfl) dX4_number_10 ⟨Nat.le_of_ble_eq_true rfl, Nat.le_of_ble_eq_true rfl⟩ (fun r1 S1 H locs h Y => ?_)
  refine ty_Vi (As := [.int r1]) (b := 3) (rest := []) X Y (cX0_at_C l D cA q S1 r1 _ h) rfl rfl (fun hts => cwV 1 hts gX4_number_X0_at rfl rfl rfl (by decide +kernel) ⟨Nat.le_of_ble_eq_true rfl, Nat.le_of_ble_eq_true rfl⟩) rfl hl.1 (Nat.le_of_ble_eq_true rfl) dX4_number_13 ⟨Nat.zero_le _, Nat.zero_le _⟩ (fun r2 S2 H locs h Y => ?_)
  exact tx_iret X Y h dX4_number_16

abbrev rX4_collect : Room := { frames := 7, cells := 1, slots := 6, locals := 171 }
theorem kX4_collect_0 : Cond.classLink RX4 30 "java/lang/IllegalArgumentException" ∈ wsX4_collect := ty_m 1 (by decide +kernel)
theorem kX4_collect_1 : Cond.initialized "java/lang/IllegalArgumentException" ∈ wsX4_collect := ty_m 2 (by decide +kernel)
theorem kX4_collect_2 : Cond.fieldLink RX4 12 "TrainYard" "yard" "LTrainYard$Yard;" ∈ wsX4_collect := ty_m 3 (by decide +kernel)
theorem iX4_collect_X1 : ∀ w ∈ wsX10, w ∈ wsX4_collect := ty_inp _ [219, 220, 221, 222] (by decide +kernel)
theorem iX4_collect_X3 : ∀ w ∈ wsX30, w ∈ wsX4_collect := ty_inp _ [206, 207, 208, 209, 210, 211, 212, 213, 214, 215, 216, 217, 218] (by decide +kernel)
theorem iX4_collect_X4 : ∀ w ∈ wsX40, w ∈ wsX4_collect := ty_inp _ [202, 203, 204, 205] (by decide +kernel)
def lX4_collect_44 (K : ty_S → Int32 → Prop) (KX : Nat → ty_S → Prop)  : Nat → Int32 → Int32 → Int32 → ty_S → Prop
  | 0, _, _, _, _ => False
  | n + 1, x2, x3, x4, S => (if x2 ≤ x4 then K S x3 else (eX3_canStep S  (fun S1 r1 => (if r1 = (0 : Int32) then K S1 x3 else (eX3_doStep S1  (fun S2 r2 => lX4_collect_44 K KX  n x2 (x3 + r2) (x4 + (1 : Int32)) S2))))))
set_option maxHeartbeats 4000000 in
set_option maxRecDepth 100000 in
theorem wlX4_collect_44 {p : Program} {l : Launch} {e : Env} {s : State} {m : MethodId} {args : Array Value} {below : List Frame} {meth : Method} {c : Code} {D : va_G} {cA : Nat → ClassId} {q : Nat → Nat} {K : ty_S → Int32 → Prop} {KX : Nat → ty_S → Prop}  (X : ty_X D cA p s m args meth c cX4_collect 5 (some .int) wsX4_collect RX4) (Z : tx_X l q ty_LY s c)  : ∀ (n : Nat) (x2 : Int32) (x3 : Int32) (x4 : Int32) (S : ty_S) (H : Heap) (locs : List Loc) (ls : Array Slot), lX4_collect_44 K KX  n x2 x3 x4 S → ty_Y D cA q ty_LY S s H locs → lv_has ls 5 [(0, .ref (q 0)), (2, .int x2), (3, .int x3), (4, .int x4)] → W p l e rX4_collect s m args below meth c H locs 0 0 (tx_MI D cA q ty_LY K KX below args s) (F0 m 44 ls []) := by
  have hx := X.1.1
  have hb := X.1.2.1
  intro n
  induction n with
  | zero =>
    intro x2 x3 x4 S H locs ls h
    exact False.elim h
  | succ n ih =>
    intro x2 x3 x4 S H locs ls h Y hl
    unfold lX4_collect_44 at h
    refine lv_iload hx hb dX4_collect_44 (lv_at hl 3 rfl) ?_
    refine lv_iload_n hx hb dX4_collect_46 rfl (lv_at hl 1 rfl) ?_
    refine lv_icmp_ge (tgt := 76) hx hb dX4_collect_47 (by decide) (fun c9 => ?_) (fun c9 => ?_)
    · have h := ty_t h c9
      refine lv_iload_n hx hb dX4_collect_76 rfl (lv_at hl 2 rfl) ?_
      exact tx_iret X Y h dX4_collect_77
    · have h := ty_f h c9
      refine lv_aload_n hx hb dX4_collect_50 rfl (lv_at hl 0 rfl) ?_
      refine tg_X4_yard X Y iX4_collect_X4 kX4_collect_2 dX4_collect_51 ?_
      refine ty_Vi (As := []) (b := 1) (rest := []) X Y (cX3_canStep_C l D cA q S  _ h) rfl rfl (fun hts => cwV 0 hts gX4_collect_X3_canStep rfl rfl rfl (by decide +kernel) ⟨Nat.le_of_ble_eq_true rfl, Nat.le_of_ble_eq_true rfl⟩) rfl hl.1 (Nat.le_of_ble_eq_true rfl) dX4_collect_54 ⟨Nat.zero_le _, Nat.zero_le _⟩ (fun r1 S1 H locs h Y => ?_)
      refine lv_if_eq (tgt := 76) hx hb dX4_collect_57 (by decide) (fun c9 => ?_) (fun c9 => ?_)
      · have h := ty_t h c9
        refine lv_iload_n hx hb dX4_collect_76 rfl (lv_at hl 2 rfl) ?_
        exact tx_iret X Y h dX4_collect_77
      · have h := ty_f h c9
        refine lv_iload_n hx hb dX4_collect_60 rfl (lv_at hl 2 rfl) ?_
        refine lv_aload_n hx hb dX4_collect_61 rfl (lv_at hl 0 rfl) ?_
        refine tg_X4_yard X Y iX4_collect_X4 kX4_collect_2 dX4_collect_62 ?_
        refine ty_Vi (As := []) (b := 1) (rest := [.int x3]) X Y (cX3_doStep_C l D cA q S1  _ h) rfl rfl (fun hts => cwV 0 hts gX4_collect_X3_doStep rfl rfl rfl (by decide +kernel) ⟨Nat.le_of_ble_eq_true rfl, Nat.le_of_ble_eq_true rfl⟩) rfl hl.1 (Nat.le_of_ble_eq_true rfl) dX4_collect_65 ⟨Nat.zero_le _, Nat.zero_le _⟩ (fun r2 S2 H locs h Y => ?_)
        refine lv_iadd hx hb dX4_collect_68 ?_
        refine lv_istore_n (lv' := [(3, .int (x3 + r2)), (0, .ref (q 0)), (2, .int x2), (4, .int x4)]) hx hb dX4_collect_69 rfl hl (by decide) rfl (fun ls hl => ?_)
        refine lv_iinc (v := (x4 + (1 : Int32))) (lv' := [(4, .int (x4 + (1 : Int32))), (3, .int (x3 + r2)), (0, .ref (q 0)), (2, .int x2)]) hx hb dX4_collect_70 hl (k := 3) rfl rfl (by decide) rfl (fun ls hl => ?_)
        refine lv_goto (tgt := 44) hx hb dX4_collect_73 (by decide) ?_
        exact ih _ _ _ _ _ _ _ h Y (lv_sub hl [2, 3, 1, 0] rfl)
def eX4_collect (S : ty_S) (x1 : Int32) (K : ty_S → Int32 → Prop) (KX : Nat → ty_S → Prop) : Prop :=
  (if x1 < (0 : Int32) then KX 2 S else (if x1 ≤ (100 : Int32) then (if x1 = (0 : Int32) then ∃ n9, lX4_collect_44 K KX  n9 (S 13 0) (0 : Int32) (0 : Int32) S else ∃ n9, lX4_collect_44 K KX  n9 x1 (0 : Int32) (0 : Int32) S) else KX 2 S))
set_option maxHeartbeats 4000000 in
set_option maxRecDepth 100000 in
theorem cX4_collect_C (l : Launch) (hst : l.stackTraces = false) (D : va_G) (cA : Nat → ClassId) (q : Nat → Nat) (S : ty_S) (x1 : Int32) (K : ty_S → Int32 → Prop) (KX : Nat → ty_S → Prop) (h : eX4_collect S x1 K KX) : ∀ sz, tx_Met l yX4_collect wsX4_collect rX4_collect (tx_Pc D cA q ty_LY S sz [.ref (q 0), .int x1]) (ty_Qi D cA q ty_LY sz K) (tx_XC D cA q ty_LY sz KX) 1 6 (ty_A q ty_LY.length sz) := by
  refine tx_ofM hst (ret := (some .int)) (maxL := 5) (cc := cX4_collect) (own := RX4) (Qc := fun sz => ty_Qi D cA q ty_LY sz K) (XC := fun sz => tx_XC D cA q ty_LY sz KX) (by decide +kernel) rfl (Nat.le_of_ble_eq_true rfl) rfl ?_
  intro p e s m args below meth c ls X Z hl Y
  have hx := X.1.1
  have hb := X.1.2.1
  have hl : lv_has ls 5 [(0, .ref (q 0)), (1, .int x1)] := hl
  unfold eX4_collect at h
  refine lv_iload_n hx hb dX4_collect_0 rfl (lv_at hl 1 rfl) ?_
  refine lv_if_lt (tgt := 10) hx hb dX4_collect_1 (by decide) (fun c9 => ?_) (fun c9 => ?_)
  · have h := ty_t h c9
    exact tx_throw X Z Y 2 (by decide) rfl kX4_collect_0 kX4_collect_1 (text := "0 .. 100 steps are done") (ty_m 2 rfl) (fun _ h => List.mem_cons_of_mem _ (List.mem_append_right _ h)) tz_ng_34 tz_fit_2 tz_good_30_34 hl.1 dX4_collect_10 dX4_collect_13 dX4_collect_14 dX4_collect_16 dX4_collect_19 (Nat.le_of_ble_eq_true rfl) (Nat.le_of_ble_eq_true rfl) (Nat.le_of_ble_eq_true rfl) (Nat.le_of_ble_eq_true rfl) h
  · have h := ty_f h c9
    refine lv_iload_n hx hb dX4_collect_4 rfl (lv_at hl 1 rfl) ?_
    refine lv_bipush (v := (100 : Int32)) hx hb dX4_collect_5 (by decide) ?_
    refine lv_icmp_le (tgt := 20) hx hb dX4_collect_7 (by decide) (fun c9 => ?_) (fun c9 => ?_)
    · have h := ty_t h c9
      refine lv_iload_n hx hb dX4_collect_20 rfl (lv_at hl 1 rfl) ?_
      refine lv_if_ne (tgt := 37) hx hb dX4_collect_21 (by decide) (fun c9 => ?_) (fun c9 => ?_)
      · have h := ty_f h c9
        refine lv_iload_n hx hb dX4_collect_37 rfl (lv_at hl 1 rfl) ?_
        refine lv_istore_n (lv' := [(2, .int x1), (0, .ref (q 0)), (1, .int x1)]) hx hb dX4_collect_38 rfl hl (by decide) rfl (fun ls hl => ?_)
        refine lv_iconst (v := (0 : Int32)) hx hb dX4_collect_39 (by decide) ?_
        refine lv_istore_n (lv' := [(3, .int (0 : Int32)), (2, .int x1), (0, .ref (q 0)), (1, .int x1)]) hx hb dX4_collect_40 rfl hl (by decide) rfl (fun ls hl => ?_)
        refine lv_iconst (v := (0 : Int32)) hx hb dX4_collect_41 (by decide) ?_
        refine lv_istore (lv' := [(4, .int (0 : Int32)), (3, .int (0 : Int32)), (2, .int x1), (0, .ref (q 0)), (1, .int x1)]) hx hb dX4_collect_42 hl (by decide) rfl (fun ls hl => ?_)
        obtain ⟨n9, h⟩ := h
        exact wlX4_collect_44 X Z  n9 _ _ _ _ _ _ _ h Y (lv_sub hl [3, 2, 1, 0] rfl)
      · have h := ty_t h c9
        refine lv_aload_n hx hb dX4_collect_24 rfl (lv_at hl 0 rfl) ?_
        refine tg_X4_yard X Y iX4_collect_X4 kX4_collect_2 dX4_collect_25 ?_
        refine tn_X3_row X Y iX4_collect_X3 (ty_m 6 rfl) dX4_collect_28 ?_
        refine tn_X1_count (v := (S 13 0)) X Y iX4_collect_X1 (ty_m 2 rfl) rfl dX4_collect_31 ?_
        refine lv_goto (tgt := 38) hx hb dX4_collect_34 (by decide) ?_
        refine lv_istore_n (lv' := [(2, .int (S 13 0)), (0, .ref (q 0)), (1, .int x1)]) hx hb dX4_collect_38 rfl hl (by decide) rfl (fun ls hl => ?_)
        refine lv_iconst (v := (0 : Int32)) hx hb dX4_collect_39 (by decide) ?_
        refine lv_istore_n (lv' := [(3, .int (0 : Int32)), (2, .int (S 13 0)), (0, .ref (q 0)), (1, .int x1)]) hx hb dX4_collect_40 rfl hl (by decide) rfl (fun ls hl => ?_)
        refine lv_iconst (v := (0 : Int32)) hx hb dX4_collect_41 (by decide) ?_
        refine lv_istore (lv' := [(4, .int (0 : Int32)), (3, .int (0 : Int32)), (2, .int (S 13 0)), (0, .ref (q 0)), (1, .int x1)]) hx hb dX4_collect_42 hl (by decide) rfl (fun ls hl => ?_)
        obtain ⟨n9, h⟩ := h
        exact wlX4_collect_44 X Z  n9 _ _ _ _ _ _ _ h Y (lv_sub hl [3, 2, 1, 0] rfl)
    · have h := ty_f h c9
      exact tx_throw X Z Y 2 (by decide) rfl kX4_collect_0 kX4_collect_1 (text := "0 .. 100 steps are done") (ty_m 2 rfl) (fun _ h => List.mem_cons_of_mem _ (List.mem_append_right _ h)) tz_ng_34 tz_fit_2 tz_good_30_34 hl.1 dX4_collect_10 dX4_collect_13 dX4_collect_14 dX4_collect_16 dX4_collect_19 (Nat.le_of_ble_eq_true rfl) (Nat.le_of_ble_eq_true rfl) (Nat.le_of_ble_eq_true rfl) (Nat.le_of_ble_eq_true rfl) h

abbrev rX4_needWhat : Room := { frames := 6, cells := 1, slots := 6, locals := 90 }
theorem kX4_needWhat_0 : Cond.classLink RX4 134 "java/lang/IndexOutOfBoundsException" ∈ wsX4_needWhat := ty_m 1 (by decide +kernel)
theorem kX4_needWhat_1 : Cond.initialized "java/lang/IndexOutOfBoundsException" ∈ wsX4_needWhat := ty_m 2 (by decide +kernel)
def eX4_needWhat (S : ty_S) (x0 : Int32) (x1 : Int32) (K : ty_S → Prop) (KX : Nat → ty_S → Prop) : Prop :=
  (if x0 < (0 : Int32) then KX 0 S else (if x0 ≤ x1 then K S else KX 0 S))
set_option maxHeartbeats 4000000 in
set_option maxRecDepth 100000 in
theorem cX4_needWhat_C (l : Launch) (hst : l.stackTraces = false) (D : va_G) (cA : Nat → ClassId) (q : Nat → Nat) (S : ty_S) (x0 : Int32) (x1 : Int32) (K : ty_S → Prop) (KX : Nat → ty_S → Prop) (h : eX4_needWhat S x0 x1 K KX) : ∀ sz, tx_Met l yX4_needWhat wsX4_needWhat rX4_needWhat (tx_Pc D cA q ty_LY S sz [.int x0, .int x1]) (ty_Qv D cA q ty_LY sz K) (tx_XC D cA q ty_LY sz KX) 1 6 (ty_A q ty_LY.length sz) := by
  refine tx_ofM hst (ret := none) (maxL := 2) (cc := cX4_needWhat) (own := RX4) (Qc := fun sz => ty_Qv D cA q ty_LY sz K) (XC := fun sz => tx_XC D cA q ty_LY sz KX) (by decide +kernel) rfl (Nat.le_of_ble_eq_true rfl) rfl ?_
  intro p e s m args below meth c ls X Z hl Y
  have hx := X.1.1
  have hb := X.1.2.1
  have hl : lv_has ls 2 [(0, .int x0), (1, .int x1)] := hl
  unfold eX4_needWhat at h
  refine lv_iload_n hx hb dX4_needWhat_0 rfl (lv_at hl 0 rfl) ?_
  refine lv_if_lt (tgt := 9) hx hb dX4_needWhat_1 (by decide) (fun c9 => ?_) (fun c9 => ?_)
  · have h := ty_t h c9
    exact tx_throw X Z Y 0 (by decide) rfl kX4_needWhat_0 kX4_needWhat_1 (text := "nothing is told by this number") (ty_m 7 rfl) (fun _ h => List.mem_cons_of_mem _ (List.mem_append_right _ h)) tz_ng_138 tz_fit_0 tz_good_134_138 hl.1 dX4_needWhat_9 dX4_needWhat_12 dX4_needWhat_13 dX4_needWhat_15 dX4_needWhat_18 (Nat.le_of_ble_eq_true rfl) (Nat.le_of_ble_eq_true rfl) (Nat.le_of_ble_eq_true rfl) (Nat.le_of_ble_eq_true rfl) h
  · have h := ty_f h c9
    refine lv_iload_n hx hb dX4_needWhat_4 rfl (lv_at hl 0 rfl) ?_
    refine lv_iload_n hx hb dX4_needWhat_5 rfl (lv_at hl 1 rfl) ?_
    refine lv_icmp_le (tgt := 19) hx hb dX4_needWhat_6 (by decide) (fun c9 => ?_) (fun c9 => ?_)
    · have h := ty_t h c9
      exact tx_vret X Y h dX4_needWhat_19
    · have h := ty_f h c9
      exact tx_throw X Z Y 0 (by decide) rfl kX4_needWhat_0 kX4_needWhat_1 (text := "nothing is told by this number") (ty_m 7 rfl) (fun _ h => List.mem_cons_of_mem _ (List.mem_append_right _ h)) tz_ng_138 tz_fit_0 tz_good_134_138 hl.1 dX4_needWhat_9 dX4_needWhat_12 dX4_needWhat_13 dX4_needWhat_15 dX4_needWhat_18 (Nat.le_of_ble_eq_true rfl) (Nat.le_of_ble_eq_true rfl) (Nat.le_of_ble_eq_true rfl) (Nat.le_of_ble_eq_true rfl) h

abbrev rX4_thing : Room := { frames := 8, cells := 1, slots := 6, locals := 132 }
theorem kX4_thing_0 : Cond.fieldLink RX4 12 "TrainYard" "yard" "LTrainYard$Yard;" ∈ wsX4_thing := ty_m 1 (by decide +kernel)
theorem iX4_thing_X3 : ∀ w ∈ wsX30, w ∈ wsX4_thing := ty_inp _ [51, 52, 53, 54, 55, 56, 57, 58, 59, 60, 61, 62, 63] (by decide +kernel)
theorem iX4_thing_X4 : ∀ w ∈ wsX40, w ∈ wsX4_thing := ty_inp _ [47, 48, 49, 50] (by decide +kernel)
def eX4_thing (S : ty_S) (x1 : Int32) (x2 : Int32) (K : ty_S → Int32 → Prop) (KX : Nat → ty_S → Prop) : Prop :=
  (eX4_needWhat S x2 (4 : Int32) (fun S1 => (eX4_heldThing S1 x1 (fun S2 r2 => (if x2 = (0 : Int32) then (eX0_labelOf S2 r2 (fun S3 r3 => K S3 r3)) else (if x2 = (1 : Int32) then K S2 r2 else (if x2 = (2 : Int32) then (eX4_carOf S2 r2 (fun S4 r4 => (eX1_trainOf S4 r4 (fun S5 r5 => K S5 r5)))) else (if x2 = (3 : Int32) then (eX0_references S2 r2 (fun S6 r6 => K S6 r6)) else (eX0_numbers S2 r2 (fun S7 r7 => K S7 r7))))))) KX)) KX)
set_option maxHeartbeats 4000000 in
set_option maxRecDepth 100000 in
theorem cX4_thing_C (l : Launch) (hst : l.stackTraces = false) (D : va_G) (cA : Nat → ClassId) (q : Nat → Nat) (S : ty_S) (x1 : Int32) (x2 : Int32) (K : ty_S → Int32 → Prop) (KX : Nat → ty_S → Prop) (h : eX4_thing S x1 x2 K KX) : ∀ sz, tx_Met l yX4_thing wsX4_thing rX4_thing (tx_Pc D cA q ty_LY S sz [.ref (q 0), .int x1, .int x2]) (ty_Qi D cA q ty_LY sz K) (tx_XC D cA q ty_LY sz KX) 1 6 (ty_A q ty_LY.length sz) := by
  refine tx_ofM hst (ret := (some .int)) (maxL := 4) (cc := cX4_thing) (own := RX4) (Qc := fun sz => ty_Qi D cA q ty_LY sz K) (XC := fun sz => tx_XC D cA q ty_LY sz KX) (by decide +kernel) rfl (Nat.le_of_ble_eq_true rfl) rfl ?_
  intro p e s m args below meth c ls X Z hl Y
  have hx := X.1.1
  have hb := X.1.2.1
  have hl : lv_has ls 4 [(0, .ref (q 0)), (1, .int x1), (2, .int x2)] := hl
  unfold eX4_thing at h
  refine lv_iload_n hx hb dX4_thing_0 rfl (lv_at hl 2 rfl) ?_
  refine lv_iconst (v := (4 : Int32)) hx hb dX4_thing_1 (by decide) ?_
  refine tx_Sv (As := [.int x2, .int (4 : Int32)]) (rest := []) X Z Y (cX4_needWhat_C l Z.1 D cA q S x2 (4 : Int32) _ _ h) (fun hts => va_cwS 2 hts gX4_thing_X4_needWhat rfl rfl rfl (by decide +kernel) ⟨Nat.le_of_ble_eq_true rfl, Nat.le_of_ble_eq_true rfl⟩) rfl hl.1 (Nat.le_of_ble_eq_true rfl) dX4_thing_2 ⟨Nat.le_of_ble_eq_true rfl, Nat.le_of_ble_eq_true rfl⟩ (fun S1 H locs h Y => ?_)
  refine lv_aload_n hx hb dX4_thing_5 rfl (lv_at hl 0 rfl) ?_
  refine lv_iload_n hx hb dX4_thing_6 rfl (lv_at hl 1 rfl) ?_
  refine tx_Vi (As := [.int x1]) (b := 0) (rest := []) X Z Y (cX4_heldThing_C l Z.1 D cA q S1 x1 _ _ h) rfl rfl (fun hts => cwV 1 hts gX4_thing_X4_heldThing rfl rfl rfl (by decide +kernel) ⟨Nat.le_of_ble_eq_true rfl, Nat.le_of_ble_eq_true rfl⟩) rfl hl.1 (Nat.le_of_ble_eq_true rfl) dX4_thing_7 ⟨Nat.le_of_ble_eq_true rfl, Nat.le_of_ble_eq_true rfl⟩ (fun r2 S2 H locs h Y => ?_)
  refine lv_istore_n (lv' := [(3, .int r2), (0, .ref (q 0)), (1, .int x1), (2, .int x2)]) hx hb dX4_thing_10 rfl hl (by decide) rfl (fun ls hl => ?_)
  refine lv_iload_n hx hb dX4_thing_11 rfl (lv_at hl 3 rfl) ?_
  rcases Decidable.em (x2 = (0 : Int32)) with c0 | c0
  · have h := ty_t h c0
    refine lv_tableIn (tgt := 44) hx hb dX4_thing_12 (by rw [c0]; decide) (by rw [c0]; decide) (by rw [c0]; exact rfl) (by decide) ?_
    refine lv_aload_n hx hb dX4_thing_44 rfl (lv_at hl 1 rfl) ?_
    refine tg_X4_yard X Y iX4_thing_X4 kX4_thing_0 dX4_thing_45 ?_
    refine tn_X3_freight X Y iX4_thing_X3 (ty_m 5 rfl) dX4_thing_48 ?_
    refine lv_iload_n hx hb dX4_thing_51 rfl (lv_at hl 0 rfl) ?_
    refine ty_Vi (As := [.int r2]) (b := 3) (rest := []) X Y (cX0_labelOf_C l D cA q S2 r2 _ h) rfl rfl (fun hts => cwV 1 hts gX4_thing_X0_labelOf rfl rfl rfl (by decide +kernel) ⟨Nat.le_of_ble_eq_true rfl, Nat.le_of_ble_eq_true rfl⟩) rfl hl.1 (Nat.le_of_ble_eq_true rfl) dX4_thing_52 ⟨Nat.zero_le _, Nat.zero_le _⟩ (fun r3 S3 H locs h Y => ?_)
    exact tx_iret X Y h dX4_thing_55
  · have h := ty_f h c0
    rcases Decidable.em (x2 = (1 : Int32)) with c1 | c1
    · have h := ty_t h c1
      refine lv_tableIn (tgt := 56) hx hb dX4_thing_12 (by rw [c1]; decide) (by rw [c1]; decide) (by rw [c1]; exact rfl) (by decide) ?_
      refine lv_iload_n hx hb dX4_thing_56 rfl (lv_at hl 0 rfl) ?_
      exact tx_iret X Y h dX4_thing_57
    · have h := ty_f h c1
      rcases Decidable.em (x2 = (2 : Int32)) with c2 | c2
      · have h := ty_t h c2
        refine lv_tableIn (tgt := 58) hx hb dX4_thing_12 (by rw [c2]; decide) (by rw [c2]; decide) (by rw [c2]; exact rfl) (by decide) ?_
        refine lv_aload_n hx hb dX4_thing_58 rfl (lv_at hl 1 rfl) ?_
        refine tg_X4_yard X Y iX4_thing_X4 kX4_thing_0 dX4_thing_59 ?_
        refine tn_X3_row X Y iX4_thing_X3 (ty_m 6 rfl) dX4_thing_62 ?_
        refine lv_iload_n hx hb dX4_thing_65 rfl (lv_at hl 0 rfl) ?_
        refine ty_Si (As := [.int r2]) (rest := [.ref (q 4)]) X Y (cX4_carOf_C l D cA q S2 r2 _ h) (fun hts => va_cwS 1 hts gX4_thing_X4_carOf rfl rfl rfl (by decide +kernel) ⟨Nat.le_of_ble_eq_true rfl, Nat.le_of_ble_eq_true rfl⟩) rfl hl.1 (Nat.le_of_ble_eq_true rfl) dX4_thing_66 ⟨Nat.zero_le _, Nat.zero_le _⟩ (fun r4 S4 H locs h Y => ?_)
        refine ty_Vi (As := [.int r4]) (b := 4) (rest := []) X Y (cX1_trainOf_C l D cA q S4 r4 _ h) rfl rfl (fun hts => cwV 1 hts gX4_thing_X1_trainOf rfl rfl rfl (by decide +kernel) ⟨Nat.le_of_ble_eq_true rfl, Nat.le_of_ble_eq_true rfl⟩) rfl hl.1 (Nat.le_of_ble_eq_true rfl) dX4_thing_69 ⟨Nat.zero_le _, Nat.zero_le _⟩ (fun r5 S5 H locs h Y => ?_)
        exact tx_iret X Y h dX4_thing_72
      · have h := ty_f h c2
        rcases Decidable.em (x2 = (3 : Int32)) with c3 | c3
        · have h := ty_t h c3
          refine lv_tableIn (tgt := 73) hx hb dX4_thing_12 (by rw [c3]; decide) (by rw [c3]; decide) (by rw [c3]; exact rfl) (by decide) ?_
          refine lv_aload_n hx hb dX4_thing_73 rfl (lv_at hl 1 rfl) ?_
          refine tg_X4_yard X Y iX4_thing_X4 kX4_thing_0 dX4_thing_74 ?_
          refine tn_X3_freight X Y iX4_thing_X3 (ty_m 5 rfl) dX4_thing_77 ?_
          refine lv_iload_n hx hb dX4_thing_80 rfl (lv_at hl 0 rfl) ?_
          refine ty_Vi (As := [.int r2]) (b := 3) (rest := []) X Y (cX0_references_C l D cA q S2 r2 _ h) rfl rfl (fun hts => cwV 1 hts gX4_thing_X0_references rfl rfl rfl (by decide +kernel) ⟨Nat.le_of_ble_eq_true rfl, Nat.le_of_ble_eq_true rfl⟩) rfl hl.1 (Nat.le_of_ble_eq_true rfl) dX4_thing_81 ⟨Nat.zero_le _, Nat.zero_le _⟩ (fun r6 S6 H locs h Y => ?_)
          exact tx_iret X Y h dX4_thing_84
        · have h := ty_f h c3
          refine lv_tableOut (tgt := 85) hx hb dX4_thing_12 (ty_out (fun k h1 h2 => ?_)) (by decide) ?_
          · have hk : k = 0 ∨ k = 1 ∨ k = 2 ∨ k = 3 := by omega
            rcases hk with rfl | rfl | rfl | rfl
            · exact c0
            · exact c1
            · exact c2
            · exact c3
          · refine lv_aload_n hx hb dX4_thing_85 rfl (lv_at hl 1 rfl) ?_
            refine tg_X4_yard X Y iX4_thing_X4 kX4_thing_0 dX4_thing_86 ?_
            refine tn_X3_freight X Y iX4_thing_X3 (ty_m 5 rfl) dX4_thing_89 ?_
            refine lv_iload_n hx hb dX4_thing_92 rfl (lv_at hl 0 rfl) ?_
            refine ty_Vi (As := [.int r2]) (b := 3) (rest := []) X Y (cX0_numbers_C l D cA q S2 r2 _ h) rfl rfl (fun hts => cwV 1 hts gX4_thing_X0_numbers rfl rfl rfl (by decide +kernel) ⟨Nat.le_of_ble_eq_true rfl, Nat.le_of_ble_eq_true rfl⟩) rfl hl.1 (Nat.le_of_ble_eq_true rfl) dX4_thing_93 ⟨Nat.zero_le _, Nat.zero_le _⟩ (fun r7 S7 H locs h Y => ?_)
            exact tx_iret X Y h dX4_thing_96

abbrev rX4_label : Room := { frames := 9, cells := 1, slots := 6, locals := 155 }
theorem kX4_label_0 : Cond.fieldLink RX4 12 "TrainYard" "yard" "LTrainYard$Yard;" ∈ wsX4_label := ty_m 1 (by decide +kernel)
theorem iX4_label_X3 : ∀ w ∈ wsX30, w ∈ wsX4_label := ty_inp _ [39, 40, 41, 42, 43, 44, 45, 46, 47, 48, 49, 50, 51] (by decide +kernel)
theorem iX4_label_X4 : ∀ w ∈ wsX40, w ∈ wsX4_label := ty_inp _ [35, 36, 37, 38] (by decide +kernel)
def eX4_label (S : ty_S) (x1 : Int32) (x2 : Int32) (K : ty_S → Int32 → Prop) (KX : Nat → ty_S → Prop) : Prop :=
  (eX4_placeOfReference S x1 x2 (fun S1 r1 => (eX0_at S1 r1 (fun S2 r2 => (eX0_labelOf S2 r2 (fun S3 r3 => K S3 r3))))) KX)
set_option maxHeartbeats 4000000 in
set_option maxRecDepth 100000 in
theorem cX4_label_C (l : Launch) (hst : l.stackTraces = false) (D : va_G) (cA : Nat → ClassId) (q : Nat → Nat) (S : ty_S) (x1 : Int32) (x2 : Int32) (K : ty_S → Int32 → Prop) (KX : Nat → ty_S → Prop) (h : eX4_label S x1 x2 K KX) : ∀ sz, tx_Met l yX4_label wsX4_label rX4_label (tx_Pc D cA q ty_LY S sz [.ref (q 0), .int x1, .int x2]) (ty_Qi D cA q ty_LY sz K) (tx_XC D cA q ty_LY sz KX) 1 6 (ty_A q ty_LY.length sz) := by
  refine tx_ofM hst (ret := (some .int)) (maxL := 3) (cc := cX4_label) (own := RX4) (Qc := fun sz => ty_Qi D cA q ty_LY sz K) (XC := fun sz => tx_XC D cA q ty_LY sz KX) (by decide +kernel) rfl (Nat.le_of_ble_eq_true rfl) rfl ?_
  intro p e s m args below meth c ls X Z hl Y
  have hx := X.1.1
  have hb := X.1.2.1
  have hl : lv_has ls 3 [(0, .ref (q 0)), (1, .int x1), (2, .int x2)] := hl
  unfold eX4_label at h
  refine lv_aload_n hx hb dX4_label_0 rfl (lv_at hl 0 rfl) ?_
  refine tg_X4_yard X Y iX4_label_X4 kX4_label_0 dX4_label_1 ?_
  refine tn_X3_freight X Y iX4_label_X3 (ty_m 5 rfl) dX4_label_4 ?_
  refine lv_aload_n hx hb dX4_label_7 rfl (lv_at hl 0 rfl) ?_
  refine tg_X4_yard X Y iX4_label_X4 kX4_label_0 dX4_label_8 ?_
  refine tn_X3_freight X Y iX4_label_X3 (ty_m 5 rfl) dX4_label_11 ?_
  refine lv_aload_n hx hb dX4_label_14 rfl (lv_at hl 0 rfl) ?_
  refine lv_iload_n hx hb dX4_label_15 rfl (lv_at hl 1 rfl) ?_
  refine lv_iload_n hx hb dX4_label_16 rfl (lv_at hl 2 rfl) ?_
  refine tx_Vi (As := [.int x1, .int x2]) (b := 0) (rest := [.ref (q 3), .ref (q 3)]) X Z Y (cX4_placeOfReference_C l Z.1 D cA q S x1 x2 _ _ h) rfl rfl (fun hts => cwV 2 hts gX4_label_X4_placeOfReference rfl rfl rfl (by decide +kernel) ⟨Nat.le_of_ble_eq_true rfl, Nat.le_of_ble_eq_true rfl⟩) rfl hl.1 (Nat.le_of_ble_eq_true rfl) dX4_label_17 ⟨Nat.le_of_ble_eq_true rfl, Nat.le_of_ble_eq_true rfl⟩ (fun r1 S1 H locs h Y => ?_)
  refine ty_Vi (As := [.int r1]) (b := 3) (rest := [.ref (q 3)]) X Y (cX0_at_C l D cA q S1 r1 _ h) rfl rfl (fun hts => cwV 1 hts gX4_label_X0_at rfl rfl rfl (by decide +kernel) ⟨Nat.le_of_ble_eq_true rfl, Nat.le_of_ble_eq_true rfl⟩) rfl hl.1 (Nat.le_of_ble_eq_true rfl) dX4_label_20 ⟨Nat.zero_le _, Nat.zero_le _⟩ (fun r2 S2 H locs h Y => ?_)
  refine ty_Vi (As := [.int r2]) (b := 3) (rest := []) X Y (cX0_labelOf_C l D cA q S2 r2 _ h) rfl rfl (fun hts => cwV 1 hts gX4_label_X0_labelOf rfl rfl rfl (by decide +kernel) ⟨Nat.le_of_ble_eq_true rfl, Nat.le_of_ble_eq_true rfl⟩) rfl hl.1 (Nat.le_of_ble_eq_true rfl) dX4_label_23 ⟨Nat.zero_le _, Nat.zero_le _⟩ (fun r3 S3 H locs h Y => ?_)
  exact tx_iret X Y h dX4_label_26

abbrev rX4_startOfTrain : Room := { frames := 6, cells := 1, slots := 6, locals := 90 }
theorem kX4_startOfTrain_0 : Cond.fieldLink RX4 12 "TrainYard" "yard" "LTrainYard$Yard;" ∈ wsX4_startOfTrain := ty_m 3 (by decide +kernel)
theorem kX4_startOfTrain_1 : Cond.classLink RX4 134 "java/lang/IndexOutOfBoundsException" ∈ wsX4_startOfTrain := ty_m 1 (by decide +kernel)
theorem kX4_startOfTrain_2 : Cond.initialized "java/lang/IndexOutOfBoundsException" ∈ wsX4_startOfTrain := ty_m 2 (by decide +kernel)
theorem iX4_startOfTrain_X3 : ∀ w ∈ wsX30, w ∈ wsX4_startOfTrain := ty_inp _ [24, 25, 26, 27, 28, 29, 30, 31, 32, 33, 34, 35, 36] (by decide +kernel)
theorem iX4_startOfTrain_X4 : ∀ w ∈ wsX40, w ∈ wsX4_startOfTrain := ty_inp _ [20, 21, 22, 23] (by decide +kernel)
def eX4_startOfTrain (S : ty_S) (x1 : Int32) (K : ty_S → Int32 → Prop) (KX : Nat → ty_S → Prop) : Prop :=
  (eX1_startOf S x1 (fun S1 r1 => (if r1 = (-1 : Int32) then KX 0 S1 else K S1 r1)))
set_option maxHeartbeats 4000000 in
set_option maxRecDepth 100000 in
theorem cX4_startOfTrain_C (l : Launch) (hst : l.stackTraces = false) (D : va_G) (cA : Nat → ClassId) (q : Nat → Nat) (S : ty_S) (x1 : Int32) (K : ty_S → Int32 → Prop) (KX : Nat → ty_S → Prop) (h : eX4_startOfTrain S x1 K KX) : ∀ sz, tx_Met l yX4_startOfTrain wsX4_startOfTrain rX4_startOfTrain (tx_Pc D cA q ty_LY S sz [.ref (q 0), .int x1]) (ty_Qi D cA q ty_LY sz K) (tx_XC D cA q ty_LY sz KX) 1 6 (ty_A q ty_LY.length sz) := by
  refine tx_ofM hst (ret := (some .int)) (maxL := 3) (cc := cX4_startOfTrain) (own := RX4) (Qc := fun sz => ty_Qi D cA q ty_LY sz K) (XC := fun sz => tx_XC D cA q ty_LY sz KX) (by decide +kernel) rfl (Nat.le_of_ble_eq_true rfl) rfl ?_
  intro p e s m args below meth c ls X Z hl Y
  have hx := X.1.1
  have hb := X.1.2.1
  have hl : lv_has ls 3 [(0, .ref (q 0)), (1, .int x1)] := hl
  unfold eX4_startOfTrain at h
  refine lv_aload_n hx hb dX4_startOfTrain_0 rfl (lv_at hl 0 rfl) ?_
  refine tg_X4_yard X Y iX4_startOfTrain_X4 kX4_startOfTrain_0 dX4_startOfTrain_1 ?_
  refine tn_X3_row X Y iX4_startOfTrain_X3 (ty_m 6 rfl) dX4_startOfTrain_4 ?_
  refine lv_iload_n hx hb dX4_startOfTrain_7 rfl (lv_at hl 1 rfl) ?_
  refine ty_Vi (As := [.int x1]) (b := 4) (rest := []) X Y (cX1_startOf_C l D cA q S x1 _ h) rfl rfl (fun hts => cwV 1 hts gX4_startOfTrain_X1_startOf rfl rfl rfl (by decide +kernel) ⟨Nat.le_of_ble_eq_true rfl, Nat.le_of_ble_eq_true rfl⟩) rfl hl.1 (Nat.le_of_ble_eq_true rfl) dX4_startOfTrain_8 ⟨Nat.zero_le _, Nat.zero_le _⟩ (fun r1 S1 H locs h Y => ?_)
  refine lv_istore_n (lv' := [(2, .int r1), (0, .ref (q 0)), (1, .int x1)]) hx hb dX4_startOfTrain_11 rfl hl (by decide) rfl (fun ls hl => ?_)
  refine lv_iload_n hx hb dX4_startOfTrain_12 rfl (lv_at hl 0 rfl) ?_
  refine lv_iconst (v := (-1 : Int32)) hx hb dX4_startOfTrain_13 (by decide) ?_
  refine lv_icmp_ne (tgt := 27) hx hb dX4_startOfTrain_14 (by decide) (fun c9 => ?_) (fun c9 => ?_)
  · have h := ty_f h c9
    refine lv_iload_n hx hb dX4_startOfTrain_27 rfl (lv_at hl 0 rfl) ?_
    exact tx_iret X Y h dX4_startOfTrain_28
  · have h := ty_t h c9
    exact tx_throw X Z Y 0 (by decide) rfl kX4_startOfTrain_1 kX4_startOfTrain_2 (text := "there is no such train") (ty_m 11 rfl) (fun _ h => List.mem_cons_of_mem _ (List.mem_append_right _ h)) tz_ng_138 tz_fit_0 tz_good_134_138 hl.1 dX4_startOfTrain_17 dX4_startOfTrain_20 dX4_startOfTrain_21 dX4_startOfTrain_23 dX4_startOfTrain_26 (Nat.le_of_ble_eq_true rfl) (Nat.le_of_ble_eq_true rfl) (Nat.le_of_ble_eq_true rfl) (Nat.le_of_ble_eq_true rfl) h

abbrev rX4_train : Room := { frames := 7, cells := 1, slots := 6, locals := 112 }
theorem kX4_train_0 : Cond.fieldLink RX4 12 "TrainYard" "yard" "LTrainYard$Yard;" ∈ wsX4_train := ty_m 1 (by decide +kernel)
theorem iX4_train_X3 : ∀ w ∈ wsX30, w ∈ wsX4_train := ty_inp _ [54, 55, 56, 57, 58, 59, 60, 61, 62, 63, 64, 65, 66] (by decide +kernel)
theorem iX4_train_X4 : ∀ w ∈ wsX40, w ∈ wsX4_train := ty_inp _ [50, 51, 52, 53] (by decide +kernel)
def eX4_train (S : ty_S) (x1 : Int32) (x2 : Int32) (K : ty_S → Int32 → Prop) (KX : Nat → ty_S → Prop) : Prop :=
  (eX4_needWhat S x2 (2 : Int32) (fun S1 => (eX4_startOfTrain S1 x1 (fun S2 r2 => (eX1_carAt S2 r2 (fun S3 r3 => (eX1_trainOf S3 r3 (fun S4 r4 => (eX1_carsOf S4 r4 (fun S5 r5 => (if x2 = (0 : Int32) then K S5 r4 else (if x2 = (1 : Int32) then K S5 r5 else (eX3_thingsIn S5 r2 r5 (fun S6 r6 => K S6 r6))))))))))) KX)) KX)
set_option maxHeartbeats 4000000 in
set_option maxRecDepth 100000 in
theorem cX4_train_C (l : Launch) (hst : l.stackTraces = false) (D : va_G) (cA : Nat → ClassId) (q : Nat → Nat) (S : ty_S) (x1 : Int32) (x2 : Int32) (K : ty_S → Int32 → Prop) (KX : Nat → ty_S → Prop) (h : eX4_train S x1 x2 K KX) : ∀ sz, tx_Met l yX4_train wsX4_train rX4_train (tx_Pc D cA q ty_LY S sz [.ref (q 0), .int x1, .int x2]) (ty_Qi D cA q ty_LY sz K) (tx_XC D cA q ty_LY sz KX) 1 6 (ty_A q ty_LY.length sz) := by
  refine tx_ofM hst (ret := (some .int)) (maxL := 6) (cc := cX4_train) (own := RX4) (Qc := fun sz => ty_Qi D cA q ty_LY sz K) (XC := fun sz => tx_XC D cA q ty_LY sz KX) (by decide +kernel) rfl (Nat.le_of_ble_eq_true rfl) rfl ?_
  intro p e s m args below meth c ls X Z hl Y
  have hx := X.1.1
  have hb := X.1.2.1
  have hl : lv_has ls 6 [(0, .ref (q 0)), (1, .int x1), (2, .int x2)] := hl
  unfold eX4_train at h
  refine lv_iload_n hx hb dX4_train_0 rfl (lv_at hl 2 rfl) ?_
  refine lv_iconst (v := (2 : Int32)) hx hb dX4_train_1 (by decide) ?_
  refine tx_Sv (As := [.int x2, .int (2 : Int32)]) (rest := []) X Z Y (cX4_needWhat_C l Z.1 D cA q S x2 (2 : Int32) _ _ h) (fun hts => va_cwS 2 hts gX4_train_X4_needWhat rfl rfl rfl (by decide +kernel) ⟨Nat.le_of_ble_eq_true rfl, Nat.le_of_ble_eq_true rfl⟩) rfl hl.1 (Nat.le_of_ble_eq_true rfl) dX4_train_2 ⟨Nat.le_of_ble_eq_true rfl, Nat.le_of_ble_eq_true rfl⟩ (fun S1 H locs h Y => ?_)
  refine lv_aload_n hx hb dX4_train_5 rfl (lv_at hl 0 rfl) ?_
  refine lv_iload_n hx hb dX4_train_6 rfl (lv_at hl 1 rfl) ?_
  refine tx_Vi (As := [.int x1]) (b := 0) (rest := []) X Z Y (cX4_startOfTrain_C l Z.1 D cA q S1 x1 _ _ h) rfl rfl (fun hts => cwV 1 hts gX4_train_X4_startOfTrain rfl rfl rfl (by decide +kernel) ⟨Nat.le_of_ble_eq_true rfl, Nat.le_of_ble_eq_true rfl⟩) rfl hl.1 (Nat.le_of_ble_eq_true rfl) dX4_train_7 ⟨Nat.le_of_ble_eq_true rfl, Nat.le_of_ble_eq_true rfl⟩ (fun r2 S2 H locs h Y => ?_)
  refine lv_istore_n (lv' := [(3, .int r2), (0, .ref (q 0)), (1, .int x1), (2, .int x2)]) hx hb dX4_train_10 rfl hl (by decide) rfl (fun ls hl => ?_)
  refine lv_aload_n hx hb dX4_train_11 rfl (lv_at hl 1 rfl) ?_
  refine tg_X4_yard X Y iX4_train_X4 kX4_train_0 dX4_train_12 ?_
  refine tn_X3_row X Y iX4_train_X3 (ty_m 6 rfl) dX4_train_15 ?_
  refine lv_aload_n hx hb dX4_train_18 rfl (lv_at hl 1 rfl) ?_
  refine tg_X4_yard X Y iX4_train_X4 kX4_train_0 dX4_train_19 ?_
  refine tn_X3_row X Y iX4_train_X3 (ty_m 6 rfl) dX4_train_22 ?_
  refine lv_iload_n hx hb dX4_train_25 rfl (lv_at hl 0 rfl) ?_
  refine ty_Vi (As := [.int r2]) (b := 4) (rest := [.ref (q 4)]) X Y (cX1_carAt_C l D cA q S2 r2 _ h) rfl rfl (fun hts => cwV 1 hts gX4_train_X1_carAt rfl rfl rfl (by decide +kernel) ⟨Nat.le_of_ble_eq_true rfl, Nat.le_of_ble_eq_true rfl⟩) rfl hl.1 (Nat.le_of_ble_eq_true rfl) dX4_train_26 ⟨Nat.zero_le _, Nat.zero_le _⟩ (fun r3 S3 H locs h Y => ?_)
  refine ty_Vi (As := [.int r3]) (b := 4) (rest := []) X Y (cX1_trainOf_C l D cA q S3 r3 _ h) rfl rfl (fun hts => cwV 1 hts gX4_train_X1_trainOf rfl rfl rfl (by decide +kernel) ⟨Nat.le_of_ble_eq_true rfl, Nat.le_of_ble_eq_true rfl⟩) rfl hl.1 (Nat.le_of_ble_eq_true rfl) dX4_train_29 ⟨Nat.zero_le _, Nat.zero_le _⟩ (fun r4 S4 H locs h Y => ?_)
  refine lv_istore (lv' := [(4, .int r4), (3, .int r2), (0, .ref (q 0)), (1, .int x1), (2, .int x2)]) hx hb dX4_train_32 hl (by decide) rfl (fun ls hl => ?_)
  refine lv_aload_n hx hb dX4_train_34 rfl (lv_at hl 2 rfl) ?_
  refine tg_X4_yard X Y iX4_train_X4 kX4_train_0 dX4_train_35 ?_
  refine tn_X3_row X Y iX4_train_X3 (ty_m 6 rfl) dX4_train_38 ?_
  refine lv_iload hx hb dX4_train_41 (lv_at hl 0 rfl) ?_
  refine ty_Vi (As := [.int r4]) (b := 4) (rest := []) X Y (cX1_carsOf_C l D cA q S4 r4 _ h) rfl rfl (fun hts => cwV 1 hts gX4_train_X1_carsOf rfl rfl rfl (by decide +kernel) ⟨Nat.le_of_ble_eq_true rfl, Nat.le_of_ble_eq_true rfl⟩) rfl hl.1 (Nat.le_of_ble_eq_true rfl) dX4_train_43 ⟨Nat.zero_le _, Nat.zero_le _⟩ (fun r5 S5 H locs h Y => ?_)
  refine lv_istore (lv' := [(5, .int r5), (4, .int r4), (3, .int r2), (0, .ref (q 0)), (1, .int x1), (2, .int x2)]) hx hb dX4_train_46 hl (by decide) rfl (fun ls hl => ?_)
  refine lv_iload_n hx hb dX4_train_48 rfl (lv_at hl 5 rfl) ?_
  rcases Decidable.em (x2 = (0 : Int32)) with c0 | c0
  · have h := ty_t h c0
    refine lv_lookup (off := 27) (tgt := 76) hx hb dX4_train_49 (by decide) (by rw [c0]; decide) (by decide) ?_
    refine lv_iload hx hb dX4_train_76 (lv_at hl 1 rfl) ?_
    exact tx_iret X Y h dX4_train_78
  · have h := ty_f h c0
    rcases Decidable.em (x2 = (1 : Int32)) with c1 | c1
    · have h := ty_t h c1
      refine lv_lookup (off := 30) (tgt := 79) hx hb dX4_train_49 (by decide) (by rw [c1]; decide) (by decide) ?_
      refine lv_iload hx hb dX4_train_79 (lv_at hl 0 rfl) ?_
      exact tx_iret X Y h dX4_train_81
    · have h := ty_f h c1
      refine lv_lookup (off := 33) (tgt := 82) hx hb dX4_train_49 (by decide) (ty_lk2 c0 c1) (by decide) ?_
      refine lv_aload_n hx hb dX4_train_82 rfl (lv_at hl 3 rfl) ?_
      refine tg_X4_yard X Y iX4_train_X4 kX4_train_0 dX4_train_83 ?_
      refine lv_iload_n hx hb dX4_train_86 rfl (lv_at hl 2 rfl) ?_
      refine lv_iload hx hb dX4_train_87 (lv_at hl 0 rfl) ?_
      refine ty_Vi (As := [.int r2, .int r5]) (b := 1) (rest := []) X Y (cX3_thingsIn_C l D cA q S5 r2 r5 _ h) rfl rfl (fun hts => cwV 2 hts gX4_train_X3_thingsIn rfl rfl rfl (by decide +kernel) ⟨Nat.le_of_ble_eq_true rfl, Nat.le_of_ble_eq_true rfl⟩) rfl hl.1 (Nat.le_of_ble_eq_true rfl) dX4_train_89 ⟨Nat.zero_le _, Nat.zero_le _⟩ (fun r6 S6 H locs h Y => ?_)
      exact tx_iret X Y h dX4_train_92

abbrev rX4_car : Room := { frames := 7, cells := 1, slots := 6, locals := 112 }
theorem kX4_car_0 : Cond.fieldLink RX4 12 "TrainYard" "yard" "LTrainYard$Yard;" ∈ wsX4_car := ty_m 3 (by decide +kernel)
theorem kX4_car_1 : Cond.classLink RX4 134 "java/lang/IndexOutOfBoundsException" ∈ wsX4_car := ty_m 1 (by decide +kernel)
theorem kX4_car_2 : Cond.initialized "java/lang/IndexOutOfBoundsException" ∈ wsX4_car := ty_m 2 (by decide +kernel)
theorem iX4_car_X3 : ∀ w ∈ wsX30, w ∈ wsX4_car := ty_inp _ [35, 36, 37, 38, 39, 40, 41, 42, 43, 44, 45, 46, 47] (by decide +kernel)
theorem iX4_car_X4 : ∀ w ∈ wsX40, w ∈ wsX4_car := ty_inp _ [31, 32, 33, 34] (by decide +kernel)
def eX4_car (S : ty_S) (x1 : Int32) (x2 : Int32) (K : ty_S → Int32 → Prop) (KX : Nat → ty_S → Prop) : Prop :=
  (eX4_startOfTrain S x1 (fun S1 r1 => (eX1_carAt S1 r1 (fun S2 r2 => (eX1_trainOf S2 r2 (fun S3 r3 => (if x2 < (0 : Int32) then KX 0 S3 else (eX1_carsOf S3 r3 (fun S4 r4 => (if x2 < r4 then (eX1_carAt S4 (r1 + x2) (fun S5 r5 => K S5 r5)) else KX 0 S4))))))))) KX)
set_option maxHeartbeats 4000000 in
set_option maxRecDepth 100000 in
theorem cX4_car_C (l : Launch) (hst : l.stackTraces = false) (D : va_G) (cA : Nat → ClassId) (q : Nat → Nat) (S : ty_S) (x1 : Int32) (x2 : Int32) (K : ty_S → Int32 → Prop) (KX : Nat → ty_S → Prop) (h : eX4_car S x1 x2 K KX) : ∀ sz, tx_Met l yX4_car wsX4_car rX4_car (tx_Pc D cA q ty_LY S sz [.ref (q 0), .int x1, .int x2]) (ty_Qi D cA q ty_LY sz K) (tx_XC D cA q ty_LY sz KX) 1 6 (ty_A q ty_LY.length sz) := by
  refine tx_ofM hst (ret := (some .int)) (maxL := 5) (cc := cX4_car) (own := RX4) (Qc := fun sz => ty_Qi D cA q ty_LY sz K) (XC := fun sz => tx_XC D cA q ty_LY sz KX) (by decide +kernel) rfl (Nat.le_of_ble_eq_true rfl) rfl ?_
  intro p e s m args below meth c ls X Z hl Y
  have hx := X.1.1
  have hb := X.1.2.1
  have hl : lv_has ls 5 [(0, .ref (q 0)), (1, .int x1), (2, .int x2)] := hl
  unfold eX4_car at h
  refine lv_aload_n hx hb dX4_car_0 rfl (lv_at hl 0 rfl) ?_
  refine lv_iload_n hx hb dX4_car_1 rfl (lv_at hl 1 rfl) ?_
  refine tx_Vi (As := [.int x1]) (b := 0) (rest := []) X Z Y (cX4_startOfTrain_C l Z.1 D cA q S x1 _ _ h) rfl rfl (fun hts => cwV 1 hts gX4_car_X4_startOfTrain rfl rfl rfl (by decide +kernel) ⟨Nat.le_of_ble_eq_true rfl, Nat.le_of_ble_eq_true rfl⟩) rfl hl.1 (Nat.le_of_ble_eq_true rfl) dX4_car_2 ⟨Nat.le_of_ble_eq_true rfl, Nat.le_of_ble_eq_true rfl⟩ (fun r1 S1 H locs h Y => ?_)
  refine lv_istore_n (lv' := [(3, .int r1), (0, .ref (q 0)), (1, .int x1), (2, .int x2)]) hx hb dX4_car_5 rfl hl (by decide) rfl (fun ls hl => ?_)
  refine lv_aload_n hx hb dX4_car_6 rfl (lv_at hl 1 rfl) ?_
  refine tg_X4_yard X Y iX4_car_X4 kX4_car_0 dX4_car_7 ?_
  refine tn_X3_row X Y iX4_car_X3 (ty_m 6 rfl) dX4_car_10 ?_
  refine lv_aload_n hx hb dX4_car_13 rfl (lv_at hl 1 rfl) ?_
  refine tg_X4_yard X Y iX4_car_X4 kX4_car_0 dX4_car_14 ?_
  refine tn_X3_row X Y iX4_car_X3 (ty_m 6 rfl) dX4_car_17 ?_
  refine lv_iload_n hx hb dX4_car_20 rfl (lv_at hl 0 rfl) ?_
  refine ty_Vi (As := [.int r1]) (b := 4) (rest := [.ref (q 4)]) X Y (cX1_carAt_C l D cA q S1 r1 _ h) rfl rfl (fun hts => cwV 1 hts gX4_car_X1_carAt rfl rfl rfl (by decide +kernel) ⟨Nat.le_of_ble_eq_true rfl, Nat.le_of_ble_eq_true rfl⟩) rfl hl.1 (Nat.le_of_ble_eq_true rfl) dX4_car_21 ⟨Nat.zero_le _, Nat.zero_le _⟩ (fun r2 S2 H locs h Y => ?_)
  refine ty_Vi (As := [.int r2]) (b := 4) (rest := []) X Y (cX1_trainOf_C l D cA q S2 r2 _ h) rfl rfl (fun hts => cwV 1 hts gX4_car_X1_trainOf rfl rfl rfl (by decide +kernel) ⟨Nat.le_of_ble_eq_true rfl, Nat.le_of_ble_eq_true rfl⟩) rfl hl.1 (Nat.le_of_ble_eq_true rfl) dX4_car_24 ⟨Nat.zero_le _, Nat.zero_le _⟩ (fun r3 S3 H locs h Y => ?_)
  refine lv_istore (lv' := [(4, .int r3), (3, .int r1), (0, .ref (q 0)), (1, .int x1), (2, .int x2)]) hx hb dX4_car_27 hl (by decide) rfl (fun ls hl => ?_)
  refine lv_iload_n hx hb dX4_car_29 rfl (lv_at hl 4 rfl) ?_
  refine lv_if_lt (tgt := 49) hx hb dX4_car_30 (by decide) (fun c9 => ?_) (fun c9 => ?_)
  · have h := ty_t h c9
    exact tx_throw X Z Y 0 (by decide) rfl kX4_car_1 kX4_car_2 (text := "there is no such car in the train") (ty_m 3 rfl) (fun _ h => List.mem_cons_of_mem _ (List.mem_append_right _ h)) tz_ng_138 tz_fit_0 tz_good_134_138 hl.1 dX4_car_49 dX4_car_52 dX4_car_53 dX4_car_55 dX4_car_58 (Nat.le_of_ble_eq_true rfl) (Nat.le_of_ble_eq_true rfl) (Nat.le_of_ble_eq_true rfl) (Nat.le_of_ble_eq_true rfl) h
  · have h := ty_f h c9
    refine lv_iload_n hx hb dX4_car_33 rfl (lv_at hl 4 rfl) ?_
    refine lv_aload_n hx hb dX4_car_34 rfl (lv_at hl 2 rfl) ?_
    refine tg_X4_yard X Y iX4_car_X4 kX4_car_0 dX4_car_35 ?_
    refine tn_X3_row X Y iX4_car_X3 (ty_m 6 rfl) dX4_car_38 ?_
    refine lv_iload hx hb dX4_car_41 (lv_at hl 0 rfl) ?_
    refine ty_Vi (As := [.int r3]) (b := 4) (rest := [.int x2]) X Y (cX1_carsOf_C l D cA q S3 r3 _ h) rfl rfl (fun hts => cwV 1 hts gX4_car_X1_carsOf rfl rfl rfl (by decide +kernel) ⟨Nat.le_of_ble_eq_true rfl, Nat.le_of_ble_eq_true rfl⟩) rfl hl.1 (Nat.le_of_ble_eq_true rfl) dX4_car_43 ⟨Nat.zero_le _, Nat.zero_le _⟩ (fun r4 S4 H locs h Y => ?_)
    refine lv_icmp_lt (tgt := 59) hx hb dX4_car_46 (by decide) (fun c9 => ?_) (fun c9 => ?_)
    · have h := ty_t h c9
      refine lv_aload_n hx hb dX4_car_59 rfl (lv_at hl 2 rfl) ?_
      refine tg_X4_yard X Y iX4_car_X4 kX4_car_0 dX4_car_60 ?_
      refine tn_X3_row X Y iX4_car_X3 (ty_m 6 rfl) dX4_car_63 ?_
      refine lv_iload_n hx hb dX4_car_66 rfl (lv_at hl 1 rfl) ?_
      refine lv_iload_n hx hb dX4_car_67 rfl (lv_at hl 4 rfl) ?_
      refine lv_iadd hx hb dX4_car_68 ?_
      refine ty_Vi (As := [.int (r1 + x2)]) (b := 4) (rest := []) X Y (cX1_carAt_C l D cA q S4 (r1 + x2) _ h) rfl rfl (fun hts => cwV 1 hts gX4_car_X1_carAt rfl rfl rfl (by decide +kernel) ⟨Nat.le_of_ble_eq_true rfl, Nat.le_of_ble_eq_true rfl⟩) rfl hl.1 (Nat.le_of_ble_eq_true rfl) dX4_car_69 ⟨Nat.zero_le _, Nat.zero_le _⟩ (fun r5 S5 H locs h Y => ?_)
      exact tx_iret X Y h dX4_car_72
    · have h := ty_f h c9
      exact tx_throw X Z Y 0 (by decide) rfl kX4_car_1 kX4_car_2 (text := "there is no such car in the train") (ty_m 3 rfl) (fun _ h => List.mem_cons_of_mem _ (List.mem_append_right _ h)) tz_ng_138 tz_fit_0 tz_good_134_138 hl.1 dX4_car_49 dX4_car_52 dX4_car_53 dX4_car_55 dX4_car_58 (Nat.le_of_ble_eq_true rfl) (Nat.le_of_ble_eq_true rfl) (Nat.le_of_ble_eq_true rfl) (Nat.le_of_ble_eq_true rfl) h

abbrev rX4_needCar : Room := { frames := 6, cells := 1, slots := 6, locals := 90 }
theorem kX4_needCar_0 : Cond.classLink RX4 134 "java/lang/IndexOutOfBoundsException" ∈ wsX4_needCar := ty_m 1 (by decide +kernel)
theorem kX4_needCar_1 : Cond.initialized "java/lang/IndexOutOfBoundsException" ∈ wsX4_needCar := ty_m 2 (by decide +kernel)
def eX4_needCar (S : ty_S) (x0 : Int32) (K : ty_S → Prop) (KX : Nat → ty_S → Prop) : Prop :=
  (eX4_isCar S x0 (fun S1 r1 => (if r1 = (0 : Int32) then KX 0 S1 else K S1)))
set_option maxHeartbeats 4000000 in
set_option maxRecDepth 100000 in
theorem cX4_needCar_C (l : Launch) (hst : l.stackTraces = false) (D : va_G) (cA : Nat → ClassId) (q : Nat → Nat) (S : ty_S) (x0 : Int32) (K : ty_S → Prop) (KX : Nat → ty_S → Prop) (h : eX4_needCar S x0 K KX) : ∀ sz, tx_Met l yX4_needCar wsX4_needCar rX4_needCar (tx_Pc D cA q ty_LY S sz [.int x0]) (ty_Qv D cA q ty_LY sz K) (tx_XC D cA q ty_LY sz KX) 1 6 (ty_A q ty_LY.length sz) := by
  refine tx_ofM hst (ret := none) (maxL := 1) (cc := cX4_needCar) (own := RX4) (Qc := fun sz => ty_Qv D cA q ty_LY sz K) (XC := fun sz => tx_XC D cA q ty_LY sz KX) (by decide +kernel) rfl (Nat.le_of_ble_eq_true rfl) rfl ?_
  intro p e s m args below meth c ls X Z hl Y
  have hx := X.1.1
  have hb := X.1.2.1
  have hl : lv_has ls 1 [(0, .int x0)] := hl
  unfold eX4_needCar at h
  refine lv_iload_n hx hb dX4_needCar_0 rfl (lv_at hl 0 rfl) ?_
  refine ty_Si (As := [.int x0]) (rest := []) X Y (cX4_isCar_C l D cA q S x0 _ h) (fun hts => va_cwS 1 hts gX4_needCar_X4_isCar rfl rfl rfl (by decide +kernel) ⟨Nat.le_of_ble_eq_true rfl, Nat.le_of_ble_eq_true rfl⟩) rfl hl.1 (Nat.le_of_ble_eq_true rfl) dX4_needCar_1 ⟨Nat.zero_le _, Nat.zero_le _⟩ (fun r1 S1 H locs h Y => ?_)
  refine lv_if_ne (tgt := 17) hx hb dX4_needCar_4 (by decide) (fun c9 => ?_) (fun c9 => ?_)
  · have h := ty_f h c9
    exact tx_vret X Y h dX4_needCar_17
  · have h := ty_t h c9
    exact tx_throw X Z Y 0 (by decide) rfl kX4_needCar_0 kX4_needCar_1 (text := "there is no such car") (ty_m 6 rfl) (fun _ h => List.mem_cons_of_mem _ (List.mem_append_right _ h)) tz_ng_138 tz_fit_0 tz_good_134_138 hl.1 dX4_needCar_7 dX4_needCar_10 dX4_needCar_11 dX4_needCar_13 dX4_needCar_16 (Nat.le_of_ble_eq_true rfl) (Nat.le_of_ble_eq_true rfl) (Nat.le_of_ble_eq_true rfl) (Nat.le_of_ble_eq_true rfl) h

abbrev rX4_about : Room := { frames := 7, cells := 1, slots := 6, locals := 111 }
theorem kX4_about_0 : Cond.fieldLink RX4 12 "TrainYard" "yard" "LTrainYard$Yard;" ∈ wsX4_about := ty_m 1 (by decide +kernel)
theorem iX4_about_X3 : ∀ w ∈ wsX30, w ∈ wsX4_about := ty_inp _ [78, 79, 80, 81, 82, 83, 84, 85, 86, 87, 88, 89, 90] (by decide +kernel)
theorem iX4_about_X4 : ∀ w ∈ wsX40, w ∈ wsX4_about := ty_inp _ [74, 75, 76, 77] (by decide +kernel)
def eX4_about (S : ty_S) (x1 : Int32) (x2 : Int32) (K : ty_S → Int32 → Prop) (KX : Nat → ty_S → Prop) : Prop :=
  (eX4_needCar S x1 (fun S1 => (eX4_needWhat S1 x2 (4 : Int32) (fun S2 => (if x2 = (0 : Int32) then (eX1_trainOf S2 x1 (fun S3 r3 => K S3 r3)) else (if x2 = (1 : Int32) then (eX0_room S2 x1 (fun S4 r4 => K S4 r4)) else (if x2 = (2 : Int32) then (eX0_things S2 x1 (fun S5 r5 => K S5 r5)) else (if x2 = (3 : Int32) then (eX3_countRemembered S2 x1 (fun S6 r6 => K S6 r6)) else (eX0_lastLabel S2 x1 (fun S7 r7 => K S7 r7))))))) KX)) KX)
set_option maxHeartbeats 4000000 in
set_option maxRecDepth 100000 in
theorem cX4_about_C (l : Launch) (hst : l.stackTraces = false) (D : va_G) (cA : Nat → ClassId) (q : Nat → Nat) (S : ty_S) (x1 : Int32) (x2 : Int32) (K : ty_S → Int32 → Prop) (KX : Nat → ty_S → Prop) (h : eX4_about S x1 x2 K KX) : ∀ sz, tx_Met l yX4_about wsX4_about rX4_about (tx_Pc D cA q ty_LY S sz [.ref (q 0), .int x1, .int x2]) (ty_Qi D cA q ty_LY sz K) (tx_XC D cA q ty_LY sz KX) 1 6 (ty_A q ty_LY.length sz) := by
  refine tx_ofM hst (ret := (some .int)) (maxL := 3) (cc := cX4_about) (own := RX4) (Qc := fun sz => ty_Qi D cA q ty_LY sz K) (XC := fun sz => tx_XC D cA q ty_LY sz KX) (by decide +kernel) rfl (Nat.le_of_ble_eq_true rfl) rfl ?_
  intro p e s m args below meth c ls X Z hl Y
  have hx := X.1.1
  have hb := X.1.2.1
  have hl : lv_has ls 3 [(0, .ref (q 0)), (1, .int x1), (2, .int x2)] := hl
  unfold eX4_about at h
  refine lv_iload_n hx hb dX4_about_0 rfl (lv_at hl 1 rfl) ?_
  refine tx_Sv (As := [.int x1]) (rest := []) X Z Y (cX4_needCar_C l Z.1 D cA q S x1 _ _ h) (fun hts => va_cwS 1 hts gX4_about_X4_needCar rfl rfl rfl (by decide +kernel) ⟨Nat.le_of_ble_eq_true rfl, Nat.le_of_ble_eq_true rfl⟩) rfl hl.1 (Nat.le_of_ble_eq_true rfl) dX4_about_1 ⟨Nat.le_of_ble_eq_true rfl, Nat.le_of_ble_eq_true rfl⟩ (fun S1 H locs h Y => ?_)
  refine lv_iload_n hx hb dX4_about_4 rfl (lv_at hl 2 rfl) ?_
  refine lv_iconst (v := (4 : Int32)) hx hb dX4_about_5 (by decide) ?_
  refine tx_Sv (As := [.int x2, .int (4 : Int32)]) (rest := []) X Z Y (cX4_needWhat_C l Z.1 D cA q S1 x2 (4 : Int32) _ _ h) (fun hts => va_cwS 2 hts gX4_about_X4_needWhat rfl rfl rfl (by decide +kernel) ⟨Nat.le_of_ble_eq_true rfl, Nat.le_of_ble_eq_true rfl⟩) rfl hl.1 (Nat.le_of_ble_eq_true rfl) dX4_about_6 ⟨Nat.le_of_ble_eq_true rfl, Nat.le_of_ble_eq_true rfl⟩ (fun S2 H locs h Y => ?_)
  refine lv_iload_n hx hb dX4_about_9 rfl (lv_at hl 2 rfl) ?_
  rcases Decidable.em (x2 = (0 : Int32)) with c0 | c0
  · have h := ty_t h c0
    refine lv_tableIn (tgt := 40) hx hb dX4_about_10 (by rw [c0]; decide) (by rw [c0]; decide) (by rw [c0]; exact rfl) (by decide) ?_
    refine lv_aload_n hx hb dX4_about_40 rfl (lv_at hl 0 rfl) ?_
    refine tg_X4_yard X Y iX4_about_X4 kX4_about_0 dX4_about_41 ?_
    refine tn_X3_row X Y iX4_about_X3 (ty_m 6 rfl) dX4_about_44 ?_
    refine lv_iload_n hx hb dX4_about_47 rfl (lv_at hl 1 rfl) ?_
    refine ty_Vi (As := [.int x1]) (b := 4) (rest := []) X Y (cX1_trainOf_C l D cA q S2 x1 _ h) rfl rfl (fun hts => cwV 1 hts gX4_about_X1_trainOf rfl rfl rfl (by decide +kernel) ⟨Nat.le_of_ble_eq_true rfl, Nat.le_of_ble_eq_true rfl⟩) rfl hl.1 (Nat.le_of_ble_eq_true rfl) dX4_about_48 ⟨Nat.zero_le _, Nat.zero_le _⟩ (fun r3 S3 H locs h Y => ?_)
    exact tx_iret X Y h dX4_about_51
  · have h := ty_f h c0
    rcases Decidable.em (x2 = (1 : Int32)) with c1 | c1
    · have h := ty_t h c1
      refine lv_tableIn (tgt := 52) hx hb dX4_about_10 (by rw [c1]; decide) (by rw [c1]; decide) (by rw [c1]; exact rfl) (by decide) ?_
      refine lv_aload_n hx hb dX4_about_52 rfl (lv_at hl 0 rfl) ?_
      refine tg_X4_yard X Y iX4_about_X4 kX4_about_0 dX4_about_53 ?_
      refine tn_X3_freight X Y iX4_about_X3 (ty_m 5 rfl) dX4_about_56 ?_
      refine lv_iload_n hx hb dX4_about_59 rfl (lv_at hl 1 rfl) ?_
      refine ty_Vi (As := [.int x1]) (b := 3) (rest := []) X Y (cX0_room_C l D cA q S2 x1 _ h) rfl rfl (fun hts => cwV 1 hts gX4_about_X0_room rfl rfl rfl (by decide +kernel) ⟨Nat.le_of_ble_eq_true rfl, Nat.le_of_ble_eq_true rfl⟩) rfl hl.1 (Nat.le_of_ble_eq_true rfl) dX4_about_60 ⟨Nat.zero_le _, Nat.zero_le _⟩ (fun r4 S4 H locs h Y => ?_)
      exact tx_iret X Y h dX4_about_63
    · have h := ty_f h c1
      rcases Decidable.em (x2 = (2 : Int32)) with c2 | c2
      · have h := ty_t h c2
        refine lv_tableIn (tgt := 64) hx hb dX4_about_10 (by rw [c2]; decide) (by rw [c2]; decide) (by rw [c2]; exact rfl) (by decide) ?_
        refine lv_aload_n hx hb dX4_about_64 rfl (lv_at hl 0 rfl) ?_
        refine tg_X4_yard X Y iX4_about_X4 kX4_about_0 dX4_about_65 ?_
        refine tn_X3_freight X Y iX4_about_X3 (ty_m 5 rfl) dX4_about_68 ?_
        refine lv_iload_n hx hb dX4_about_71 rfl (lv_at hl 1 rfl) ?_
        refine ty_Vi (As := [.int x1]) (b := 3) (rest := []) X Y (cX0_things_C l D cA q S2 x1 _ h) rfl rfl (fun hts => cwV 1 hts gX4_about_X0_things rfl rfl rfl (by decide +kernel) ⟨Nat.le_of_ble_eq_true rfl, Nat.le_of_ble_eq_true rfl⟩) rfl hl.1 (Nat.le_of_ble_eq_true rfl) dX4_about_72 ⟨Nat.zero_le _, Nat.zero_le _⟩ (fun r5 S5 H locs h Y => ?_)
        exact tx_iret X Y h dX4_about_75
      · have h := ty_f h c2
        rcases Decidable.em (x2 = (3 : Int32)) with c3 | c3
        · have h := ty_t h c3
          refine lv_tableIn (tgt := 76) hx hb dX4_about_10 (by rw [c3]; decide) (by rw [c3]; decide) (by rw [c3]; exact rfl) (by decide) ?_
          refine lv_aload_n hx hb dX4_about_76 rfl (lv_at hl 0 rfl) ?_
          refine tg_X4_yard X Y iX4_about_X4 kX4_about_0 dX4_about_77 ?_
          refine lv_iload_n hx hb dX4_about_80 rfl (lv_at hl 1 rfl) ?_
          refine ty_Vi (As := [.int x1]) (b := 1) (rest := []) X Y (cX3_countRemembered_C l D cA q S2 x1 _ h) rfl rfl (fun hts => cwV 1 hts gX4_about_X3_countRemembered rfl rfl rfl (by decide +kernel) ⟨Nat.le_of_ble_eq_true rfl, Nat.le_of_ble_eq_true rfl⟩) rfl hl.1 (Nat.le_of_ble_eq_true rfl) dX4_about_81 ⟨Nat.zero_le _, Nat.zero_le _⟩ (fun r6 S6 H locs h Y => ?_)
          exact tx_iret X Y h dX4_about_84
        · have h := ty_f h c3
          refine lv_tableOut (tgt := 85) hx hb dX4_about_10 (ty_out (fun k h1 h2 => ?_)) (by decide) ?_
          · have hk : k = 0 ∨ k = 1 ∨ k = 2 ∨ k = 3 := by omega
            rcases hk with rfl | rfl | rfl | rfl
            · exact c0
            · exact c1
            · exact c2
            · exact c3
          · refine lv_aload_n hx hb dX4_about_85 rfl (lv_at hl 0 rfl) ?_
            refine tg_X4_yard X Y iX4_about_X4 kX4_about_0 dX4_about_86 ?_
            refine tn_X3_freight X Y iX4_about_X3 (ty_m 5 rfl) dX4_about_89 ?_
            refine lv_iload_n hx hb dX4_about_92 rfl (lv_at hl 1 rfl) ?_
            refine ty_Vi (As := [.int x1]) (b := 3) (rest := []) X Y (cX0_lastLabel_C l D cA q S2 x1 _ h) rfl rfl (fun hts => cwV 1 hts gX4_about_X0_lastLabel rfl rfl rfl (by decide +kernel) ⟨Nat.le_of_ble_eq_true rfl, Nat.le_of_ble_eq_true rfl⟩) rfl hl.1 (Nat.le_of_ble_eq_true rfl) dX4_about_93 ⟨Nat.zero_le _, Nat.zero_le _⟩ (fun r7 S7 H locs h Y => ?_)
            exact tx_iret X Y h dX4_about_96

abbrev rX4_remembered : Room := { frames := 7, cells := 1, slots := 6, locals := 110 }
theorem kX4_remembered_0 : Cond.fieldLink RX4 12 "TrainYard" "yard" "LTrainYard$Yard;" ∈ wsX4_remembered := ty_m 1 (by decide +kernel)
theorem iX4_remembered_X4 : ∀ w ∈ wsX40, w ∈ wsX4_remembered := ty_inp _ [42, 43, 44, 45] (by decide +kernel)
def jX4_remembered_61 (K : ty_S → Int32 → Prop) (KX : Nat → ty_S → Prop)  (x3 : Int32) (S : ty_S) : Prop :=
  (if (1280 : Int32) ≤ x3 then K S (-1 : Int32) else K S x3)
set_option maxHeartbeats 4000000 in
set_option maxRecDepth 100000 in
theorem wjX4_remembered_61 {p : Program} {l : Launch} {e : Env} {s : State} {m : MethodId} {args : Array Value} {below : List Frame} {meth : Method} {c : Code} {D : va_G} {cA : Nat → ClassId} {q : Nat → Nat} {K : ty_S → Int32 → Prop} {KX : Nat → ty_S → Prop}  (X : ty_X D cA p s m args meth c cX4_remembered 5 (some .int) wsX4_remembered RX4) (Z : tx_X l q ty_LY s c)  (x3 : Int32) (S : ty_S) (H : Heap) (locs : List Loc) (ls : Array Slot) (h : jX4_remembered_61 K KX  x3 S) (Y : ty_Y D cA q ty_LY S s H locs) (hl : lv_has ls 5 [(3, .int x3)]) : W p l e rX4_remembered s m args below meth c H locs 0 0 (tx_MI D cA q ty_LY K KX below args s) (F0 m 61 ls []) := by
  have hx := X.1.1
  have hb := X.1.2.1
  unfold jX4_remembered_61 at h
  refine lv_iload_n hx hb dX4_remembered_61 rfl (lv_at hl 0 rfl) ?_
  refine lv_sipush (v := (1280 : Int32)) hx hb dX4_remembered_62 (by decide) ?_
  refine lv_icmp_ge (tgt := 72) hx hb dX4_remembered_65 (by decide) (fun c9 => ?_) (fun c9 => ?_)
  · have h := ty_t h c9
    refine lv_iconst (v := (-1 : Int32)) hx hb dX4_remembered_72 (by decide) ?_
    exact tx_iret X Y h dX4_remembered_73
  · have h := ty_f h c9
    refine lv_iload_n hx hb dX4_remembered_68 rfl (lv_at hl 0 rfl) ?_
    refine lv_goto (tgt := 73) hx hb dX4_remembered_69 (by decide) ?_
    exact tx_iret X Y h dX4_remembered_73
def lX4_remembered_30 (K : ty_S → Int32 → Prop) (KX : Nat → ty_S → Prop)  : Nat → Int32 → Int32 → Int32 → Int32 → ty_S → Prop
  | 0, _, _, _, _, _ => False
  | n + 1, x1, x2, x3, x4, S => (if x2 ≤ x4 then jX4_remembered_61 K KX  x3 S else (if (1280 : Int32) ≤ x3 then jX4_remembered_61 K KX  x3 S else (eX3_nextRemembered S x1 (x3 + (1 : Int32)) (fun S3 r3 => lX4_remembered_30 K KX  n x1 x2 r3 (x4 + (1 : Int32)) S3))))
set_option maxHeartbeats 4000000 in
set_option maxRecDepth 100000 in
theorem wlX4_remembered_30 {p : Program} {l : Launch} {e : Env} {s : State} {m : MethodId} {args : Array Value} {below : List Frame} {meth : Method} {c : Code} {D : va_G} {cA : Nat → ClassId} {q : Nat → Nat} {K : ty_S → Int32 → Prop} {KX : Nat → ty_S → Prop}  (X : ty_X D cA p s m args meth c cX4_remembered 5 (some .int) wsX4_remembered RX4) (Z : tx_X l q ty_LY s c)  : ∀ (n : Nat) (x1 : Int32) (x2 : Int32) (x3 : Int32) (x4 : Int32) (S : ty_S) (H : Heap) (locs : List Loc) (ls : Array Slot), lX4_remembered_30 K KX  n x1 x2 x3 x4 S → ty_Y D cA q ty_LY S s H locs → lv_has ls 5 [(0, .ref (q 0)), (1, .int x1), (2, .int x2), (3, .int x3), (4, .int x4)] → W p l e rX4_remembered s m args below meth c H locs 0 0 (tx_MI D cA q ty_LY K KX below args s) (F0 m 30 ls []) := by
  have hx := X.1.1
  have hb := X.1.2.1
  intro n
  induction n with
  | zero =>
    intro x1 x2 x3 x4 S H locs ls h
    exact False.elim h
  | succ n ih =>
    intro x1 x2 x3 x4 S H locs ls h Y hl
    unfold lX4_remembered_30 at h
    refine lv_iload hx hb dX4_remembered_30 (lv_at hl 4 rfl) ?_
    refine lv_iload_n hx hb dX4_remembered_32 rfl (lv_at hl 2 rfl) ?_
    refine lv_icmp_ge (tgt := 61) hx hb dX4_remembered_33 (by decide) (fun c9 => ?_) (fun c9 => ?_)
    · have h := ty_t h c9
      exact wjX4_remembered_61 X Z  _ _ _ _ _ h Y (lv_sub hl [3] rfl)
    · have h := ty_f h c9
      refine lv_iload_n hx hb dX4_remembered_36 rfl (lv_at hl 3 rfl) ?_
      refine lv_sipush (v := (1280 : Int32)) hx hb dX4_remembered_37 (by decide) ?_
      refine lv_icmp_ge (tgt := 61) hx hb dX4_remembered_40 (by decide) (fun c9 => ?_) (fun c9 => ?_)
      · have h := ty_t h c9
        exact wjX4_remembered_61 X Z  _ _ _ _ _ h Y (lv_sub hl [3] rfl)
      · have h := ty_f h c9
        refine lv_aload_n hx hb dX4_remembered_43 rfl (lv_at hl 0 rfl) ?_
        refine tg_X4_yard X Y iX4_remembered_X4 kX4_remembered_0 dX4_remembered_44 ?_
        refine lv_iload_n hx hb dX4_remembered_47 rfl (lv_at hl 1 rfl) ?_
        refine lv_iload_n hx hb dX4_remembered_48 rfl (lv_at hl 3 rfl) ?_
        refine lv_iconst (v := (1 : Int32)) hx hb dX4_remembered_49 (by decide) ?_
        refine lv_iadd hx hb dX4_remembered_50 ?_
        refine ty_Vi (As := [.int x1, .int (x3 + (1 : Int32))]) (b := 1) (rest := []) X Y (cX3_nextRemembered_C l D cA q S x1 (x3 + (1 : Int32)) _ h) rfl rfl (fun hts => cwV 2 hts gX4_remembered_X3_nextRemembered rfl rfl rfl (by decide +kernel) ⟨Nat.le_of_ble_eq_true rfl, Nat.le_of_ble_eq_true rfl⟩) rfl hl.1 (Nat.le_of_ble_eq_true rfl) dX4_remembered_51 ⟨Nat.zero_le _, Nat.zero_le _⟩ (fun r3 S3 H locs h Y => ?_)
        refine lv_istore_n (lv' := [(3, .int r3), (0, .ref (q 0)), (1, .int x1), (2, .int x2), (4, .int x4)]) hx hb dX4_remembered_54 rfl hl (by decide) rfl (fun ls hl => ?_)
        refine lv_iinc (v := (x4 + (1 : Int32))) (lv' := [(4, .int (x4 + (1 : Int32))), (3, .int r3), (0, .ref (q 0)), (1, .int x1), (2, .int x2)]) hx hb dX4_remembered_55 hl (k := 4) rfl rfl (by decide) rfl (fun ls hl => ?_)
        refine lv_goto (tgt := 30) hx hb dX4_remembered_58 (by decide) ?_
        exact ih _ _ _ _ _ _ _ _ h Y (lv_sub hl [2, 3, 4, 1, 0] rfl)
def eX4_remembered (S : ty_S) (x1 : Int32) (x2 : Int32) (K : ty_S → Int32 → Prop) (KX : Nat → ty_S → Prop) : Prop :=
  (eX4_needCar S x1 (fun S1 => (if x2 < (0 : Int32) then K S1 (-1 : Int32) else (if x2 < (1280 : Int32) then (eX3_nextRemembered S1 x1 (0 : Int32) (fun S2 r2 => ∃ n9, lX4_remembered_30 K KX  n9 x1 x2 r2 (0 : Int32) S2)) else K S1 (-1 : Int32)))) KX)
set_option maxHeartbeats 4000000 in
set_option maxRecDepth 100000 in
theorem cX4_remembered_C (l : Launch) (hst : l.stackTraces = false) (D : va_G) (cA : Nat → ClassId) (q : Nat → Nat) (S : ty_S) (x1 : Int32) (x2 : Int32) (K : ty_S → Int32 → Prop) (KX : Nat → ty_S → Prop) (h : eX4_remembered S x1 x2 K KX) : ∀ sz, tx_Met l yX4_remembered wsX4_remembered rX4_remembered (tx_Pc D cA q ty_LY S sz [.ref (q 0), .int x1, .int x2]) (ty_Qi D cA q ty_LY sz K) (tx_XC D cA q ty_LY sz KX) 1 6 (ty_A q ty_LY.length sz) := by
  refine tx_ofM hst (ret := (some .int)) (maxL := 5) (cc := cX4_remembered) (own := RX4) (Qc := fun sz => ty_Qi D cA q ty_LY sz K) (XC := fun sz => tx_XC D cA q ty_LY sz KX) (by decide +kernel) rfl (Nat.le_of_ble_eq_true rfl) rfl ?_
  intro p e s m args below meth c ls X Z hl Y
  have hx := X.1.1
  have hb := X.1.2.1
  have hl : lv_has ls 5 [(0, .ref (q 0)), (1, .int x1), (2, .int x2)] := hl
  unfold eX4_remembered at h
  refine lv_iload_n hx hb dX4_remembered_0 rfl (lv_at hl 1 rfl) ?_
  refine tx_Sv (As := [.int x1]) (rest := []) X Z Y (cX4_needCar_C l Z.1 D cA q S x1 _ _ h) (fun hts => va_cwS 1 hts gX4_remembered_X4_needCar rfl rfl rfl (by decide +kernel) ⟨Nat.le_of_ble_eq_true rfl, Nat.le_of_ble_eq_true rfl⟩) rfl hl.1 (Nat.le_of_ble_eq_true rfl) dX4_remembered_1 ⟨Nat.le_of_ble_eq_true rfl, Nat.le_of_ble_eq_true rfl⟩ (fun S1 H locs h Y => ?_)
  refine lv_iload_n hx hb dX4_remembered_4 rfl (lv_at hl 2 rfl) ?_
  refine lv_if_lt (tgt := 15) hx hb dX4_remembered_5 (by decide) (fun c9 => ?_) (fun c9 => ?_)
  · have h := ty_t h c9
    refine lv_iconst (v := (-1 : Int32)) hx hb dX4_remembered_15 (by decide) ?_
    exact tx_iret X Y h dX4_remembered_16
  · have h := ty_f h c9
    refine lv_iload_n hx hb dX4_remembered_8 rfl (lv_at hl 2 rfl) ?_
    refine lv_sipush (v := (1280 : Int32)) hx hb dX4_remembered_9 (by decide) ?_
    refine lv_icmp_lt (tgt := 17) hx hb dX4_remembered_12 (by decide) (fun c9 => ?_) (fun c9 => ?_)
    · have h := ty_t h c9
      refine lv_aload_n hx hb dX4_remembered_17 rfl (lv_at hl 0 rfl) ?_
      refine tg_X4_yard X Y iX4_remembered_X4 kX4_remembered_0 dX4_remembered_18 ?_
      refine lv_iload_n hx hb dX4_remembered_21 rfl (lv_at hl 1 rfl) ?_
      refine lv_iconst (v := (0 : Int32)) hx hb dX4_remembered_22 (by decide) ?_
      refine ty_Vi (As := [.int x1, .int (0 : Int32)]) (b := 1) (rest := []) X Y (cX3_nextRemembered_C l D cA q S1 x1 (0 : Int32) _ h) rfl rfl (fun hts => cwV 2 hts gX4_remembered_X3_nextRemembered rfl rfl rfl (by decide +kernel) ⟨Nat.le_of_ble_eq_true rfl, Nat.le_of_ble_eq_true rfl⟩) rfl hl.1 (Nat.le_of_ble_eq_true rfl) dX4_remembered_23 ⟨Nat.zero_le _, Nat.zero_le _⟩ (fun r2 S2 H locs h Y => ?_)
      refine lv_istore_n (lv' := [(3, .int r2), (0, .ref (q 0)), (1, .int x1), (2, .int x2)]) hx hb dX4_remembered_26 rfl hl (by decide) rfl (fun ls hl => ?_)
      refine lv_iconst (v := (0 : Int32)) hx hb dX4_remembered_27 (by decide) ?_
      refine lv_istore (lv' := [(4, .int (0 : Int32)), (3, .int r2), (0, .ref (q 0)), (1, .int x1), (2, .int x2)]) hx hb dX4_remembered_28 hl (by decide) rfl (fun ls hl => ?_)
      obtain ⟨n9, h⟩ := h
      exact wlX4_remembered_30 X Z  n9 _ _ _ _ _ _ _ _ h Y (lv_sub hl [2, 3, 4, 1, 0] rfl)
    · have h := ty_f h c9
      refine lv_iconst (v := (-1 : Int32)) hx hb dX4_remembered_15 (by decide) ?_
      exact tx_iret X Y h dX4_remembered_16

abbrev rX4_word : Room := { frames := 6, cells := 1, slots := 6, locals := 90 }
theorem kX4_word_0 : Cond.fieldLink RX4 12 "TrainYard" "yard" "LTrainYard$Yard;" ∈ wsX4_word := ty_m 3 (by decide +kernel)
theorem kX4_word_1 : Cond.classLink RX4 134 "java/lang/IndexOutOfBoundsException" ∈ wsX4_word := ty_m 1 (by decide +kernel)
theorem kX4_word_2 : Cond.initialized "java/lang/IndexOutOfBoundsException" ∈ wsX4_word := ty_m 2 (by decide +kernel)
theorem iX4_word_X3 : ∀ w ∈ wsX30, w ∈ wsX4_word := ty_inp _ [18, 19, 20, 21, 22, 23, 24, 25, 26, 27, 28, 29, 30] (by decide +kernel)
theorem iX4_word_X4 : ∀ w ∈ wsX40, w ∈ wsX4_word := ty_inp _ [14, 15, 16, 17] (by decide +kernel)
def eX4_word (S : ty_S) (x1 : Int32) (K : ty_S → Int32 → Prop) (KX : Nat → ty_S → Prop) : Prop :=
  (eX4_isPlace S x1 (fun S1 r1 => (if r1 = (0 : Int32) then KX 0 S1 else (eX0_at S1 x1 (fun S2 r2 => K S2 r2)))))
set_option maxHeartbeats 4000000 in
set_option maxRecDepth 100000 in
theorem cX4_word_C (l : Launch) (hst : l.stackTraces = false) (D : va_G) (cA : Nat → ClassId) (q : Nat → Nat) (S : ty_S) (x1 : Int32) (K : ty_S → Int32 → Prop) (KX : Nat → ty_S → Prop) (h : eX4_word S x1 K KX) : ∀ sz, tx_Met l yX4_word wsX4_word rX4_word (tx_Pc D cA q ty_LY S sz [.ref (q 0), .int x1]) (ty_Qi D cA q ty_LY sz K) (tx_XC D cA q ty_LY sz KX) 1 6 (ty_A q ty_LY.length sz) := by
  refine tx_ofM hst (ret := (some .int)) (maxL := 2) (cc := cX4_word) (own := RX4) (Qc := fun sz => ty_Qi D cA q ty_LY sz K) (XC := fun sz => tx_XC D cA q ty_LY sz KX) (by decide +kernel) rfl (Nat.le_of_ble_eq_true rfl) rfl ?_
  intro p e s m args below meth c ls X Z hl Y
  have hx := X.1.1
  have hb := X.1.2.1
  have hl : lv_has ls 2 [(0, .ref (q 0)), (1, .int x1)] := hl
  unfold eX4_word at h
  refine lv_iload_n hx hb dX4_word_0 rfl (lv_at hl 1 rfl) ?_
  refine ty_Si (As := [.int x1]) (rest := []) X Y (cX4_isPlace_C l D cA q S x1 _ h) (fun hts => va_cwS 1 hts gX4_word_X4_isPlace rfl rfl rfl (by decide +kernel) ⟨Nat.le_of_ble_eq_true rfl, Nat.le_of_ble_eq_true rfl⟩) rfl hl.1 (Nat.le_of_ble_eq_true rfl) dX4_word_1 ⟨Nat.zero_le _, Nat.zero_le _⟩ (fun r1 S1 H locs h Y => ?_)
  refine lv_if_ne (tgt := 17) hx hb dX4_word_4 (by decide) (fun c9 => ?_) (fun c9 => ?_)
  · have h := ty_f h c9
    refine lv_aload_n hx hb dX4_word_17 rfl (lv_at hl 0 rfl) ?_
    refine tg_X4_yard X Y iX4_word_X4 kX4_word_0 dX4_word_18 ?_
    refine tn_X3_freight X Y iX4_word_X3 (ty_m 5 rfl) dX4_word_21 ?_
    refine lv_iload_n hx hb dX4_word_24 rfl (lv_at hl 1 rfl) ?_
    refine ty_Vi (As := [.int x1]) (b := 3) (rest := []) X Y (cX0_at_C l D cA q S1 x1 _ h) rfl rfl (fun hts => cwV 1 hts gX4_word_X0_at rfl rfl rfl (by decide +kernel) ⟨Nat.le_of_ble_eq_true rfl, Nat.le_of_ble_eq_true rfl⟩) rfl hl.1 (Nat.le_of_ble_eq_true rfl) dX4_word_25 ⟨Nat.zero_le _, Nat.zero_le _⟩ (fun r2 S2 H locs h Y => ?_)
    exact tx_iret X Y h dX4_word_28
  · have h := ty_t h c9
    exact tx_throw X Z Y 0 (by decide) rfl kX4_word_1 kX4_word_2 (text := "there is no such place") (ty_m 4 rfl) (fun _ h => List.mem_cons_of_mem _ (List.mem_append_right _ h)) tz_ng_138 tz_fit_0 tz_good_134_138 hl.1 dX4_word_7 dX4_word_10 dX4_word_11 dX4_word_13 dX4_word_16 (Nat.le_of_ble_eq_true rfl) (Nat.le_of_ble_eq_true rfl) (Nat.le_of_ble_eq_true rfl) (Nat.le_of_ble_eq_true rfl) h

abbrev rX4_told : Room := { frames := 7, cells := 1, slots := 6, locals := 111 }
theorem kX4_told_0 : Cond.fieldLink RX4 12 "TrainYard" "yard" "LTrainYard$Yard;" ∈ wsX4_told := ty_m 1 (by decide +kernel)
theorem kX4_told_1 : Cond.fieldLink RX4 27 "TrainYard" "labels" "I" ∈ wsX4_told := ty_m 2 (by decide +kernel)
theorem iX4_told_X1 : ∀ w ∈ wsX10, w ∈ wsX4_told := ty_inp _ [62, 63, 64, 65] (by decide +kernel)
theorem iX4_told_X3 : ∀ w ∈ wsX30, w ∈ wsX4_told := ty_inp _ [49, 50, 51, 52, 53, 54, 55, 56, 57, 58, 59, 60, 61] (by decide +kernel)
theorem iX4_told_X4 : ∀ w ∈ wsX40, w ∈ wsX4_told := ty_inp _ [45, 46, 47, 48] (by decide +kernel)
def eX4_told (S : ty_S) (x1 : Int32) (K : ty_S → Int32 → Prop) (KX : Nat → ty_S → Prop) : Prop :=
  (eX4_needWhat S x1 (9 : Int32) (fun S1 => (if x1 = (0 : Int32) then (eX1_countTrains S1  (fun S2 r2 => K S2 r2)) else (if x1 = (1 : Int32) then (eX1_countFree S1  (fun S3 r3 => K S3 r3)) else (if x1 = (2 : Int32) then (eX3_thingsIn S1 (0 : Int32) (S1 13 0) (fun S4 r4 => K S4 r4)) else (if x1 = (3 : Int32) then K S1 (S1 15 0) else (if x1 = (4 : Int32) then K S1 (S1 16 0) else (if x1 = (5 : Int32) then K S1 (S1 17 0) else (if x1 = (6 : Int32) then K S1 (S1 18 0) else (if x1 = (7 : Int32) then K S1 (S1 19 0) else (if x1 = (8 : Int32) then K S1 (S1 14 0) else K S1 (S1 24 0))))))))))) KX)
set_option maxHeartbeats 4000000 in
set_option maxRecDepth 100000 in
theorem cX4_told_C (l : Launch) (hst : l.stackTraces = false) (D : va_G) (cA : Nat → ClassId) (q : Nat → Nat) (S : ty_S) (x1 : Int32) (K : ty_S → Int32 → Prop) (KX : Nat → ty_S → Prop) (h : eX4_told S x1 K KX) : ∀ sz, tx_Met l yX4_told wsX4_told rX4_told (tx_Pc D cA q ty_LY S sz [.ref (q 0), .int x1]) (ty_Qi D cA q ty_LY sz K) (tx_XC D cA q ty_LY sz KX) 1 6 (ty_A q ty_LY.length sz) := by
  refine tx_ofM hst (ret := (some .int)) (maxL := 2) (cc := cX4_told) (own := RX4) (Qc := fun sz => ty_Qi D cA q ty_LY sz K) (XC := fun sz => tx_XC D cA q ty_LY sz KX) (by decide +kernel) rfl (Nat.le_of_ble_eq_true rfl) rfl ?_
  intro p e s m args below meth c ls X Z hl Y
  have hx := X.1.1
  have hb := X.1.2.1
  have hl : lv_has ls 2 [(0, .ref (q 0)), (1, .int x1)] := hl
  unfold eX4_told at h
  refine lv_iload_n hx hb dX4_told_0 rfl (lv_at hl 1 rfl) ?_
  refine lv_bipush (v := (9 : Int32)) hx hb dX4_told_1 (by decide) ?_
  refine tx_Sv (As := [.int x1, .int (9 : Int32)]) (rest := []) X Z Y (cX4_needWhat_C l Z.1 D cA q S x1 (9 : Int32) _ _ h) (fun hts => va_cwS 2 hts gX4_told_X4_needWhat rfl rfl rfl (by decide +kernel) ⟨Nat.le_of_ble_eq_true rfl, Nat.le_of_ble_eq_true rfl⟩) rfl hl.1 (Nat.le_of_ble_eq_true rfl) dX4_told_3 ⟨Nat.le_of_ble_eq_true rfl, Nat.le_of_ble_eq_true rfl⟩ (fun S1 H locs h Y => ?_)
  refine lv_iload_n hx hb dX4_told_6 rfl (lv_at hl 1 rfl) ?_
  rcases Decidable.em (x1 = (0 : Int32)) with c0 | c0
  · have h := ty_t h c0
    refine lv_tableIn (tgt := 56) hx hb dX4_told_7 (by rw [c0]; decide) (by rw [c0]; decide) (by rw [c0]; exact rfl) (by decide) ?_
    refine lv_aload_n hx hb dX4_told_56 rfl (lv_at hl 0 rfl) ?_
    refine tg_X4_yard X Y iX4_told_X4 kX4_told_0 dX4_told_57 ?_
    refine tn_X3_row X Y iX4_told_X3 (ty_m 6 rfl) dX4_told_60 ?_
    refine ty_Vi (As := []) (b := 4) (rest := []) X Y (cX1_countTrains_C l D cA q S1  _ h) rfl rfl (fun hts => cwV 0 hts gX4_told_X1_countTrains rfl rfl rfl (by decide +kernel) ⟨Nat.le_of_ble_eq_true rfl, Nat.le_of_ble_eq_true rfl⟩) rfl hl.1 (Nat.le_of_ble_eq_true rfl) dX4_told_63 ⟨Nat.zero_le _, Nat.zero_le _⟩ (fun r2 S2 H locs h Y => ?_)
    exact tx_iret X Y h dX4_told_66
  · have h := ty_f h c0
    rcases Decidable.em (x1 = (1 : Int32)) with c1 | c1
    · have h := ty_t h c1
      refine lv_tableIn (tgt := 67) hx hb dX4_told_7 (by rw [c1]; decide) (by rw [c1]; decide) (by rw [c1]; exact rfl) (by decide) ?_
      refine lv_aload_n hx hb dX4_told_67 rfl (lv_at hl 0 rfl) ?_
      refine tg_X4_yard X Y iX4_told_X4 kX4_told_0 dX4_told_68 ?_
      refine tn_X3_row X Y iX4_told_X3 (ty_m 6 rfl) dX4_told_71 ?_
      refine ty_Vi (As := []) (b := 4) (rest := []) X Y (cX1_countFree_C l D cA q S1  _ h) rfl rfl (fun hts => cwV 0 hts gX4_told_X1_countFree rfl rfl rfl (by decide +kernel) ⟨Nat.le_of_ble_eq_true rfl, Nat.le_of_ble_eq_true rfl⟩) rfl hl.1 (Nat.le_of_ble_eq_true rfl) dX4_told_74 ⟨Nat.zero_le _, Nat.zero_le _⟩ (fun r3 S3 H locs h Y => ?_)
      exact tx_iret X Y h dX4_told_77
    · have h := ty_f h c1
      rcases Decidable.em (x1 = (2 : Int32)) with c2 | c2
      · have h := ty_t h c2
        refine lv_tableIn (tgt := 78) hx hb dX4_told_7 (by rw [c2]; decide) (by rw [c2]; decide) (by rw [c2]; exact rfl) (by decide) ?_
        refine lv_aload_n hx hb dX4_told_78 rfl (lv_at hl 0 rfl) ?_
        refine tg_X4_yard X Y iX4_told_X4 kX4_told_0 dX4_told_79 ?_
        refine lv_iconst (v := (0 : Int32)) hx hb dX4_told_82 (by decide) ?_
        refine lv_aload_n hx hb dX4_told_83 rfl (lv_at hl 0 rfl) ?_
        refine tg_X4_yard X Y iX4_told_X4 kX4_told_0 dX4_told_84 ?_
        refine tn_X3_row X Y iX4_told_X3 (ty_m 6 rfl) dX4_told_87 ?_
        refine tn_X1_count (v := (S1 13 0)) X Y iX4_told_X1 (ty_m 2 rfl) rfl dX4_told_90 ?_
        refine ty_Vi (As := [.int (0 : Int32), .int (S1 13 0)]) (b := 1) (rest := []) X Y (cX3_thingsIn_C l D cA q S1 (0 : Int32) (S1 13 0) _ h) rfl rfl (fun hts => cwV 2 hts gX4_told_X3_thingsIn rfl rfl rfl (by decide +kernel) ⟨Nat.le_of_ble_eq_true rfl, Nat.le_of_ble_eq_true rfl⟩) rfl hl.1 (Nat.le_of_ble_eq_true rfl) dX4_told_93 ⟨Nat.zero_le _, Nat.zero_le _⟩ (fun r4 S4 H locs h Y => ?_)
        exact tx_iret X Y h dX4_told_96
      · have h := ty_f h c2
        rcases Decidable.em (x1 = (3 : Int32)) with c3 | c3
        · have h := ty_t h c3
          refine lv_tableIn (tgt := 97) hx hb dX4_told_7 (by rw [c3]; decide) (by rw [c3]; decide) (by rw [c3]; exact rfl) (by decide) ?_
          refine lv_aload_n hx hb dX4_told_97 rfl (lv_at hl 0 rfl) ?_
          refine tg_X4_yard X Y iX4_told_X4 kX4_told_0 dX4_told_98 ?_
          refine tn_X3_steps (v := (S1 15 0)) X Y iX4_told_X3 (ty_m 8 rfl) rfl dX4_told_101 ?_
          exact tx_iret X Y h dX4_told_104
        · have h := ty_f h c3
          rcases Decidable.em (x1 = (4 : Int32)) with c4 | c4
          · have h := ty_t h c4
            refine lv_tableIn (tgt := 105) hx hb dX4_told_7 (by rw [c4]; decide) (by rw [c4]; decide) (by rw [c4]; exact rfl) (by decide) ?_
            refine lv_aload_n hx hb dX4_told_105 rfl (lv_at hl 0 rfl) ?_
            refine tg_X4_yard X Y iX4_told_X4 kX4_told_0 dX4_told_106 ?_
            refine tn_X3_wholeTrains (v := (S1 16 0)) X Y iX4_told_X3 (ty_m 9 rfl) rfl dX4_told_109 ?_
            exact tx_iret X Y h dX4_told_112
          · have h := ty_f h c4
            rcases Decidable.em (x1 = (5 : Int32)) with c5 | c5
            · have h := ty_t h c5
              refine lv_tableIn (tgt := 113) hx hb dX4_told_7 (by rw [c5]; decide) (by rw [c5]; decide) (by rw [c5]; exact rfl) (by decide) ?_
              refine lv_aload_n hx hb dX4_told_113 rfl (lv_at hl 0 rfl) ?_
              refine tg_X4_yard X Y iX4_told_X4 kX4_told_0 dX4_told_114 ?_
              refine tn_X3_thingsGone (v := (S1 17 0)) X Y iX4_told_X3 (ty_m 10 rfl) rfl dX4_told_117 ?_
              exact tx_iret X Y h dX4_told_120
            · have h := ty_f h c5
              rcases Decidable.em (x1 = (6 : Int32)) with c6 | c6
              · have h := ty_t h c6
                refine lv_tableIn (tgt := 121) hx hb dX4_told_7 (by rw [c6]; decide) (by rw [c6]; decide) (by rw [c6]; exact rfl) (by decide) ?_
                refine lv_aload_n hx hb dX4_told_121 rfl (lv_at hl 0 rfl) ?_
                refine tg_X4_yard X Y iX4_told_X4 kX4_told_0 dX4_told_122 ?_
                refine tn_X3_thingsMoved (v := (S1 18 0)) X Y iX4_told_X3 (ty_m 11 rfl) rfl dX4_told_125 ?_
                exact tx_iret X Y h dX4_told_128
              · have h := ty_f h c6
                rcases Decidable.em (x1 = (7 : Int32)) with c7 | c7
                · have h := ty_t h c7
                  refine lv_tableIn (tgt := 129) hx hb dX4_told_7 (by rw [c7]; decide) (by rw [c7]; decide) (by rw [c7]; exact rfl) (by decide) ?_
                  refine lv_aload_n hx hb dX4_told_129 rfl (lv_at hl 0 rfl) ?_
                  refine tg_X4_yard X Y iX4_told_X4 kX4_told_0 dX4_told_130 ?_
                  refine tn_X3_wordsMoved (v := (S1 19 0)) X Y iX4_told_X3 (ty_m 12 rfl) rfl dX4_told_133 ?_
                  exact tx_iret X Y h dX4_told_136
                · have h := ty_f h c7
                  rcases Decidable.em (x1 = (8 : Int32)) with c8 | c8
                  · have h := ty_t h c8
                    refine lv_tableIn (tgt := 137) hx hb dX4_told_7 (by rw [c8]; decide) (by rw [c8]; decide) (by rw [c8]; exact rfl) (by decide) ?_
                    refine lv_aload_n hx hb dX4_told_137 rfl (lv_at hl 0 rfl) ?_
                    refine tg_X4_yard X Y iX4_told_X4 kX4_told_0 dX4_told_138 ?_
                    refine tn_X3_row X Y iX4_told_X3 (ty_m 6 rfl) dX4_told_141 ?_
                    refine tn_X1_trainsMade (v := (S1 14 0)) X Y iX4_told_X1 (ty_m 4 rfl) rfl dX4_told_144 ?_
                    exact tx_iret X Y h dX4_told_147
                  · have h := ty_f h c8
                    refine lv_tableOut (tgt := 148) hx hb dX4_told_7 (ty_out (fun k h1 h2 => ?_)) (by decide) ?_
                    · have hk : k = 0 ∨ k = 1 ∨ k = 2 ∨ k = 3 ∨ k = 4 ∨ k = 5 ∨ k = 6 ∨ k = 7 ∨ k = 8 := by omega
                      rcases hk with rfl | rfl | rfl | rfl | rfl | rfl | rfl | rfl | rfl
                      · exact c0
                      · exact c1
                      · exact c2
                      · exact c3
                      · exact c4
                      · exact c5
                      · exact c6
                      · exact c7
                      · exact c8
                    · refine lv_aload_n hx hb dX4_told_148 rfl (lv_at hl 0 rfl) ?_
                      refine tg_X4_labels (v := (S1 24 0)) X Y iX4_told_X4 kX4_told_1 rfl dX4_told_149 ?_
                      exact tx_iret X Y h dX4_told_152
