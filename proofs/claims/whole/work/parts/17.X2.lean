abbrev rX2_visit : Room := { frames := 1, cells := 0, slots := 0, locals := 20 }
theorem kX2_visit_0 : Cond.fieldLink RX2 9 "TrainYard$Search" "rounds" "[I" ∈ wsX2_visit := ty_m 1 (by decide +kernel)
theorem kX2_visit_1 : Cond.fieldLink RX2 22 "TrainYard$Search" "round" "I" ∈ wsX2_visit := ty_m 2 (by decide +kernel)
theorem kX2_visit_2 : Cond.fieldLink RX2 18 "TrainYard$Search" "foundCount" "I" ∈ wsX2_visit := ty_m 3 (by decide +kernel)
theorem kX2_visit_3 : Cond.fieldLink RX2 15 "TrainYard$Search" "found" "[I" ∈ wsX2_visit := ty_m 4 (by decide +kernel)
theorem kX2_visit_4 : Cond.initialized yX4_isPlace.cls ∈ wsX2_visit := ty_m 6 (by decide +kernel)
theorem kX2_visit_5 : Cond.static yX4_isPlace ∈ wsX2_visit := ty_m 5 (by decide +kernel)
theorem iX2_visit_X2 : ∀ w ∈ wsX20, w ∈ wsX2_visit := ty_inp _ [8, 9, 10, 11] (by decide +kernel)
def eX2_visit (S : ty_S) (x1 : Int32) (K : ty_S → Prop) : Prop :=
  (eX4_isPlace S x1 (fun S1 r1 => (if r1 = (0 : Int32) then K S1 else (vp_in x1 1280 ∧ (if (S1 10 x1.toNatClampNeg) = (S1 26 0) then K S1 else (if (640 : Int32) ≤ (S1 25 0) then K S1 else (vp_in x1 1280 ∧ (vp_in (S1 25 0) 640 ∧ K (ty_st (ty_st (ty_st S1 10 x1.toNatClampNeg (S1 26 0)) 11 (S1 25 0).toNatClampNeg x1) 25 0 ((S1 25 0) + (1 : Int32)))))))))))
set_option maxHeartbeats 4000000 in
set_option maxRecDepth 100000 in
theorem cX2_visit_C (l : Launch) (D : va_G) (cA : Nat → ClassId) (q : Nat → Nat) (S : ty_S) (x1 : Int32) (K : ty_S → Prop) (h : eX2_visit S x1 K) : ∀ sz, Met l yX2_visit wsX2_visit rX2_visit (ty_Pc D cA q ty_LY S sz [.ref (q 2), .int x1]) (ty_Qv D cA q ty_LY sz K) 0 0 (ty_A q ty_LY.length sz) := by
  refine ty_ofM (ret := none) (maxL := 2) (cc := cX2_visit) (own := RX2) (Qc := fun sz => ty_Qv D cA q ty_LY sz K) (by decide +kernel) rfl (Nat.le_of_ble_eq_true rfl) rfl ?_
  intro p e s m args below meth c ls X hl Y
  have hx := X.1.1
  have hb := X.1.2.1
  have hl : lv_has ls 2 [(0, .ref (q 2)), (1, .int x1)] := hl
  unfold eX2_visit at h
  refine lv_iload_n hx hb dX2_visit_0 rfl (lv_at hl 1 rfl) ?_
  refine ty_SNi (As := [.int x1]) (rest := []) X Y (cX4_isPlace_C l D cA q S x1 _ h) (fun hts hN => ty_cwSN 1 hts hN gX2_visit_X4_isPlace_n38 rfl (ty_m 17 rfl) kX2_visit_4 kX2_visit_5 rfl rfl (by decide +kernel) ⟨Nat.le_of_ble_eq_true rfl, Nat.le_of_ble_eq_true rfl⟩) rfl hl.1 (Nat.le_of_ble_eq_true rfl) dX2_visit_1 ⟨Nat.zero_le _, Nat.zero_le _⟩ (fun r1 S1 H locs h Y => ?_)
  refine lv_if_eq (tgt := 62) hx hb dX2_visit_4 (by decide) (fun c9 => ?_) (fun c9 => ?_)
  · have h := ty_t h c9
    exact ty_vret X Y h dX2_visit_62
  · have h := ty_f h c9
    refine lv_aload_n hx hb dX2_visit_7 rfl (lv_at hl 0 rfl) ?_
    refine tg_X2_rounds X Y iX2_visit_X2 kX2_visit_0 dX2_visit_8 ?_
    refine lv_iload_n hx hb dX2_visit_11 rfl (lv_at hl 1 rfl) ?_
    refine ty_iald (v := (S1 10 x1.toNatClampNeg)) X Y 8 1280 10 rfl h.1 rfl dX2_visit_12 ?_
    have h := h.2
    refine lv_aload_n hx hb dX2_visit_13 rfl (lv_at hl 0 rfl) ?_
    refine tg_X2_round (v := (S1 26 0)) X Y iX2_visit_X2 kX2_visit_1 rfl dX2_visit_14 ?_
    refine lv_icmp_eq (tgt := 62) hx hb dX2_visit_17 (by decide) (fun c9 => ?_) (fun c9 => ?_)
    · have h := ty_t h c9
      exact ty_vret X Y h dX2_visit_62
    · have h := ty_f h c9
      refine lv_aload_n hx hb dX2_visit_20 rfl (lv_at hl 0 rfl) ?_
      refine tg_X2_foundCount (v := (S1 25 0)) X Y iX2_visit_X2 kX2_visit_2 rfl dX2_visit_21 ?_
      refine lv_aload_n hx hb dX2_visit_24 rfl (lv_at hl 0 rfl) ?_
      refine tg_X2_found X Y iX2_visit_X2 kX2_visit_3 dX2_visit_25 ?_
      refine ty_alen X Y 9 640 11 rfl (v := (640 : Int32)) (by decide) dX2_visit_28 ?_
      refine lv_icmp_ge (tgt := 62) hx hb dX2_visit_29 (by decide) (fun c9 => ?_) (fun c9 => ?_)
      · have h := ty_t h c9
        exact ty_vret X Y h dX2_visit_62
      · have h := ty_f h c9
        refine lv_aload_n hx hb dX2_visit_32 rfl (lv_at hl 0 rfl) ?_
        refine tg_X2_rounds X Y iX2_visit_X2 kX2_visit_0 dX2_visit_33 ?_
        refine lv_iload_n hx hb dX2_visit_36 rfl (lv_at hl 1 rfl) ?_
        refine lv_aload_n hx hb dX2_visit_37 rfl (lv_at hl 0 rfl) ?_
        refine tg_X2_round (v := (S1 26 0)) X Y iX2_visit_X2 kX2_visit_1 rfl dX2_visit_38 ?_
        refine ty_iast X Y 8 1280 10 rfl (by decide) h.1 dX2_visit_41 (fun H locs Y => ?_)
        have h := h.2
        refine lv_aload_n hx hb dX2_visit_42 rfl (lv_at hl 0 rfl) ?_
        refine tg_X2_found X Y iX2_visit_X2 kX2_visit_3 dX2_visit_43 ?_
        refine lv_aload_n hx hb dX2_visit_46 rfl (lv_at hl 0 rfl) ?_
        refine tg_X2_foundCount (v := (S1 25 0)) X Y iX2_visit_X2 kX2_visit_2 rfl dX2_visit_47 ?_
        refine lv_iload_n hx hb dX2_visit_50 rfl (lv_at hl 1 rfl) ?_
        refine ty_iast X Y 9 640 11 rfl (by decide) h.1 dX2_visit_51 (fun H locs Y => ?_)
        have h := h.2
        refine lv_aload_n hx hb dX2_visit_52 rfl (lv_at hl 0 rfl) ?_
        refine lv_dup hx hb dX2_visit_53 rfl ?_
        refine tg_X2_foundCount (v := (S1 25 0)) X Y iX2_visit_X2 kX2_visit_2 rfl dX2_visit_54 ?_
        refine lv_iconst (v := (1 : Int32)) hx hb dX2_visit_57 (by decide) ?_
        refine lv_iadd hx hb dX2_visit_58 ?_
        refine tp_X2_foundCount X Y iX2_visit_X2 kX2_visit_2 dX2_visit_59 (fun H locs Y => ?_)
        exact ty_vret X Y h dX2_visit_62

abbrev rX2_countFrom : Room := { frames := 2, cells := 0, slots := 0, locals := 42 }
theorem kX2_countFrom_0 : Cond.fieldLink RX2 22 "TrainYard$Search" "round" "I" ∈ wsX2_countFrom := ty_m 1 (by decide +kernel)
theorem kX2_countFrom_1 : Cond.fieldLink RX2 18 "TrainYard$Search" "foundCount" "I" ∈ wsX2_countFrom := ty_m 2 (by decide +kernel)
theorem kX2_countFrom_2 : Cond.fieldLink RX2 15 "TrainYard$Search" "found" "[I" ∈ wsX2_countFrom := ty_m 3 (by decide +kernel)
theorem iX2_countFrom_X2 : ∀ w ∈ wsX20, w ∈ wsX2_countFrom := ty_inp _ [24, 25, 26, 27] (by decide +kernel)
def lX2_countFrom_99 (K : ty_S → Int32 → Prop) (R51 : Int32 → ty_S → Prop) : Nat → Int32 → Int32 → Int32 → ty_S → Prop
  | 0, _, _, _, _ => False
  | n + 1, x3, x4, x5, S => (if x4 ≤ x5 then R51 (x3 + (1 : Int32)) S else (eX0_at S x5 (fun S2 r2 => (eX2_visit S2 r2 (fun S3 => lX2_countFrom_99 K R51 n x3 x4 (x5 + (1 : Int32)) S3)))))
set_option maxHeartbeats 4000000 in
set_option maxRecDepth 100000 in
theorem wlX2_countFrom_99 {p : Program} {l : Launch} {e : Env} {s : State} {m : MethodId} {args : Array Value} {below : List Frame} {meth : Method} {c : Code} {D : va_G} {cA : Nat → ClassId} {q : Nat → Nat} {K : ty_S → Int32 → Prop} {R51 : Int32 → ty_S → Prop} (X : ty_X D cA p s m args meth c cX2_countFrom 7 (some .int) wsX2_countFrom RX2) (hR51 : ∀ (x3 : Int32) (S : ty_S) (H : Heap) (locs : List Loc) (ls : Array Slot), R51 x3 S → ty_Y D cA q ty_LY S s H locs → lv_has ls 7 [(0, .ref (q 2)), (2, .ref (q 3)), (3, .int x3)] → W p l e rX2_countFrom s m args below meth c H locs 0 0 (ty_MI D cA q ty_LY K below args s) (F0 m 51 ls [])) : ∀ (n : Nat) (x3 : Int32) (x4 : Int32) (x5 : Int32) (S : ty_S) (H : Heap) (locs : List Loc) (ls : Array Slot), lX2_countFrom_99 K R51 n x3 x4 x5 S → ty_Y D cA q ty_LY S s H locs → lv_has ls 7 [(0, .ref (q 2)), (2, .ref (q 3)), (3, .int x3), (4, .int x4), (5, .int x5)] → W p l e rX2_countFrom s m args below meth c H locs 0 0 (ty_MI D cA q ty_LY K below args s) (F0 m 99 ls []) := by
  have hx := X.1.1
  have hb := X.1.2.1
  intro n
  induction n with
  | zero =>
    intro x3 x4 x5 S H locs ls h
    exact False.elim h
  | succ n ih =>
    intro x3 x4 x5 S H locs ls h Y hl
    unfold lX2_countFrom_99 at h
    refine lv_iload hx hb dX2_countFrom_99 (lv_at hl 4 rfl) ?_
    refine lv_iload hx hb dX2_countFrom_101 (lv_at hl 3 rfl) ?_
    refine lv_icmp_ge (tgt := 122) hx hb dX2_countFrom_103 (by decide) (fun c9 => ?_) (fun c9 => ?_)
    · have h := ty_t h c9
      refine lv_iinc (v := (x3 + (1 : Int32))) (lv' := [(3, .int (x3 + (1 : Int32))), (0, .ref (q 2)), (2, .ref (q 3)), (4, .int x4), (5, .int x5)]) hx hb dX2_countFrom_122 hl (k := 2) rfl rfl (by decide) rfl (fun ls hl => ?_)
      refine lv_goto (tgt := 51) hx hb dX2_countFrom_125 (by decide) ?_
      exact hR51 _ _ _ _ _ h Y (lv_sub hl [1, 2, 0] rfl)
    · have h := ty_f h c9
      refine lv_aload_n hx hb dX2_countFrom_106 rfl (lv_at hl 0 rfl) ?_
      refine lv_aload_n hx hb dX2_countFrom_107 rfl (lv_at hl 1 rfl) ?_
      refine lv_iload hx hb dX2_countFrom_108 (lv_at hl 4 rfl) ?_
      refine ty_Vi (As := [.int x5]) (b := 3) (rest := [.ref (q 2)]) X Y (cX0_at_C l D cA q S x5 _ h) rfl rfl (fun hts => cwV 1 hts gX2_countFrom_X0_at rfl rfl rfl (by decide +kernel) ⟨Nat.le_of_ble_eq_true rfl, Nat.le_of_ble_eq_true rfl⟩) rfl hl.1 (Nat.le_of_ble_eq_true rfl) dX2_countFrom_110 ⟨Nat.zero_le _, Nat.zero_le _⟩ (fun r2 S2 H locs h Y => ?_)
      refine ty_Vv (As := [.int r2]) (b := 2) (rest := []) X Y (cX2_visit_C l D cA q S2 r2 _ h) rfl rfl (fun hts => cwV 1 hts gX2_countFrom_X2_visit rfl rfl rfl (by decide +kernel) ⟨Nat.le_of_ble_eq_true rfl, Nat.le_of_ble_eq_true rfl⟩) rfl hl.1 (Nat.le_of_ble_eq_true rfl) dX2_countFrom_113 ⟨Nat.zero_le _, Nat.zero_le _⟩ (fun S3 H locs h Y => ?_)
      refine lv_iinc (v := (x5 + (1 : Int32))) (lv' := [(5, .int (x5 + (1 : Int32))), (0, .ref (q 2)), (2, .ref (q 3)), (3, .int x3), (4, .int x4)]) hx hb dX2_countFrom_116 hl (k := 4) rfl rfl (by decide) rfl (fun ls hl => ?_)
      refine lv_goto (tgt := 99) hx hb dX2_countFrom_119 (by decide) ?_
      exact ih _ _ _ _ _ _ _ h Y (lv_sub hl [1, 2, 3, 4, 0] rfl)
def lX2_countFrom_51 (K : ty_S → Int32 → Prop)  : Nat → Int32 → ty_S → Prop
  | 0, _, _ => False
  | n + 1, x3, S => (if (S 25 0) ≤ x3 then K S (S 25 0) else (if (640 : Int32) ≤ x3 then K S (S 25 0) else (vp_in x3 640 ∧ (vp_in x3 640 ∧ (eX0_references S (S 11 x3.toNatClampNeg) (fun S1 r1 => (vp_in x3 640 ∧ ∃ n9, lX2_countFrom_99 K (fun a0 S9 => lX2_countFrom_51 K  n a0 S9) n9 x3 (((S 11 x3.toNatClampNeg) + (2 : Int32)) + r1) ((S1 11 x3.toNatClampNeg) + (2 : Int32)) S1)))))))
set_option maxHeartbeats 4000000 in
set_option maxRecDepth 100000 in
theorem wlX2_countFrom_51 {p : Program} {l : Launch} {e : Env} {s : State} {m : MethodId} {args : Array Value} {below : List Frame} {meth : Method} {c : Code} {D : va_G} {cA : Nat → ClassId} {q : Nat → Nat} {K : ty_S → Int32 → Prop}  (X : ty_X D cA p s m args meth c cX2_countFrom 7 (some .int) wsX2_countFrom RX2)  : ∀ (n : Nat) (x3 : Int32) (S : ty_S) (H : Heap) (locs : List Loc) (ls : Array Slot), lX2_countFrom_51 K  n x3 S → ty_Y D cA q ty_LY S s H locs → lv_has ls 7 [(0, .ref (q 2)), (2, .ref (q 3)), (3, .int x3)] → W p l e rX2_countFrom s m args below meth c H locs 0 0 (ty_MI D cA q ty_LY K below args s) (F0 m 51 ls []) := by
  have hx := X.1.1
  have hb := X.1.2.1
  intro n
  induction n with
  | zero =>
    intro x3 S H locs ls h
    exact False.elim h
  | succ n ih =>
    intro x3 S H locs ls h Y hl
    unfold lX2_countFrom_51 at h
    refine lv_iload_n hx hb dX2_countFrom_51 rfl (lv_at hl 2 rfl) ?_
    refine lv_aload_n hx hb dX2_countFrom_52 rfl (lv_at hl 0 rfl) ?_
    refine tg_X2_foundCount (v := (S 25 0)) X Y iX2_countFrom_X2 kX2_countFrom_1 rfl dX2_countFrom_53 ?_
    refine lv_icmp_ge (tgt := 128) hx hb dX2_countFrom_56 (by decide) (fun c9 => ?_) (fun c9 => ?_)
    · have h := ty_t h c9
      refine lv_aload_n hx hb dX2_countFrom_128 rfl (lv_at hl 0 rfl) ?_
      refine tg_X2_foundCount (v := (S 25 0)) X Y iX2_countFrom_X2 kX2_countFrom_1 rfl dX2_countFrom_129 ?_
      exact ty_iret X Y h dX2_countFrom_132
    · have h := ty_f h c9
      refine lv_iload_n hx hb dX2_countFrom_59 rfl (lv_at hl 2 rfl) ?_
      refine lv_aload_n hx hb dX2_countFrom_60 rfl (lv_at hl 0 rfl) ?_
      refine tg_X2_found X Y iX2_countFrom_X2 kX2_countFrom_2 dX2_countFrom_61 ?_
      refine ty_alen X Y 9 640 11 rfl (v := (640 : Int32)) (by decide) dX2_countFrom_64 ?_
      refine lv_icmp_ge (tgt := 128) hx hb dX2_countFrom_65 (by decide) (fun c9 => ?_) (fun c9 => ?_)
      · have h := ty_t h c9
        refine lv_aload_n hx hb dX2_countFrom_128 rfl (lv_at hl 0 rfl) ?_
        refine tg_X2_foundCount (v := (S 25 0)) X Y iX2_countFrom_X2 kX2_countFrom_1 rfl dX2_countFrom_129 ?_
        exact ty_iret X Y h dX2_countFrom_132
      · have h := ty_f h c9
        refine lv_aload_n hx hb dX2_countFrom_68 rfl (lv_at hl 0 rfl) ?_
        refine tg_X2_found X Y iX2_countFrom_X2 kX2_countFrom_2 dX2_countFrom_69 ?_
        refine lv_iload_n hx hb dX2_countFrom_72 rfl (lv_at hl 2 rfl) ?_
        refine ty_iald (v := (S 11 x3.toNatClampNeg)) X Y 9 640 11 rfl h.1 rfl dX2_countFrom_73 ?_
        have h := h.2
        refine lv_iconst (v := (2 : Int32)) hx hb dX2_countFrom_74 (by decide) ?_
        refine lv_iadd hx hb dX2_countFrom_75 ?_
        refine lv_aload_n hx hb dX2_countFrom_76 rfl (lv_at hl 1 rfl) ?_
        refine lv_aload_n hx hb dX2_countFrom_77 rfl (lv_at hl 0 rfl) ?_
        refine tg_X2_found X Y iX2_countFrom_X2 kX2_countFrom_2 dX2_countFrom_78 ?_
        refine lv_iload_n hx hb dX2_countFrom_81 rfl (lv_at hl 2 rfl) ?_
        refine ty_iald (v := (S 11 x3.toNatClampNeg)) X Y 9 640 11 rfl h.1 rfl dX2_countFrom_82 ?_
        have h := h.2
        refine ty_Vi (As := [.int (S 11 x3.toNatClampNeg)]) (b := 3) (rest := [.int ((S 11 x3.toNatClampNeg) + (2 : Int32))]) X Y (cX0_references_C l D cA q S (S 11 x3.toNatClampNeg) _ h) rfl rfl (fun hts => cwV 1 hts gX2_countFrom_X0_references rfl rfl rfl (by decide +kernel) ⟨Nat.le_of_ble_eq_true rfl, Nat.le_of_ble_eq_true rfl⟩) rfl hl.1 (Nat.le_of_ble_eq_true rfl) dX2_countFrom_83 ⟨Nat.zero_le _, Nat.zero_le _⟩ (fun r1 S1 H locs h Y => ?_)
        refine lv_iadd hx hb dX2_countFrom_86 ?_
        refine lv_istore (lv' := [(4, .int (((S 11 x3.toNatClampNeg) + (2 : Int32)) + r1)), (0, .ref (q 2)), (2, .ref (q 3)), (3, .int x3)]) hx hb dX2_countFrom_87 hl (by decide) rfl (fun ls hl => ?_)
        refine lv_aload_n hx hb dX2_countFrom_89 rfl (lv_at hl 1 rfl) ?_
        refine tg_X2_found X Y iX2_countFrom_X2 kX2_countFrom_2 dX2_countFrom_90 ?_
        refine lv_iload_n hx hb dX2_countFrom_93 rfl (lv_at hl 3 rfl) ?_
        refine ty_iald (v := (S1 11 x3.toNatClampNeg)) X Y 9 640 11 rfl h.1 rfl dX2_countFrom_94 ?_
        have h := h.2
        refine lv_iconst (v := (2 : Int32)) hx hb dX2_countFrom_95 (by decide) ?_
        refine lv_iadd hx hb dX2_countFrom_96 ?_
        refine lv_istore (lv' := [(5, .int ((S1 11 x3.toNatClampNeg) + (2 : Int32))), (4, .int (((S 11 x3.toNatClampNeg) + (2 : Int32)) + r1)), (0, .ref (q 2)), (2, .ref (q 3)), (3, .int x3)]) hx hb dX2_countFrom_97 hl (by decide) rfl (fun ls hl => ?_)
        obtain ⟨n9, h⟩ := h
        exact wlX2_countFrom_99 X ih n9 _ _ _ _ _ _ _ h Y (lv_sub hl [2, 3, 4, 1, 0] rfl)
def lX2_countFrom_24 (K : ty_S → Int32 → Prop)  : Nat → Int32 → Int32 → ty_S → Prop
  | 0, _, _, _ => False
  | n + 1, x4, x5, S => (if x4 ≤ x5 then ∃ n9, lX2_countFrom_51 K  n9 (0 : Int32) S else (vp_in x5 16 ∧ (eX2_visit S (S 7 x5.toNatClampNeg) (fun S4 => lX2_countFrom_24 K  n x4 (x5 + (1 : Int32)) S4))))
set_option maxHeartbeats 4000000 in
set_option maxRecDepth 100000 in
theorem wlX2_countFrom_24 {p : Program} {l : Launch} {e : Env} {s : State} {m : MethodId} {args : Array Value} {below : List Frame} {meth : Method} {c : Code} {D : va_G} {cA : Nat → ClassId} {q : Nat → Nat} {K : ty_S → Int32 → Prop}  (X : ty_X D cA p s m args meth c cX2_countFrom 7 (some .int) wsX2_countFrom RX2)  : ∀ (n : Nat) (x4 : Int32) (x5 : Int32) (S : ty_S) (H : Heap) (locs : List Loc) (ls : Array Slot), lX2_countFrom_24 K  n x4 x5 S → ty_Y D cA q ty_LY S s H locs → lv_has ls 7 [(0, .ref (q 2)), (2, .ref (q 3)), (3, .ref (q 5)), (4, .int x4), (5, .int x5)] → W p l e rX2_countFrom s m args below meth c H locs 0 0 (ty_MI D cA q ty_LY K below args s) (F0 m 24 ls []) := by
  have hx := X.1.1
  have hb := X.1.2.1
  intro n
  induction n with
  | zero =>
    intro x4 x5 S H locs ls h
    exact False.elim h
  | succ n ih =>
    intro x4 x5 S H locs ls h Y hl
    unfold lX2_countFrom_24 at h
    refine lv_iload hx hb dX2_countFrom_24 (lv_at hl 4 rfl) ?_
    refine lv_iload hx hb dX2_countFrom_26 (lv_at hl 3 rfl) ?_
    refine lv_icmp_ge (tgt := 49) hx hb dX2_countFrom_28 (by decide) (fun c9 => ?_) (fun c9 => ?_)
    · have h := ty_t h c9
      refine lv_iconst (v := (0 : Int32)) hx hb dX2_countFrom_49 (by decide) ?_
      refine lv_istore_n (lv' := [(3, .int (0 : Int32)), (0, .ref (q 2)), (2, .ref (q 3)), (4, .int x4), (5, .int x5)]) hx hb dX2_countFrom_50 rfl hl (by decide) rfl (fun ls hl => ?_)
      obtain ⟨n9, h⟩ := h
      exact wlX2_countFrom_51 X  n9 _ _ _ _ _ h Y (lv_sub hl [1, 2, 0] rfl)
    · have h := ty_f h c9
      refine lv_aload_n hx hb dX2_countFrom_31 rfl (lv_at hl 2 rfl) ?_
      refine lv_iload hx hb dX2_countFrom_32 (lv_at hl 4 rfl) ?_
      refine ty_iald (v := (S 7 x5.toNatClampNeg)) X Y 5 16 7 rfl h.1 rfl dX2_countFrom_34 ?_
      have h := h.2
      refine lv_istore (lv' := [(6, .int (S 7 x5.toNatClampNeg)), (0, .ref (q 2)), (2, .ref (q 3)), (3, .ref (q 5)), (4, .int x4), (5, .int x5)]) hx hb dX2_countFrom_35 hl (by decide) rfl (fun ls hl => ?_)
      refine lv_aload_n hx hb dX2_countFrom_37 rfl (lv_at hl 1 rfl) ?_
      refine lv_iload hx hb dX2_countFrom_38 (lv_at hl 0 rfl) ?_
      refine ty_Vv (As := [.int (S 7 x5.toNatClampNeg)]) (b := 2) (rest := []) X Y (cX2_visit_C l D cA q S (S 7 x5.toNatClampNeg) _ h) rfl rfl (fun hts => cwV 1 hts gX2_countFrom_X2_visit rfl rfl rfl (by decide +kernel) ⟨Nat.le_of_ble_eq_true rfl, Nat.le_of_ble_eq_true rfl⟩) rfl hl.1 (Nat.le_of_ble_eq_true rfl) dX2_countFrom_40 ⟨Nat.zero_le _, Nat.zero_le _⟩ (fun S4 H locs h Y => ?_)
      refine lv_iinc (v := (x5 + (1 : Int32))) (lv' := [(5, .int (x5 + (1 : Int32))), (6, .int (S 7 x5.toNatClampNeg)), (0, .ref (q 2)), (2, .ref (q 3)), (3, .ref (q 5)), (4, .int x4)]) hx hb dX2_countFrom_43 hl (k := 5) rfl rfl (by decide) rfl (fun ls hl => ?_)
      refine lv_goto (tgt := 24) hx hb dX2_countFrom_46 (by decide) ?_
      exact ih _ _ _ _ _ _ h Y (lv_sub hl [2, 3, 4, 5, 0] rfl)
def eX2_countFrom (S : ty_S)  (K : ty_S → Int32 → Prop) : Prop :=
  ∃ n9, lX2_countFrom_24 K  n9 (16 : Int32) (0 : Int32) (ty_st (ty_st S 26 0 ((S 26 0) + (1 : Int32))) 25 0 (0 : Int32))
set_option maxHeartbeats 4000000 in
set_option maxRecDepth 100000 in
theorem cX2_countFrom_C (l : Launch) (D : va_G) (cA : Nat → ClassId) (q : Nat → Nat) (S : ty_S)  (K : ty_S → Int32 → Prop) (h : eX2_countFrom S  K) : ∀ sz, Met l yX2_countFrom wsX2_countFrom rX2_countFrom (ty_Pc D cA q ty_LY S sz [.ref (q 2), .ref (q 5), .ref (q 3)]) (ty_Qi D cA q ty_LY sz K) 0 0 (ty_A q ty_LY.length sz) := by
  refine ty_ofM (ret := (some .int)) (maxL := 7) (cc := cX2_countFrom) (own := RX2) (Qc := fun sz => ty_Qi D cA q ty_LY sz K) (by decide +kernel) rfl (Nat.le_of_ble_eq_true rfl) rfl ?_
  intro p e s m args below meth c ls X hl Y
  have hx := X.1.1
  have hb := X.1.2.1
  have hl : lv_has ls 7 [(0, .ref (q 2)), (1, .ref (q 5)), (2, .ref (q 3))] := hl
  unfold eX2_countFrom at h
  refine lv_aload_n hx hb dX2_countFrom_0 rfl (lv_at hl 0 rfl) ?_
  refine lv_dup hx hb dX2_countFrom_1 rfl ?_
  refine tg_X2_round (v := (S 26 0)) X Y iX2_countFrom_X2 kX2_countFrom_0 rfl dX2_countFrom_2 ?_
  refine lv_iconst (v := (1 : Int32)) hx hb dX2_countFrom_5 (by decide) ?_
  refine lv_iadd hx hb dX2_countFrom_6 ?_
  refine tp_X2_round X Y iX2_countFrom_X2 kX2_countFrom_0 dX2_countFrom_7 (fun H locs Y => ?_)
  refine lv_aload_n hx hb dX2_countFrom_10 rfl (lv_at hl 0 rfl) ?_
  refine lv_iconst (v := (0 : Int32)) hx hb dX2_countFrom_11 (by decide) ?_
  refine tp_X2_foundCount X Y iX2_countFrom_X2 kX2_countFrom_1 dX2_countFrom_12 (fun H locs Y => ?_)
  refine lv_aload_n hx hb dX2_countFrom_15 rfl (lv_at hl 1 rfl) ?_
  refine lv_astore_n (lv' := [(3, .ref (q 5)), (0, .ref (q 2)), (1, .ref (q 5)), (2, .ref (q 3))]) hx hb dX2_countFrom_16 rfl hl (by decide) rfl (fun ls hl => ?_)
  refine lv_aload_n hx hb dX2_countFrom_17 rfl (lv_at hl 0 rfl) ?_
  refine ty_alen X Y 5 16 7 rfl (v := (16 : Int32)) (by decide) dX2_countFrom_18 ?_
  refine lv_istore (lv' := [(4, .int (16 : Int32)), (3, .ref (q 5)), (0, .ref (q 2)), (1, .ref (q 5)), (2, .ref (q 3))]) hx hb dX2_countFrom_19 hl (by decide) rfl (fun ls hl => ?_)
  refine lv_iconst (v := (0 : Int32)) hx hb dX2_countFrom_21 (by decide) ?_
  refine lv_istore (lv' := [(5, .int (0 : Int32)), (4, .int (16 : Int32)), (3, .ref (q 5)), (0, .ref (q 2)), (1, .ref (q 5)), (2, .ref (q 3))]) hx hb dX2_countFrom_22 hl (by decide) rfl (fun ls hl => ?_)
  obtain ⟨n9, h⟩ := h
  exact wlX2_countFrom_24 X  n9 _ _ _ _ _ _ h Y (lv_sub hl [3, 5, 2, 1, 0] rfl)
