abbrev rL_length : Room := { frames := 7, cells := 1, slots := 6, locals := 112 }
theorem kL_length_0 : Cond.classLink RL 13 "java/lang/IllegalArgumentException" ∈ wsL_length := ty_m 1 (by decide +kernel)
def eL_length (S : ty_S) (x1 : Int32) (K : ty_S → Int32 → Prop) : Prop :=
  (eX4_length S x1 (fun S1 r1 => (vp_in (0 : Int32) 1 ∧ K (ty_st S1 12 (0 : Int32).toNatClampNeg r1) (0 : Int32))) (fun k9 S9 => if k9 = 0 then False else if k9 = 1 then False else if k9 = 2 then K S9 (1 : Int32) else False))
set_option maxHeartbeats 4000000 in
set_option maxRecDepth 100000 in
theorem cL_length_C (l : Launch) (hst : l.stackTraces = false) (D : va_G) (cA : Nat → ClassId) (q : Nat → Nat) (S : ty_S) (x1 : Int32) (K : ty_S → Int32 → Prop) (h : eL_length S x1 K) : ∀ sz, Met l yL_length wsL_length rL_length (tl_Pc D cA q ty_LY S sz [.ref (q 0), .int x1, .ref (q 17)]) (ty_Qi D cA q ty_LY sz K) 1 6 (ty_A q ty_LY.length sz) := by
  refine tl_ofM hst (ret := (some .int)) (maxL := 4) (cc := cL_length) (own := RL) (hh := [(0, 9, 12, 13)]) (Qc := fun sz => ty_Qi D cA q ty_LY sz K) (by decide +kernel) rfl (Nat.le_of_ble_eq_true rfl) rfl ?_
  intro p e s m args below meth c ls X Z hl Y
  have hx := X.1.1
  have hb := X.1.2.1
  have hl : lv_has ls 4 [(0, .ref (q 0)), (1, .int x1), (2, .ref (q 17))] := hl
  unfold eL_length at h
  refine lv_aload_n hx hb dL_length_0 rfl (lv_at hl 2 rfl) ?_
  refine lv_iconst (v := (0 : Int32)) hx hb dL_length_1 (by decide) ?_
  refine lv_aload_n hx hb dL_length_2 rfl (lv_at hl 0 rfl) ?_
  refine lv_iload_n hx hb dL_length_3 rfl (lv_at hl 1 rfl) ?_
  refine tl_Vi (As := [.int x1]) (b := 0) (rest := [.int (0 : Int32), .ref (q 17)]) X Z Y (cX4_length_C l Z.1 D cA q S x1 _ _ h) rfl rfl (fun hts => cwV 1 hts gL_length_X4_length rfl rfl rfl (by decide +kernel) ⟨Nat.le_of_ble_eq_true rfl, Nat.le_of_ble_eq_true rfl⟩) rfl hl.1 (Nat.le_of_ble_eq_true rfl) dL_length_4 ⟨Nat.le_of_ble_eq_true rfl, Nat.le_of_ble_eq_true rfl⟩ ?_ (fun r1 S1 H locs h Y => ?_)
  · intro k9 S9 H locs q9 h hk3 Y hT
    rcases Decidable.em (k9 = 0) with c0 | c0
    · have h := ty_t h c0
      exact False.elim h
    · have h := ty_f h c0
      rcases Decidable.em (k9 = 1) with c1 | c1
      · have h := ty_t h c1
        exact False.elim h
      · have h := ty_f h c1
        rcases Decidable.em (k9 = 2) with c2 | c2
        · have h := ty_t h c2
          subst c2
          refine tl_catch X Z hk3 hT [] [] ⟨0, 9, 12, 13⟩ rfl ?_ rfl (by decide) kL_length_0 ?_
          · exact fun z hz => absurd hz List.not_mem_nil
          · refine lv_astore_n (lv' := [(3, .ref q9), (0, .ref (q 0)), (1, .int x1), (2, .ref (q 17))]) hx hb dL_length_12 rfl hl (by decide) rfl (fun ls hl => ?_)
            refine lv_iconst (v := (1 : Int32)) hx hb dL_length_13 (by decide) ?_
            exact tl_iret1 X Y h dL_length_14
        · have h := ty_f h c2
          exact False.elim h
  · refine lv_i2l (v := r1.toInt64) hx hb dL_length_7 rfl ?_
    refine ty_last X Y 17 1 12 rfl (by decide) h.1 dL_length_8 (fun H locs Y => ?_)
    have h := h.2
    refine lv_goto (tgt := 15) hx hb dL_length_9 (by decide) ?_
    refine lv_iconst (v := (0 : Int32)) hx hb dL_length_15 (by decide) ?_
    exact tl_iret X Y h dL_length_16

abbrev rL_make : Room := { frames := 8, cells := 1, slots := 6, locals := 197 }
theorem kL_make_0 : Cond.classLink RL 19 "java/lang/IndexOutOfBoundsException" ∈ wsL_make := ty_m 1 (by decide +kernel)
theorem kL_make_1 : Cond.classLink RL 13 "java/lang/IllegalArgumentException" ∈ wsL_make := ty_m 2 (by decide +kernel)
def eL_make (S : ty_S) (x1 : Int32) (x2 : Int32) (x3 : Int32) (K : ty_S → Int32 → Prop) : Prop :=
  (eX4_make S x1 x2 x3 (fun S1 r1 => (vp_in (0 : Int32) 1 ∧ K (ty_st S1 12 (0 : Int32).toNatClampNeg r1) (0 : Int32))) (fun k9 S9 => if k9 = 0 then K S9 (1 : Int32) else if k9 = 1 then False else if k9 = 2 then K S9 (2 : Int32) else False))
set_option maxHeartbeats 4000000 in
set_option maxRecDepth 100000 in
theorem cL_make_C (l : Launch) (hst : l.stackTraces = false) (D : va_G) (cA : Nat → ClassId) (q : Nat → Nat) (S : ty_S) (x1 : Int32) (x2 : Int32) (x3 : Int32) (K : ty_S → Int32 → Prop) (h : eL_make S x1 x2 x3 K) : ∀ sz, Met l yL_make wsL_make rL_make (tl_Pc D cA q ty_LY S sz [.ref (q 0), .int x1, .int x2, .int x3, .ref (q 17)]) (ty_Qi D cA q ty_LY sz K) 1 6 (ty_A q ty_LY.length sz) := by
  refine tl_ofM hst (ret := (some .int)) (maxL := 6) (cc := cL_make) (own := RL) (hh := [(0, 12, 15, 19), (0, 12, 19, 13)]) (Qc := fun sz => ty_Qi D cA q ty_LY sz K) (by decide +kernel) rfl (Nat.le_of_ble_eq_true rfl) rfl ?_
  intro p e s m args below meth c ls X Z hl Y
  have hx := X.1.1
  have hb := X.1.2.1
  have hl : lv_has ls 6 [(0, .ref (q 0)), (1, .int x1), (2, .int x2), (3, .int x3), (4, .ref (q 17))] := hl
  unfold eL_make at h
  refine lv_aload hx hb dL_make_0 (lv_at hl 4 rfl) ?_
  refine lv_iconst (v := (0 : Int32)) hx hb dL_make_2 (by decide) ?_
  refine lv_aload_n hx hb dL_make_3 rfl (lv_at hl 0 rfl) ?_
  refine lv_iload_n hx hb dL_make_4 rfl (lv_at hl 1 rfl) ?_
  refine lv_iload_n hx hb dL_make_5 rfl (lv_at hl 2 rfl) ?_
  refine lv_iload_n hx hb dL_make_6 rfl (lv_at hl 3 rfl) ?_
  refine tl_Vi (As := [.int x1, .int x2, .int x3]) (b := 0) (rest := [.int (0 : Int32), .ref (q 17)]) X Z Y (cX4_make_C l Z.1 D cA q S x1 x2 x3 _ _ h) rfl rfl (fun hts => cwV 3 hts gL_make_X4_make rfl rfl rfl (by decide +kernel) ⟨Nat.le_of_ble_eq_true rfl, Nat.le_of_ble_eq_true rfl⟩) rfl hl.1 (Nat.le_of_ble_eq_true rfl) dL_make_7 ⟨Nat.le_of_ble_eq_true rfl, Nat.le_of_ble_eq_true rfl⟩ ?_ (fun r1 S1 H locs h Y => ?_)
  · intro k9 S9 H locs q9 h hk3 Y hT
    rcases Decidable.em (k9 = 0) with c0 | c0
    · have h := ty_t h c0
      subst c0
      refine tl_catch X Z hk3 hT [] [⟨0, 12, 19, 13⟩] ⟨0, 12, 15, 19⟩ rfl ?_ rfl (by decide) kL_make_0 ?_
      · exact fun z hz => absurd hz List.not_mem_nil
      · refine lv_astore (lv' := [(5, .ref q9), (0, .ref (q 0)), (1, .int x1), (2, .int x2), (3, .int x3), (4, .ref (q 17))]) hx hb dL_make_15 hl (by decide) rfl (fun ls hl => ?_)
        refine lv_iconst (v := (1 : Int32)) hx hb dL_make_17 (by decide) ?_
        exact tl_iret1 X Y h dL_make_18
    · have h := ty_f h c0
      rcases Decidable.em (k9 = 1) with c1 | c1
      · have h := ty_t h c1
        exact False.elim h
      · have h := ty_f h c1
        rcases Decidable.em (k9 = 2) with c2 | c2
        · have h := ty_t h c2
          subst c2
          refine tl_catch X Z hk3 hT [⟨0, 12, 15, 19⟩] [] ⟨0, 12, 19, 13⟩ rfl ?_ rfl (by decide) kL_make_1 ?_
          · intro z hz
            have hz : z = ⟨0, 12, 15, 19⟩ := by simpa using hz
            rcases hz with rfl
            exact ⟨by decide, 0, by decide, by decide, kL_make_0⟩
          · refine lv_astore (lv' := [(5, .ref q9), (0, .ref (q 0)), (1, .int x1), (2, .int x2), (3, .int x3), (4, .ref (q 17))]) hx hb dL_make_19 hl (by decide) rfl (fun ls hl => ?_)
            refine lv_iconst (v := (2 : Int32)) hx hb dL_make_21 (by decide) ?_
            exact tl_iret1 X Y h dL_make_22
        · have h := ty_f h c2
          exact False.elim h
  · refine lv_i2l (v := r1.toInt64) hx hb dL_make_10 rfl ?_
    refine ty_last X Y 17 1 12 rfl (by decide) h.1 dL_make_11 (fun H locs Y => ?_)
    have h := h.2
    refine lv_goto (tgt := 23) hx hb dL_make_12 (by decide) ?_
    refine lv_iconst (v := (0 : Int32)) hx hb dL_make_23 (by decide) ?_
    exact tl_iret X Y h dL_make_24

abbrev rL_copy : Room := { frames := 8, cells := 1, slots := 6, locals := 132 }
theorem kL_copy_0 : Cond.classLink RL 19 "java/lang/IndexOutOfBoundsException" ∈ wsL_copy := ty_m 1 (by decide +kernel)
def eL_copy (S : ty_S) (x1 : Int32) (x2 : Int32) (K : ty_S → Int32 → Prop) : Prop :=
  (eX4_copy S x1 x2 (fun S1 r1 => (vp_in (0 : Int32) 1 ∧ K (ty_st S1 12 (0 : Int32).toNatClampNeg r1) (0 : Int32))) (fun k9 S9 => if k9 = 0 then K S9 (1 : Int32) else if k9 = 1 then False else if k9 = 2 then False else False))
set_option maxHeartbeats 4000000 in
set_option maxRecDepth 100000 in
theorem cL_copy_C (l : Launch) (hst : l.stackTraces = false) (D : va_G) (cA : Nat → ClassId) (q : Nat → Nat) (S : ty_S) (x1 : Int32) (x2 : Int32) (K : ty_S → Int32 → Prop) (h : eL_copy S x1 x2 K) : ∀ sz, Met l yL_copy wsL_copy rL_copy (tl_Pc D cA q ty_LY S sz [.ref (q 0), .int x1, .int x2, .ref (q 17)]) (ty_Qi D cA q ty_LY sz K) 1 6 (ty_A q ty_LY.length sz) := by
  refine tl_ofM hst (ret := (some .int)) (maxL := 5) (cc := cL_copy) (own := RL) (hh := [(0, 10, 13, 19)]) (Qc := fun sz => ty_Qi D cA q ty_LY sz K) (by decide +kernel) rfl (Nat.le_of_ble_eq_true rfl) rfl ?_
  intro p e s m args below meth c ls X Z hl Y
  have hx := X.1.1
  have hb := X.1.2.1
  have hl : lv_has ls 5 [(0, .ref (q 0)), (1, .int x1), (2, .int x2), (3, .ref (q 17))] := hl
  unfold eL_copy at h
  refine lv_aload_n hx hb dL_copy_0 rfl (lv_at hl 3 rfl) ?_
  refine lv_iconst (v := (0 : Int32)) hx hb dL_copy_1 (by decide) ?_
  refine lv_aload_n hx hb dL_copy_2 rfl (lv_at hl 0 rfl) ?_
  refine lv_iload_n hx hb dL_copy_3 rfl (lv_at hl 1 rfl) ?_
  refine lv_iload_n hx hb dL_copy_4 rfl (lv_at hl 2 rfl) ?_
  refine tl_Vi (As := [.int x1, .int x2]) (b := 0) (rest := [.int (0 : Int32), .ref (q 17)]) X Z Y (cX4_copy_C l Z.1 D cA q S x1 x2 _ _ h) rfl rfl (fun hts => cwV 2 hts gL_copy_X4_copy rfl rfl rfl (by decide +kernel) ⟨Nat.le_of_ble_eq_true rfl, Nat.le_of_ble_eq_true rfl⟩) rfl hl.1 (Nat.le_of_ble_eq_true rfl) dL_copy_5 ⟨Nat.le_of_ble_eq_true rfl, Nat.le_of_ble_eq_true rfl⟩ ?_ (fun r1 S1 H locs h Y => ?_)
  · intro k9 S9 H locs q9 h hk3 Y hT
    rcases Decidable.em (k9 = 0) with c0 | c0
    · have h := ty_t h c0
      subst c0
      refine tl_catch X Z hk3 hT [] [] ⟨0, 10, 13, 19⟩ rfl ?_ rfl (by decide) kL_copy_0 ?_
      · exact fun z hz => absurd hz List.not_mem_nil
      · refine lv_astore (lv' := [(4, .ref q9), (0, .ref (q 0)), (1, .int x1), (2, .int x2), (3, .ref (q 17))]) hx hb dL_copy_13 hl (by decide) rfl (fun ls hl => ?_)
        refine lv_iconst (v := (1 : Int32)) hx hb dL_copy_15 (by decide) ?_
        exact tl_iret1 X Y h dL_copy_16
    · have h := ty_f h c0
      rcases Decidable.em (k9 = 1) with c1 | c1
      · have h := ty_t h c1
        exact False.elim h
      · have h := ty_f h c1
        rcases Decidable.em (k9 = 2) with c2 | c2
        · have h := ty_t h c2
          exact False.elim h
        · have h := ty_f h c2
          exact False.elim h
  · refine lv_i2l (v := r1.toInt64) hx hb dL_copy_8 rfl ?_
    refine ty_last X Y 17 1 12 rfl (by decide) h.1 dL_copy_9 (fun H locs Y => ?_)
    have h := h.2
    refine lv_goto (tgt := 17) hx hb dL_copy_10 (by decide) ?_
    refine lv_iconst (v := (0 : Int32)) hx hb dL_copy_17 (by decide) ?_
    exact tl_iret X Y h dL_copy_18

abbrev rL_drop : Room := { frames := 8, cells := 1, slots := 6, locals := 132 }
theorem kL_drop_0 : Cond.classLink RL 19 "java/lang/IndexOutOfBoundsException" ∈ wsL_drop := ty_m 1 (by decide +kernel)
def eL_drop (S : ty_S) (x1 : Int32) (K : ty_S → Int32 → Prop) : Prop :=
  (eX4_drop S x1 (fun S1 r1 => (vp_in (0 : Int32) 1 ∧ K (ty_st S1 12 (0 : Int32).toNatClampNeg r1) (0 : Int32))) (fun k9 S9 => if k9 = 0 then K S9 (1 : Int32) else if k9 = 1 then False else if k9 = 2 then False else False))
set_option maxHeartbeats 4000000 in
set_option maxRecDepth 100000 in
theorem cL_drop_C (l : Launch) (hst : l.stackTraces = false) (D : va_G) (cA : Nat → ClassId) (q : Nat → Nat) (S : ty_S) (x1 : Int32) (K : ty_S → Int32 → Prop) (h : eL_drop S x1 K) : ∀ sz, Met l yL_drop wsL_drop rL_drop (tl_Pc D cA q ty_LY S sz [.ref (q 0), .int x1, .ref (q 17)]) (ty_Qi D cA q ty_LY sz K) 1 6 (ty_A q ty_LY.length sz) := by
  refine tl_ofM hst (ret := (some .int)) (maxL := 4) (cc := cL_drop) (own := RL) (hh := [(0, 9, 12, 19)]) (Qc := fun sz => ty_Qi D cA q ty_LY sz K) (by decide +kernel) rfl (Nat.le_of_ble_eq_true rfl) rfl ?_
  intro p e s m args below meth c ls X Z hl Y
  have hx := X.1.1
  have hb := X.1.2.1
  have hl : lv_has ls 4 [(0, .ref (q 0)), (1, .int x1), (2, .ref (q 17))] := hl
  unfold eL_drop at h
  refine lv_aload_n hx hb dL_drop_0 rfl (lv_at hl 2 rfl) ?_
  refine lv_iconst (v := (0 : Int32)) hx hb dL_drop_1 (by decide) ?_
  refine lv_aload_n hx hb dL_drop_2 rfl (lv_at hl 0 rfl) ?_
  refine lv_iload_n hx hb dL_drop_3 rfl (lv_at hl 1 rfl) ?_
  refine tl_Vi (As := [.int x1]) (b := 0) (rest := [.int (0 : Int32), .ref (q 17)]) X Z Y (cX4_drop_C l Z.1 D cA q S x1 _ _ h) rfl rfl (fun hts => cwV 1 hts gL_drop_X4_drop rfl rfl rfl (by decide +kernel) ⟨Nat.le_of_ble_eq_true rfl, Nat.le_of_ble_eq_true rfl⟩) rfl hl.1 (Nat.le_of_ble_eq_true rfl) dL_drop_4 ⟨Nat.le_of_ble_eq_true rfl, Nat.le_of_ble_eq_true rfl⟩ ?_ (fun r1 S1 H locs h Y => ?_)
  · intro k9 S9 H locs q9 h hk3 Y hT
    rcases Decidable.em (k9 = 0) with c0 | c0
    · have h := ty_t h c0
      subst c0
      refine tl_catch X Z hk3 hT [] [] ⟨0, 9, 12, 19⟩ rfl ?_ rfl (by decide) kL_drop_0 ?_
      · exact fun z hz => absurd hz List.not_mem_nil
      · refine lv_astore_n (lv' := [(3, .ref q9), (0, .ref (q 0)), (1, .int x1), (2, .ref (q 17))]) hx hb dL_drop_12 rfl hl (by decide) rfl (fun ls hl => ?_)
        refine lv_iconst (v := (1 : Int32)) hx hb dL_drop_13 (by decide) ?_
        exact tl_iret1 X Y h dL_drop_14
    · have h := ty_f h c0
      rcases Decidable.em (k9 = 1) with c1 | c1
      · have h := ty_t h c1
        exact False.elim h
      · have h := ty_f h c1
        rcases Decidable.em (k9 = 2) with c2 | c2
        · have h := ty_t h c2
          exact False.elim h
        · have h := ty_f h c2
          exact False.elim h
  · refine lv_i2l (v := r1.toInt64) hx hb dL_drop_7 rfl ?_
    refine ty_last X Y 17 1 12 rfl (by decide) h.1 dL_drop_8 (fun H locs Y => ?_)
    have h := h.2
    refine lv_goto (tgt := 15) hx hb dL_drop_9 (by decide) ?_
    refine lv_iconst (v := (0 : Int32)) hx hb dL_drop_15 (by decide) ?_
    exact tl_iret X Y h dL_drop_16

abbrev rL_set : Room := { frames := 10, cells := 1, slots := 6, locals := 180 }
theorem kL_set_0 : Cond.classLink RL 19 "java/lang/IndexOutOfBoundsException" ∈ wsL_set := ty_m 1 (by decide +kernel)
theorem kL_set_1 : Cond.classLink RL 31 "java/lang/IllegalStateException" ∈ wsL_set := ty_m 2 (by decide +kernel)
theorem kL_set_2 : Cond.classLink RL 13 "java/lang/IllegalArgumentException" ∈ wsL_set := ty_m 3 (by decide +kernel)
def eL_set (S : ty_S) (x1 : Int32) (x2 : Int32) (x3 : Int32) (K : ty_S → Int32 → Prop) : Prop :=
  (eX4_set S x1 x2 x3 (fun S1 r1 => (vp_in (0 : Int32) 1 ∧ K (ty_st S1 12 (0 : Int32).toNatClampNeg r1) (0 : Int32))) (fun k9 S9 => if k9 = 0 then K S9 (1 : Int32) else if k9 = 1 then K S9 (2 : Int32) else if k9 = 2 then K S9 (3 : Int32) else False))
set_option maxHeartbeats 4000000 in
set_option maxRecDepth 100000 in
theorem cL_set_C (l : Launch) (hst : l.stackTraces = false) (D : va_G) (cA : Nat → ClassId) (q : Nat → Nat) (S : ty_S) (x1 : Int32) (x2 : Int32) (x3 : Int32) (K : ty_S → Int32 → Prop) (h : eL_set S x1 x2 x3 K) : ∀ sz, Met l yL_set wsL_set rL_set (tl_Pc D cA q ty_LY S sz [.ref (q 0), .int x1, .int x2, .int x3, .ref (q 17)]) (ty_Qi D cA q ty_LY sz K) 1 6 (ty_A q ty_LY.length sz) := by
  refine tl_ofM hst (ret := (some .int)) (maxL := 6) (cc := cL_set) (own := RL) (hh := [(0, 12, 15, 19), (0, 12, 19, 31), (0, 12, 23, 13)]) (Qc := fun sz => ty_Qi D cA q ty_LY sz K) (by decide +kernel) rfl (Nat.le_of_ble_eq_true rfl) rfl ?_
  intro p e s m args below meth c ls X Z hl Y
  have hx := X.1.1
  have hb := X.1.2.1
  have hl : lv_has ls 6 [(0, .ref (q 0)), (1, .int x1), (2, .int x2), (3, .int x3), (4, .ref (q 17))] := hl
  unfold eL_set at h
  refine lv_aload hx hb dL_set_0 (lv_at hl 4 rfl) ?_
  refine lv_iconst (v := (0 : Int32)) hx hb dL_set_2 (by decide) ?_
  refine lv_aload_n hx hb dL_set_3 rfl (lv_at hl 0 rfl) ?_
  refine lv_iload_n hx hb dL_set_4 rfl (lv_at hl 1 rfl) ?_
  refine lv_iload_n hx hb dL_set_5 rfl (lv_at hl 2 rfl) ?_
  refine lv_iload_n hx hb dL_set_6 rfl (lv_at hl 3 rfl) ?_
  refine tl_Vi (As := [.int x1, .int x2, .int x3]) (b := 0) (rest := [.int (0 : Int32), .ref (q 17)]) X Z Y (cX4_set_C l Z.1 D cA q S x1 x2 x3 _ _ h) rfl rfl (fun hts => cwV 3 hts gL_set_X4_set rfl rfl rfl (by decide +kernel) ⟨Nat.le_of_ble_eq_true rfl, Nat.le_of_ble_eq_true rfl⟩) rfl hl.1 (Nat.le_of_ble_eq_true rfl) dL_set_7 ⟨Nat.le_of_ble_eq_true rfl, Nat.le_of_ble_eq_true rfl⟩ ?_ (fun r1 S1 H locs h Y => ?_)
  · intro k9 S9 H locs q9 h hk3 Y hT
    rcases Decidable.em (k9 = 0) with c0 | c0
    · have h := ty_t h c0
      subst c0
      refine tl_catch X Z hk3 hT [] [⟨0, 12, 19, 31⟩, ⟨0, 12, 23, 13⟩] ⟨0, 12, 15, 19⟩ rfl ?_ rfl (by decide) kL_set_0 ?_
      · exact fun z hz => absurd hz List.not_mem_nil
      · refine lv_astore (lv' := [(5, .ref q9), (0, .ref (q 0)), (1, .int x1), (2, .int x2), (3, .int x3), (4, .ref (q 17))]) hx hb dL_set_15 hl (by decide) rfl (fun ls hl => ?_)
        refine lv_iconst (v := (1 : Int32)) hx hb dL_set_17 (by decide) ?_
        exact tl_iret1 X Y h dL_set_18
    · have h := ty_f h c0
      rcases Decidable.em (k9 = 1) with c1 | c1
      · have h := ty_t h c1
        subst c1
        refine tl_catch X Z hk3 hT [⟨0, 12, 15, 19⟩] [⟨0, 12, 23, 13⟩] ⟨0, 12, 19, 31⟩ rfl ?_ rfl (by decide) kL_set_1 ?_
        · intro z hz
          have hz : z = ⟨0, 12, 15, 19⟩ := by simpa using hz
          rcases hz with rfl
          exact ⟨by decide, 0, by decide, by decide, kL_set_0⟩
        · refine lv_astore (lv' := [(5, .ref q9), (0, .ref (q 0)), (1, .int x1), (2, .int x2), (3, .int x3), (4, .ref (q 17))]) hx hb dL_set_19 hl (by decide) rfl (fun ls hl => ?_)
          refine lv_iconst (v := (2 : Int32)) hx hb dL_set_21 (by decide) ?_
          exact tl_iret1 X Y h dL_set_22
      · have h := ty_f h c1
        rcases Decidable.em (k9 = 2) with c2 | c2
        · have h := ty_t h c2
          subst c2
          refine tl_catch X Z hk3 hT [⟨0, 12, 15, 19⟩, ⟨0, 12, 19, 31⟩] [] ⟨0, 12, 23, 13⟩ rfl ?_ rfl (by decide) kL_set_2 ?_
          · intro z hz
            have hz : z = ⟨0, 12, 15, 19⟩ ∨ z = ⟨0, 12, 19, 31⟩ := by simpa using hz
            rcases hz with rfl | rfl
            · exact ⟨by decide, 0, by decide, by decide, kL_set_0⟩
            · exact ⟨by decide, 1, by decide, by decide, kL_set_1⟩
          · refine lv_astore (lv' := [(5, .ref q9), (0, .ref (q 0)), (1, .int x1), (2, .int x2), (3, .int x3), (4, .ref (q 17))]) hx hb dL_set_23 hl (by decide) rfl (fun ls hl => ?_)
            refine lv_iconst (v := (3 : Int32)) hx hb dL_set_25 (by decide) ?_
            exact tl_iret1 X Y h dL_set_26
        · have h := ty_f h c2
          exact False.elim h
  · refine lv_i2l (v := r1.toInt64) hx hb dL_set_10 rfl ?_
    refine ty_last X Y 17 1 12 rfl (by decide) h.1 dL_set_11 (fun H locs Y => ?_)
    have h := h.2
    refine lv_goto (tgt := 27) hx hb dL_set_12 (by decide) ?_
    refine lv_iconst (v := (0 : Int32)) hx hb dL_set_27 (by decide) ?_
    exact tl_iret X Y h dL_set_28

abbrev rL_get : Room := { frames := 10, cells := 1, slots := 6, locals := 179 }
theorem kL_get_0 : Cond.classLink RL 19 "java/lang/IndexOutOfBoundsException" ∈ wsL_get := ty_m 1 (by decide +kernel)
theorem kL_get_1 : Cond.classLink RL 31 "java/lang/IllegalStateException" ∈ wsL_get := ty_m 2 (by decide +kernel)
theorem kL_get_2 : Cond.classLink RL 13 "java/lang/IllegalArgumentException" ∈ wsL_get := ty_m 3 (by decide +kernel)
def eL_get (S : ty_S) (x1 : Int32) (x2 : Int32) (x3 : Int32) (K : ty_S → Int32 → Prop) : Prop :=
  (eX4_get S x1 x2 x3 (fun S1 r1 => (vp_in (0 : Int32) 1 ∧ K (ty_st S1 12 (0 : Int32).toNatClampNeg r1) (0 : Int32))) (fun k9 S9 => if k9 = 0 then K S9 (1 : Int32) else if k9 = 1 then K S9 (2 : Int32) else if k9 = 2 then K S9 (3 : Int32) else False))
set_option maxHeartbeats 4000000 in
set_option maxRecDepth 100000 in
theorem cL_get_C (l : Launch) (hst : l.stackTraces = false) (D : va_G) (cA : Nat → ClassId) (q : Nat → Nat) (S : ty_S) (x1 : Int32) (x2 : Int32) (x3 : Int32) (K : ty_S → Int32 → Prop) (h : eL_get S x1 x2 x3 K) : ∀ sz, Met l yL_get wsL_get rL_get (tl_Pc D cA q ty_LY S sz [.ref (q 0), .int x1, .int x2, .int x3, .ref (q 17)]) (ty_Qi D cA q ty_LY sz K) 1 6 (ty_A q ty_LY.length sz) := by
  refine tl_ofM hst (ret := (some .int)) (maxL := 6) (cc := cL_get) (own := RL) (hh := [(0, 12, 15, 19), (0, 12, 19, 31), (0, 12, 23, 13)]) (Qc := fun sz => ty_Qi D cA q ty_LY sz K) (by decide +kernel) rfl (Nat.le_of_ble_eq_true rfl) rfl ?_
  intro p e s m args below meth c ls X Z hl Y
  have hx := X.1.1
  have hb := X.1.2.1
  have hl : lv_has ls 6 [(0, .ref (q 0)), (1, .int x1), (2, .int x2), (3, .int x3), (4, .ref (q 17))] := hl
  unfold eL_get at h
  refine lv_aload hx hb dL_get_0 (lv_at hl 4 rfl) ?_
  refine lv_iconst (v := (0 : Int32)) hx hb dL_get_2 (by decide) ?_
  refine lv_aload_n hx hb dL_get_3 rfl (lv_at hl 0 rfl) ?_
  refine lv_iload_n hx hb dL_get_4 rfl (lv_at hl 1 rfl) ?_
  refine lv_iload_n hx hb dL_get_5 rfl (lv_at hl 2 rfl) ?_
  refine lv_iload_n hx hb dL_get_6 rfl (lv_at hl 3 rfl) ?_
  refine tl_Vi (As := [.int x1, .int x2, .int x3]) (b := 0) (rest := [.int (0 : Int32), .ref (q 17)]) X Z Y (cX4_get_C l Z.1 D cA q S x1 x2 x3 _ _ h) rfl rfl (fun hts => cwV 3 hts gL_get_X4_get rfl rfl rfl (by decide +kernel) ⟨Nat.le_of_ble_eq_true rfl, Nat.le_of_ble_eq_true rfl⟩) rfl hl.1 (Nat.le_of_ble_eq_true rfl) dL_get_7 ⟨Nat.le_of_ble_eq_true rfl, Nat.le_of_ble_eq_true rfl⟩ ?_ (fun r1 S1 H locs h Y => ?_)
  · intro k9 S9 H locs q9 h hk3 Y hT
    rcases Decidable.em (k9 = 0) with c0 | c0
    · have h := ty_t h c0
      subst c0
      refine tl_catch X Z hk3 hT [] [⟨0, 12, 19, 31⟩, ⟨0, 12, 23, 13⟩] ⟨0, 12, 15, 19⟩ rfl ?_ rfl (by decide) kL_get_0 ?_
      · exact fun z hz => absurd hz List.not_mem_nil
      · refine lv_astore (lv' := [(5, .ref q9), (0, .ref (q 0)), (1, .int x1), (2, .int x2), (3, .int x3), (4, .ref (q 17))]) hx hb dL_get_15 hl (by decide) rfl (fun ls hl => ?_)
        refine lv_iconst (v := (1 : Int32)) hx hb dL_get_17 (by decide) ?_
        exact tl_iret1 X Y h dL_get_18
    · have h := ty_f h c0
      rcases Decidable.em (k9 = 1) with c1 | c1
      · have h := ty_t h c1
        subst c1
        refine tl_catch X Z hk3 hT [⟨0, 12, 15, 19⟩] [⟨0, 12, 23, 13⟩] ⟨0, 12, 19, 31⟩ rfl ?_ rfl (by decide) kL_get_1 ?_
        · intro z hz
          have hz : z = ⟨0, 12, 15, 19⟩ := by simpa using hz
          rcases hz with rfl
          exact ⟨by decide, 0, by decide, by decide, kL_get_0⟩
        · refine lv_astore (lv' := [(5, .ref q9), (0, .ref (q 0)), (1, .int x1), (2, .int x2), (3, .int x3), (4, .ref (q 17))]) hx hb dL_get_19 hl (by decide) rfl (fun ls hl => ?_)
          refine lv_iconst (v := (2 : Int32)) hx hb dL_get_21 (by decide) ?_
          exact tl_iret1 X Y h dL_get_22
      · have h := ty_f h c1
        rcases Decidable.em (k9 = 2) with c2 | c2
        · have h := ty_t h c2
          subst c2
          refine tl_catch X Z hk3 hT [⟨0, 12, 15, 19⟩, ⟨0, 12, 19, 31⟩] [] ⟨0, 12, 23, 13⟩ rfl ?_ rfl (by decide) kL_get_2 ?_
          · intro z hz
            have hz : z = ⟨0, 12, 15, 19⟩ ∨ z = ⟨0, 12, 19, 31⟩ := by simpa using hz
            rcases hz with rfl | rfl
            · exact ⟨by decide, 0, by decide, by decide, kL_get_0⟩
            · exact ⟨by decide, 1, by decide, by decide, kL_get_1⟩
          · refine lv_astore (lv' := [(5, .ref q9), (0, .ref (q 0)), (1, .int x1), (2, .int x2), (3, .int x3), (4, .ref (q 17))]) hx hb dL_get_23 hl (by decide) rfl (fun ls hl => ?_)
            refine lv_iconst (v := (3 : Int32)) hx hb dL_get_25 (by decide) ?_
            exact tl_iret1 X Y h dL_get_26
        · have h := ty_f h c2
          exact False.elim h
  · refine lv_i2l (v := r1.toInt64) hx hb dL_get_10 rfl ?_
    refine ty_last X Y 17 1 12 rfl (by decide) h.1 dL_get_11 (fun H locs Y => ?_)
    have h := h.2
    refine lv_goto (tgt := 27) hx hb dL_get_12 (by decide) ?_
    refine lv_iconst (v := (0 : Int32)) hx hb dL_get_27 (by decide) ?_
    exact tl_iret X Y h dL_get_28

abbrev rL_put : Room := { frames := 10, cells := 1, slots := 6, locals := 180 }
theorem kL_put_0 : Cond.classLink RL 19 "java/lang/IndexOutOfBoundsException" ∈ wsL_put := ty_m 1 (by decide +kernel)
theorem kL_put_1 : Cond.classLink RL 31 "java/lang/IllegalStateException" ∈ wsL_put := ty_m 2 (by decide +kernel)
theorem kL_put_2 : Cond.classLink RL 13 "java/lang/IllegalArgumentException" ∈ wsL_put := ty_m 3 (by decide +kernel)
def eL_put (S : ty_S) (x1 : Int32) (x2 : Int32) (x3 : Int32) (K : ty_S → Int32 → Prop) : Prop :=
  (eX4_put S x1 x2 x3 (fun S1 r1 => (vp_in (0 : Int32) 1 ∧ K (ty_st S1 12 (0 : Int32).toNatClampNeg r1) (0 : Int32))) (fun k9 S9 => if k9 = 0 then K S9 (1 : Int32) else if k9 = 1 then K S9 (2 : Int32) else if k9 = 2 then K S9 (3 : Int32) else False))
set_option maxHeartbeats 4000000 in
set_option maxRecDepth 100000 in
theorem cL_put_C (l : Launch) (hst : l.stackTraces = false) (D : va_G) (cA : Nat → ClassId) (q : Nat → Nat) (S : ty_S) (x1 : Int32) (x2 : Int32) (x3 : Int32) (K : ty_S → Int32 → Prop) (h : eL_put S x1 x2 x3 K) : ∀ sz, Met l yL_put wsL_put rL_put (tl_Pc D cA q ty_LY S sz [.ref (q 0), .int x1, .int x2, .int x3, .ref (q 17)]) (ty_Qi D cA q ty_LY sz K) 1 6 (ty_A q ty_LY.length sz) := by
  refine tl_ofM hst (ret := (some .int)) (maxL := 6) (cc := cL_put) (own := RL) (hh := [(0, 12, 15, 19), (0, 12, 19, 31), (0, 12, 23, 13)]) (Qc := fun sz => ty_Qi D cA q ty_LY sz K) (by decide +kernel) rfl (Nat.le_of_ble_eq_true rfl) rfl ?_
  intro p e s m args below meth c ls X Z hl Y
  have hx := X.1.1
  have hb := X.1.2.1
  have hl : lv_has ls 6 [(0, .ref (q 0)), (1, .int x1), (2, .int x2), (3, .int x3), (4, .ref (q 17))] := hl
  unfold eL_put at h
  refine lv_aload hx hb dL_put_0 (lv_at hl 4 rfl) ?_
  refine lv_iconst (v := (0 : Int32)) hx hb dL_put_2 (by decide) ?_
  refine lv_aload_n hx hb dL_put_3 rfl (lv_at hl 0 rfl) ?_
  refine lv_iload_n hx hb dL_put_4 rfl (lv_at hl 1 rfl) ?_
  refine lv_iload_n hx hb dL_put_5 rfl (lv_at hl 2 rfl) ?_
  refine lv_iload_n hx hb dL_put_6 rfl (lv_at hl 3 rfl) ?_
  refine tl_Vi (As := [.int x1, .int x2, .int x3]) (b := 0) (rest := [.int (0 : Int32), .ref (q 17)]) X Z Y (cX4_put_C l Z.1 D cA q S x1 x2 x3 _ _ h) rfl rfl (fun hts => cwV 3 hts gL_put_X4_put rfl rfl rfl (by decide +kernel) ⟨Nat.le_of_ble_eq_true rfl, Nat.le_of_ble_eq_true rfl⟩) rfl hl.1 (Nat.le_of_ble_eq_true rfl) dL_put_7 ⟨Nat.le_of_ble_eq_true rfl, Nat.le_of_ble_eq_true rfl⟩ ?_ (fun r1 S1 H locs h Y => ?_)
  · intro k9 S9 H locs q9 h hk3 Y hT
    rcases Decidable.em (k9 = 0) with c0 | c0
    · have h := ty_t h c0
      subst c0
      refine tl_catch X Z hk3 hT [] [⟨0, 12, 19, 31⟩, ⟨0, 12, 23, 13⟩] ⟨0, 12, 15, 19⟩ rfl ?_ rfl (by decide) kL_put_0 ?_
      · exact fun z hz => absurd hz List.not_mem_nil
      · refine lv_astore (lv' := [(5, .ref q9), (0, .ref (q 0)), (1, .int x1), (2, .int x2), (3, .int x3), (4, .ref (q 17))]) hx hb dL_put_15 hl (by decide) rfl (fun ls hl => ?_)
        refine lv_iconst (v := (1 : Int32)) hx hb dL_put_17 (by decide) ?_
        exact tl_iret1 X Y h dL_put_18
    · have h := ty_f h c0
      rcases Decidable.em (k9 = 1) with c1 | c1
      · have h := ty_t h c1
        subst c1
        refine tl_catch X Z hk3 hT [⟨0, 12, 15, 19⟩] [⟨0, 12, 23, 13⟩] ⟨0, 12, 19, 31⟩ rfl ?_ rfl (by decide) kL_put_1 ?_
        · intro z hz
          have hz : z = ⟨0, 12, 15, 19⟩ := by simpa using hz
          rcases hz with rfl
          exact ⟨by decide, 0, by decide, by decide, kL_put_0⟩
        · refine lv_astore (lv' := [(5, .ref q9), (0, .ref (q 0)), (1, .int x1), (2, .int x2), (3, .int x3), (4, .ref (q 17))]) hx hb dL_put_19 hl (by decide) rfl (fun ls hl => ?_)
          refine lv_iconst (v := (2 : Int32)) hx hb dL_put_21 (by decide) ?_
          exact tl_iret1 X Y h dL_put_22
      · have h := ty_f h c1
        rcases Decidable.em (k9 = 2) with c2 | c2
        · have h := ty_t h c2
          subst c2
          refine tl_catch X Z hk3 hT [⟨0, 12, 15, 19⟩, ⟨0, 12, 19, 31⟩] [] ⟨0, 12, 23, 13⟩ rfl ?_ rfl (by decide) kL_put_2 ?_
          · intro z hz
            have hz : z = ⟨0, 12, 15, 19⟩ ∨ z = ⟨0, 12, 19, 31⟩ := by simpa using hz
            rcases hz with rfl | rfl
            · exact ⟨by decide, 0, by decide, by decide, kL_put_0⟩
            · exact ⟨by decide, 1, by decide, by decide, kL_put_1⟩
          · refine lv_astore (lv' := [(5, .ref q9), (0, .ref (q 0)), (1, .int x1), (2, .int x2), (3, .int x3), (4, .ref (q 17))]) hx hb dL_put_23 hl (by decide) rfl (fun ls hl => ?_)
            refine lv_iconst (v := (3 : Int32)) hx hb dL_put_25 (by decide) ?_
            exact tl_iret1 X Y h dL_put_26
        · have h := ty_f h c2
          exact False.elim h
  · refine lv_i2l (v := r1.toInt64) hx hb dL_put_10 rfl ?_
    refine ty_last X Y 17 1 12 rfl (by decide) h.1 dL_put_11 (fun H locs Y => ?_)
    have h := h.2
    refine lv_goto (tgt := 27) hx hb dL_put_12 (by decide) ?_
    refine lv_iconst (v := (0 : Int32)) hx hb dL_put_27 (by decide) ?_
    exact tl_iret X Y h dL_put_28

abbrev rL_number : Room := { frames := 10, cells := 1, slots := 6, locals := 177 }
theorem kL_number_0 : Cond.classLink RL 19 "java/lang/IndexOutOfBoundsException" ∈ wsL_number := ty_m 1 (by decide +kernel)
theorem kL_number_1 : Cond.classLink RL 31 "java/lang/IllegalStateException" ∈ wsL_number := ty_m 2 (by decide +kernel)
theorem kL_number_2 : Cond.classLink RL 13 "java/lang/IllegalArgumentException" ∈ wsL_number := ty_m 3 (by decide +kernel)
def eL_number (S : ty_S) (x1 : Int32) (x2 : Int32) (K : ty_S → Int32 → Prop) : Prop :=
  (eX4_number S x1 x2 (fun S1 r1 => (vp_in (0 : Int32) 1 ∧ K (ty_st S1 12 (0 : Int32).toNatClampNeg r1) (0 : Int32))) (fun k9 S9 => if k9 = 0 then K S9 (1 : Int32) else if k9 = 1 then K S9 (2 : Int32) else if k9 = 2 then K S9 (3 : Int32) else False))
set_option maxHeartbeats 4000000 in
set_option maxRecDepth 100000 in
theorem cL_number_C (l : Launch) (hst : l.stackTraces = false) (D : va_G) (cA : Nat → ClassId) (q : Nat → Nat) (S : ty_S) (x1 : Int32) (x2 : Int32) (K : ty_S → Int32 → Prop) (h : eL_number S x1 x2 K) : ∀ sz, Met l yL_number wsL_number rL_number (tl_Pc D cA q ty_LY S sz [.ref (q 0), .int x1, .int x2, .ref (q 17)]) (ty_Qi D cA q ty_LY sz K) 1 6 (ty_A q ty_LY.length sz) := by
  refine tl_ofM hst (ret := (some .int)) (maxL := 5) (cc := cL_number) (own := RL) (hh := [(0, 10, 13, 19), (0, 10, 17, 31), (0, 10, 21, 13)]) (Qc := fun sz => ty_Qi D cA q ty_LY sz K) (by decide +kernel) rfl (Nat.le_of_ble_eq_true rfl) rfl ?_
  intro p e s m args below meth c ls X Z hl Y
  have hx := X.1.1
  have hb := X.1.2.1
  have hl : lv_has ls 5 [(0, .ref (q 0)), (1, .int x1), (2, .int x2), (3, .ref (q 17))] := hl
  unfold eL_number at h
  refine lv_aload_n hx hb dL_number_0 rfl (lv_at hl 3 rfl) ?_
  refine lv_iconst (v := (0 : Int32)) hx hb dL_number_1 (by decide) ?_
  refine lv_aload_n hx hb dL_number_2 rfl (lv_at hl 0 rfl) ?_
  refine lv_iload_n hx hb dL_number_3 rfl (lv_at hl 1 rfl) ?_
  refine lv_iload_n hx hb dL_number_4 rfl (lv_at hl 2 rfl) ?_
  refine tl_Vi (As := [.int x1, .int x2]) (b := 0) (rest := [.int (0 : Int32), .ref (q 17)]) X Z Y (cX4_number_C l Z.1 D cA q S x1 x2 _ _ h) rfl rfl (fun hts => cwV 2 hts gL_number_X4_number rfl rfl rfl (by decide +kernel) ⟨Nat.le_of_ble_eq_true rfl, Nat.le_of_ble_eq_true rfl⟩) rfl hl.1 (Nat.le_of_ble_eq_true rfl) dL_number_5 ⟨Nat.le_of_ble_eq_true rfl, Nat.le_of_ble_eq_true rfl⟩ ?_ (fun r1 S1 H locs h Y => ?_)
  · intro k9 S9 H locs q9 h hk3 Y hT
    rcases Decidable.em (k9 = 0) with c0 | c0
    · have h := ty_t h c0
      subst c0
      refine tl_catch X Z hk3 hT [] [⟨0, 10, 17, 31⟩, ⟨0, 10, 21, 13⟩] ⟨0, 10, 13, 19⟩ rfl ?_ rfl (by decide) kL_number_0 ?_
      · exact fun z hz => absurd hz List.not_mem_nil
      · refine lv_astore (lv' := [(4, .ref q9), (0, .ref (q 0)), (1, .int x1), (2, .int x2), (3, .ref (q 17))]) hx hb dL_number_13 hl (by decide) rfl (fun ls hl => ?_)
        refine lv_iconst (v := (1 : Int32)) hx hb dL_number_15 (by decide) ?_
        exact tl_iret1 X Y h dL_number_16
    · have h := ty_f h c0
      rcases Decidable.em (k9 = 1) with c1 | c1
      · have h := ty_t h c1
        subst c1
        refine tl_catch X Z hk3 hT [⟨0, 10, 13, 19⟩] [⟨0, 10, 21, 13⟩] ⟨0, 10, 17, 31⟩ rfl ?_ rfl (by decide) kL_number_1 ?_
        · intro z hz
          have hz : z = ⟨0, 10, 13, 19⟩ := by simpa using hz
          rcases hz with rfl
          exact ⟨by decide, 0, by decide, by decide, kL_number_0⟩
        · refine lv_astore (lv' := [(4, .ref q9), (0, .ref (q 0)), (1, .int x1), (2, .int x2), (3, .ref (q 17))]) hx hb dL_number_17 hl (by decide) rfl (fun ls hl => ?_)
          refine lv_iconst (v := (2 : Int32)) hx hb dL_number_19 (by decide) ?_
          exact tl_iret1 X Y h dL_number_20
      · have h := ty_f h c1
        rcases Decidable.em (k9 = 2) with c2 | c2
        · have h := ty_t h c2
          subst c2
          refine tl_catch X Z hk3 hT [⟨0, 10, 13, 19⟩, ⟨0, 10, 17, 31⟩] [] ⟨0, 10, 21, 13⟩ rfl ?_ rfl (by decide) kL_number_2 ?_
          · intro z hz
            have hz : z = ⟨0, 10, 13, 19⟩ ∨ z = ⟨0, 10, 17, 31⟩ := by simpa using hz
            rcases hz with rfl | rfl
            · exact ⟨by decide, 0, by decide, by decide, kL_number_0⟩
            · exact ⟨by decide, 1, by decide, by decide, kL_number_1⟩
          · refine lv_astore (lv' := [(4, .ref q9), (0, .ref (q 0)), (1, .int x1), (2, .int x2), (3, .ref (q 17))]) hx hb dL_number_21 hl (by decide) rfl (fun ls hl => ?_)
            refine lv_iconst (v := (3 : Int32)) hx hb dL_number_23 (by decide) ?_
            exact tl_iret1 X Y h dL_number_24
        · have h := ty_f h c2
          exact False.elim h
  · refine lv_i2l (v := r1.toInt64) hx hb dL_number_8 rfl ?_
    refine ty_last X Y 17 1 12 rfl (by decide) h.1 dL_number_9 (fun H locs Y => ?_)
    have h := h.2
    refine lv_goto (tgt := 25) hx hb dL_number_10 (by decide) ?_
    refine lv_iconst (v := (0 : Int32)) hx hb dL_number_25 (by decide) ?_
    exact tl_iret X Y h dL_number_26

abbrev rL_collect : Room := { frames := 8, cells := 1, slots := 6, locals := 195 }
theorem kL_collect_0 : Cond.classLink RL 13 "java/lang/IllegalArgumentException" ∈ wsL_collect := ty_m 1 (by decide +kernel)
def eL_collect (S : ty_S) (x1 : Int32) (K : ty_S → Int32 → Prop) : Prop :=
  (eX4_collect S x1 (fun S1 r1 => (vp_in (0 : Int32) 1 ∧ K (ty_st S1 12 (0 : Int32).toNatClampNeg r1) (0 : Int32))) (fun k9 S9 => if k9 = 0 then False else if k9 = 1 then False else if k9 = 2 then K S9 (1 : Int32) else False))
set_option maxHeartbeats 4000000 in
set_option maxRecDepth 100000 in
theorem cL_collect_C (l : Launch) (hst : l.stackTraces = false) (D : va_G) (cA : Nat → ClassId) (q : Nat → Nat) (S : ty_S) (x1 : Int32) (K : ty_S → Int32 → Prop) (h : eL_collect S x1 K) : ∀ sz, Met l yL_collect wsL_collect rL_collect (tl_Pc D cA q ty_LY S sz [.ref (q 0), .int x1, .ref (q 17)]) (ty_Qi D cA q ty_LY sz K) 1 6 (ty_A q ty_LY.length sz) := by
  refine tl_ofM hst (ret := (some .int)) (maxL := 4) (cc := cL_collect) (own := RL) (hh := [(0, 9, 12, 13)]) (Qc := fun sz => ty_Qi D cA q ty_LY sz K) (by decide +kernel) rfl (Nat.le_of_ble_eq_true rfl) rfl ?_
  intro p e s m args below meth c ls X Z hl Y
  have hx := X.1.1
  have hb := X.1.2.1
  have hl : lv_has ls 4 [(0, .ref (q 0)), (1, .int x1), (2, .ref (q 17))] := hl
  unfold eL_collect at h
  refine lv_aload_n hx hb dL_collect_0 rfl (lv_at hl 2 rfl) ?_
  refine lv_iconst (v := (0 : Int32)) hx hb dL_collect_1 (by decide) ?_
  refine lv_aload_n hx hb dL_collect_2 rfl (lv_at hl 0 rfl) ?_
  refine lv_iload_n hx hb dL_collect_3 rfl (lv_at hl 1 rfl) ?_
  refine tl_Vi (As := [.int x1]) (b := 0) (rest := [.int (0 : Int32), .ref (q 17)]) X Z Y (cX4_collect_C l Z.1 D cA q S x1 _ _ h) rfl rfl (fun hts => cwV 1 hts gL_collect_X4_collect rfl rfl rfl (by decide +kernel) ⟨Nat.le_of_ble_eq_true rfl, Nat.le_of_ble_eq_true rfl⟩) rfl hl.1 (Nat.le_of_ble_eq_true rfl) dL_collect_4 ⟨Nat.le_of_ble_eq_true rfl, Nat.le_of_ble_eq_true rfl⟩ ?_ (fun r1 S1 H locs h Y => ?_)
  · intro k9 S9 H locs q9 h hk3 Y hT
    rcases Decidable.em (k9 = 0) with c0 | c0
    · have h := ty_t h c0
      exact False.elim h
    · have h := ty_f h c0
      rcases Decidable.em (k9 = 1) with c1 | c1
      · have h := ty_t h c1
        exact False.elim h
      · have h := ty_f h c1
        rcases Decidable.em (k9 = 2) with c2 | c2
        · have h := ty_t h c2
          subst c2
          refine tl_catch X Z hk3 hT [] [] ⟨0, 9, 12, 13⟩ rfl ?_ rfl (by decide) kL_collect_0 ?_
          · exact fun z hz => absurd hz List.not_mem_nil
          · refine lv_astore_n (lv' := [(3, .ref q9), (0, .ref (q 0)), (1, .int x1), (2, .ref (q 17))]) hx hb dL_collect_12 rfl hl (by decide) rfl (fun ls hl => ?_)
            refine lv_iconst (v := (1 : Int32)) hx hb dL_collect_13 (by decide) ?_
            exact tl_iret1 X Y h dL_collect_14
        · have h := ty_f h c2
          exact False.elim h
  · refine lv_i2l (v := r1.toInt64) hx hb dL_collect_7 rfl ?_
    refine ty_last X Y 17 1 12 rfl (by decide) h.1 dL_collect_8 (fun H locs Y => ?_)
    have h := h.2
    refine lv_goto (tgt := 15) hx hb dL_collect_9 (by decide) ?_
    refine lv_iconst (v := (0 : Int32)) hx hb dL_collect_15 (by decide) ?_
    exact tl_iret X Y h dL_collect_16

abbrev rL_thing : Room := { frames := 9, cells := 1, slots := 6, locals := 155 }
theorem kL_thing_0 : Cond.classLink RL 19 "java/lang/IndexOutOfBoundsException" ∈ wsL_thing := ty_m 1 (by decide +kernel)
theorem kL_thing_1 : Cond.classLink RL 31 "java/lang/IllegalStateException" ∈ wsL_thing := ty_m 2 (by decide +kernel)
def eL_thing (S : ty_S) (x1 : Int32) (x2 : Int32) (K : ty_S → Int32 → Prop) : Prop :=
  (eX4_thing S x1 x2 (fun S1 r1 => (vp_in (0 : Int32) 1 ∧ K (ty_st S1 12 (0 : Int32).toNatClampNeg r1) (0 : Int32))) (fun k9 S9 => if k9 = 0 then K S9 (1 : Int32) else if k9 = 1 then K S9 (2 : Int32) else if k9 = 2 then False else False))
set_option maxHeartbeats 4000000 in
set_option maxRecDepth 100000 in
theorem cL_thing_C (l : Launch) (hst : l.stackTraces = false) (D : va_G) (cA : Nat → ClassId) (q : Nat → Nat) (S : ty_S) (x1 : Int32) (x2 : Int32) (K : ty_S → Int32 → Prop) (h : eL_thing S x1 x2 K) : ∀ sz, Met l yL_thing wsL_thing rL_thing (tl_Pc D cA q ty_LY S sz [.ref (q 0), .int x1, .int x2, .ref (q 17)]) (ty_Qi D cA q ty_LY sz K) 1 6 (ty_A q ty_LY.length sz) := by
  refine tl_ofM hst (ret := (some .int)) (maxL := 5) (cc := cL_thing) (own := RL) (hh := [(0, 10, 13, 19), (0, 10, 17, 31)]) (Qc := fun sz => ty_Qi D cA q ty_LY sz K) (by decide +kernel) rfl (Nat.le_of_ble_eq_true rfl) rfl ?_
  intro p e s m args below meth c ls X Z hl Y
  have hx := X.1.1
  have hb := X.1.2.1
  have hl : lv_has ls 5 [(0, .ref (q 0)), (1, .int x1), (2, .int x2), (3, .ref (q 17))] := hl
  unfold eL_thing at h
  refine lv_aload_n hx hb dL_thing_0 rfl (lv_at hl 3 rfl) ?_
  refine lv_iconst (v := (0 : Int32)) hx hb dL_thing_1 (by decide) ?_
  refine lv_aload_n hx hb dL_thing_2 rfl (lv_at hl 0 rfl) ?_
  refine lv_iload_n hx hb dL_thing_3 rfl (lv_at hl 1 rfl) ?_
  refine lv_iload_n hx hb dL_thing_4 rfl (lv_at hl 2 rfl) ?_
  refine tl_Vi (As := [.int x1, .int x2]) (b := 0) (rest := [.int (0 : Int32), .ref (q 17)]) X Z Y (cX4_thing_C l Z.1 D cA q S x1 x2 _ _ h) rfl rfl (fun hts => cwV 2 hts gL_thing_X4_thing rfl rfl rfl (by decide +kernel) ⟨Nat.le_of_ble_eq_true rfl, Nat.le_of_ble_eq_true rfl⟩) rfl hl.1 (Nat.le_of_ble_eq_true rfl) dL_thing_5 ⟨Nat.le_of_ble_eq_true rfl, Nat.le_of_ble_eq_true rfl⟩ ?_ (fun r1 S1 H locs h Y => ?_)
  · intro k9 S9 H locs q9 h hk3 Y hT
    rcases Decidable.em (k9 = 0) with c0 | c0
    · have h := ty_t h c0
      subst c0
      refine tl_catch X Z hk3 hT [] [⟨0, 10, 17, 31⟩] ⟨0, 10, 13, 19⟩ rfl ?_ rfl (by decide) kL_thing_0 ?_
      · exact fun z hz => absurd hz List.not_mem_nil
      · refine lv_astore (lv' := [(4, .ref q9), (0, .ref (q 0)), (1, .int x1), (2, .int x2), (3, .ref (q 17))]) hx hb dL_thing_13 hl (by decide) rfl (fun ls hl => ?_)
        refine lv_iconst (v := (1 : Int32)) hx hb dL_thing_15 (by decide) ?_
        exact tl_iret1 X Y h dL_thing_16
    · have h := ty_f h c0
      rcases Decidable.em (k9 = 1) with c1 | c1
      · have h := ty_t h c1
        subst c1
        refine tl_catch X Z hk3 hT [⟨0, 10, 13, 19⟩] [] ⟨0, 10, 17, 31⟩ rfl ?_ rfl (by decide) kL_thing_1 ?_
        · intro z hz
          have hz : z = ⟨0, 10, 13, 19⟩ := by simpa using hz
          rcases hz with rfl
          exact ⟨by decide, 0, by decide, by decide, kL_thing_0⟩
        · refine lv_astore (lv' := [(4, .ref q9), (0, .ref (q 0)), (1, .int x1), (2, .int x2), (3, .ref (q 17))]) hx hb dL_thing_17 hl (by decide) rfl (fun ls hl => ?_)
          refine lv_iconst (v := (2 : Int32)) hx hb dL_thing_19 (by decide) ?_
          exact tl_iret1 X Y h dL_thing_20
      · have h := ty_f h c1
        rcases Decidable.em (k9 = 2) with c2 | c2
        · have h := ty_t h c2
          exact False.elim h
        · have h := ty_f h c2
          exact False.elim h
  · refine lv_i2l (v := r1.toInt64) hx hb dL_thing_8 rfl ?_
    refine ty_last X Y 17 1 12 rfl (by decide) h.1 dL_thing_9 (fun H locs Y => ?_)
    have h := h.2
    refine lv_goto (tgt := 21) hx hb dL_thing_10 (by decide) ?_
    refine lv_iconst (v := (0 : Int32)) hx hb dL_thing_21 (by decide) ?_
    exact tl_iret X Y h dL_thing_22

abbrev rL_label : Room := { frames := 10, cells := 1, slots := 6, locals := 177 }
theorem kL_label_0 : Cond.classLink RL 19 "java/lang/IndexOutOfBoundsException" ∈ wsL_label := ty_m 1 (by decide +kernel)
theorem kL_label_1 : Cond.classLink RL 31 "java/lang/IllegalStateException" ∈ wsL_label := ty_m 2 (by decide +kernel)
theorem kL_label_2 : Cond.classLink RL 13 "java/lang/IllegalArgumentException" ∈ wsL_label := ty_m 3 (by decide +kernel)
def eL_label (S : ty_S) (x1 : Int32) (x2 : Int32) (K : ty_S → Int32 → Prop) : Prop :=
  (eX4_label S x1 x2 (fun S1 r1 => (vp_in (0 : Int32) 1 ∧ K (ty_st S1 12 (0 : Int32).toNatClampNeg r1) (0 : Int32))) (fun k9 S9 => if k9 = 0 then K S9 (1 : Int32) else if k9 = 1 then K S9 (2 : Int32) else if k9 = 2 then K S9 (3 : Int32) else False))
set_option maxHeartbeats 4000000 in
set_option maxRecDepth 100000 in
theorem cL_label_C (l : Launch) (hst : l.stackTraces = false) (D : va_G) (cA : Nat → ClassId) (q : Nat → Nat) (S : ty_S) (x1 : Int32) (x2 : Int32) (K : ty_S → Int32 → Prop) (h : eL_label S x1 x2 K) : ∀ sz, Met l yL_label wsL_label rL_label (tl_Pc D cA q ty_LY S sz [.ref (q 0), .int x1, .int x2, .ref (q 17)]) (ty_Qi D cA q ty_LY sz K) 1 6 (ty_A q ty_LY.length sz) := by
  refine tl_ofM hst (ret := (some .int)) (maxL := 5) (cc := cL_label) (own := RL) (hh := [(0, 10, 13, 19), (0, 10, 17, 31), (0, 10, 21, 13)]) (Qc := fun sz => ty_Qi D cA q ty_LY sz K) (by decide +kernel) rfl (Nat.le_of_ble_eq_true rfl) rfl ?_
  intro p e s m args below meth c ls X Z hl Y
  have hx := X.1.1
  have hb := X.1.2.1
  have hl : lv_has ls 5 [(0, .ref (q 0)), (1, .int x1), (2, .int x2), (3, .ref (q 17))] := hl
  unfold eL_label at h
  refine lv_aload_n hx hb dL_label_0 rfl (lv_at hl 3 rfl) ?_
  refine lv_iconst (v := (0 : Int32)) hx hb dL_label_1 (by decide) ?_
  refine lv_aload_n hx hb dL_label_2 rfl (lv_at hl 0 rfl) ?_
  refine lv_iload_n hx hb dL_label_3 rfl (lv_at hl 1 rfl) ?_
  refine lv_iload_n hx hb dL_label_4 rfl (lv_at hl 2 rfl) ?_
  refine tl_Vi (As := [.int x1, .int x2]) (b := 0) (rest := [.int (0 : Int32), .ref (q 17)]) X Z Y (cX4_label_C l Z.1 D cA q S x1 x2 _ _ h) rfl rfl (fun hts => cwV 2 hts gL_label_X4_label rfl rfl rfl (by decide +kernel) ⟨Nat.le_of_ble_eq_true rfl, Nat.le_of_ble_eq_true rfl⟩) rfl hl.1 (Nat.le_of_ble_eq_true rfl) dL_label_5 ⟨Nat.le_of_ble_eq_true rfl, Nat.le_of_ble_eq_true rfl⟩ ?_ (fun r1 S1 H locs h Y => ?_)
  · intro k9 S9 H locs q9 h hk3 Y hT
    rcases Decidable.em (k9 = 0) with c0 | c0
    · have h := ty_t h c0
      subst c0
      refine tl_catch X Z hk3 hT [] [⟨0, 10, 17, 31⟩, ⟨0, 10, 21, 13⟩] ⟨0, 10, 13, 19⟩ rfl ?_ rfl (by decide) kL_label_0 ?_
      · exact fun z hz => absurd hz List.not_mem_nil
      · refine lv_astore (lv' := [(4, .ref q9), (0, .ref (q 0)), (1, .int x1), (2, .int x2), (3, .ref (q 17))]) hx hb dL_label_13 hl (by decide) rfl (fun ls hl => ?_)
        refine lv_iconst (v := (1 : Int32)) hx hb dL_label_15 (by decide) ?_
        exact tl_iret1 X Y h dL_label_16
    · have h := ty_f h c0
      rcases Decidable.em (k9 = 1) with c1 | c1
      · have h := ty_t h c1
        subst c1
        refine tl_catch X Z hk3 hT [⟨0, 10, 13, 19⟩] [⟨0, 10, 21, 13⟩] ⟨0, 10, 17, 31⟩ rfl ?_ rfl (by decide) kL_label_1 ?_
        · intro z hz
          have hz : z = ⟨0, 10, 13, 19⟩ := by simpa using hz
          rcases hz with rfl
          exact ⟨by decide, 0, by decide, by decide, kL_label_0⟩
        · refine lv_astore (lv' := [(4, .ref q9), (0, .ref (q 0)), (1, .int x1), (2, .int x2), (3, .ref (q 17))]) hx hb dL_label_17 hl (by decide) rfl (fun ls hl => ?_)
          refine lv_iconst (v := (2 : Int32)) hx hb dL_label_19 (by decide) ?_
          exact tl_iret1 X Y h dL_label_20
      · have h := ty_f h c1
        rcases Decidable.em (k9 = 2) with c2 | c2
        · have h := ty_t h c2
          subst c2
          refine tl_catch X Z hk3 hT [⟨0, 10, 13, 19⟩, ⟨0, 10, 17, 31⟩] [] ⟨0, 10, 21, 13⟩ rfl ?_ rfl (by decide) kL_label_2 ?_
          · intro z hz
            have hz : z = ⟨0, 10, 13, 19⟩ ∨ z = ⟨0, 10, 17, 31⟩ := by simpa using hz
            rcases hz with rfl | rfl
            · exact ⟨by decide, 0, by decide, by decide, kL_label_0⟩
            · exact ⟨by decide, 1, by decide, by decide, kL_label_1⟩
          · refine lv_astore (lv' := [(4, .ref q9), (0, .ref (q 0)), (1, .int x1), (2, .int x2), (3, .ref (q 17))]) hx hb dL_label_21 hl (by decide) rfl (fun ls hl => ?_)
            refine lv_iconst (v := (3 : Int32)) hx hb dL_label_23 (by decide) ?_
            exact tl_iret1 X Y h dL_label_24
        · have h := ty_f h c2
          exact False.elim h
  · refine lv_i2l (v := r1.toInt64) hx hb dL_label_8 rfl ?_
    refine ty_last X Y 17 1 12 rfl (by decide) h.1 dL_label_9 (fun H locs Y => ?_)
    have h := h.2
    refine lv_goto (tgt := 25) hx hb dL_label_10 (by decide) ?_
    refine lv_iconst (v := (0 : Int32)) hx hb dL_label_25 (by decide) ?_
    exact tl_iret X Y h dL_label_26

abbrev rL_train : Room := { frames := 8, cells := 1, slots := 6, locals := 137 }
theorem kL_train_0 : Cond.classLink RL 19 "java/lang/IndexOutOfBoundsException" ∈ wsL_train := ty_m 1 (by decide +kernel)
def eL_train (S : ty_S) (x1 : Int32) (x2 : Int32) (K : ty_S → Int32 → Prop) : Prop :=
  (eX4_train S x1 x2 (fun S1 r1 => (vp_in (0 : Int32) 1 ∧ K (ty_st S1 12 (0 : Int32).toNatClampNeg r1) (0 : Int32))) (fun k9 S9 => if k9 = 0 then K S9 (1 : Int32) else if k9 = 1 then False else if k9 = 2 then False else False))
set_option maxHeartbeats 4000000 in
set_option maxRecDepth 100000 in
theorem cL_train_C (l : Launch) (hst : l.stackTraces = false) (D : va_G) (cA : Nat → ClassId) (q : Nat → Nat) (S : ty_S) (x1 : Int32) (x2 : Int32) (K : ty_S → Int32 → Prop) (h : eL_train S x1 x2 K) : ∀ sz, Met l yL_train wsL_train rL_train (tl_Pc D cA q ty_LY S sz [.ref (q 0), .int x1, .int x2, .ref (q 17)]) (ty_Qi D cA q ty_LY sz K) 1 6 (ty_A q ty_LY.length sz) := by
  refine tl_ofM hst (ret := (some .int)) (maxL := 5) (cc := cL_train) (own := RL) (hh := [(0, 10, 13, 19)]) (Qc := fun sz => ty_Qi D cA q ty_LY sz K) (by decide +kernel) rfl (Nat.le_of_ble_eq_true rfl) rfl ?_
  intro p e s m args below meth c ls X Z hl Y
  have hx := X.1.1
  have hb := X.1.2.1
  have hl : lv_has ls 5 [(0, .ref (q 0)), (1, .int x1), (2, .int x2), (3, .ref (q 17))] := hl
  unfold eL_train at h
  refine lv_aload_n hx hb dL_train_0 rfl (lv_at hl 3 rfl) ?_
  refine lv_iconst (v := (0 : Int32)) hx hb dL_train_1 (by decide) ?_
  refine lv_aload_n hx hb dL_train_2 rfl (lv_at hl 0 rfl) ?_
  refine lv_iload_n hx hb dL_train_3 rfl (lv_at hl 1 rfl) ?_
  refine lv_iload_n hx hb dL_train_4 rfl (lv_at hl 2 rfl) ?_
  refine tl_Vi (As := [.int x1, .int x2]) (b := 0) (rest := [.int (0 : Int32), .ref (q 17)]) X Z Y (cX4_train_C l Z.1 D cA q S x1 x2 _ _ h) rfl rfl (fun hts => cwV 2 hts gL_train_X4_train rfl rfl rfl (by decide +kernel) ⟨Nat.le_of_ble_eq_true rfl, Nat.le_of_ble_eq_true rfl⟩) rfl hl.1 (Nat.le_of_ble_eq_true rfl) dL_train_5 ⟨Nat.le_of_ble_eq_true rfl, Nat.le_of_ble_eq_true rfl⟩ ?_ (fun r1 S1 H locs h Y => ?_)
  · intro k9 S9 H locs q9 h hk3 Y hT
    rcases Decidable.em (k9 = 0) with c0 | c0
    · have h := ty_t h c0
      subst c0
      refine tl_catch X Z hk3 hT [] [] ⟨0, 10, 13, 19⟩ rfl ?_ rfl (by decide) kL_train_0 ?_
      · exact fun z hz => absurd hz List.not_mem_nil
      · refine lv_astore (lv' := [(4, .ref q9), (0, .ref (q 0)), (1, .int x1), (2, .int x2), (3, .ref (q 17))]) hx hb dL_train_13 hl (by decide) rfl (fun ls hl => ?_)
        refine lv_iconst (v := (1 : Int32)) hx hb dL_train_15 (by decide) ?_
        exact tl_iret1 X Y h dL_train_16
    · have h := ty_f h c0
      rcases Decidable.em (k9 = 1) with c1 | c1
      · have h := ty_t h c1
        exact False.elim h
      · have h := ty_f h c1
        rcases Decidable.em (k9 = 2) with c2 | c2
        · have h := ty_t h c2
          exact False.elim h
        · have h := ty_f h c2
          exact False.elim h
  · refine lv_i2l (v := r1.toInt64) hx hb dL_train_8 rfl ?_
    refine ty_last X Y 17 1 12 rfl (by decide) h.1 dL_train_9 (fun H locs Y => ?_)
    have h := h.2
    refine lv_goto (tgt := 17) hx hb dL_train_10 (by decide) ?_
    refine lv_iconst (v := (0 : Int32)) hx hb dL_train_17 (by decide) ?_
    exact tl_iret X Y h dL_train_18

abbrev rL_car : Room := { frames := 8, cells := 1, slots := 6, locals := 136 }
theorem kL_car_0 : Cond.classLink RL 19 "java/lang/IndexOutOfBoundsException" ∈ wsL_car := ty_m 1 (by decide +kernel)
def eL_car (S : ty_S) (x1 : Int32) (x2 : Int32) (K : ty_S → Int32 → Prop) : Prop :=
  (eX4_car S x1 x2 (fun S1 r1 => (vp_in (0 : Int32) 1 ∧ K (ty_st S1 12 (0 : Int32).toNatClampNeg r1) (0 : Int32))) (fun k9 S9 => if k9 = 0 then K S9 (1 : Int32) else if k9 = 1 then False else if k9 = 2 then False else False))
set_option maxHeartbeats 4000000 in
set_option maxRecDepth 100000 in
theorem cL_car_C (l : Launch) (hst : l.stackTraces = false) (D : va_G) (cA : Nat → ClassId) (q : Nat → Nat) (S : ty_S) (x1 : Int32) (x2 : Int32) (K : ty_S → Int32 → Prop) (h : eL_car S x1 x2 K) : ∀ sz, Met l yL_car wsL_car rL_car (tl_Pc D cA q ty_LY S sz [.ref (q 0), .int x1, .int x2, .ref (q 17)]) (ty_Qi D cA q ty_LY sz K) 1 6 (ty_A q ty_LY.length sz) := by
  refine tl_ofM hst (ret := (some .int)) (maxL := 5) (cc := cL_car) (own := RL) (hh := [(0, 10, 13, 19)]) (Qc := fun sz => ty_Qi D cA q ty_LY sz K) (by decide +kernel) rfl (Nat.le_of_ble_eq_true rfl) rfl ?_
  intro p e s m args below meth c ls X Z hl Y
  have hx := X.1.1
  have hb := X.1.2.1
  have hl : lv_has ls 5 [(0, .ref (q 0)), (1, .int x1), (2, .int x2), (3, .ref (q 17))] := hl
  unfold eL_car at h
  refine lv_aload_n hx hb dL_car_0 rfl (lv_at hl 3 rfl) ?_
  refine lv_iconst (v := (0 : Int32)) hx hb dL_car_1 (by decide) ?_
  refine lv_aload_n hx hb dL_car_2 rfl (lv_at hl 0 rfl) ?_
  refine lv_iload_n hx hb dL_car_3 rfl (lv_at hl 1 rfl) ?_
  refine lv_iload_n hx hb dL_car_4 rfl (lv_at hl 2 rfl) ?_
  refine tl_Vi (As := [.int x1, .int x2]) (b := 0) (rest := [.int (0 : Int32), .ref (q 17)]) X Z Y (cX4_car_C l Z.1 D cA q S x1 x2 _ _ h) rfl rfl (fun hts => cwV 2 hts gL_car_X4_car rfl rfl rfl (by decide +kernel) ⟨Nat.le_of_ble_eq_true rfl, Nat.le_of_ble_eq_true rfl⟩) rfl hl.1 (Nat.le_of_ble_eq_true rfl) dL_car_5 ⟨Nat.le_of_ble_eq_true rfl, Nat.le_of_ble_eq_true rfl⟩ ?_ (fun r1 S1 H locs h Y => ?_)
  · intro k9 S9 H locs q9 h hk3 Y hT
    rcases Decidable.em (k9 = 0) with c0 | c0
    · have h := ty_t h c0
      subst c0
      refine tl_catch X Z hk3 hT [] [] ⟨0, 10, 13, 19⟩ rfl ?_ rfl (by decide) kL_car_0 ?_
      · exact fun z hz => absurd hz List.not_mem_nil
      · refine lv_astore (lv' := [(4, .ref q9), (0, .ref (q 0)), (1, .int x1), (2, .int x2), (3, .ref (q 17))]) hx hb dL_car_13 hl (by decide) rfl (fun ls hl => ?_)
        refine lv_iconst (v := (1 : Int32)) hx hb dL_car_15 (by decide) ?_
        exact tl_iret1 X Y h dL_car_16
    · have h := ty_f h c0
      rcases Decidable.em (k9 = 1) with c1 | c1
      · have h := ty_t h c1
        exact False.elim h
      · have h := ty_f h c1
        rcases Decidable.em (k9 = 2) with c2 | c2
        · have h := ty_t h c2
          exact False.elim h
        · have h := ty_f h c2
          exact False.elim h
  · refine lv_i2l (v := r1.toInt64) hx hb dL_car_8 rfl ?_
    refine ty_last X Y 17 1 12 rfl (by decide) h.1 dL_car_9 (fun H locs Y => ?_)
    have h := h.2
    refine lv_goto (tgt := 17) hx hb dL_car_10 (by decide) ?_
    refine lv_iconst (v := (0 : Int32)) hx hb dL_car_17 (by decide) ?_
    exact tl_iret X Y h dL_car_18

abbrev rL_about : Room := { frames := 8, cells := 1, slots := 6, locals := 133 }
theorem kL_about_0 : Cond.classLink RL 19 "java/lang/IndexOutOfBoundsException" ∈ wsL_about := ty_m 1 (by decide +kernel)
def eL_about (S : ty_S) (x1 : Int32) (x2 : Int32) (K : ty_S → Int32 → Prop) : Prop :=
  (eX4_about S x1 x2 (fun S1 r1 => (vp_in (0 : Int32) 1 ∧ K (ty_st S1 12 (0 : Int32).toNatClampNeg r1) (0 : Int32))) (fun k9 S9 => if k9 = 0 then K S9 (1 : Int32) else if k9 = 1 then False else if k9 = 2 then False else False))
set_option maxHeartbeats 4000000 in
set_option maxRecDepth 100000 in
theorem cL_about_C (l : Launch) (hst : l.stackTraces = false) (D : va_G) (cA : Nat → ClassId) (q : Nat → Nat) (S : ty_S) (x1 : Int32) (x2 : Int32) (K : ty_S → Int32 → Prop) (h : eL_about S x1 x2 K) : ∀ sz, Met l yL_about wsL_about rL_about (tl_Pc D cA q ty_LY S sz [.ref (q 0), .int x1, .int x2, .ref (q 17)]) (ty_Qi D cA q ty_LY sz K) 1 6 (ty_A q ty_LY.length sz) := by
  refine tl_ofM hst (ret := (some .int)) (maxL := 5) (cc := cL_about) (own := RL) (hh := [(0, 10, 13, 19)]) (Qc := fun sz => ty_Qi D cA q ty_LY sz K) (by decide +kernel) rfl (Nat.le_of_ble_eq_true rfl) rfl ?_
  intro p e s m args below meth c ls X Z hl Y
  have hx := X.1.1
  have hb := X.1.2.1
  have hl : lv_has ls 5 [(0, .ref (q 0)), (1, .int x1), (2, .int x2), (3, .ref (q 17))] := hl
  unfold eL_about at h
  refine lv_aload_n hx hb dL_about_0 rfl (lv_at hl 3 rfl) ?_
  refine lv_iconst (v := (0 : Int32)) hx hb dL_about_1 (by decide) ?_
  refine lv_aload_n hx hb dL_about_2 rfl (lv_at hl 0 rfl) ?_
  refine lv_iload_n hx hb dL_about_3 rfl (lv_at hl 1 rfl) ?_
  refine lv_iload_n hx hb dL_about_4 rfl (lv_at hl 2 rfl) ?_
  refine tl_Vi (As := [.int x1, .int x2]) (b := 0) (rest := [.int (0 : Int32), .ref (q 17)]) X Z Y (cX4_about_C l Z.1 D cA q S x1 x2 _ _ h) rfl rfl (fun hts => cwV 2 hts gL_about_X4_about rfl rfl rfl (by decide +kernel) ⟨Nat.le_of_ble_eq_true rfl, Nat.le_of_ble_eq_true rfl⟩) rfl hl.1 (Nat.le_of_ble_eq_true rfl) dL_about_5 ⟨Nat.le_of_ble_eq_true rfl, Nat.le_of_ble_eq_true rfl⟩ ?_ (fun r1 S1 H locs h Y => ?_)
  · intro k9 S9 H locs q9 h hk3 Y hT
    rcases Decidable.em (k9 = 0) with c0 | c0
    · have h := ty_t h c0
      subst c0
      refine tl_catch X Z hk3 hT [] [] ⟨0, 10, 13, 19⟩ rfl ?_ rfl (by decide) kL_about_0 ?_
      · exact fun z hz => absurd hz List.not_mem_nil
      · refine lv_astore (lv' := [(4, .ref q9), (0, .ref (q 0)), (1, .int x1), (2, .int x2), (3, .ref (q 17))]) hx hb dL_about_13 hl (by decide) rfl (fun ls hl => ?_)
        refine lv_iconst (v := (1 : Int32)) hx hb dL_about_15 (by decide) ?_
        exact tl_iret1 X Y h dL_about_16
    · have h := ty_f h c0
      rcases Decidable.em (k9 = 1) with c1 | c1
      · have h := ty_t h c1
        exact False.elim h
      · have h := ty_f h c1
        rcases Decidable.em (k9 = 2) with c2 | c2
        · have h := ty_t h c2
          exact False.elim h
        · have h := ty_f h c2
          exact False.elim h
  · refine lv_i2l (v := r1.toInt64) hx hb dL_about_8 rfl ?_
    refine ty_last X Y 17 1 12 rfl (by decide) h.1 dL_about_9 (fun H locs Y => ?_)
    have h := h.2
    refine lv_goto (tgt := 17) hx hb dL_about_10 (by decide) ?_
    refine lv_iconst (v := (0 : Int32)) hx hb dL_about_17 (by decide) ?_
    exact tl_iret X Y h dL_about_18

abbrev rL_remembered : Room := { frames := 8, cells := 1, slots := 6, locals := 134 }
theorem kL_remembered_0 : Cond.classLink RL 19 "java/lang/IndexOutOfBoundsException" ∈ wsL_remembered := ty_m 1 (by decide +kernel)
def eL_remembered (S : ty_S) (x1 : Int32) (x2 : Int32) (K : ty_S → Int32 → Prop) : Prop :=
  (eX4_remembered S x1 x2 (fun S1 r1 => (vp_in (0 : Int32) 1 ∧ K (ty_st S1 12 (0 : Int32).toNatClampNeg r1) (0 : Int32))) (fun k9 S9 => if k9 = 0 then K S9 (1 : Int32) else if k9 = 1 then False else if k9 = 2 then False else False))
set_option maxHeartbeats 4000000 in
set_option maxRecDepth 100000 in
theorem cL_remembered_C (l : Launch) (hst : l.stackTraces = false) (D : va_G) (cA : Nat → ClassId) (q : Nat → Nat) (S : ty_S) (x1 : Int32) (x2 : Int32) (K : ty_S → Int32 → Prop) (h : eL_remembered S x1 x2 K) : ∀ sz, Met l yL_remembered wsL_remembered rL_remembered (tl_Pc D cA q ty_LY S sz [.ref (q 0), .int x1, .int x2, .ref (q 17)]) (ty_Qi D cA q ty_LY sz K) 1 6 (ty_A q ty_LY.length sz) := by
  refine tl_ofM hst (ret := (some .int)) (maxL := 5) (cc := cL_remembered) (own := RL) (hh := [(0, 10, 13, 19)]) (Qc := fun sz => ty_Qi D cA q ty_LY sz K) (by decide +kernel) rfl (Nat.le_of_ble_eq_true rfl) rfl ?_
  intro p e s m args below meth c ls X Z hl Y
  have hx := X.1.1
  have hb := X.1.2.1
  have hl : lv_has ls 5 [(0, .ref (q 0)), (1, .int x1), (2, .int x2), (3, .ref (q 17))] := hl
  unfold eL_remembered at h
  refine lv_aload_n hx hb dL_remembered_0 rfl (lv_at hl 3 rfl) ?_
  refine lv_iconst (v := (0 : Int32)) hx hb dL_remembered_1 (by decide) ?_
  refine lv_aload_n hx hb dL_remembered_2 rfl (lv_at hl 0 rfl) ?_
  refine lv_iload_n hx hb dL_remembered_3 rfl (lv_at hl 1 rfl) ?_
  refine lv_iload_n hx hb dL_remembered_4 rfl (lv_at hl 2 rfl) ?_
  refine tl_Vi (As := [.int x1, .int x2]) (b := 0) (rest := [.int (0 : Int32), .ref (q 17)]) X Z Y (cX4_remembered_C l Z.1 D cA q S x1 x2 _ _ h) rfl rfl (fun hts => cwV 2 hts gL_remembered_X4_remembered rfl rfl rfl (by decide +kernel) ⟨Nat.le_of_ble_eq_true rfl, Nat.le_of_ble_eq_true rfl⟩) rfl hl.1 (Nat.le_of_ble_eq_true rfl) dL_remembered_5 ⟨Nat.le_of_ble_eq_true rfl, Nat.le_of_ble_eq_true rfl⟩ ?_ (fun r1 S1 H locs h Y => ?_)
  · intro k9 S9 H locs q9 h hk3 Y hT
    rcases Decidable.em (k9 = 0) with c0 | c0
    · have h := ty_t h c0
      subst c0
      refine tl_catch X Z hk3 hT [] [] ⟨0, 10, 13, 19⟩ rfl ?_ rfl (by decide) kL_remembered_0 ?_
      · exact fun z hz => absurd hz List.not_mem_nil
      · refine lv_astore (lv' := [(4, .ref q9), (0, .ref (q 0)), (1, .int x1), (2, .int x2), (3, .ref (q 17))]) hx hb dL_remembered_13 hl (by decide) rfl (fun ls hl => ?_)
        refine lv_iconst (v := (1 : Int32)) hx hb dL_remembered_15 (by decide) ?_
        exact tl_iret1 X Y h dL_remembered_16
    · have h := ty_f h c0
      rcases Decidable.em (k9 = 1) with c1 | c1
      · have h := ty_t h c1
        exact False.elim h
      · have h := ty_f h c1
        rcases Decidable.em (k9 = 2) with c2 | c2
        · have h := ty_t h c2
          exact False.elim h
        · have h := ty_f h c2
          exact False.elim h
  · refine lv_i2l (v := r1.toInt64) hx hb dL_remembered_8 rfl ?_
    refine ty_last X Y 17 1 12 rfl (by decide) h.1 dL_remembered_9 (fun H locs Y => ?_)
    have h := h.2
    refine lv_goto (tgt := 17) hx hb dL_remembered_10 (by decide) ?_
    refine lv_iconst (v := (0 : Int32)) hx hb dL_remembered_17 (by decide) ?_
    exact tl_iret X Y h dL_remembered_18

abbrev rL_word : Room := { frames := 7, cells := 1, slots := 6, locals := 111 }
theorem kL_word_0 : Cond.classLink RL 19 "java/lang/IndexOutOfBoundsException" ∈ wsL_word := ty_m 1 (by decide +kernel)
def eL_word (S : ty_S) (x1 : Int32) (K : ty_S → Int32 → Prop) : Prop :=
  (eX4_word S x1 (fun S1 r1 => (vp_in (0 : Int32) 1 ∧ K (ty_st S1 12 (0 : Int32).toNatClampNeg r1) (0 : Int32))) (fun k9 S9 => if k9 = 0 then K S9 (1 : Int32) else if k9 = 1 then False else if k9 = 2 then False else False))
set_option maxHeartbeats 4000000 in
set_option maxRecDepth 100000 in
theorem cL_word_C (l : Launch) (hst : l.stackTraces = false) (D : va_G) (cA : Nat → ClassId) (q : Nat → Nat) (S : ty_S) (x1 : Int32) (K : ty_S → Int32 → Prop) (h : eL_word S x1 K) : ∀ sz, Met l yL_word wsL_word rL_word (tl_Pc D cA q ty_LY S sz [.ref (q 0), .int x1, .ref (q 17)]) (ty_Qi D cA q ty_LY sz K) 1 6 (ty_A q ty_LY.length sz) := by
  refine tl_ofM hst (ret := (some .int)) (maxL := 4) (cc := cL_word) (own := RL) (hh := [(0, 9, 12, 19)]) (Qc := fun sz => ty_Qi D cA q ty_LY sz K) (by decide +kernel) rfl (Nat.le_of_ble_eq_true rfl) rfl ?_
  intro p e s m args below meth c ls X Z hl Y
  have hx := X.1.1
  have hb := X.1.2.1
  have hl : lv_has ls 4 [(0, .ref (q 0)), (1, .int x1), (2, .ref (q 17))] := hl
  unfold eL_word at h
  refine lv_aload_n hx hb dL_word_0 rfl (lv_at hl 2 rfl) ?_
  refine lv_iconst (v := (0 : Int32)) hx hb dL_word_1 (by decide) ?_
  refine lv_aload_n hx hb dL_word_2 rfl (lv_at hl 0 rfl) ?_
  refine lv_iload_n hx hb dL_word_3 rfl (lv_at hl 1 rfl) ?_
  refine tl_Vi (As := [.int x1]) (b := 0) (rest := [.int (0 : Int32), .ref (q 17)]) X Z Y (cX4_word_C l Z.1 D cA q S x1 _ _ h) rfl rfl (fun hts => cwV 1 hts gL_word_X4_word rfl rfl rfl (by decide +kernel) ⟨Nat.le_of_ble_eq_true rfl, Nat.le_of_ble_eq_true rfl⟩) rfl hl.1 (Nat.le_of_ble_eq_true rfl) dL_word_4 ⟨Nat.le_of_ble_eq_true rfl, Nat.le_of_ble_eq_true rfl⟩ ?_ (fun r1 S1 H locs h Y => ?_)
  · intro k9 S9 H locs q9 h hk3 Y hT
    rcases Decidable.em (k9 = 0) with c0 | c0
    · have h := ty_t h c0
      subst c0
      refine tl_catch X Z hk3 hT [] [] ⟨0, 9, 12, 19⟩ rfl ?_ rfl (by decide) kL_word_0 ?_
      · exact fun z hz => absurd hz List.not_mem_nil
      · refine lv_astore_n (lv' := [(3, .ref q9), (0, .ref (q 0)), (1, .int x1), (2, .ref (q 17))]) hx hb dL_word_12 rfl hl (by decide) rfl (fun ls hl => ?_)
        refine lv_iconst (v := (1 : Int32)) hx hb dL_word_13 (by decide) ?_
        exact tl_iret1 X Y h dL_word_14
    · have h := ty_f h c0
      rcases Decidable.em (k9 = 1) with c1 | c1
      · have h := ty_t h c1
        exact False.elim h
      · have h := ty_f h c1
        rcases Decidable.em (k9 = 2) with c2 | c2
        · have h := ty_t h c2
          exact False.elim h
        · have h := ty_f h c2
          exact False.elim h
  · refine lv_i2l (v := r1.toInt64) hx hb dL_word_7 rfl ?_
    refine ty_last X Y 17 1 12 rfl (by decide) h.1 dL_word_8 (fun H locs Y => ?_)
    have h := h.2
    refine lv_goto (tgt := 15) hx hb dL_word_9 (by decide) ?_
    refine lv_iconst (v := (0 : Int32)) hx hb dL_word_15 (by decide) ?_
    exact tl_iret X Y h dL_word_16

abbrev rL_told : Room := { frames := 8, cells := 1, slots := 6, locals := 132 }
theorem kL_told_0 : Cond.classLink RL 19 "java/lang/IndexOutOfBoundsException" ∈ wsL_told := ty_m 1 (by decide +kernel)
def eL_told (S : ty_S) (x1 : Int32) (K : ty_S → Int32 → Prop) : Prop :=
  (eX4_told S x1 (fun S1 r1 => (vp_in (0 : Int32) 1 ∧ K (ty_st S1 12 (0 : Int32).toNatClampNeg r1) (0 : Int32))) (fun k9 S9 => if k9 = 0 then K S9 (1 : Int32) else if k9 = 1 then False else if k9 = 2 then False else False))
set_option maxHeartbeats 4000000 in
set_option maxRecDepth 100000 in
theorem cL_told_C (l : Launch) (hst : l.stackTraces = false) (D : va_G) (cA : Nat → ClassId) (q : Nat → Nat) (S : ty_S) (x1 : Int32) (K : ty_S → Int32 → Prop) (h : eL_told S x1 K) : ∀ sz, Met l yL_told wsL_told rL_told (tl_Pc D cA q ty_LY S sz [.ref (q 0), .int x1, .ref (q 17)]) (ty_Qi D cA q ty_LY sz K) 1 6 (ty_A q ty_LY.length sz) := by
  refine tl_ofM hst (ret := (some .int)) (maxL := 4) (cc := cL_told) (own := RL) (hh := [(0, 9, 12, 19)]) (Qc := fun sz => ty_Qi D cA q ty_LY sz K) (by decide +kernel) rfl (Nat.le_of_ble_eq_true rfl) rfl ?_
  intro p e s m args below meth c ls X Z hl Y
  have hx := X.1.1
  have hb := X.1.2.1
  have hl : lv_has ls 4 [(0, .ref (q 0)), (1, .int x1), (2, .ref (q 17))] := hl
  unfold eL_told at h
  refine lv_aload_n hx hb dL_told_0 rfl (lv_at hl 2 rfl) ?_
  refine lv_iconst (v := (0 : Int32)) hx hb dL_told_1 (by decide) ?_
  refine lv_aload_n hx hb dL_told_2 rfl (lv_at hl 0 rfl) ?_
  refine lv_iload_n hx hb dL_told_3 rfl (lv_at hl 1 rfl) ?_
  refine tl_Vi (As := [.int x1]) (b := 0) (rest := [.int (0 : Int32), .ref (q 17)]) X Z Y (cX4_told_C l Z.1 D cA q S x1 _ _ h) rfl rfl (fun hts => cwV 1 hts gL_told_X4_told rfl rfl rfl (by decide +kernel) ⟨Nat.le_of_ble_eq_true rfl, Nat.le_of_ble_eq_true rfl⟩) rfl hl.1 (Nat.le_of_ble_eq_true rfl) dL_told_4 ⟨Nat.le_of_ble_eq_true rfl, Nat.le_of_ble_eq_true rfl⟩ ?_ (fun r1 S1 H locs h Y => ?_)
  · intro k9 S9 H locs q9 h hk3 Y hT
    rcases Decidable.em (k9 = 0) with c0 | c0
    · have h := ty_t h c0
      subst c0
      refine tl_catch X Z hk3 hT [] [] ⟨0, 9, 12, 19⟩ rfl ?_ rfl (by decide) kL_told_0 ?_
      · exact fun z hz => absurd hz List.not_mem_nil
      · refine lv_astore_n (lv' := [(3, .ref q9), (0, .ref (q 0)), (1, .int x1), (2, .ref (q 17))]) hx hb dL_told_12 rfl hl (by decide) rfl (fun ls hl => ?_)
        refine lv_iconst (v := (1 : Int32)) hx hb dL_told_13 (by decide) ?_
        exact tl_iret1 X Y h dL_told_14
    · have h := ty_f h c0
      rcases Decidable.em (k9 = 1) with c1 | c1
      · have h := ty_t h c1
        exact False.elim h
      · have h := ty_f h c1
        rcases Decidable.em (k9 = 2) with c2 | c2
        · have h := ty_t h c2
          exact False.elim h
        · have h := ty_f h c2
          exact False.elim h
  · refine lv_i2l (v := r1.toInt64) hx hb dL_told_7 rfl ?_
    refine ty_last X Y 17 1 12 rfl (by decide) h.1 dL_told_8 (fun H locs Y => ?_)
    have h := h.2
    refine lv_goto (tgt := 15) hx hb dL_told_9 (by decide) ?_
    refine lv_iconst (v := (0 : Int32)) hx hb dL_told_15 (by decide) ?_
    exact tl_iret X Y h dL_told_16
