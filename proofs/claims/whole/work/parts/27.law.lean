def R_law : String := "TrainYardLaw"
def lw_P (b : Addr) (xs : List Int32) (args : Array Value) (s : State) : Prop := args = #[.ref b] ∧ s.IntsAt b xs ∧ xs.length ≤ 256 ∧ (Jvm.Cond.and given_1 narrow_1).before args s = true
def lw_Q (_ : Array Value) (s : State) (o : Outcome) (t : State) : Prop := o = .returned (some (.int 1)) ∧ Framed s o t [] 178 32040
def lw_Z (below : List Frame) (a : Array Value) (s : State) : State → Prop := fun t => ∃ o, t.status = .running ∧ Ended t below o ∧ lw_Q a s o t
/-- the law's own end, with 1 on the stack, nothing written that was there before, its room as the claim has it -/
theorem lw_ret {p : Program} {l : Launch} {e : Env} {s : State} {m : MethodId} {below : List Frame} {meth : Method} {c : Code} {b : Nat} (hx : p.tables.exec = Jvm.exec) (hb : c.code = code) (hr : meth.sig.returnType = ret) (hlocks : meth.locks = false) {pc : Nat} {H : Heap} {ls : Array Slot} (hdg : decode code pc = .ok (.ireturn, 1)) : W p l e room_1 s m #[Value.ref b] below meth c H [] 178 32040 (lw_Z below #[Value.ref b] s) (F0 m pc ls [.int 1]) := by
  intro T hT X
  obtain ⟨fs, hret, hrun, hended, hW, hframe⟩ := X.leave (v := some (.int 1)) (hlocks := hlocks) (fun h => by rw [hr] at h; cases h)
  have hmeth' : T.vm.method? m = some meth := X.method'
  refine ⟨T.setFrames fs, ?_, .returned (some (.int 1)), hrun, hended, rfl, ⟨_, rfl⟩, hW, hframe⟩
  jvm_step X.here [X.here.top, hx, hb, hdg, hmeth', hr, ret, narrow_b1]
  (try refine ⟨rfl, ?_⟩); (try refine ⟨rfl, ?_⟩)
  first | (intro acts; rw [hret _ acts rfl rfl rfl]) | rw [hret _ _ rfl rfl rfl]
  exact Steps.refl _
/-- what holds at the law's entry: the machine, the code, the tables' words (any of lw_tbl by 'hts w (by decide +kernel)'), the script of L ints xs at the cell b, what the Statement gives of the start (any of its parts by flat_of_before) -/
def lw_At (p : Program) (s : State) (m : MethodId) (meth : Method) (c : Code) (b L : Nat) (xs : Nat → Int32) : Prop :=
  p.tables.exec = Jvm.exec ∧ c.code = code ∧ meth.sig.returnType = ret ∧ c.maxLocals = 7 ∧ s.vm.findClass R_law = some m.cls ∧ (∀ w ∈ lw_tbl, w.before #[Value.ref b] s = true) ∧ va_X b L xs s s.heap ∧ b < s.heap.size ∧ meth.locks = false ∧ (Jvm.Cond.and given_1 narrow_1).before #[Value.ref b] s = true
def jL_law_128 (xs : Nat → Int32) (L : Nat) (R : Int32 → ty_S → ty_S → Prop) (x4 : Int32) (S T : ty_S) : Prop :=
  (vp_in (x4 + (1 : Int32)) L ∧ (eL_length S (xs (x4 + (1 : Int32)).toNatClampNeg) (fun S1 r1 => (vp_in (x4 + (1 : Int32)) L ∧ (eX5_length T (xs (x4 + (1 : Int32)).toNatClampNeg) (fun T2 r2 => (eX5_thrown T2  (fun T3 r3 => (if r3 = r1 then (if r1 = (0 : Int32) then (vp_in (0 : Int32) 1 ∧ (if (lg_cmp (S1 12 (0 : Int32).toNatClampNeg).toInt64 r2.toInt64) = (0 : Int32) then R (x4 + (4 : Int32)) S1 T3 else False)) else R (x4 + (4 : Int32)) S1 T3) else False)))))))))
set_option maxHeartbeats 4000000 in
set_option maxRecDepth 100000 in
theorem wjL_law_128 {p : Program} {l : Launch} {e : Env} {s : State} {m : MethodId} {below : List Frame} {meth : Method} {c : Code} {D : va_G} {cA : Nat → ClassId} {qY qM : Nat → Nat} {b L : Nat} {xs : Nat → Int32} (hr : meth.sig.returnType = ret) (hlo : meth.locks = false) (X : tw_X l D cA p s m #[Value.ref b] c b L xs) {cells slots : Nat} (hc : cells + 1 ≤ room_1.cells) (hs : slots + 6 ≤ room_1.slots) {R : Int32 → ty_S → ty_S → Prop} (hR : ∀ (x4 : Int32) (S T : ty_S) (H : Heap) (locs : List Loc) (ls : Array Slot), R x4 S T → tw_Y D cA qY qM S T s H locs → lv_has ls 7 [(0, .ref b), (1, .ref (qY 0)), (2, .ref (qM 0)), (3, .ref (qY 17)), (4, .int x4)] → W p l e room_1 s m #[Value.ref b] below meth c H locs (cells + 1) (slots + 6) (lw_Z below #[Value.ref b] s) (F0 m 23 ls [])) (x4 : Int32) (S T : ty_S) (H : Heap) (locs : List Loc) (ls : Array Slot) (h : jL_law_128 xs L R x4 S T) (Y : tw_Y D cA qY qM S T s H locs) (hl : lv_has ls 7 [(0, .ref b), (1, .ref (qY 0)), (2, .ref (qM 0)), (3, .ref (qY 17)), (4, .int x4)]) : W p l e room_1 s m #[Value.ref b] below meth c H locs cells slots (lw_Z below #[Value.ref b] s) (F0 m 128 ls []) := by
  have hx := X.1.1
  have hb := X.1.2.1
  unfold jL_law_128 at h
  refine lv_aload_n hx hb dL_law_128 rfl (lv_at hl 1 rfl) ?_
  refine lv_aload_n hx hb dL_law_129 rfl (lv_at hl 0 rfl) ?_
  refine lv_iload hx hb dL_law_130 (lv_at hl 4 rfl) ?_
  refine lv_iconst (v := (1 : Int32)) hx hb dL_law_132 (by decide) ?_
  refine lv_iadd hx hb dL_law_133 ?_
  refine tw_sld X Y h.1 dL_law_134 ?_
  have h := h.2
  refine lv_aload_n hx hb dL_law_135 rfl (lv_at hl 3 rfl) ?_
  refine tw_L (As := [.ref (qY 0), .int (xs (x4 + (1 : Int32)).toNatClampNeg), .ref (qY 17)]) (rest := []) (hh := [(0, 9, 12, 13)]) X Y (cL_length_C l X.2.2.2.2.2.1 D cA qY S (xs (x4 + (1 : Int32)).toNatClampNeg) _ h) (fun hts => vx_cwSW 3 hts gL_law_L_length rfl rfl rfl (by decide +kernel) ⟨Nat.le_of_ble_eq_true rfl, Nat.le_of_ble_eq_true rfl⟩) rfl hl.1 (Nat.le_of_ble_eq_true rfl) dL_law_136 ⟨hc, hs⟩ (fun r1 S1 H locs h Y => ?_)
  refine lv_istore (lv' := [(5, .int r1), (0, .ref b), (1, .ref (qY 0)), (2, .ref (qM 0)), (3, .ref (qY 17)), (4, .int x4)]) hx hb dL_law_139 hl (by decide) rfl (fun ls hl => ?_)
  refine lv_aload_n hx hb dL_law_141 rfl (lv_at hl 3 rfl) ?_
  refine lv_aload_n hx hb dL_law_142 rfl (lv_at hl 1 rfl) ?_
  refine lv_iload hx hb dL_law_143 (lv_at hl 5 rfl) ?_
  refine lv_iconst (v := (1 : Int32)) hx hb dL_law_145 (by decide) ?_
  refine lv_iadd hx hb dL_law_146 ?_
  refine tw_sld X Y h.1 dL_law_147 ?_
  have h := h.2
  refine tw_M (As := [.int (xs (x4 + (1 : Int32)).toNatClampNeg)]) (b9 := 0) (rest := []) X Y (cX5_length_C l D cA qM T (xs (x4 + (1 : Int32)).toNatClampNeg) _ h) rfl rfl (fun hts => cwV 1 hts gL_law_X5_length rfl rfl rfl (by decide +kernel) ⟨Nat.le_of_ble_eq_true rfl, Nat.le_of_ble_eq_true rfl⟩) rfl hl.1 (Nat.le_of_ble_eq_true rfl) dL_law_148 ⟨hc, hs⟩ (fun r2 T2 H locs h Y => ?_)
  refine lv_istore (lv' := [(6, .int r2), (5, .int r1), (0, .ref b), (1, .ref (qY 0)), (2, .ref (qM 0)), (3, .ref (qY 17)), (4, .int x4)]) hx hb dL_law_151 hl (by decide) rfl (fun ls hl => ?_)
  refine lv_aload_n hx hb dL_law_153 rfl (lv_at hl 4 rfl) ?_
  refine tw_M (As := []) (b9 := 0) (rest := []) X Y (cX5_thrown_C l D cA qM T2  _ h) rfl rfl (fun hts => cwV 0 hts gL_law_X5_thrown rfl rfl rfl (by decide +kernel) ⟨Nat.le_of_ble_eq_true rfl, Nat.le_of_ble_eq_true rfl⟩) rfl hl.1 (Nat.le_of_ble_eq_true rfl) dL_law_154 ⟨hc, hs⟩ (fun r3 T3 H locs h Y => ?_)
  refine lv_iload hx hb dL_law_157 (lv_at hl 1 rfl) ?_
  refine lv_icmp_eq (tgt := 164) hx hb dL_law_159 (by decide) (fun c9 => ?_) (fun c9 => ?_)
  · have h := ty_t h c9
    refine lv_iload hx hb dL_law_164 (lv_at hl 1 rfl) ?_
    refine lv_if_ne (tgt := 181) hx hb dL_law_166 (by decide) (fun c9 => ?_) (fun c9 => ?_)
    · have h := ty_f h c9
      refine lv_goto (tgt := 1298) hx hb dL_law_181 (by decide) ?_
      refine lv_iinc (v := (x4 + (4 : Int32))) (lv' := [(4, .int (x4 + (4 : Int32))), (6, .int r2), (5, .int r1), (0, .ref b), (1, .ref (qY 0)), (2, .ref (qM 0)), (3, .ref (qY 17))]) hx hb dL_law_1298 hl (k := 6) rfl rfl (by decide) rfl (fun ls hl => ?_)
      refine lv_goto (tgt := 23) hx hb dL_law_1301 (by decide) ?_
      exact hR _ _ _ _ _ _ h Y (lv_sub hl [3, 4, 5, 6, 0] rfl)
    · have h := ty_t h c9
      refine lv_aload_n hx hb dL_law_169 rfl (lv_at hl 5 rfl) ?_
      refine lv_iconst (v := (0 : Int32)) hx hb dL_law_170 (by decide) ?_
      refine tw_out X Y h.1 dL_law_171 ?_
      have h := h.2
      refine lv_iload hx hb dL_law_172 (lv_at hl 0 rfl) ?_
      refine lv_i2l (v := r2.toInt64) hx hb dL_law_174 rfl ?_
      refine W.lcmp hx hb dL_law_175 ?_
      refine lv_if_eq (tgt := 181) hx hb dL_law_176 (by decide) (fun c9 => ?_) (fun c9 => ?_)
      · have h := ty_t h c9
        refine lv_goto (tgt := 1298) hx hb dL_law_181 (by decide) ?_
        refine lv_iinc (v := (x4 + (4 : Int32))) (lv' := [(4, .int (x4 + (4 : Int32))), (6, .int r2), (5, .int r1), (0, .ref b), (1, .ref (qY 0)), (2, .ref (qM 0)), (3, .ref (qY 17))]) hx hb dL_law_1298 hl (k := 6) rfl rfl (by decide) rfl (fun ls hl => ?_)
        refine lv_goto (tgt := 23) hx hb dL_law_1301 (by decide) ?_
        exact hR _ _ _ _ _ _ h Y (lv_sub hl [3, 4, 5, 6, 0] rfl)
      · have h := ty_f h c9
        refine lv_iconst (v := (0 : Int32)) hx hb dL_law_179 (by decide) ?_
        exact False.elim h
  · have h := ty_f h c9
    refine lv_iconst (v := (0 : Int32)) hx hb dL_law_162 (by decide) ?_
    exact False.elim h
def jL_law_184 (xs : Nat → Int32) (L : Nat) (R : Int32 → ty_S → ty_S → Prop) (x4 : Int32) (S T : ty_S) : Prop :=
  (vp_in (x4 + (1 : Int32)) L ∧ (vp_in (x4 + (2 : Int32)) L ∧ (vp_in (x4 + (3 : Int32)) L ∧ (eL_make S (xs (x4 + (1 : Int32)).toNatClampNeg) (xs (x4 + (2 : Int32)).toNatClampNeg) (xs (x4 + (3 : Int32)).toNatClampNeg) (fun S4 r4 => (vp_in (x4 + (1 : Int32)) L ∧ (vp_in (x4 + (2 : Int32)) L ∧ (vp_in (x4 + (3 : Int32)) L ∧ (eX5_make T (xs (x4 + (1 : Int32)).toNatClampNeg) (xs (x4 + (2 : Int32)).toNatClampNeg) (xs (x4 + (3 : Int32)).toNatClampNeg) (fun T5 r5 => (eX5_thrown T5  (fun T6 r6 => (if r6 = r4 then (if r4 = (0 : Int32) then (vp_in (0 : Int32) 1 ∧ (if (lg_cmp (S4 12 (0 : Int32).toNatClampNeg).toInt64 r5.toInt64) = (0 : Int32) then R (x4 + (4 : Int32)) S4 T6 else False)) else R (x4 + (4 : Int32)) S4 T6) else False)))))))))))))
set_option maxHeartbeats 4000000 in
set_option maxRecDepth 100000 in
theorem wjL_law_184 {p : Program} {l : Launch} {e : Env} {s : State} {m : MethodId} {below : List Frame} {meth : Method} {c : Code} {D : va_G} {cA : Nat → ClassId} {qY qM : Nat → Nat} {b L : Nat} {xs : Nat → Int32} (hr : meth.sig.returnType = ret) (hlo : meth.locks = false) (X : tw_X l D cA p s m #[Value.ref b] c b L xs) {cells slots : Nat} (hc : cells + 1 ≤ room_1.cells) (hs : slots + 6 ≤ room_1.slots) {R : Int32 → ty_S → ty_S → Prop} (hR : ∀ (x4 : Int32) (S T : ty_S) (H : Heap) (locs : List Loc) (ls : Array Slot), R x4 S T → tw_Y D cA qY qM S T s H locs → lv_has ls 7 [(0, .ref b), (1, .ref (qY 0)), (2, .ref (qM 0)), (3, .ref (qY 17)), (4, .int x4)] → W p l e room_1 s m #[Value.ref b] below meth c H locs (cells + 1) (slots + 6) (lw_Z below #[Value.ref b] s) (F0 m 23 ls [])) (x4 : Int32) (S T : ty_S) (H : Heap) (locs : List Loc) (ls : Array Slot) (h : jL_law_184 xs L R x4 S T) (Y : tw_Y D cA qY qM S T s H locs) (hl : lv_has ls 7 [(0, .ref b), (1, .ref (qY 0)), (2, .ref (qM 0)), (3, .ref (qY 17)), (4, .int x4)]) : W p l e room_1 s m #[Value.ref b] below meth c H locs cells slots (lw_Z below #[Value.ref b] s) (F0 m 184 ls []) := by
  have hx := X.1.1
  have hb := X.1.2.1
  unfold jL_law_184 at h
  refine lv_aload_n hx hb dL_law_184 rfl (lv_at hl 1 rfl) ?_
  refine lv_aload_n hx hb dL_law_185 rfl (lv_at hl 0 rfl) ?_
  refine lv_iload hx hb dL_law_186 (lv_at hl 4 rfl) ?_
  refine lv_iconst (v := (1 : Int32)) hx hb dL_law_188 (by decide) ?_
  refine lv_iadd hx hb dL_law_189 ?_
  refine tw_sld X Y h.1 dL_law_190 ?_
  have h := h.2
  refine lv_aload_n hx hb dL_law_191 rfl (lv_at hl 0 rfl) ?_
  refine lv_iload hx hb dL_law_192 (lv_at hl 4 rfl) ?_
  refine lv_iconst (v := (2 : Int32)) hx hb dL_law_194 (by decide) ?_
  refine lv_iadd hx hb dL_law_195 ?_
  refine tw_sld X Y h.1 dL_law_196 ?_
  have h := h.2
  refine lv_aload_n hx hb dL_law_197 rfl (lv_at hl 0 rfl) ?_
  refine lv_iload hx hb dL_law_198 (lv_at hl 4 rfl) ?_
  refine lv_iconst (v := (3 : Int32)) hx hb dL_law_200 (by decide) ?_
  refine lv_iadd hx hb dL_law_201 ?_
  refine tw_sld X Y h.1 dL_law_202 ?_
  have h := h.2
  refine lv_aload_n hx hb dL_law_203 rfl (lv_at hl 3 rfl) ?_
  refine tw_L (As := [.ref (qY 0), .int (xs (x4 + (1 : Int32)).toNatClampNeg), .int (xs (x4 + (2 : Int32)).toNatClampNeg), .int (xs (x4 + (3 : Int32)).toNatClampNeg), .ref (qY 17)]) (rest := []) (hh := [(0, 12, 15, 19), (0, 12, 19, 13)]) X Y (cL_make_C l X.2.2.2.2.2.1 D cA qY S (xs (x4 + (1 : Int32)).toNatClampNeg) (xs (x4 + (2 : Int32)).toNatClampNeg) (xs (x4 + (3 : Int32)).toNatClampNeg) _ h) (fun hts => vx_cwSW 5 hts gL_law_L_make rfl rfl rfl (by decide +kernel) ⟨Nat.le_of_ble_eq_true rfl, Nat.le_of_ble_eq_true rfl⟩) rfl hl.1 (Nat.le_of_ble_eq_true rfl) dL_law_204 ⟨hc, hs⟩ (fun r4 S4 H locs h Y => ?_)
  refine lv_istore (lv' := [(5, .int r4), (0, .ref b), (1, .ref (qY 0)), (2, .ref (qM 0)), (3, .ref (qY 17)), (4, .int x4)]) hx hb dL_law_207 hl (by decide) rfl (fun ls hl => ?_)
  refine lv_aload_n hx hb dL_law_209 rfl (lv_at hl 3 rfl) ?_
  refine lv_aload_n hx hb dL_law_210 rfl (lv_at hl 1 rfl) ?_
  refine lv_iload hx hb dL_law_211 (lv_at hl 5 rfl) ?_
  refine lv_iconst (v := (1 : Int32)) hx hb dL_law_213 (by decide) ?_
  refine lv_iadd hx hb dL_law_214 ?_
  refine tw_sld X Y h.1 dL_law_215 ?_
  have h := h.2
  refine lv_aload_n hx hb dL_law_216 rfl (lv_at hl 1 rfl) ?_
  refine lv_iload hx hb dL_law_217 (lv_at hl 5 rfl) ?_
  refine lv_iconst (v := (2 : Int32)) hx hb dL_law_219 (by decide) ?_
  refine lv_iadd hx hb dL_law_220 ?_
  refine tw_sld X Y h.1 dL_law_221 ?_
  have h := h.2
  refine lv_aload_n hx hb dL_law_222 rfl (lv_at hl 1 rfl) ?_
  refine lv_iload hx hb dL_law_223 (lv_at hl 5 rfl) ?_
  refine lv_iconst (v := (3 : Int32)) hx hb dL_law_225 (by decide) ?_
  refine lv_iadd hx hb dL_law_226 ?_
  refine tw_sld X Y h.1 dL_law_227 ?_
  have h := h.2
  refine tw_M (As := [.int (xs (x4 + (1 : Int32)).toNatClampNeg), .int (xs (x4 + (2 : Int32)).toNatClampNeg), .int (xs (x4 + (3 : Int32)).toNatClampNeg)]) (b9 := 0) (rest := []) X Y (cX5_make_C l D cA qM T (xs (x4 + (1 : Int32)).toNatClampNeg) (xs (x4 + (2 : Int32)).toNatClampNeg) (xs (x4 + (3 : Int32)).toNatClampNeg) _ h) rfl rfl (fun hts => cwV 3 hts gL_law_X5_make rfl rfl rfl (by decide +kernel) ⟨Nat.le_of_ble_eq_true rfl, Nat.le_of_ble_eq_true rfl⟩) rfl hl.1 (Nat.le_of_ble_eq_true rfl) dL_law_228 ⟨hc, hs⟩ (fun r5 T5 H locs h Y => ?_)
  refine lv_istore (lv' := [(6, .int r5), (5, .int r4), (0, .ref b), (1, .ref (qY 0)), (2, .ref (qM 0)), (3, .ref (qY 17)), (4, .int x4)]) hx hb dL_law_231 hl (by decide) rfl (fun ls hl => ?_)
  refine lv_aload_n hx hb dL_law_233 rfl (lv_at hl 4 rfl) ?_
  refine tw_M (As := []) (b9 := 0) (rest := []) X Y (cX5_thrown_C l D cA qM T5  _ h) rfl rfl (fun hts => cwV 0 hts gL_law_X5_thrown rfl rfl rfl (by decide +kernel) ⟨Nat.le_of_ble_eq_true rfl, Nat.le_of_ble_eq_true rfl⟩) rfl hl.1 (Nat.le_of_ble_eq_true rfl) dL_law_234 ⟨hc, hs⟩ (fun r6 T6 H locs h Y => ?_)
  refine lv_iload hx hb dL_law_237 (lv_at hl 1 rfl) ?_
  refine lv_icmp_eq (tgt := 244) hx hb dL_law_239 (by decide) (fun c9 => ?_) (fun c9 => ?_)
  · have h := ty_t h c9
    refine lv_iload hx hb dL_law_244 (lv_at hl 1 rfl) ?_
    refine lv_if_ne (tgt := 261) hx hb dL_law_246 (by decide) (fun c9 => ?_) (fun c9 => ?_)
    · have h := ty_f h c9
      refine lv_goto (tgt := 1298) hx hb dL_law_261 (by decide) ?_
      refine lv_iinc (v := (x4 + (4 : Int32))) (lv' := [(4, .int (x4 + (4 : Int32))), (6, .int r5), (5, .int r4), (0, .ref b), (1, .ref (qY 0)), (2, .ref (qM 0)), (3, .ref (qY 17))]) hx hb dL_law_1298 hl (k := 6) rfl rfl (by decide) rfl (fun ls hl => ?_)
      refine lv_goto (tgt := 23) hx hb dL_law_1301 (by decide) ?_
      exact hR _ _ _ _ _ _ h Y (lv_sub hl [3, 4, 5, 6, 0] rfl)
    · have h := ty_t h c9
      refine lv_aload_n hx hb dL_law_249 rfl (lv_at hl 5 rfl) ?_
      refine lv_iconst (v := (0 : Int32)) hx hb dL_law_250 (by decide) ?_
      refine tw_out X Y h.1 dL_law_251 ?_
      have h := h.2
      refine lv_iload hx hb dL_law_252 (lv_at hl 0 rfl) ?_
      refine lv_i2l (v := r5.toInt64) hx hb dL_law_254 rfl ?_
      refine W.lcmp hx hb dL_law_255 ?_
      refine lv_if_eq (tgt := 261) hx hb dL_law_256 (by decide) (fun c9 => ?_) (fun c9 => ?_)
      · have h := ty_t h c9
        refine lv_goto (tgt := 1298) hx hb dL_law_261 (by decide) ?_
        refine lv_iinc (v := (x4 + (4 : Int32))) (lv' := [(4, .int (x4 + (4 : Int32))), (6, .int r5), (5, .int r4), (0, .ref b), (1, .ref (qY 0)), (2, .ref (qM 0)), (3, .ref (qY 17))]) hx hb dL_law_1298 hl (k := 6) rfl rfl (by decide) rfl (fun ls hl => ?_)
        refine lv_goto (tgt := 23) hx hb dL_law_1301 (by decide) ?_
        exact hR _ _ _ _ _ _ h Y (lv_sub hl [3, 4, 5, 6, 0] rfl)
      · have h := ty_f h c9
        refine lv_iconst (v := (0 : Int32)) hx hb dL_law_259 (by decide) ?_
        exact False.elim h
  · have h := ty_f h c9
    refine lv_iconst (v := (0 : Int32)) hx hb dL_law_242 (by decide) ?_
    exact False.elim h
def jL_law_264 (xs : Nat → Int32) (L : Nat) (R : Int32 → ty_S → ty_S → Prop) (x4 : Int32) (S T : ty_S) : Prop :=
  (vp_in (x4 + (1 : Int32)) L ∧ (vp_in (x4 + (2 : Int32)) L ∧ (eL_copy S (xs (x4 + (1 : Int32)).toNatClampNeg) (xs (x4 + (2 : Int32)).toNatClampNeg) (fun S7 r7 => (vp_in (x4 + (1 : Int32)) L ∧ (vp_in (x4 + (2 : Int32)) L ∧ (eX5_copy T (xs (x4 + (1 : Int32)).toNatClampNeg) (xs (x4 + (2 : Int32)).toNatClampNeg) (fun T8 r8 => (eX5_thrown T8  (fun T9 r9 => (if r9 = r7 then (if r7 = (0 : Int32) then (vp_in (0 : Int32) 1 ∧ (if (lg_cmp (S7 12 (0 : Int32).toNatClampNeg).toInt64 r8.toInt64) = (0 : Int32) then R (x4 + (4 : Int32)) S7 T9 else False)) else R (x4 + (4 : Int32)) S7 T9) else False)))))))))))
set_option maxHeartbeats 4000000 in
set_option maxRecDepth 100000 in
theorem wjL_law_264 {p : Program} {l : Launch} {e : Env} {s : State} {m : MethodId} {below : List Frame} {meth : Method} {c : Code} {D : va_G} {cA : Nat → ClassId} {qY qM : Nat → Nat} {b L : Nat} {xs : Nat → Int32} (hr : meth.sig.returnType = ret) (hlo : meth.locks = false) (X : tw_X l D cA p s m #[Value.ref b] c b L xs) {cells slots : Nat} (hc : cells + 1 ≤ room_1.cells) (hs : slots + 6 ≤ room_1.slots) {R : Int32 → ty_S → ty_S → Prop} (hR : ∀ (x4 : Int32) (S T : ty_S) (H : Heap) (locs : List Loc) (ls : Array Slot), R x4 S T → tw_Y D cA qY qM S T s H locs → lv_has ls 7 [(0, .ref b), (1, .ref (qY 0)), (2, .ref (qM 0)), (3, .ref (qY 17)), (4, .int x4)] → W p l e room_1 s m #[Value.ref b] below meth c H locs (cells + 1) (slots + 6) (lw_Z below #[Value.ref b] s) (F0 m 23 ls [])) (x4 : Int32) (S T : ty_S) (H : Heap) (locs : List Loc) (ls : Array Slot) (h : jL_law_264 xs L R x4 S T) (Y : tw_Y D cA qY qM S T s H locs) (hl : lv_has ls 7 [(0, .ref b), (1, .ref (qY 0)), (2, .ref (qM 0)), (3, .ref (qY 17)), (4, .int x4)]) : W p l e room_1 s m #[Value.ref b] below meth c H locs cells slots (lw_Z below #[Value.ref b] s) (F0 m 264 ls []) := by
  have hx := X.1.1
  have hb := X.1.2.1
  unfold jL_law_264 at h
  refine lv_aload_n hx hb dL_law_264 rfl (lv_at hl 1 rfl) ?_
  refine lv_aload_n hx hb dL_law_265 rfl (lv_at hl 0 rfl) ?_
  refine lv_iload hx hb dL_law_266 (lv_at hl 4 rfl) ?_
  refine lv_iconst (v := (1 : Int32)) hx hb dL_law_268 (by decide) ?_
  refine lv_iadd hx hb dL_law_269 ?_
  refine tw_sld X Y h.1 dL_law_270 ?_
  have h := h.2
  refine lv_aload_n hx hb dL_law_271 rfl (lv_at hl 0 rfl) ?_
  refine lv_iload hx hb dL_law_272 (lv_at hl 4 rfl) ?_
  refine lv_iconst (v := (2 : Int32)) hx hb dL_law_274 (by decide) ?_
  refine lv_iadd hx hb dL_law_275 ?_
  refine tw_sld X Y h.1 dL_law_276 ?_
  have h := h.2
  refine lv_aload_n hx hb dL_law_277 rfl (lv_at hl 3 rfl) ?_
  refine tw_L (As := [.ref (qY 0), .int (xs (x4 + (1 : Int32)).toNatClampNeg), .int (xs (x4 + (2 : Int32)).toNatClampNeg), .ref (qY 17)]) (rest := []) (hh := [(0, 10, 13, 19)]) X Y (cL_copy_C l X.2.2.2.2.2.1 D cA qY S (xs (x4 + (1 : Int32)).toNatClampNeg) (xs (x4 + (2 : Int32)).toNatClampNeg) _ h) (fun hts => vx_cwSW 4 hts gL_law_L_copy rfl rfl rfl (by decide +kernel) ⟨Nat.le_of_ble_eq_true rfl, Nat.le_of_ble_eq_true rfl⟩) rfl hl.1 (Nat.le_of_ble_eq_true rfl) dL_law_278 ⟨hc, hs⟩ (fun r7 S7 H locs h Y => ?_)
  refine lv_istore (lv' := [(5, .int r7), (0, .ref b), (1, .ref (qY 0)), (2, .ref (qM 0)), (3, .ref (qY 17)), (4, .int x4)]) hx hb dL_law_281 hl (by decide) rfl (fun ls hl => ?_)
  refine lv_aload_n hx hb dL_law_283 rfl (lv_at hl 3 rfl) ?_
  refine lv_aload_n hx hb dL_law_284 rfl (lv_at hl 1 rfl) ?_
  refine lv_iload hx hb dL_law_285 (lv_at hl 5 rfl) ?_
  refine lv_iconst (v := (1 : Int32)) hx hb dL_law_287 (by decide) ?_
  refine lv_iadd hx hb dL_law_288 ?_
  refine tw_sld X Y h.1 dL_law_289 ?_
  have h := h.2
  refine lv_aload_n hx hb dL_law_290 rfl (lv_at hl 1 rfl) ?_
  refine lv_iload hx hb dL_law_291 (lv_at hl 5 rfl) ?_
  refine lv_iconst (v := (2 : Int32)) hx hb dL_law_293 (by decide) ?_
  refine lv_iadd hx hb dL_law_294 ?_
  refine tw_sld X Y h.1 dL_law_295 ?_
  have h := h.2
  refine tw_M (As := [.int (xs (x4 + (1 : Int32)).toNatClampNeg), .int (xs (x4 + (2 : Int32)).toNatClampNeg)]) (b9 := 0) (rest := []) X Y (cX5_copy_C l D cA qM T (xs (x4 + (1 : Int32)).toNatClampNeg) (xs (x4 + (2 : Int32)).toNatClampNeg) _ h) rfl rfl (fun hts => cwV 2 hts gL_law_X5_copy rfl rfl rfl (by decide +kernel) ⟨Nat.le_of_ble_eq_true rfl, Nat.le_of_ble_eq_true rfl⟩) rfl hl.1 (Nat.le_of_ble_eq_true rfl) dL_law_296 ⟨hc, hs⟩ (fun r8 T8 H locs h Y => ?_)
  refine lv_istore (lv' := [(6, .int r8), (5, .int r7), (0, .ref b), (1, .ref (qY 0)), (2, .ref (qM 0)), (3, .ref (qY 17)), (4, .int x4)]) hx hb dL_law_299 hl (by decide) rfl (fun ls hl => ?_)
  refine lv_aload_n hx hb dL_law_301 rfl (lv_at hl 4 rfl) ?_
  refine tw_M (As := []) (b9 := 0) (rest := []) X Y (cX5_thrown_C l D cA qM T8  _ h) rfl rfl (fun hts => cwV 0 hts gL_law_X5_thrown rfl rfl rfl (by decide +kernel) ⟨Nat.le_of_ble_eq_true rfl, Nat.le_of_ble_eq_true rfl⟩) rfl hl.1 (Nat.le_of_ble_eq_true rfl) dL_law_302 ⟨hc, hs⟩ (fun r9 T9 H locs h Y => ?_)
  refine lv_iload hx hb dL_law_305 (lv_at hl 1 rfl) ?_
  refine lv_icmp_eq (tgt := 312) hx hb dL_law_307 (by decide) (fun c9 => ?_) (fun c9 => ?_)
  · have h := ty_t h c9
    refine lv_iload hx hb dL_law_312 (lv_at hl 1 rfl) ?_
    refine lv_if_ne (tgt := 329) hx hb dL_law_314 (by decide) (fun c9 => ?_) (fun c9 => ?_)
    · have h := ty_f h c9
      refine lv_goto (tgt := 1298) hx hb dL_law_329 (by decide) ?_
      refine lv_iinc (v := (x4 + (4 : Int32))) (lv' := [(4, .int (x4 + (4 : Int32))), (6, .int r8), (5, .int r7), (0, .ref b), (1, .ref (qY 0)), (2, .ref (qM 0)), (3, .ref (qY 17))]) hx hb dL_law_1298 hl (k := 6) rfl rfl (by decide) rfl (fun ls hl => ?_)
      refine lv_goto (tgt := 23) hx hb dL_law_1301 (by decide) ?_
      exact hR _ _ _ _ _ _ h Y (lv_sub hl [3, 4, 5, 6, 0] rfl)
    · have h := ty_t h c9
      refine lv_aload_n hx hb dL_law_317 rfl (lv_at hl 5 rfl) ?_
      refine lv_iconst (v := (0 : Int32)) hx hb dL_law_318 (by decide) ?_
      refine tw_out X Y h.1 dL_law_319 ?_
      have h := h.2
      refine lv_iload hx hb dL_law_320 (lv_at hl 0 rfl) ?_
      refine lv_i2l (v := r8.toInt64) hx hb dL_law_322 rfl ?_
      refine W.lcmp hx hb dL_law_323 ?_
      refine lv_if_eq (tgt := 329) hx hb dL_law_324 (by decide) (fun c9 => ?_) (fun c9 => ?_)
      · have h := ty_t h c9
        refine lv_goto (tgt := 1298) hx hb dL_law_329 (by decide) ?_
        refine lv_iinc (v := (x4 + (4 : Int32))) (lv' := [(4, .int (x4 + (4 : Int32))), (6, .int r8), (5, .int r7), (0, .ref b), (1, .ref (qY 0)), (2, .ref (qM 0)), (3, .ref (qY 17))]) hx hb dL_law_1298 hl (k := 6) rfl rfl (by decide) rfl (fun ls hl => ?_)
        refine lv_goto (tgt := 23) hx hb dL_law_1301 (by decide) ?_
        exact hR _ _ _ _ _ _ h Y (lv_sub hl [3, 4, 5, 6, 0] rfl)
      · have h := ty_f h c9
        refine lv_iconst (v := (0 : Int32)) hx hb dL_law_327 (by decide) ?_
        exact False.elim h
  · have h := ty_f h c9
    refine lv_iconst (v := (0 : Int32)) hx hb dL_law_310 (by decide) ?_
    exact False.elim h
def jL_law_332 (xs : Nat → Int32) (L : Nat) (R : Int32 → ty_S → ty_S → Prop) (x4 : Int32) (S T : ty_S) : Prop :=
  (vp_in (x4 + (1 : Int32)) L ∧ (eL_drop S (xs (x4 + (1 : Int32)).toNatClampNeg) (fun S10 r10 => (vp_in (x4 + (1 : Int32)) L ∧ (eX5_drop T (xs (x4 + (1 : Int32)).toNatClampNeg) (fun T11 r11 => (eX5_thrown T11  (fun T12 r12 => (if r12 = r10 then (if r10 = (0 : Int32) then (vp_in (0 : Int32) 1 ∧ (if (lg_cmp (S10 12 (0 : Int32).toNatClampNeg).toInt64 r11.toInt64) = (0 : Int32) then R (x4 + (4 : Int32)) S10 T12 else False)) else R (x4 + (4 : Int32)) S10 T12) else False)))))))))
set_option maxHeartbeats 4000000 in
set_option maxRecDepth 100000 in
theorem wjL_law_332 {p : Program} {l : Launch} {e : Env} {s : State} {m : MethodId} {below : List Frame} {meth : Method} {c : Code} {D : va_G} {cA : Nat → ClassId} {qY qM : Nat → Nat} {b L : Nat} {xs : Nat → Int32} (hr : meth.sig.returnType = ret) (hlo : meth.locks = false) (X : tw_X l D cA p s m #[Value.ref b] c b L xs) {cells slots : Nat} (hc : cells + 1 ≤ room_1.cells) (hs : slots + 6 ≤ room_1.slots) {R : Int32 → ty_S → ty_S → Prop} (hR : ∀ (x4 : Int32) (S T : ty_S) (H : Heap) (locs : List Loc) (ls : Array Slot), R x4 S T → tw_Y D cA qY qM S T s H locs → lv_has ls 7 [(0, .ref b), (1, .ref (qY 0)), (2, .ref (qM 0)), (3, .ref (qY 17)), (4, .int x4)] → W p l e room_1 s m #[Value.ref b] below meth c H locs (cells + 1) (slots + 6) (lw_Z below #[Value.ref b] s) (F0 m 23 ls [])) (x4 : Int32) (S T : ty_S) (H : Heap) (locs : List Loc) (ls : Array Slot) (h : jL_law_332 xs L R x4 S T) (Y : tw_Y D cA qY qM S T s H locs) (hl : lv_has ls 7 [(0, .ref b), (1, .ref (qY 0)), (2, .ref (qM 0)), (3, .ref (qY 17)), (4, .int x4)]) : W p l e room_1 s m #[Value.ref b] below meth c H locs cells slots (lw_Z below #[Value.ref b] s) (F0 m 332 ls []) := by
  have hx := X.1.1
  have hb := X.1.2.1
  unfold jL_law_332 at h
  refine lv_aload_n hx hb dL_law_332 rfl (lv_at hl 1 rfl) ?_
  refine lv_aload_n hx hb dL_law_333 rfl (lv_at hl 0 rfl) ?_
  refine lv_iload hx hb dL_law_334 (lv_at hl 4 rfl) ?_
  refine lv_iconst (v := (1 : Int32)) hx hb dL_law_336 (by decide) ?_
  refine lv_iadd hx hb dL_law_337 ?_
  refine tw_sld X Y h.1 dL_law_338 ?_
  have h := h.2
  refine lv_aload_n hx hb dL_law_339 rfl (lv_at hl 3 rfl) ?_
  refine tw_L (As := [.ref (qY 0), .int (xs (x4 + (1 : Int32)).toNatClampNeg), .ref (qY 17)]) (rest := []) (hh := [(0, 9, 12, 19)]) X Y (cL_drop_C l X.2.2.2.2.2.1 D cA qY S (xs (x4 + (1 : Int32)).toNatClampNeg) _ h) (fun hts => vx_cwSW 3 hts gL_law_L_drop rfl rfl rfl (by decide +kernel) ⟨Nat.le_of_ble_eq_true rfl, Nat.le_of_ble_eq_true rfl⟩) rfl hl.1 (Nat.le_of_ble_eq_true rfl) dL_law_340 ⟨hc, hs⟩ (fun r10 S10 H locs h Y => ?_)
  refine lv_istore (lv' := [(5, .int r10), (0, .ref b), (1, .ref (qY 0)), (2, .ref (qM 0)), (3, .ref (qY 17)), (4, .int x4)]) hx hb dL_law_343 hl (by decide) rfl (fun ls hl => ?_)
  refine lv_aload_n hx hb dL_law_345 rfl (lv_at hl 3 rfl) ?_
  refine lv_aload_n hx hb dL_law_346 rfl (lv_at hl 1 rfl) ?_
  refine lv_iload hx hb dL_law_347 (lv_at hl 5 rfl) ?_
  refine lv_iconst (v := (1 : Int32)) hx hb dL_law_349 (by decide) ?_
  refine lv_iadd hx hb dL_law_350 ?_
  refine tw_sld X Y h.1 dL_law_351 ?_
  have h := h.2
  refine tw_M (As := [.int (xs (x4 + (1 : Int32)).toNatClampNeg)]) (b9 := 0) (rest := []) X Y (cX5_drop_C l D cA qM T (xs (x4 + (1 : Int32)).toNatClampNeg) _ h) rfl rfl (fun hts => cwV 1 hts gL_law_X5_drop rfl rfl rfl (by decide +kernel) ⟨Nat.le_of_ble_eq_true rfl, Nat.le_of_ble_eq_true rfl⟩) rfl hl.1 (Nat.le_of_ble_eq_true rfl) dL_law_352 ⟨hc, hs⟩ (fun r11 T11 H locs h Y => ?_)
  refine lv_istore (lv' := [(6, .int r11), (5, .int r10), (0, .ref b), (1, .ref (qY 0)), (2, .ref (qM 0)), (3, .ref (qY 17)), (4, .int x4)]) hx hb dL_law_355 hl (by decide) rfl (fun ls hl => ?_)
  refine lv_aload_n hx hb dL_law_357 rfl (lv_at hl 4 rfl) ?_
  refine tw_M (As := []) (b9 := 0) (rest := []) X Y (cX5_thrown_C l D cA qM T11  _ h) rfl rfl (fun hts => cwV 0 hts gL_law_X5_thrown rfl rfl rfl (by decide +kernel) ⟨Nat.le_of_ble_eq_true rfl, Nat.le_of_ble_eq_true rfl⟩) rfl hl.1 (Nat.le_of_ble_eq_true rfl) dL_law_358 ⟨hc, hs⟩ (fun r12 T12 H locs h Y => ?_)
  refine lv_iload hx hb dL_law_361 (lv_at hl 1 rfl) ?_
  refine lv_icmp_eq (tgt := 368) hx hb dL_law_363 (by decide) (fun c9 => ?_) (fun c9 => ?_)
  · have h := ty_t h c9
    refine lv_iload hx hb dL_law_368 (lv_at hl 1 rfl) ?_
    refine lv_if_ne (tgt := 385) hx hb dL_law_370 (by decide) (fun c9 => ?_) (fun c9 => ?_)
    · have h := ty_f h c9
      refine lv_goto (tgt := 1298) hx hb dL_law_385 (by decide) ?_
      refine lv_iinc (v := (x4 + (4 : Int32))) (lv' := [(4, .int (x4 + (4 : Int32))), (6, .int r11), (5, .int r10), (0, .ref b), (1, .ref (qY 0)), (2, .ref (qM 0)), (3, .ref (qY 17))]) hx hb dL_law_1298 hl (k := 6) rfl rfl (by decide) rfl (fun ls hl => ?_)
      refine lv_goto (tgt := 23) hx hb dL_law_1301 (by decide) ?_
      exact hR _ _ _ _ _ _ h Y (lv_sub hl [3, 4, 5, 6, 0] rfl)
    · have h := ty_t h c9
      refine lv_aload_n hx hb dL_law_373 rfl (lv_at hl 5 rfl) ?_
      refine lv_iconst (v := (0 : Int32)) hx hb dL_law_374 (by decide) ?_
      refine tw_out X Y h.1 dL_law_375 ?_
      have h := h.2
      refine lv_iload hx hb dL_law_376 (lv_at hl 0 rfl) ?_
      refine lv_i2l (v := r11.toInt64) hx hb dL_law_378 rfl ?_
      refine W.lcmp hx hb dL_law_379 ?_
      refine lv_if_eq (tgt := 385) hx hb dL_law_380 (by decide) (fun c9 => ?_) (fun c9 => ?_)
      · have h := ty_t h c9
        refine lv_goto (tgt := 1298) hx hb dL_law_385 (by decide) ?_
        refine lv_iinc (v := (x4 + (4 : Int32))) (lv' := [(4, .int (x4 + (4 : Int32))), (6, .int r11), (5, .int r10), (0, .ref b), (1, .ref (qY 0)), (2, .ref (qM 0)), (3, .ref (qY 17))]) hx hb dL_law_1298 hl (k := 6) rfl rfl (by decide) rfl (fun ls hl => ?_)
        refine lv_goto (tgt := 23) hx hb dL_law_1301 (by decide) ?_
        exact hR _ _ _ _ _ _ h Y (lv_sub hl [3, 4, 5, 6, 0] rfl)
      · have h := ty_f h c9
        refine lv_iconst (v := (0 : Int32)) hx hb dL_law_383 (by decide) ?_
        exact False.elim h
  · have h := ty_f h c9
    refine lv_iconst (v := (0 : Int32)) hx hb dL_law_366 (by decide) ?_
    exact False.elim h
def jL_law_388 (xs : Nat → Int32) (L : Nat) (R : Int32 → ty_S → ty_S → Prop) (x4 : Int32) (S T : ty_S) : Prop :=
  (vp_in (x4 + (1 : Int32)) L ∧ (vp_in (x4 + (2 : Int32)) L ∧ (vp_in (x4 + (3 : Int32)) L ∧ (eL_set S (xs (x4 + (1 : Int32)).toNatClampNeg) (xs (x4 + (2 : Int32)).toNatClampNeg) (xs (x4 + (3 : Int32)).toNatClampNeg) (fun S13 r13 => (vp_in (x4 + (1 : Int32)) L ∧ (vp_in (x4 + (2 : Int32)) L ∧ (vp_in (x4 + (3 : Int32)) L ∧ (eX5_set T (xs (x4 + (1 : Int32)).toNatClampNeg) (xs (x4 + (2 : Int32)).toNatClampNeg) (xs (x4 + (3 : Int32)).toNatClampNeg) (fun T14 r14 => (eX5_thrown T14  (fun T15 r15 => (if r15 = r13 then (if r13 = (0 : Int32) then (vp_in (0 : Int32) 1 ∧ (if (lg_cmp (S13 12 (0 : Int32).toNatClampNeg).toInt64 r14.toInt64) = (0 : Int32) then R (x4 + (4 : Int32)) S13 T15 else False)) else R (x4 + (4 : Int32)) S13 T15) else False)))))))))))))
set_option maxHeartbeats 4000000 in
set_option maxRecDepth 100000 in
theorem wjL_law_388 {p : Program} {l : Launch} {e : Env} {s : State} {m : MethodId} {below : List Frame} {meth : Method} {c : Code} {D : va_G} {cA : Nat → ClassId} {qY qM : Nat → Nat} {b L : Nat} {xs : Nat → Int32} (hr : meth.sig.returnType = ret) (hlo : meth.locks = false) (X : tw_X l D cA p s m #[Value.ref b] c b L xs) {cells slots : Nat} (hc : cells + 1 ≤ room_1.cells) (hs : slots + 6 ≤ room_1.slots) {R : Int32 → ty_S → ty_S → Prop} (hR : ∀ (x4 : Int32) (S T : ty_S) (H : Heap) (locs : List Loc) (ls : Array Slot), R x4 S T → tw_Y D cA qY qM S T s H locs → lv_has ls 7 [(0, .ref b), (1, .ref (qY 0)), (2, .ref (qM 0)), (3, .ref (qY 17)), (4, .int x4)] → W p l e room_1 s m #[Value.ref b] below meth c H locs (cells + 1) (slots + 6) (lw_Z below #[Value.ref b] s) (F0 m 23 ls [])) (x4 : Int32) (S T : ty_S) (H : Heap) (locs : List Loc) (ls : Array Slot) (h : jL_law_388 xs L R x4 S T) (Y : tw_Y D cA qY qM S T s H locs) (hl : lv_has ls 7 [(0, .ref b), (1, .ref (qY 0)), (2, .ref (qM 0)), (3, .ref (qY 17)), (4, .int x4)]) : W p l e room_1 s m #[Value.ref b] below meth c H locs cells slots (lw_Z below #[Value.ref b] s) (F0 m 388 ls []) := by
  have hx := X.1.1
  have hb := X.1.2.1
  unfold jL_law_388 at h
  refine lv_aload_n hx hb dL_law_388 rfl (lv_at hl 1 rfl) ?_
  refine lv_aload_n hx hb dL_law_389 rfl (lv_at hl 0 rfl) ?_
  refine lv_iload hx hb dL_law_390 (lv_at hl 4 rfl) ?_
  refine lv_iconst (v := (1 : Int32)) hx hb dL_law_392 (by decide) ?_
  refine lv_iadd hx hb dL_law_393 ?_
  refine tw_sld X Y h.1 dL_law_394 ?_
  have h := h.2
  refine lv_aload_n hx hb dL_law_395 rfl (lv_at hl 0 rfl) ?_
  refine lv_iload hx hb dL_law_396 (lv_at hl 4 rfl) ?_
  refine lv_iconst (v := (2 : Int32)) hx hb dL_law_398 (by decide) ?_
  refine lv_iadd hx hb dL_law_399 ?_
  refine tw_sld X Y h.1 dL_law_400 ?_
  have h := h.2
  refine lv_aload_n hx hb dL_law_401 rfl (lv_at hl 0 rfl) ?_
  refine lv_iload hx hb dL_law_402 (lv_at hl 4 rfl) ?_
  refine lv_iconst (v := (3 : Int32)) hx hb dL_law_404 (by decide) ?_
  refine lv_iadd hx hb dL_law_405 ?_
  refine tw_sld X Y h.1 dL_law_406 ?_
  have h := h.2
  refine lv_aload_n hx hb dL_law_407 rfl (lv_at hl 3 rfl) ?_
  refine tw_L (As := [.ref (qY 0), .int (xs (x4 + (1 : Int32)).toNatClampNeg), .int (xs (x4 + (2 : Int32)).toNatClampNeg), .int (xs (x4 + (3 : Int32)).toNatClampNeg), .ref (qY 17)]) (rest := []) (hh := [(0, 12, 15, 19), (0, 12, 19, 31), (0, 12, 23, 13)]) X Y (cL_set_C l X.2.2.2.2.2.1 D cA qY S (xs (x4 + (1 : Int32)).toNatClampNeg) (xs (x4 + (2 : Int32)).toNatClampNeg) (xs (x4 + (3 : Int32)).toNatClampNeg) _ h) (fun hts => vx_cwSW 5 hts gL_law_L_set rfl rfl rfl (by decide +kernel) ⟨Nat.le_of_ble_eq_true rfl, Nat.le_of_ble_eq_true rfl⟩) rfl hl.1 (Nat.le_of_ble_eq_true rfl) dL_law_408 ⟨hc, hs⟩ (fun r13 S13 H locs h Y => ?_)
  refine lv_istore (lv' := [(5, .int r13), (0, .ref b), (1, .ref (qY 0)), (2, .ref (qM 0)), (3, .ref (qY 17)), (4, .int x4)]) hx hb dL_law_411 hl (by decide) rfl (fun ls hl => ?_)
  refine lv_aload_n hx hb dL_law_413 rfl (lv_at hl 3 rfl) ?_
  refine lv_aload_n hx hb dL_law_414 rfl (lv_at hl 1 rfl) ?_
  refine lv_iload hx hb dL_law_415 (lv_at hl 5 rfl) ?_
  refine lv_iconst (v := (1 : Int32)) hx hb dL_law_417 (by decide) ?_
  refine lv_iadd hx hb dL_law_418 ?_
  refine tw_sld X Y h.1 dL_law_419 ?_
  have h := h.2
  refine lv_aload_n hx hb dL_law_420 rfl (lv_at hl 1 rfl) ?_
  refine lv_iload hx hb dL_law_421 (lv_at hl 5 rfl) ?_
  refine lv_iconst (v := (2 : Int32)) hx hb dL_law_423 (by decide) ?_
  refine lv_iadd hx hb dL_law_424 ?_
  refine tw_sld X Y h.1 dL_law_425 ?_
  have h := h.2
  refine lv_aload_n hx hb dL_law_426 rfl (lv_at hl 1 rfl) ?_
  refine lv_iload hx hb dL_law_427 (lv_at hl 5 rfl) ?_
  refine lv_iconst (v := (3 : Int32)) hx hb dL_law_429 (by decide) ?_
  refine lv_iadd hx hb dL_law_430 ?_
  refine tw_sld X Y h.1 dL_law_431 ?_
  have h := h.2
  refine tw_M (As := [.int (xs (x4 + (1 : Int32)).toNatClampNeg), .int (xs (x4 + (2 : Int32)).toNatClampNeg), .int (xs (x4 + (3 : Int32)).toNatClampNeg)]) (b9 := 0) (rest := []) X Y (cX5_set_C l D cA qM T (xs (x4 + (1 : Int32)).toNatClampNeg) (xs (x4 + (2 : Int32)).toNatClampNeg) (xs (x4 + (3 : Int32)).toNatClampNeg) _ h) rfl rfl (fun hts => cwV 3 hts gL_law_X5_set rfl rfl rfl (by decide +kernel) ⟨Nat.le_of_ble_eq_true rfl, Nat.le_of_ble_eq_true rfl⟩) rfl hl.1 (Nat.le_of_ble_eq_true rfl) dL_law_432 ⟨hc, hs⟩ (fun r14 T14 H locs h Y => ?_)
  refine lv_istore (lv' := [(6, .int r14), (5, .int r13), (0, .ref b), (1, .ref (qY 0)), (2, .ref (qM 0)), (3, .ref (qY 17)), (4, .int x4)]) hx hb dL_law_435 hl (by decide) rfl (fun ls hl => ?_)
  refine lv_aload_n hx hb dL_law_437 rfl (lv_at hl 4 rfl) ?_
  refine tw_M (As := []) (b9 := 0) (rest := []) X Y (cX5_thrown_C l D cA qM T14  _ h) rfl rfl (fun hts => cwV 0 hts gL_law_X5_thrown rfl rfl rfl (by decide +kernel) ⟨Nat.le_of_ble_eq_true rfl, Nat.le_of_ble_eq_true rfl⟩) rfl hl.1 (Nat.le_of_ble_eq_true rfl) dL_law_438 ⟨hc, hs⟩ (fun r15 T15 H locs h Y => ?_)
  refine lv_iload hx hb dL_law_441 (lv_at hl 1 rfl) ?_
  refine lv_icmp_eq (tgt := 448) hx hb dL_law_443 (by decide) (fun c9 => ?_) (fun c9 => ?_)
  · have h := ty_t h c9
    refine lv_iload hx hb dL_law_448 (lv_at hl 1 rfl) ?_
    refine lv_if_ne (tgt := 465) hx hb dL_law_450 (by decide) (fun c9 => ?_) (fun c9 => ?_)
    · have h := ty_f h c9
      refine lv_goto (tgt := 1298) hx hb dL_law_465 (by decide) ?_
      refine lv_iinc (v := (x4 + (4 : Int32))) (lv' := [(4, .int (x4 + (4 : Int32))), (6, .int r14), (5, .int r13), (0, .ref b), (1, .ref (qY 0)), (2, .ref (qM 0)), (3, .ref (qY 17))]) hx hb dL_law_1298 hl (k := 6) rfl rfl (by decide) rfl (fun ls hl => ?_)
      refine lv_goto (tgt := 23) hx hb dL_law_1301 (by decide) ?_
      exact hR _ _ _ _ _ _ h Y (lv_sub hl [3, 4, 5, 6, 0] rfl)
    · have h := ty_t h c9
      refine lv_aload_n hx hb dL_law_453 rfl (lv_at hl 5 rfl) ?_
      refine lv_iconst (v := (0 : Int32)) hx hb dL_law_454 (by decide) ?_
      refine tw_out X Y h.1 dL_law_455 ?_
      have h := h.2
      refine lv_iload hx hb dL_law_456 (lv_at hl 0 rfl) ?_
      refine lv_i2l (v := r14.toInt64) hx hb dL_law_458 rfl ?_
      refine W.lcmp hx hb dL_law_459 ?_
      refine lv_if_eq (tgt := 465) hx hb dL_law_460 (by decide) (fun c9 => ?_) (fun c9 => ?_)
      · have h := ty_t h c9
        refine lv_goto (tgt := 1298) hx hb dL_law_465 (by decide) ?_
        refine lv_iinc (v := (x4 + (4 : Int32))) (lv' := [(4, .int (x4 + (4 : Int32))), (6, .int r14), (5, .int r13), (0, .ref b), (1, .ref (qY 0)), (2, .ref (qM 0)), (3, .ref (qY 17))]) hx hb dL_law_1298 hl (k := 6) rfl rfl (by decide) rfl (fun ls hl => ?_)
        refine lv_goto (tgt := 23) hx hb dL_law_1301 (by decide) ?_
        exact hR _ _ _ _ _ _ h Y (lv_sub hl [3, 4, 5, 6, 0] rfl)
      · have h := ty_f h c9
        refine lv_iconst (v := (0 : Int32)) hx hb dL_law_463 (by decide) ?_
        exact False.elim h
  · have h := ty_f h c9
    refine lv_iconst (v := (0 : Int32)) hx hb dL_law_446 (by decide) ?_
    exact False.elim h
def jL_law_468 (xs : Nat → Int32) (L : Nat) (R : Int32 → ty_S → ty_S → Prop) (x4 : Int32) (S T : ty_S) : Prop :=
  (vp_in (x4 + (1 : Int32)) L ∧ (vp_in (x4 + (2 : Int32)) L ∧ (vp_in (x4 + (3 : Int32)) L ∧ (eL_get S (xs (x4 + (1 : Int32)).toNatClampNeg) (xs (x4 + (2 : Int32)).toNatClampNeg) (xs (x4 + (3 : Int32)).toNatClampNeg) (fun S16 r16 => (vp_in (x4 + (1 : Int32)) L ∧ (vp_in (x4 + (2 : Int32)) L ∧ (vp_in (x4 + (3 : Int32)) L ∧ (eX5_get T (xs (x4 + (1 : Int32)).toNatClampNeg) (xs (x4 + (2 : Int32)).toNatClampNeg) (xs (x4 + (3 : Int32)).toNatClampNeg) (fun T17 r17 => (eX5_thrown T17  (fun T18 r18 => (if r18 = r16 then (if r16 = (0 : Int32) then (vp_in (0 : Int32) 1 ∧ (if (lg_cmp (S16 12 (0 : Int32).toNatClampNeg).toInt64 r17.toInt64) = (0 : Int32) then R (x4 + (4 : Int32)) S16 T18 else False)) else R (x4 + (4 : Int32)) S16 T18) else False)))))))))))))
set_option maxHeartbeats 4000000 in
set_option maxRecDepth 100000 in
theorem wjL_law_468 {p : Program} {l : Launch} {e : Env} {s : State} {m : MethodId} {below : List Frame} {meth : Method} {c : Code} {D : va_G} {cA : Nat → ClassId} {qY qM : Nat → Nat} {b L : Nat} {xs : Nat → Int32} (hr : meth.sig.returnType = ret) (hlo : meth.locks = false) (X : tw_X l D cA p s m #[Value.ref b] c b L xs) {cells slots : Nat} (hc : cells + 1 ≤ room_1.cells) (hs : slots + 6 ≤ room_1.slots) {R : Int32 → ty_S → ty_S → Prop} (hR : ∀ (x4 : Int32) (S T : ty_S) (H : Heap) (locs : List Loc) (ls : Array Slot), R x4 S T → tw_Y D cA qY qM S T s H locs → lv_has ls 7 [(0, .ref b), (1, .ref (qY 0)), (2, .ref (qM 0)), (3, .ref (qY 17)), (4, .int x4)] → W p l e room_1 s m #[Value.ref b] below meth c H locs (cells + 1) (slots + 6) (lw_Z below #[Value.ref b] s) (F0 m 23 ls [])) (x4 : Int32) (S T : ty_S) (H : Heap) (locs : List Loc) (ls : Array Slot) (h : jL_law_468 xs L R x4 S T) (Y : tw_Y D cA qY qM S T s H locs) (hl : lv_has ls 7 [(0, .ref b), (1, .ref (qY 0)), (2, .ref (qM 0)), (3, .ref (qY 17)), (4, .int x4)]) : W p l e room_1 s m #[Value.ref b] below meth c H locs cells slots (lw_Z below #[Value.ref b] s) (F0 m 468 ls []) := by
  have hx := X.1.1
  have hb := X.1.2.1
  unfold jL_law_468 at h
  refine lv_aload_n hx hb dL_law_468 rfl (lv_at hl 1 rfl) ?_
  refine lv_aload_n hx hb dL_law_469 rfl (lv_at hl 0 rfl) ?_
  refine lv_iload hx hb dL_law_470 (lv_at hl 4 rfl) ?_
  refine lv_iconst (v := (1 : Int32)) hx hb dL_law_472 (by decide) ?_
  refine lv_iadd hx hb dL_law_473 ?_
  refine tw_sld X Y h.1 dL_law_474 ?_
  have h := h.2
  refine lv_aload_n hx hb dL_law_475 rfl (lv_at hl 0 rfl) ?_
  refine lv_iload hx hb dL_law_476 (lv_at hl 4 rfl) ?_
  refine lv_iconst (v := (2 : Int32)) hx hb dL_law_478 (by decide) ?_
  refine lv_iadd hx hb dL_law_479 ?_
  refine tw_sld X Y h.1 dL_law_480 ?_
  have h := h.2
  refine lv_aload_n hx hb dL_law_481 rfl (lv_at hl 0 rfl) ?_
  refine lv_iload hx hb dL_law_482 (lv_at hl 4 rfl) ?_
  refine lv_iconst (v := (3 : Int32)) hx hb dL_law_484 (by decide) ?_
  refine lv_iadd hx hb dL_law_485 ?_
  refine tw_sld X Y h.1 dL_law_486 ?_
  have h := h.2
  refine lv_aload_n hx hb dL_law_487 rfl (lv_at hl 3 rfl) ?_
  refine tw_L (As := [.ref (qY 0), .int (xs (x4 + (1 : Int32)).toNatClampNeg), .int (xs (x4 + (2 : Int32)).toNatClampNeg), .int (xs (x4 + (3 : Int32)).toNatClampNeg), .ref (qY 17)]) (rest := []) (hh := [(0, 12, 15, 19), (0, 12, 19, 31), (0, 12, 23, 13)]) X Y (cL_get_C l X.2.2.2.2.2.1 D cA qY S (xs (x4 + (1 : Int32)).toNatClampNeg) (xs (x4 + (2 : Int32)).toNatClampNeg) (xs (x4 + (3 : Int32)).toNatClampNeg) _ h) (fun hts => vx_cwSW 5 hts gL_law_L_get rfl rfl rfl (by decide +kernel) ⟨Nat.le_of_ble_eq_true rfl, Nat.le_of_ble_eq_true rfl⟩) rfl hl.1 (Nat.le_of_ble_eq_true rfl) dL_law_488 ⟨hc, hs⟩ (fun r16 S16 H locs h Y => ?_)
  refine lv_istore (lv' := [(5, .int r16), (0, .ref b), (1, .ref (qY 0)), (2, .ref (qM 0)), (3, .ref (qY 17)), (4, .int x4)]) hx hb dL_law_491 hl (by decide) rfl (fun ls hl => ?_)
  refine lv_aload_n hx hb dL_law_493 rfl (lv_at hl 3 rfl) ?_
  refine lv_aload_n hx hb dL_law_494 rfl (lv_at hl 1 rfl) ?_
  refine lv_iload hx hb dL_law_495 (lv_at hl 5 rfl) ?_
  refine lv_iconst (v := (1 : Int32)) hx hb dL_law_497 (by decide) ?_
  refine lv_iadd hx hb dL_law_498 ?_
  refine tw_sld X Y h.1 dL_law_499 ?_
  have h := h.2
  refine lv_aload_n hx hb dL_law_500 rfl (lv_at hl 1 rfl) ?_
  refine lv_iload hx hb dL_law_501 (lv_at hl 5 rfl) ?_
  refine lv_iconst (v := (2 : Int32)) hx hb dL_law_503 (by decide) ?_
  refine lv_iadd hx hb dL_law_504 ?_
  refine tw_sld X Y h.1 dL_law_505 ?_
  have h := h.2
  refine lv_aload_n hx hb dL_law_506 rfl (lv_at hl 1 rfl) ?_
  refine lv_iload hx hb dL_law_507 (lv_at hl 5 rfl) ?_
  refine lv_iconst (v := (3 : Int32)) hx hb dL_law_509 (by decide) ?_
  refine lv_iadd hx hb dL_law_510 ?_
  refine tw_sld X Y h.1 dL_law_511 ?_
  have h := h.2
  refine tw_M (As := [.int (xs (x4 + (1 : Int32)).toNatClampNeg), .int (xs (x4 + (2 : Int32)).toNatClampNeg), .int (xs (x4 + (3 : Int32)).toNatClampNeg)]) (b9 := 0) (rest := []) X Y (cX5_get_C l D cA qM T (xs (x4 + (1 : Int32)).toNatClampNeg) (xs (x4 + (2 : Int32)).toNatClampNeg) (xs (x4 + (3 : Int32)).toNatClampNeg) _ h) rfl rfl (fun hts => cwV 3 hts gL_law_X5_get rfl rfl rfl (by decide +kernel) ⟨Nat.le_of_ble_eq_true rfl, Nat.le_of_ble_eq_true rfl⟩) rfl hl.1 (Nat.le_of_ble_eq_true rfl) dL_law_512 ⟨hc, hs⟩ (fun r17 T17 H locs h Y => ?_)
  refine lv_istore (lv' := [(6, .int r17), (5, .int r16), (0, .ref b), (1, .ref (qY 0)), (2, .ref (qM 0)), (3, .ref (qY 17)), (4, .int x4)]) hx hb dL_law_515 hl (by decide) rfl (fun ls hl => ?_)
  refine lv_aload_n hx hb dL_law_517 rfl (lv_at hl 4 rfl) ?_
  refine tw_M (As := []) (b9 := 0) (rest := []) X Y (cX5_thrown_C l D cA qM T17  _ h) rfl rfl (fun hts => cwV 0 hts gL_law_X5_thrown rfl rfl rfl (by decide +kernel) ⟨Nat.le_of_ble_eq_true rfl, Nat.le_of_ble_eq_true rfl⟩) rfl hl.1 (Nat.le_of_ble_eq_true rfl) dL_law_518 ⟨hc, hs⟩ (fun r18 T18 H locs h Y => ?_)
  refine lv_iload hx hb dL_law_521 (lv_at hl 1 rfl) ?_
  refine lv_icmp_eq (tgt := 528) hx hb dL_law_523 (by decide) (fun c9 => ?_) (fun c9 => ?_)
  · have h := ty_t h c9
    refine lv_iload hx hb dL_law_528 (lv_at hl 1 rfl) ?_
    refine lv_if_ne (tgt := 545) hx hb dL_law_530 (by decide) (fun c9 => ?_) (fun c9 => ?_)
    · have h := ty_f h c9
      refine lv_goto (tgt := 1298) hx hb dL_law_545 (by decide) ?_
      refine lv_iinc (v := (x4 + (4 : Int32))) (lv' := [(4, .int (x4 + (4 : Int32))), (6, .int r17), (5, .int r16), (0, .ref b), (1, .ref (qY 0)), (2, .ref (qM 0)), (3, .ref (qY 17))]) hx hb dL_law_1298 hl (k := 6) rfl rfl (by decide) rfl (fun ls hl => ?_)
      refine lv_goto (tgt := 23) hx hb dL_law_1301 (by decide) ?_
      exact hR _ _ _ _ _ _ h Y (lv_sub hl [3, 4, 5, 6, 0] rfl)
    · have h := ty_t h c9
      refine lv_aload_n hx hb dL_law_533 rfl (lv_at hl 5 rfl) ?_
      refine lv_iconst (v := (0 : Int32)) hx hb dL_law_534 (by decide) ?_
      refine tw_out X Y h.1 dL_law_535 ?_
      have h := h.2
      refine lv_iload hx hb dL_law_536 (lv_at hl 0 rfl) ?_
      refine lv_i2l (v := r17.toInt64) hx hb dL_law_538 rfl ?_
      refine W.lcmp hx hb dL_law_539 ?_
      refine lv_if_eq (tgt := 545) hx hb dL_law_540 (by decide) (fun c9 => ?_) (fun c9 => ?_)
      · have h := ty_t h c9
        refine lv_goto (tgt := 1298) hx hb dL_law_545 (by decide) ?_
        refine lv_iinc (v := (x4 + (4 : Int32))) (lv' := [(4, .int (x4 + (4 : Int32))), (6, .int r17), (5, .int r16), (0, .ref b), (1, .ref (qY 0)), (2, .ref (qM 0)), (3, .ref (qY 17))]) hx hb dL_law_1298 hl (k := 6) rfl rfl (by decide) rfl (fun ls hl => ?_)
        refine lv_goto (tgt := 23) hx hb dL_law_1301 (by decide) ?_
        exact hR _ _ _ _ _ _ h Y (lv_sub hl [3, 4, 5, 6, 0] rfl)
      · have h := ty_f h c9
        refine lv_iconst (v := (0 : Int32)) hx hb dL_law_543 (by decide) ?_
        exact False.elim h
  · have h := ty_f h c9
    refine lv_iconst (v := (0 : Int32)) hx hb dL_law_526 (by decide) ?_
    exact False.elim h
def jL_law_548 (xs : Nat → Int32) (L : Nat) (R : Int32 → ty_S → ty_S → Prop) (x4 : Int32) (S T : ty_S) : Prop :=
  (vp_in (x4 + (1 : Int32)) L ∧ (vp_in (x4 + (2 : Int32)) L ∧ (vp_in (x4 + (3 : Int32)) L ∧ (eL_put S (xs (x4 + (1 : Int32)).toNatClampNeg) (xs (x4 + (2 : Int32)).toNatClampNeg) (xs (x4 + (3 : Int32)).toNatClampNeg) (fun S19 r19 => (vp_in (x4 + (1 : Int32)) L ∧ (vp_in (x4 + (2 : Int32)) L ∧ (vp_in (x4 + (3 : Int32)) L ∧ (eX5_put T (xs (x4 + (1 : Int32)).toNatClampNeg) (xs (x4 + (2 : Int32)).toNatClampNeg) (xs (x4 + (3 : Int32)).toNatClampNeg) (fun T20 r20 => (eX5_thrown T20  (fun T21 r21 => (if r21 = r19 then (if r19 = (0 : Int32) then (vp_in (0 : Int32) 1 ∧ (if (lg_cmp (S19 12 (0 : Int32).toNatClampNeg).toInt64 r20.toInt64) = (0 : Int32) then R (x4 + (4 : Int32)) S19 T21 else False)) else R (x4 + (4 : Int32)) S19 T21) else False)))))))))))))
set_option maxHeartbeats 4000000 in
set_option maxRecDepth 100000 in
theorem wjL_law_548 {p : Program} {l : Launch} {e : Env} {s : State} {m : MethodId} {below : List Frame} {meth : Method} {c : Code} {D : va_G} {cA : Nat → ClassId} {qY qM : Nat → Nat} {b L : Nat} {xs : Nat → Int32} (hr : meth.sig.returnType = ret) (hlo : meth.locks = false) (X : tw_X l D cA p s m #[Value.ref b] c b L xs) {cells slots : Nat} (hc : cells + 1 ≤ room_1.cells) (hs : slots + 6 ≤ room_1.slots) {R : Int32 → ty_S → ty_S → Prop} (hR : ∀ (x4 : Int32) (S T : ty_S) (H : Heap) (locs : List Loc) (ls : Array Slot), R x4 S T → tw_Y D cA qY qM S T s H locs → lv_has ls 7 [(0, .ref b), (1, .ref (qY 0)), (2, .ref (qM 0)), (3, .ref (qY 17)), (4, .int x4)] → W p l e room_1 s m #[Value.ref b] below meth c H locs (cells + 1) (slots + 6) (lw_Z below #[Value.ref b] s) (F0 m 23 ls [])) (x4 : Int32) (S T : ty_S) (H : Heap) (locs : List Loc) (ls : Array Slot) (h : jL_law_548 xs L R x4 S T) (Y : tw_Y D cA qY qM S T s H locs) (hl : lv_has ls 7 [(0, .ref b), (1, .ref (qY 0)), (2, .ref (qM 0)), (3, .ref (qY 17)), (4, .int x4)]) : W p l e room_1 s m #[Value.ref b] below meth c H locs cells slots (lw_Z below #[Value.ref b] s) (F0 m 548 ls []) := by
  have hx := X.1.1
  have hb := X.1.2.1
  unfold jL_law_548 at h
  refine lv_aload_n hx hb dL_law_548 rfl (lv_at hl 1 rfl) ?_
  refine lv_aload_n hx hb dL_law_549 rfl (lv_at hl 0 rfl) ?_
  refine lv_iload hx hb dL_law_550 (lv_at hl 4 rfl) ?_
  refine lv_iconst (v := (1 : Int32)) hx hb dL_law_552 (by decide) ?_
  refine lv_iadd hx hb dL_law_553 ?_
  refine tw_sld X Y h.1 dL_law_554 ?_
  have h := h.2
  refine lv_aload_n hx hb dL_law_555 rfl (lv_at hl 0 rfl) ?_
  refine lv_iload hx hb dL_law_556 (lv_at hl 4 rfl) ?_
  refine lv_iconst (v := (2 : Int32)) hx hb dL_law_558 (by decide) ?_
  refine lv_iadd hx hb dL_law_559 ?_
  refine tw_sld X Y h.1 dL_law_560 ?_
  have h := h.2
  refine lv_aload_n hx hb dL_law_561 rfl (lv_at hl 0 rfl) ?_
  refine lv_iload hx hb dL_law_562 (lv_at hl 4 rfl) ?_
  refine lv_iconst (v := (3 : Int32)) hx hb dL_law_564 (by decide) ?_
  refine lv_iadd hx hb dL_law_565 ?_
  refine tw_sld X Y h.1 dL_law_566 ?_
  have h := h.2
  refine lv_aload_n hx hb dL_law_567 rfl (lv_at hl 3 rfl) ?_
  refine tw_L (As := [.ref (qY 0), .int (xs (x4 + (1 : Int32)).toNatClampNeg), .int (xs (x4 + (2 : Int32)).toNatClampNeg), .int (xs (x4 + (3 : Int32)).toNatClampNeg), .ref (qY 17)]) (rest := []) (hh := [(0, 12, 15, 19), (0, 12, 19, 31), (0, 12, 23, 13)]) X Y (cL_put_C l X.2.2.2.2.2.1 D cA qY S (xs (x4 + (1 : Int32)).toNatClampNeg) (xs (x4 + (2 : Int32)).toNatClampNeg) (xs (x4 + (3 : Int32)).toNatClampNeg) _ h) (fun hts => vx_cwSW 5 hts gL_law_L_put rfl rfl rfl (by decide +kernel) ⟨Nat.le_of_ble_eq_true rfl, Nat.le_of_ble_eq_true rfl⟩) rfl hl.1 (Nat.le_of_ble_eq_true rfl) dL_law_568 ⟨hc, hs⟩ (fun r19 S19 H locs h Y => ?_)
  refine lv_istore (lv' := [(5, .int r19), (0, .ref b), (1, .ref (qY 0)), (2, .ref (qM 0)), (3, .ref (qY 17)), (4, .int x4)]) hx hb dL_law_571 hl (by decide) rfl (fun ls hl => ?_)
  refine lv_aload_n hx hb dL_law_573 rfl (lv_at hl 3 rfl) ?_
  refine lv_aload_n hx hb dL_law_574 rfl (lv_at hl 1 rfl) ?_
  refine lv_iload hx hb dL_law_575 (lv_at hl 5 rfl) ?_
  refine lv_iconst (v := (1 : Int32)) hx hb dL_law_577 (by decide) ?_
  refine lv_iadd hx hb dL_law_578 ?_
  refine tw_sld X Y h.1 dL_law_579 ?_
  have h := h.2
  refine lv_aload_n hx hb dL_law_580 rfl (lv_at hl 1 rfl) ?_
  refine lv_iload hx hb dL_law_581 (lv_at hl 5 rfl) ?_
  refine lv_iconst (v := (2 : Int32)) hx hb dL_law_583 (by decide) ?_
  refine lv_iadd hx hb dL_law_584 ?_
  refine tw_sld X Y h.1 dL_law_585 ?_
  have h := h.2
  refine lv_aload_n hx hb dL_law_586 rfl (lv_at hl 1 rfl) ?_
  refine lv_iload hx hb dL_law_587 (lv_at hl 5 rfl) ?_
  refine lv_iconst (v := (3 : Int32)) hx hb dL_law_589 (by decide) ?_
  refine lv_iadd hx hb dL_law_590 ?_
  refine tw_sld X Y h.1 dL_law_591 ?_
  have h := h.2
  refine tw_M (As := [.int (xs (x4 + (1 : Int32)).toNatClampNeg), .int (xs (x4 + (2 : Int32)).toNatClampNeg), .int (xs (x4 + (3 : Int32)).toNatClampNeg)]) (b9 := 0) (rest := []) X Y (cX5_put_C l D cA qM T (xs (x4 + (1 : Int32)).toNatClampNeg) (xs (x4 + (2 : Int32)).toNatClampNeg) (xs (x4 + (3 : Int32)).toNatClampNeg) _ h) rfl rfl (fun hts => cwV 3 hts gL_law_X5_put rfl rfl rfl (by decide +kernel) ⟨Nat.le_of_ble_eq_true rfl, Nat.le_of_ble_eq_true rfl⟩) rfl hl.1 (Nat.le_of_ble_eq_true rfl) dL_law_592 ⟨hc, hs⟩ (fun r20 T20 H locs h Y => ?_)
  refine lv_istore (lv' := [(6, .int r20), (5, .int r19), (0, .ref b), (1, .ref (qY 0)), (2, .ref (qM 0)), (3, .ref (qY 17)), (4, .int x4)]) hx hb dL_law_595 hl (by decide) rfl (fun ls hl => ?_)
  refine lv_aload_n hx hb dL_law_597 rfl (lv_at hl 4 rfl) ?_
  refine tw_M (As := []) (b9 := 0) (rest := []) X Y (cX5_thrown_C l D cA qM T20  _ h) rfl rfl (fun hts => cwV 0 hts gL_law_X5_thrown rfl rfl rfl (by decide +kernel) ⟨Nat.le_of_ble_eq_true rfl, Nat.le_of_ble_eq_true rfl⟩) rfl hl.1 (Nat.le_of_ble_eq_true rfl) dL_law_598 ⟨hc, hs⟩ (fun r21 T21 H locs h Y => ?_)
  refine lv_iload hx hb dL_law_601 (lv_at hl 1 rfl) ?_
  refine lv_icmp_eq (tgt := 608) hx hb dL_law_603 (by decide) (fun c9 => ?_) (fun c9 => ?_)
  · have h := ty_t h c9
    refine lv_iload hx hb dL_law_608 (lv_at hl 1 rfl) ?_
    refine lv_if_ne (tgt := 625) hx hb dL_law_610 (by decide) (fun c9 => ?_) (fun c9 => ?_)
    · have h := ty_f h c9
      refine lv_goto (tgt := 1298) hx hb dL_law_625 (by decide) ?_
      refine lv_iinc (v := (x4 + (4 : Int32))) (lv' := [(4, .int (x4 + (4 : Int32))), (6, .int r20), (5, .int r19), (0, .ref b), (1, .ref (qY 0)), (2, .ref (qM 0)), (3, .ref (qY 17))]) hx hb dL_law_1298 hl (k := 6) rfl rfl (by decide) rfl (fun ls hl => ?_)
      refine lv_goto (tgt := 23) hx hb dL_law_1301 (by decide) ?_
      exact hR _ _ _ _ _ _ h Y (lv_sub hl [3, 4, 5, 6, 0] rfl)
    · have h := ty_t h c9
      refine lv_aload_n hx hb dL_law_613 rfl (lv_at hl 5 rfl) ?_
      refine lv_iconst (v := (0 : Int32)) hx hb dL_law_614 (by decide) ?_
      refine tw_out X Y h.1 dL_law_615 ?_
      have h := h.2
      refine lv_iload hx hb dL_law_616 (lv_at hl 0 rfl) ?_
      refine lv_i2l (v := r20.toInt64) hx hb dL_law_618 rfl ?_
      refine W.lcmp hx hb dL_law_619 ?_
      refine lv_if_eq (tgt := 625) hx hb dL_law_620 (by decide) (fun c9 => ?_) (fun c9 => ?_)
      · have h := ty_t h c9
        refine lv_goto (tgt := 1298) hx hb dL_law_625 (by decide) ?_
        refine lv_iinc (v := (x4 + (4 : Int32))) (lv' := [(4, .int (x4 + (4 : Int32))), (6, .int r20), (5, .int r19), (0, .ref b), (1, .ref (qY 0)), (2, .ref (qM 0)), (3, .ref (qY 17))]) hx hb dL_law_1298 hl (k := 6) rfl rfl (by decide) rfl (fun ls hl => ?_)
        refine lv_goto (tgt := 23) hx hb dL_law_1301 (by decide) ?_
        exact hR _ _ _ _ _ _ h Y (lv_sub hl [3, 4, 5, 6, 0] rfl)
      · have h := ty_f h c9
        refine lv_iconst (v := (0 : Int32)) hx hb dL_law_623 (by decide) ?_
        exact False.elim h
  · have h := ty_f h c9
    refine lv_iconst (v := (0 : Int32)) hx hb dL_law_606 (by decide) ?_
    exact False.elim h
def jL_law_628 (xs : Nat → Int32) (L : Nat) (R : Int32 → ty_S → ty_S → Prop) (x4 : Int32) (S T : ty_S) : Prop :=
  (vp_in (x4 + (1 : Int32)) L ∧ (vp_in (x4 + (2 : Int32)) L ∧ (eL_number S (xs (x4 + (1 : Int32)).toNatClampNeg) (xs (x4 + (2 : Int32)).toNatClampNeg) (fun S22 r22 => (vp_in (x4 + (1 : Int32)) L ∧ (vp_in (x4 + (2 : Int32)) L ∧ (eX5_number T (xs (x4 + (1 : Int32)).toNatClampNeg) (xs (x4 + (2 : Int32)).toNatClampNeg) (fun T23 r23 => (eX5_thrown T23  (fun T24 r24 => (if r24 = r22 then (if r22 = (0 : Int32) then (vp_in (0 : Int32) 1 ∧ (if (lg_cmp (S22 12 (0 : Int32).toNatClampNeg).toInt64 r23.toInt64) = (0 : Int32) then R (x4 + (4 : Int32)) S22 T24 else False)) else R (x4 + (4 : Int32)) S22 T24) else False)))))))))))
set_option maxHeartbeats 4000000 in
set_option maxRecDepth 100000 in
theorem wjL_law_628 {p : Program} {l : Launch} {e : Env} {s : State} {m : MethodId} {below : List Frame} {meth : Method} {c : Code} {D : va_G} {cA : Nat → ClassId} {qY qM : Nat → Nat} {b L : Nat} {xs : Nat → Int32} (hr : meth.sig.returnType = ret) (hlo : meth.locks = false) (X : tw_X l D cA p s m #[Value.ref b] c b L xs) {cells slots : Nat} (hc : cells + 1 ≤ room_1.cells) (hs : slots + 6 ≤ room_1.slots) {R : Int32 → ty_S → ty_S → Prop} (hR : ∀ (x4 : Int32) (S T : ty_S) (H : Heap) (locs : List Loc) (ls : Array Slot), R x4 S T → tw_Y D cA qY qM S T s H locs → lv_has ls 7 [(0, .ref b), (1, .ref (qY 0)), (2, .ref (qM 0)), (3, .ref (qY 17)), (4, .int x4)] → W p l e room_1 s m #[Value.ref b] below meth c H locs (cells + 1) (slots + 6) (lw_Z below #[Value.ref b] s) (F0 m 23 ls [])) (x4 : Int32) (S T : ty_S) (H : Heap) (locs : List Loc) (ls : Array Slot) (h : jL_law_628 xs L R x4 S T) (Y : tw_Y D cA qY qM S T s H locs) (hl : lv_has ls 7 [(0, .ref b), (1, .ref (qY 0)), (2, .ref (qM 0)), (3, .ref (qY 17)), (4, .int x4)]) : W p l e room_1 s m #[Value.ref b] below meth c H locs cells slots (lw_Z below #[Value.ref b] s) (F0 m 628 ls []) := by
  have hx := X.1.1
  have hb := X.1.2.1
  unfold jL_law_628 at h
  refine lv_aload_n hx hb dL_law_628 rfl (lv_at hl 1 rfl) ?_
  refine lv_aload_n hx hb dL_law_629 rfl (lv_at hl 0 rfl) ?_
  refine lv_iload hx hb dL_law_630 (lv_at hl 4 rfl) ?_
  refine lv_iconst (v := (1 : Int32)) hx hb dL_law_632 (by decide) ?_
  refine lv_iadd hx hb dL_law_633 ?_
  refine tw_sld X Y h.1 dL_law_634 ?_
  have h := h.2
  refine lv_aload_n hx hb dL_law_635 rfl (lv_at hl 0 rfl) ?_
  refine lv_iload hx hb dL_law_636 (lv_at hl 4 rfl) ?_
  refine lv_iconst (v := (2 : Int32)) hx hb dL_law_638 (by decide) ?_
  refine lv_iadd hx hb dL_law_639 ?_
  refine tw_sld X Y h.1 dL_law_640 ?_
  have h := h.2
  refine lv_aload_n hx hb dL_law_641 rfl (lv_at hl 3 rfl) ?_
  refine tw_L (As := [.ref (qY 0), .int (xs (x4 + (1 : Int32)).toNatClampNeg), .int (xs (x4 + (2 : Int32)).toNatClampNeg), .ref (qY 17)]) (rest := []) (hh := [(0, 10, 13, 19), (0, 10, 17, 31), (0, 10, 21, 13)]) X Y (cL_number_C l X.2.2.2.2.2.1 D cA qY S (xs (x4 + (1 : Int32)).toNatClampNeg) (xs (x4 + (2 : Int32)).toNatClampNeg) _ h) (fun hts => vx_cwSW 4 hts gL_law_L_number rfl rfl rfl (by decide +kernel) ⟨Nat.le_of_ble_eq_true rfl, Nat.le_of_ble_eq_true rfl⟩) rfl hl.1 (Nat.le_of_ble_eq_true rfl) dL_law_642 ⟨hc, hs⟩ (fun r22 S22 H locs h Y => ?_)
  refine lv_istore (lv' := [(5, .int r22), (0, .ref b), (1, .ref (qY 0)), (2, .ref (qM 0)), (3, .ref (qY 17)), (4, .int x4)]) hx hb dL_law_645 hl (by decide) rfl (fun ls hl => ?_)
  refine lv_aload_n hx hb dL_law_647 rfl (lv_at hl 3 rfl) ?_
  refine lv_aload_n hx hb dL_law_648 rfl (lv_at hl 1 rfl) ?_
  refine lv_iload hx hb dL_law_649 (lv_at hl 5 rfl) ?_
  refine lv_iconst (v := (1 : Int32)) hx hb dL_law_651 (by decide) ?_
  refine lv_iadd hx hb dL_law_652 ?_
  refine tw_sld X Y h.1 dL_law_653 ?_
  have h := h.2
  refine lv_aload_n hx hb dL_law_654 rfl (lv_at hl 1 rfl) ?_
  refine lv_iload hx hb dL_law_655 (lv_at hl 5 rfl) ?_
  refine lv_iconst (v := (2 : Int32)) hx hb dL_law_657 (by decide) ?_
  refine lv_iadd hx hb dL_law_658 ?_
  refine tw_sld X Y h.1 dL_law_659 ?_
  have h := h.2
  refine tw_M (As := [.int (xs (x4 + (1 : Int32)).toNatClampNeg), .int (xs (x4 + (2 : Int32)).toNatClampNeg)]) (b9 := 0) (rest := []) X Y (cX5_number_C l D cA qM T (xs (x4 + (1 : Int32)).toNatClampNeg) (xs (x4 + (2 : Int32)).toNatClampNeg) _ h) rfl rfl (fun hts => cwV 2 hts gL_law_X5_number rfl rfl rfl (by decide +kernel) ⟨Nat.le_of_ble_eq_true rfl, Nat.le_of_ble_eq_true rfl⟩) rfl hl.1 (Nat.le_of_ble_eq_true rfl) dL_law_660 ⟨hc, hs⟩ (fun r23 T23 H locs h Y => ?_)
  refine lv_istore (lv' := [(6, .int r23), (5, .int r22), (0, .ref b), (1, .ref (qY 0)), (2, .ref (qM 0)), (3, .ref (qY 17)), (4, .int x4)]) hx hb dL_law_663 hl (by decide) rfl (fun ls hl => ?_)
  refine lv_aload_n hx hb dL_law_665 rfl (lv_at hl 4 rfl) ?_
  refine tw_M (As := []) (b9 := 0) (rest := []) X Y (cX5_thrown_C l D cA qM T23  _ h) rfl rfl (fun hts => cwV 0 hts gL_law_X5_thrown rfl rfl rfl (by decide +kernel) ⟨Nat.le_of_ble_eq_true rfl, Nat.le_of_ble_eq_true rfl⟩) rfl hl.1 (Nat.le_of_ble_eq_true rfl) dL_law_666 ⟨hc, hs⟩ (fun r24 T24 H locs h Y => ?_)
  refine lv_iload hx hb dL_law_669 (lv_at hl 1 rfl) ?_
  refine lv_icmp_eq (tgt := 676) hx hb dL_law_671 (by decide) (fun c9 => ?_) (fun c9 => ?_)
  · have h := ty_t h c9
    refine lv_iload hx hb dL_law_676 (lv_at hl 1 rfl) ?_
    refine lv_if_ne (tgt := 693) hx hb dL_law_678 (by decide) (fun c9 => ?_) (fun c9 => ?_)
    · have h := ty_f h c9
      refine lv_goto (tgt := 1298) hx hb dL_law_693 (by decide) ?_
      refine lv_iinc (v := (x4 + (4 : Int32))) (lv' := [(4, .int (x4 + (4 : Int32))), (6, .int r23), (5, .int r22), (0, .ref b), (1, .ref (qY 0)), (2, .ref (qM 0)), (3, .ref (qY 17))]) hx hb dL_law_1298 hl (k := 6) rfl rfl (by decide) rfl (fun ls hl => ?_)
      refine lv_goto (tgt := 23) hx hb dL_law_1301 (by decide) ?_
      exact hR _ _ _ _ _ _ h Y (lv_sub hl [3, 4, 5, 6, 0] rfl)
    · have h := ty_t h c9
      refine lv_aload_n hx hb dL_law_681 rfl (lv_at hl 5 rfl) ?_
      refine lv_iconst (v := (0 : Int32)) hx hb dL_law_682 (by decide) ?_
      refine tw_out X Y h.1 dL_law_683 ?_
      have h := h.2
      refine lv_iload hx hb dL_law_684 (lv_at hl 0 rfl) ?_
      refine lv_i2l (v := r23.toInt64) hx hb dL_law_686 rfl ?_
      refine W.lcmp hx hb dL_law_687 ?_
      refine lv_if_eq (tgt := 693) hx hb dL_law_688 (by decide) (fun c9 => ?_) (fun c9 => ?_)
      · have h := ty_t h c9
        refine lv_goto (tgt := 1298) hx hb dL_law_693 (by decide) ?_
        refine lv_iinc (v := (x4 + (4 : Int32))) (lv' := [(4, .int (x4 + (4 : Int32))), (6, .int r23), (5, .int r22), (0, .ref b), (1, .ref (qY 0)), (2, .ref (qM 0)), (3, .ref (qY 17))]) hx hb dL_law_1298 hl (k := 6) rfl rfl (by decide) rfl (fun ls hl => ?_)
        refine lv_goto (tgt := 23) hx hb dL_law_1301 (by decide) ?_
        exact hR _ _ _ _ _ _ h Y (lv_sub hl [3, 4, 5, 6, 0] rfl)
      · have h := ty_f h c9
        refine lv_iconst (v := (0 : Int32)) hx hb dL_law_691 (by decide) ?_
        exact False.elim h
  · have h := ty_f h c9
    refine lv_iconst (v := (0 : Int32)) hx hb dL_law_674 (by decide) ?_
    exact False.elim h
def jL_law_696 (xs : Nat → Int32) (L : Nat) (R : Int32 → ty_S → ty_S → Prop) (x4 : Int32) (S T : ty_S) : Prop :=
  (eX4_step S  (fun S25 r25 => (eX5_step T  (fun T26 r26 => (if r25 = r26 then R (x4 + (4 : Int32)) S25 T26 else False)))))
set_option maxHeartbeats 4000000 in
set_option maxRecDepth 100000 in
theorem wjL_law_696 {p : Program} {l : Launch} {e : Env} {s : State} {m : MethodId} {below : List Frame} {meth : Method} {c : Code} {D : va_G} {cA : Nat → ClassId} {qY qM : Nat → Nat} {b L : Nat} {xs : Nat → Int32} (hr : meth.sig.returnType = ret) (hlo : meth.locks = false) (X : tw_X l D cA p s m #[Value.ref b] c b L xs) {cells slots : Nat} (hc : cells + 1 ≤ room_1.cells) (hs : slots + 6 ≤ room_1.slots) {R : Int32 → ty_S → ty_S → Prop} (hR : ∀ (x4 : Int32) (S T : ty_S) (H : Heap) (locs : List Loc) (ls : Array Slot), R x4 S T → tw_Y D cA qY qM S T s H locs → lv_has ls 7 [(0, .ref b), (1, .ref (qY 0)), (2, .ref (qM 0)), (3, .ref (qY 17)), (4, .int x4)] → W p l e room_1 s m #[Value.ref b] below meth c H locs (cells + 1) (slots + 6) (lw_Z below #[Value.ref b] s) (F0 m 23 ls [])) (x4 : Int32) (S T : ty_S) (H : Heap) (locs : List Loc) (ls : Array Slot) (h : jL_law_696 xs L R x4 S T) (Y : tw_Y D cA qY qM S T s H locs) (hl : lv_has ls 7 [(0, .ref b), (1, .ref (qY 0)), (2, .ref (qM 0)), (3, .ref (qY 17)), (4, .int x4)]) : W p l e room_1 s m #[Value.ref b] below meth c H locs cells slots (lw_Z below #[Value.ref b] s) (F0 m 696 ls []) := by
  have hx := X.1.1
  have hb := X.1.2.1
  unfold jL_law_696 at h
  refine lv_aload_n hx hb dL_law_696 rfl (lv_at hl 1 rfl) ?_
  refine tw_V (As := []) (b9 := 0) (rest := []) X Y (cX4_step_C l D cA qY S  _ h) rfl rfl (fun hts => cwV 0 hts gL_law_X4_step rfl rfl rfl (by decide +kernel) ⟨Nat.le_of_ble_eq_true rfl, Nat.le_of_ble_eq_true rfl⟩) rfl hl.1 (Nat.le_of_ble_eq_true rfl) dL_law_697 ⟨Nat.le_trans (Nat.le_add_right _ 1) hc, Nat.le_trans (Nat.le_add_right _ 6) hs⟩ (fun r25 S25 H locs h Y => ?_)
  refine lv_aload_n hx hb dL_law_700 rfl (lv_at hl 2 rfl) ?_
  refine tw_M (As := []) (b9 := 0) (rest := [.int r25]) X Y (cX5_step_C l D cA qM T  _ h) rfl rfl (fun hts => cwV 0 hts gL_law_X5_step rfl rfl rfl (by decide +kernel) ⟨Nat.le_of_ble_eq_true rfl, Nat.le_of_ble_eq_true rfl⟩) rfl hl.1 (Nat.le_of_ble_eq_true rfl) dL_law_701 ⟨Nat.le_trans (Nat.le_add_right _ 1) hc, Nat.le_trans (Nat.le_add_right _ 6) hs⟩ (fun r26 T26 H locs h Y => ?_)
  refine lv_icmp_eq (tgt := 1298) hx hb dL_law_704 (by decide) (fun c9 => ?_) (fun c9 => ?_)
  · have h := ty_t h c9
    refine lv_iinc (v := (x4 + (4 : Int32))) (lv' := [(4, .int (x4 + (4 : Int32))), (0, .ref b), (1, .ref (qY 0)), (2, .ref (qM 0)), (3, .ref (qY 17))]) hx hb dL_law_1298 hl (k := 4) rfl rfl (by decide) rfl (fun ls hl => ?_)
    refine lv_goto (tgt := 23) hx hb dL_law_1301 (by decide) ?_
    refine W.widen (k := cells + 1) (n := slots + 6) (Nat.le_add_right _ _) (Nat.le_add_right _ _) ?_
    exact hR _ _ _ _ _ _ h Y (lv_sub hl [1, 2, 3, 4, 0] rfl)
  · have h := ty_f h c9
    refine lv_iconst (v := (0 : Int32)) hx hb dL_law_707 (by decide) ?_
    exact False.elim h
def jL_law_709 (xs : Nat → Int32) (L : Nat) (R : Int32 → ty_S → ty_S → Prop) (x4 : Int32) (S T : ty_S) : Prop :=
  (vp_in (x4 + (1 : Int32)) L ∧ (eL_collect S (xs (x4 + (1 : Int32)).toNatClampNeg) (fun S27 r27 => (vp_in (x4 + (1 : Int32)) L ∧ (eX5_collect T (xs (x4 + (1 : Int32)).toNatClampNeg) (fun T28 r28 => (eX5_thrown T28  (fun T29 r29 => (if r29 = r27 then (if r27 = (0 : Int32) then (vp_in (0 : Int32) 1 ∧ (if (lg_cmp (S27 12 (0 : Int32).toNatClampNeg).toInt64 r28.toInt64) = (0 : Int32) then R (x4 + (4 : Int32)) S27 T29 else False)) else R (x4 + (4 : Int32)) S27 T29) else False)))))))))
set_option maxHeartbeats 4000000 in
set_option maxRecDepth 100000 in
theorem wjL_law_709 {p : Program} {l : Launch} {e : Env} {s : State} {m : MethodId} {below : List Frame} {meth : Method} {c : Code} {D : va_G} {cA : Nat → ClassId} {qY qM : Nat → Nat} {b L : Nat} {xs : Nat → Int32} (hr : meth.sig.returnType = ret) (hlo : meth.locks = false) (X : tw_X l D cA p s m #[Value.ref b] c b L xs) {cells slots : Nat} (hc : cells + 1 ≤ room_1.cells) (hs : slots + 6 ≤ room_1.slots) {R : Int32 → ty_S → ty_S → Prop} (hR : ∀ (x4 : Int32) (S T : ty_S) (H : Heap) (locs : List Loc) (ls : Array Slot), R x4 S T → tw_Y D cA qY qM S T s H locs → lv_has ls 7 [(0, .ref b), (1, .ref (qY 0)), (2, .ref (qM 0)), (3, .ref (qY 17)), (4, .int x4)] → W p l e room_1 s m #[Value.ref b] below meth c H locs (cells + 1) (slots + 6) (lw_Z below #[Value.ref b] s) (F0 m 23 ls [])) (x4 : Int32) (S T : ty_S) (H : Heap) (locs : List Loc) (ls : Array Slot) (h : jL_law_709 xs L R x4 S T) (Y : tw_Y D cA qY qM S T s H locs) (hl : lv_has ls 7 [(0, .ref b), (1, .ref (qY 0)), (2, .ref (qM 0)), (3, .ref (qY 17)), (4, .int x4)]) : W p l e room_1 s m #[Value.ref b] below meth c H locs cells slots (lw_Z below #[Value.ref b] s) (F0 m 709 ls []) := by
  have hx := X.1.1
  have hb := X.1.2.1
  unfold jL_law_709 at h
  refine lv_aload_n hx hb dL_law_709 rfl (lv_at hl 1 rfl) ?_
  refine lv_aload_n hx hb dL_law_710 rfl (lv_at hl 0 rfl) ?_
  refine lv_iload hx hb dL_law_711 (lv_at hl 4 rfl) ?_
  refine lv_iconst (v := (1 : Int32)) hx hb dL_law_713 (by decide) ?_
  refine lv_iadd hx hb dL_law_714 ?_
  refine tw_sld X Y h.1 dL_law_715 ?_
  have h := h.2
  refine lv_aload_n hx hb dL_law_716 rfl (lv_at hl 3 rfl) ?_
  refine tw_L (As := [.ref (qY 0), .int (xs (x4 + (1 : Int32)).toNatClampNeg), .ref (qY 17)]) (rest := []) (hh := [(0, 9, 12, 13)]) X Y (cL_collect_C l X.2.2.2.2.2.1 D cA qY S (xs (x4 + (1 : Int32)).toNatClampNeg) _ h) (fun hts => vx_cwSW 3 hts gL_law_L_collect rfl rfl rfl (by decide +kernel) ⟨Nat.le_of_ble_eq_true rfl, Nat.le_of_ble_eq_true rfl⟩) rfl hl.1 (Nat.le_of_ble_eq_true rfl) dL_law_717 ⟨hc, hs⟩ (fun r27 S27 H locs h Y => ?_)
  refine lv_istore (lv' := [(5, .int r27), (0, .ref b), (1, .ref (qY 0)), (2, .ref (qM 0)), (3, .ref (qY 17)), (4, .int x4)]) hx hb dL_law_720 hl (by decide) rfl (fun ls hl => ?_)
  refine lv_aload_n hx hb dL_law_722 rfl (lv_at hl 3 rfl) ?_
  refine lv_aload_n hx hb dL_law_723 rfl (lv_at hl 1 rfl) ?_
  refine lv_iload hx hb dL_law_724 (lv_at hl 5 rfl) ?_
  refine lv_iconst (v := (1 : Int32)) hx hb dL_law_726 (by decide) ?_
  refine lv_iadd hx hb dL_law_727 ?_
  refine tw_sld X Y h.1 dL_law_728 ?_
  have h := h.2
  refine tw_M (As := [.int (xs (x4 + (1 : Int32)).toNatClampNeg)]) (b9 := 0) (rest := []) X Y (cX5_collect_C l D cA qM T (xs (x4 + (1 : Int32)).toNatClampNeg) _ h) rfl rfl (fun hts => cwV 1 hts gL_law_X5_collect rfl rfl rfl (by decide +kernel) ⟨Nat.le_of_ble_eq_true rfl, Nat.le_of_ble_eq_true rfl⟩) rfl hl.1 (Nat.le_of_ble_eq_true rfl) dL_law_729 ⟨hc, hs⟩ (fun r28 T28 H locs h Y => ?_)
  refine lv_istore (lv' := [(6, .int r28), (5, .int r27), (0, .ref b), (1, .ref (qY 0)), (2, .ref (qM 0)), (3, .ref (qY 17)), (4, .int x4)]) hx hb dL_law_732 hl (by decide) rfl (fun ls hl => ?_)
  refine lv_aload_n hx hb dL_law_734 rfl (lv_at hl 4 rfl) ?_
  refine tw_M (As := []) (b9 := 0) (rest := []) X Y (cX5_thrown_C l D cA qM T28  _ h) rfl rfl (fun hts => cwV 0 hts gL_law_X5_thrown rfl rfl rfl (by decide +kernel) ⟨Nat.le_of_ble_eq_true rfl, Nat.le_of_ble_eq_true rfl⟩) rfl hl.1 (Nat.le_of_ble_eq_true rfl) dL_law_735 ⟨hc, hs⟩ (fun r29 T29 H locs h Y => ?_)
  refine lv_iload hx hb dL_law_738 (lv_at hl 1 rfl) ?_
  refine lv_icmp_eq (tgt := 745) hx hb dL_law_740 (by decide) (fun c9 => ?_) (fun c9 => ?_)
  · have h := ty_t h c9
    refine lv_iload hx hb dL_law_745 (lv_at hl 1 rfl) ?_
    refine lv_if_ne (tgt := 762) hx hb dL_law_747 (by decide) (fun c9 => ?_) (fun c9 => ?_)
    · have h := ty_f h c9
      refine lv_goto (tgt := 1298) hx hb dL_law_762 (by decide) ?_
      refine lv_iinc (v := (x4 + (4 : Int32))) (lv' := [(4, .int (x4 + (4 : Int32))), (6, .int r28), (5, .int r27), (0, .ref b), (1, .ref (qY 0)), (2, .ref (qM 0)), (3, .ref (qY 17))]) hx hb dL_law_1298 hl (k := 6) rfl rfl (by decide) rfl (fun ls hl => ?_)
      refine lv_goto (tgt := 23) hx hb dL_law_1301 (by decide) ?_
      exact hR _ _ _ _ _ _ h Y (lv_sub hl [3, 4, 5, 6, 0] rfl)
    · have h := ty_t h c9
      refine lv_aload_n hx hb dL_law_750 rfl (lv_at hl 5 rfl) ?_
      refine lv_iconst (v := (0 : Int32)) hx hb dL_law_751 (by decide) ?_
      refine tw_out X Y h.1 dL_law_752 ?_
      have h := h.2
      refine lv_iload hx hb dL_law_753 (lv_at hl 0 rfl) ?_
      refine lv_i2l (v := r28.toInt64) hx hb dL_law_755 rfl ?_
      refine W.lcmp hx hb dL_law_756 ?_
      refine lv_if_eq (tgt := 762) hx hb dL_law_757 (by decide) (fun c9 => ?_) (fun c9 => ?_)
      · have h := ty_t h c9
        refine lv_goto (tgt := 1298) hx hb dL_law_762 (by decide) ?_
        refine lv_iinc (v := (x4 + (4 : Int32))) (lv' := [(4, .int (x4 + (4 : Int32))), (6, .int r28), (5, .int r27), (0, .ref b), (1, .ref (qY 0)), (2, .ref (qM 0)), (3, .ref (qY 17))]) hx hb dL_law_1298 hl (k := 6) rfl rfl (by decide) rfl (fun ls hl => ?_)
        refine lv_goto (tgt := 23) hx hb dL_law_1301 (by decide) ?_
        exact hR _ _ _ _ _ _ h Y (lv_sub hl [3, 4, 5, 6, 0] rfl)
      · have h := ty_f h c9
        refine lv_iconst (v := (0 : Int32)) hx hb dL_law_760 (by decide) ?_
        exact False.elim h
  · have h := ty_f h c9
    refine lv_iconst (v := (0 : Int32)) hx hb dL_law_743 (by decide) ?_
    exact False.elim h
def jL_law_765 (xs : Nat → Int32) (L : Nat) (R : Int32 → ty_S → ty_S → Prop) (x4 : Int32) (S T : ty_S) : Prop :=
  (vp_in (x4 + (1 : Int32)) L ∧ (vp_in (x4 + (2 : Int32)) L ∧ (eL_thing S (xs (x4 + (1 : Int32)).toNatClampNeg) (xs (x4 + (2 : Int32)).toNatClampNeg) (fun S30 r30 => (vp_in (x4 + (1 : Int32)) L ∧ (vp_in (x4 + (2 : Int32)) L ∧ (eX5_thing T (xs (x4 + (1 : Int32)).toNatClampNeg) (xs (x4 + (2 : Int32)).toNatClampNeg) (fun T31 r31 => (eX5_thrown T31  (fun T32 r32 => (if r32 = r30 then (if r30 = (0 : Int32) then (vp_in (0 : Int32) 1 ∧ (if (lg_cmp (S30 12 (0 : Int32).toNatClampNeg).toInt64 r31.toInt64) = (0 : Int32) then R (x4 + (4 : Int32)) S30 T32 else False)) else R (x4 + (4 : Int32)) S30 T32) else False)))))))))))
set_option maxHeartbeats 4000000 in
set_option maxRecDepth 100000 in
theorem wjL_law_765 {p : Program} {l : Launch} {e : Env} {s : State} {m : MethodId} {below : List Frame} {meth : Method} {c : Code} {D : va_G} {cA : Nat → ClassId} {qY qM : Nat → Nat} {b L : Nat} {xs : Nat → Int32} (hr : meth.sig.returnType = ret) (hlo : meth.locks = false) (X : tw_X l D cA p s m #[Value.ref b] c b L xs) {cells slots : Nat} (hc : cells + 1 ≤ room_1.cells) (hs : slots + 6 ≤ room_1.slots) {R : Int32 → ty_S → ty_S → Prop} (hR : ∀ (x4 : Int32) (S T : ty_S) (H : Heap) (locs : List Loc) (ls : Array Slot), R x4 S T → tw_Y D cA qY qM S T s H locs → lv_has ls 7 [(0, .ref b), (1, .ref (qY 0)), (2, .ref (qM 0)), (3, .ref (qY 17)), (4, .int x4)] → W p l e room_1 s m #[Value.ref b] below meth c H locs (cells + 1) (slots + 6) (lw_Z below #[Value.ref b] s) (F0 m 23 ls [])) (x4 : Int32) (S T : ty_S) (H : Heap) (locs : List Loc) (ls : Array Slot) (h : jL_law_765 xs L R x4 S T) (Y : tw_Y D cA qY qM S T s H locs) (hl : lv_has ls 7 [(0, .ref b), (1, .ref (qY 0)), (2, .ref (qM 0)), (3, .ref (qY 17)), (4, .int x4)]) : W p l e room_1 s m #[Value.ref b] below meth c H locs cells slots (lw_Z below #[Value.ref b] s) (F0 m 765 ls []) := by
  have hx := X.1.1
  have hb := X.1.2.1
  unfold jL_law_765 at h
  refine lv_aload_n hx hb dL_law_765 rfl (lv_at hl 1 rfl) ?_
  refine lv_aload_n hx hb dL_law_766 rfl (lv_at hl 0 rfl) ?_
  refine lv_iload hx hb dL_law_767 (lv_at hl 4 rfl) ?_
  refine lv_iconst (v := (1 : Int32)) hx hb dL_law_769 (by decide) ?_
  refine lv_iadd hx hb dL_law_770 ?_
  refine tw_sld X Y h.1 dL_law_771 ?_
  have h := h.2
  refine lv_aload_n hx hb dL_law_772 rfl (lv_at hl 0 rfl) ?_
  refine lv_iload hx hb dL_law_773 (lv_at hl 4 rfl) ?_
  refine lv_iconst (v := (2 : Int32)) hx hb dL_law_775 (by decide) ?_
  refine lv_iadd hx hb dL_law_776 ?_
  refine tw_sld X Y h.1 dL_law_777 ?_
  have h := h.2
  refine lv_aload_n hx hb dL_law_778 rfl (lv_at hl 3 rfl) ?_
  refine tw_L (As := [.ref (qY 0), .int (xs (x4 + (1 : Int32)).toNatClampNeg), .int (xs (x4 + (2 : Int32)).toNatClampNeg), .ref (qY 17)]) (rest := []) (hh := [(0, 10, 13, 19), (0, 10, 17, 31)]) X Y (cL_thing_C l X.2.2.2.2.2.1 D cA qY S (xs (x4 + (1 : Int32)).toNatClampNeg) (xs (x4 + (2 : Int32)).toNatClampNeg) _ h) (fun hts => vx_cwSW 4 hts gL_law_L_thing rfl rfl rfl (by decide +kernel) ⟨Nat.le_of_ble_eq_true rfl, Nat.le_of_ble_eq_true rfl⟩) rfl hl.1 (Nat.le_of_ble_eq_true rfl) dL_law_779 ⟨hc, hs⟩ (fun r30 S30 H locs h Y => ?_)
  refine lv_istore (lv' := [(5, .int r30), (0, .ref b), (1, .ref (qY 0)), (2, .ref (qM 0)), (3, .ref (qY 17)), (4, .int x4)]) hx hb dL_law_782 hl (by decide) rfl (fun ls hl => ?_)
  refine lv_aload_n hx hb dL_law_784 rfl (lv_at hl 3 rfl) ?_
  refine lv_aload_n hx hb dL_law_785 rfl (lv_at hl 1 rfl) ?_
  refine lv_iload hx hb dL_law_786 (lv_at hl 5 rfl) ?_
  refine lv_iconst (v := (1 : Int32)) hx hb dL_law_788 (by decide) ?_
  refine lv_iadd hx hb dL_law_789 ?_
  refine tw_sld X Y h.1 dL_law_790 ?_
  have h := h.2
  refine lv_aload_n hx hb dL_law_791 rfl (lv_at hl 1 rfl) ?_
  refine lv_iload hx hb dL_law_792 (lv_at hl 5 rfl) ?_
  refine lv_iconst (v := (2 : Int32)) hx hb dL_law_794 (by decide) ?_
  refine lv_iadd hx hb dL_law_795 ?_
  refine tw_sld X Y h.1 dL_law_796 ?_
  have h := h.2
  refine tw_M (As := [.int (xs (x4 + (1 : Int32)).toNatClampNeg), .int (xs (x4 + (2 : Int32)).toNatClampNeg)]) (b9 := 0) (rest := []) X Y (cX5_thing_C l D cA qM T (xs (x4 + (1 : Int32)).toNatClampNeg) (xs (x4 + (2 : Int32)).toNatClampNeg) _ h) rfl rfl (fun hts => cwV 2 hts gL_law_X5_thing rfl rfl rfl (by decide +kernel) ⟨Nat.le_of_ble_eq_true rfl, Nat.le_of_ble_eq_true rfl⟩) rfl hl.1 (Nat.le_of_ble_eq_true rfl) dL_law_797 ⟨hc, hs⟩ (fun r31 T31 H locs h Y => ?_)
  refine lv_istore (lv' := [(6, .int r31), (5, .int r30), (0, .ref b), (1, .ref (qY 0)), (2, .ref (qM 0)), (3, .ref (qY 17)), (4, .int x4)]) hx hb dL_law_800 hl (by decide) rfl (fun ls hl => ?_)
  refine lv_aload_n hx hb dL_law_802 rfl (lv_at hl 4 rfl) ?_
  refine tw_M (As := []) (b9 := 0) (rest := []) X Y (cX5_thrown_C l D cA qM T31  _ h) rfl rfl (fun hts => cwV 0 hts gL_law_X5_thrown rfl rfl rfl (by decide +kernel) ⟨Nat.le_of_ble_eq_true rfl, Nat.le_of_ble_eq_true rfl⟩) rfl hl.1 (Nat.le_of_ble_eq_true rfl) dL_law_803 ⟨hc, hs⟩ (fun r32 T32 H locs h Y => ?_)
  refine lv_iload hx hb dL_law_806 (lv_at hl 1 rfl) ?_
  refine lv_icmp_eq (tgt := 813) hx hb dL_law_808 (by decide) (fun c9 => ?_) (fun c9 => ?_)
  · have h := ty_t h c9
    refine lv_iload hx hb dL_law_813 (lv_at hl 1 rfl) ?_
    refine lv_if_ne (tgt := 830) hx hb dL_law_815 (by decide) (fun c9 => ?_) (fun c9 => ?_)
    · have h := ty_f h c9
      refine lv_goto (tgt := 1298) hx hb dL_law_830 (by decide) ?_
      refine lv_iinc (v := (x4 + (4 : Int32))) (lv' := [(4, .int (x4 + (4 : Int32))), (6, .int r31), (5, .int r30), (0, .ref b), (1, .ref (qY 0)), (2, .ref (qM 0)), (3, .ref (qY 17))]) hx hb dL_law_1298 hl (k := 6) rfl rfl (by decide) rfl (fun ls hl => ?_)
      refine lv_goto (tgt := 23) hx hb dL_law_1301 (by decide) ?_
      exact hR _ _ _ _ _ _ h Y (lv_sub hl [3, 4, 5, 6, 0] rfl)
    · have h := ty_t h c9
      refine lv_aload_n hx hb dL_law_818 rfl (lv_at hl 5 rfl) ?_
      refine lv_iconst (v := (0 : Int32)) hx hb dL_law_819 (by decide) ?_
      refine tw_out X Y h.1 dL_law_820 ?_
      have h := h.2
      refine lv_iload hx hb dL_law_821 (lv_at hl 0 rfl) ?_
      refine lv_i2l (v := r31.toInt64) hx hb dL_law_823 rfl ?_
      refine W.lcmp hx hb dL_law_824 ?_
      refine lv_if_eq (tgt := 830) hx hb dL_law_825 (by decide) (fun c9 => ?_) (fun c9 => ?_)
      · have h := ty_t h c9
        refine lv_goto (tgt := 1298) hx hb dL_law_830 (by decide) ?_
        refine lv_iinc (v := (x4 + (4 : Int32))) (lv' := [(4, .int (x4 + (4 : Int32))), (6, .int r31), (5, .int r30), (0, .ref b), (1, .ref (qY 0)), (2, .ref (qM 0)), (3, .ref (qY 17))]) hx hb dL_law_1298 hl (k := 6) rfl rfl (by decide) rfl (fun ls hl => ?_)
        refine lv_goto (tgt := 23) hx hb dL_law_1301 (by decide) ?_
        exact hR _ _ _ _ _ _ h Y (lv_sub hl [3, 4, 5, 6, 0] rfl)
      · have h := ty_f h c9
        refine lv_iconst (v := (0 : Int32)) hx hb dL_law_828 (by decide) ?_
        exact False.elim h
  · have h := ty_f h c9
    refine lv_iconst (v := (0 : Int32)) hx hb dL_law_811 (by decide) ?_
    exact False.elim h
def jL_law_833 (xs : Nat → Int32) (L : Nat) (R : Int32 → ty_S → ty_S → Prop) (x4 : Int32) (S T : ty_S) : Prop :=
  (vp_in (x4 + (1 : Int32)) L ∧ (vp_in (x4 + (2 : Int32)) L ∧ (eL_label S (xs (x4 + (1 : Int32)).toNatClampNeg) (xs (x4 + (2 : Int32)).toNatClampNeg) (fun S33 r33 => (vp_in (x4 + (1 : Int32)) L ∧ (vp_in (x4 + (2 : Int32)) L ∧ (eX5_label T (xs (x4 + (1 : Int32)).toNatClampNeg) (xs (x4 + (2 : Int32)).toNatClampNeg) (fun T34 r34 => (eX5_thrown T34  (fun T35 r35 => (if r35 = r33 then (if r33 = (0 : Int32) then (vp_in (0 : Int32) 1 ∧ (if (lg_cmp (S33 12 (0 : Int32).toNatClampNeg).toInt64 r34.toInt64) = (0 : Int32) then R (x4 + (4 : Int32)) S33 T35 else False)) else R (x4 + (4 : Int32)) S33 T35) else False)))))))))))
set_option maxHeartbeats 4000000 in
set_option maxRecDepth 100000 in
theorem wjL_law_833 {p : Program} {l : Launch} {e : Env} {s : State} {m : MethodId} {below : List Frame} {meth : Method} {c : Code} {D : va_G} {cA : Nat → ClassId} {qY qM : Nat → Nat} {b L : Nat} {xs : Nat → Int32} (hr : meth.sig.returnType = ret) (hlo : meth.locks = false) (X : tw_X l D cA p s m #[Value.ref b] c b L xs) {cells slots : Nat} (hc : cells + 1 ≤ room_1.cells) (hs : slots + 6 ≤ room_1.slots) {R : Int32 → ty_S → ty_S → Prop} (hR : ∀ (x4 : Int32) (S T : ty_S) (H : Heap) (locs : List Loc) (ls : Array Slot), R x4 S T → tw_Y D cA qY qM S T s H locs → lv_has ls 7 [(0, .ref b), (1, .ref (qY 0)), (2, .ref (qM 0)), (3, .ref (qY 17)), (4, .int x4)] → W p l e room_1 s m #[Value.ref b] below meth c H locs (cells + 1) (slots + 6) (lw_Z below #[Value.ref b] s) (F0 m 23 ls [])) (x4 : Int32) (S T : ty_S) (H : Heap) (locs : List Loc) (ls : Array Slot) (h : jL_law_833 xs L R x4 S T) (Y : tw_Y D cA qY qM S T s H locs) (hl : lv_has ls 7 [(0, .ref b), (1, .ref (qY 0)), (2, .ref (qM 0)), (3, .ref (qY 17)), (4, .int x4)]) : W p l e room_1 s m #[Value.ref b] below meth c H locs cells slots (lw_Z below #[Value.ref b] s) (F0 m 833 ls []) := by
  have hx := X.1.1
  have hb := X.1.2.1
  unfold jL_law_833 at h
  refine lv_aload_n hx hb dL_law_833 rfl (lv_at hl 1 rfl) ?_
  refine lv_aload_n hx hb dL_law_834 rfl (lv_at hl 0 rfl) ?_
  refine lv_iload hx hb dL_law_835 (lv_at hl 4 rfl) ?_
  refine lv_iconst (v := (1 : Int32)) hx hb dL_law_837 (by decide) ?_
  refine lv_iadd hx hb dL_law_838 ?_
  refine tw_sld X Y h.1 dL_law_839 ?_
  have h := h.2
  refine lv_aload_n hx hb dL_law_840 rfl (lv_at hl 0 rfl) ?_
  refine lv_iload hx hb dL_law_841 (lv_at hl 4 rfl) ?_
  refine lv_iconst (v := (2 : Int32)) hx hb dL_law_843 (by decide) ?_
  refine lv_iadd hx hb dL_law_844 ?_
  refine tw_sld X Y h.1 dL_law_845 ?_
  have h := h.2
  refine lv_aload_n hx hb dL_law_846 rfl (lv_at hl 3 rfl) ?_
  refine tw_L (As := [.ref (qY 0), .int (xs (x4 + (1 : Int32)).toNatClampNeg), .int (xs (x4 + (2 : Int32)).toNatClampNeg), .ref (qY 17)]) (rest := []) (hh := [(0, 10, 13, 19), (0, 10, 17, 31), (0, 10, 21, 13)]) X Y (cL_label_C l X.2.2.2.2.2.1 D cA qY S (xs (x4 + (1 : Int32)).toNatClampNeg) (xs (x4 + (2 : Int32)).toNatClampNeg) _ h) (fun hts => vx_cwSW 4 hts gL_law_L_label rfl rfl rfl (by decide +kernel) ⟨Nat.le_of_ble_eq_true rfl, Nat.le_of_ble_eq_true rfl⟩) rfl hl.1 (Nat.le_of_ble_eq_true rfl) dL_law_847 ⟨hc, hs⟩ (fun r33 S33 H locs h Y => ?_)
  refine lv_istore (lv' := [(5, .int r33), (0, .ref b), (1, .ref (qY 0)), (2, .ref (qM 0)), (3, .ref (qY 17)), (4, .int x4)]) hx hb dL_law_850 hl (by decide) rfl (fun ls hl => ?_)
  refine lv_aload_n hx hb dL_law_852 rfl (lv_at hl 3 rfl) ?_
  refine lv_aload_n hx hb dL_law_853 rfl (lv_at hl 1 rfl) ?_
  refine lv_iload hx hb dL_law_854 (lv_at hl 5 rfl) ?_
  refine lv_iconst (v := (1 : Int32)) hx hb dL_law_856 (by decide) ?_
  refine lv_iadd hx hb dL_law_857 ?_
  refine tw_sld X Y h.1 dL_law_858 ?_
  have h := h.2
  refine lv_aload_n hx hb dL_law_859 rfl (lv_at hl 1 rfl) ?_
  refine lv_iload hx hb dL_law_860 (lv_at hl 5 rfl) ?_
  refine lv_iconst (v := (2 : Int32)) hx hb dL_law_862 (by decide) ?_
  refine lv_iadd hx hb dL_law_863 ?_
  refine tw_sld X Y h.1 dL_law_864 ?_
  have h := h.2
  refine tw_M (As := [.int (xs (x4 + (1 : Int32)).toNatClampNeg), .int (xs (x4 + (2 : Int32)).toNatClampNeg)]) (b9 := 0) (rest := []) X Y (cX5_label_C l D cA qM T (xs (x4 + (1 : Int32)).toNatClampNeg) (xs (x4 + (2 : Int32)).toNatClampNeg) _ h) rfl rfl (fun hts => cwV 2 hts gL_law_X5_label rfl rfl rfl (by decide +kernel) ⟨Nat.le_of_ble_eq_true rfl, Nat.le_of_ble_eq_true rfl⟩) rfl hl.1 (Nat.le_of_ble_eq_true rfl) dL_law_865 ⟨hc, hs⟩ (fun r34 T34 H locs h Y => ?_)
  refine lv_istore (lv' := [(6, .int r34), (5, .int r33), (0, .ref b), (1, .ref (qY 0)), (2, .ref (qM 0)), (3, .ref (qY 17)), (4, .int x4)]) hx hb dL_law_868 hl (by decide) rfl (fun ls hl => ?_)
  refine lv_aload_n hx hb dL_law_870 rfl (lv_at hl 4 rfl) ?_
  refine tw_M (As := []) (b9 := 0) (rest := []) X Y (cX5_thrown_C l D cA qM T34  _ h) rfl rfl (fun hts => cwV 0 hts gL_law_X5_thrown rfl rfl rfl (by decide +kernel) ⟨Nat.le_of_ble_eq_true rfl, Nat.le_of_ble_eq_true rfl⟩) rfl hl.1 (Nat.le_of_ble_eq_true rfl) dL_law_871 ⟨hc, hs⟩ (fun r35 T35 H locs h Y => ?_)
  refine lv_iload hx hb dL_law_874 (lv_at hl 1 rfl) ?_
  refine lv_icmp_eq (tgt := 881) hx hb dL_law_876 (by decide) (fun c9 => ?_) (fun c9 => ?_)
  · have h := ty_t h c9
    refine lv_iload hx hb dL_law_881 (lv_at hl 1 rfl) ?_
    refine lv_if_ne (tgt := 898) hx hb dL_law_883 (by decide) (fun c9 => ?_) (fun c9 => ?_)
    · have h := ty_f h c9
      refine lv_goto (tgt := 1298) hx hb dL_law_898 (by decide) ?_
      refine lv_iinc (v := (x4 + (4 : Int32))) (lv' := [(4, .int (x4 + (4 : Int32))), (6, .int r34), (5, .int r33), (0, .ref b), (1, .ref (qY 0)), (2, .ref (qM 0)), (3, .ref (qY 17))]) hx hb dL_law_1298 hl (k := 6) rfl rfl (by decide) rfl (fun ls hl => ?_)
      refine lv_goto (tgt := 23) hx hb dL_law_1301 (by decide) ?_
      exact hR _ _ _ _ _ _ h Y (lv_sub hl [3, 4, 5, 6, 0] rfl)
    · have h := ty_t h c9
      refine lv_aload_n hx hb dL_law_886 rfl (lv_at hl 5 rfl) ?_
      refine lv_iconst (v := (0 : Int32)) hx hb dL_law_887 (by decide) ?_
      refine tw_out X Y h.1 dL_law_888 ?_
      have h := h.2
      refine lv_iload hx hb dL_law_889 (lv_at hl 0 rfl) ?_
      refine lv_i2l (v := r34.toInt64) hx hb dL_law_891 rfl ?_
      refine W.lcmp hx hb dL_law_892 ?_
      refine lv_if_eq (tgt := 898) hx hb dL_law_893 (by decide) (fun c9 => ?_) (fun c9 => ?_)
      · have h := ty_t h c9
        refine lv_goto (tgt := 1298) hx hb dL_law_898 (by decide) ?_
        refine lv_iinc (v := (x4 + (4 : Int32))) (lv' := [(4, .int (x4 + (4 : Int32))), (6, .int r34), (5, .int r33), (0, .ref b), (1, .ref (qY 0)), (2, .ref (qM 0)), (3, .ref (qY 17))]) hx hb dL_law_1298 hl (k := 6) rfl rfl (by decide) rfl (fun ls hl => ?_)
        refine lv_goto (tgt := 23) hx hb dL_law_1301 (by decide) ?_
        exact hR _ _ _ _ _ _ h Y (lv_sub hl [3, 4, 5, 6, 0] rfl)
      · have h := ty_f h c9
        refine lv_iconst (v := (0 : Int32)) hx hb dL_law_896 (by decide) ?_
        exact False.elim h
  · have h := ty_f h c9
    refine lv_iconst (v := (0 : Int32)) hx hb dL_law_879 (by decide) ?_
    exact False.elim h
def jL_law_901 (xs : Nat → Int32) (L : Nat) (R : Int32 → ty_S → ty_S → Prop) (x4 : Int32) (S T : ty_S) : Prop :=
  (vp_in (x4 + (1 : Int32)) L ∧ (vp_in (x4 + (2 : Int32)) L ∧ (eL_train S (xs (x4 + (1 : Int32)).toNatClampNeg) (xs (x4 + (2 : Int32)).toNatClampNeg) (fun S36 r36 => (vp_in (x4 + (1 : Int32)) L ∧ (vp_in (x4 + (2 : Int32)) L ∧ (eX5_train T (xs (x4 + (1 : Int32)).toNatClampNeg) (xs (x4 + (2 : Int32)).toNatClampNeg) (fun T37 r37 => (eX5_thrown T37  (fun T38 r38 => (if r38 = r36 then (if r36 = (0 : Int32) then (vp_in (0 : Int32) 1 ∧ (if (lg_cmp (S36 12 (0 : Int32).toNatClampNeg).toInt64 r37.toInt64) = (0 : Int32) then R (x4 + (4 : Int32)) S36 T38 else False)) else R (x4 + (4 : Int32)) S36 T38) else False)))))))))))
set_option maxHeartbeats 4000000 in
set_option maxRecDepth 100000 in
theorem wjL_law_901 {p : Program} {l : Launch} {e : Env} {s : State} {m : MethodId} {below : List Frame} {meth : Method} {c : Code} {D : va_G} {cA : Nat → ClassId} {qY qM : Nat → Nat} {b L : Nat} {xs : Nat → Int32} (hr : meth.sig.returnType = ret) (hlo : meth.locks = false) (X : tw_X l D cA p s m #[Value.ref b] c b L xs) {cells slots : Nat} (hc : cells + 1 ≤ room_1.cells) (hs : slots + 6 ≤ room_1.slots) {R : Int32 → ty_S → ty_S → Prop} (hR : ∀ (x4 : Int32) (S T : ty_S) (H : Heap) (locs : List Loc) (ls : Array Slot), R x4 S T → tw_Y D cA qY qM S T s H locs → lv_has ls 7 [(0, .ref b), (1, .ref (qY 0)), (2, .ref (qM 0)), (3, .ref (qY 17)), (4, .int x4)] → W p l e room_1 s m #[Value.ref b] below meth c H locs (cells + 1) (slots + 6) (lw_Z below #[Value.ref b] s) (F0 m 23 ls [])) (x4 : Int32) (S T : ty_S) (H : Heap) (locs : List Loc) (ls : Array Slot) (h : jL_law_901 xs L R x4 S T) (Y : tw_Y D cA qY qM S T s H locs) (hl : lv_has ls 7 [(0, .ref b), (1, .ref (qY 0)), (2, .ref (qM 0)), (3, .ref (qY 17)), (4, .int x4)]) : W p l e room_1 s m #[Value.ref b] below meth c H locs cells slots (lw_Z below #[Value.ref b] s) (F0 m 901 ls []) := by
  have hx := X.1.1
  have hb := X.1.2.1
  unfold jL_law_901 at h
  refine lv_aload_n hx hb dL_law_901 rfl (lv_at hl 1 rfl) ?_
  refine lv_aload_n hx hb dL_law_902 rfl (lv_at hl 0 rfl) ?_
  refine lv_iload hx hb dL_law_903 (lv_at hl 4 rfl) ?_
  refine lv_iconst (v := (1 : Int32)) hx hb dL_law_905 (by decide) ?_
  refine lv_iadd hx hb dL_law_906 ?_
  refine tw_sld X Y h.1 dL_law_907 ?_
  have h := h.2
  refine lv_aload_n hx hb dL_law_908 rfl (lv_at hl 0 rfl) ?_
  refine lv_iload hx hb dL_law_909 (lv_at hl 4 rfl) ?_
  refine lv_iconst (v := (2 : Int32)) hx hb dL_law_911 (by decide) ?_
  refine lv_iadd hx hb dL_law_912 ?_
  refine tw_sld X Y h.1 dL_law_913 ?_
  have h := h.2
  refine lv_aload_n hx hb dL_law_914 rfl (lv_at hl 3 rfl) ?_
  refine tw_L (As := [.ref (qY 0), .int (xs (x4 + (1 : Int32)).toNatClampNeg), .int (xs (x4 + (2 : Int32)).toNatClampNeg), .ref (qY 17)]) (rest := []) (hh := [(0, 10, 13, 19)]) X Y (cL_train_C l X.2.2.2.2.2.1 D cA qY S (xs (x4 + (1 : Int32)).toNatClampNeg) (xs (x4 + (2 : Int32)).toNatClampNeg) _ h) (fun hts => vx_cwSW 4 hts gL_law_L_train rfl rfl rfl (by decide +kernel) ⟨Nat.le_of_ble_eq_true rfl, Nat.le_of_ble_eq_true rfl⟩) rfl hl.1 (Nat.le_of_ble_eq_true rfl) dL_law_915 ⟨hc, hs⟩ (fun r36 S36 H locs h Y => ?_)
  refine lv_istore (lv' := [(5, .int r36), (0, .ref b), (1, .ref (qY 0)), (2, .ref (qM 0)), (3, .ref (qY 17)), (4, .int x4)]) hx hb dL_law_918 hl (by decide) rfl (fun ls hl => ?_)
  refine lv_aload_n hx hb dL_law_920 rfl (lv_at hl 3 rfl) ?_
  refine lv_aload_n hx hb dL_law_921 rfl (lv_at hl 1 rfl) ?_
  refine lv_iload hx hb dL_law_922 (lv_at hl 5 rfl) ?_
  refine lv_iconst (v := (1 : Int32)) hx hb dL_law_924 (by decide) ?_
  refine lv_iadd hx hb dL_law_925 ?_
  refine tw_sld X Y h.1 dL_law_926 ?_
  have h := h.2
  refine lv_aload_n hx hb dL_law_927 rfl (lv_at hl 1 rfl) ?_
  refine lv_iload hx hb dL_law_928 (lv_at hl 5 rfl) ?_
  refine lv_iconst (v := (2 : Int32)) hx hb dL_law_930 (by decide) ?_
  refine lv_iadd hx hb dL_law_931 ?_
  refine tw_sld X Y h.1 dL_law_932 ?_
  have h := h.2
  refine tw_M (As := [.int (xs (x4 + (1 : Int32)).toNatClampNeg), .int (xs (x4 + (2 : Int32)).toNatClampNeg)]) (b9 := 0) (rest := []) X Y (cX5_train_C l D cA qM T (xs (x4 + (1 : Int32)).toNatClampNeg) (xs (x4 + (2 : Int32)).toNatClampNeg) _ h) rfl rfl (fun hts => cwV 2 hts gL_law_X5_train rfl rfl rfl (by decide +kernel) ⟨Nat.le_of_ble_eq_true rfl, Nat.le_of_ble_eq_true rfl⟩) rfl hl.1 (Nat.le_of_ble_eq_true rfl) dL_law_933 ⟨hc, hs⟩ (fun r37 T37 H locs h Y => ?_)
  refine lv_istore (lv' := [(6, .int r37), (5, .int r36), (0, .ref b), (1, .ref (qY 0)), (2, .ref (qM 0)), (3, .ref (qY 17)), (4, .int x4)]) hx hb dL_law_936 hl (by decide) rfl (fun ls hl => ?_)
  refine lv_aload_n hx hb dL_law_938 rfl (lv_at hl 4 rfl) ?_
  refine tw_M (As := []) (b9 := 0) (rest := []) X Y (cX5_thrown_C l D cA qM T37  _ h) rfl rfl (fun hts => cwV 0 hts gL_law_X5_thrown rfl rfl rfl (by decide +kernel) ⟨Nat.le_of_ble_eq_true rfl, Nat.le_of_ble_eq_true rfl⟩) rfl hl.1 (Nat.le_of_ble_eq_true rfl) dL_law_939 ⟨hc, hs⟩ (fun r38 T38 H locs h Y => ?_)
  refine lv_iload hx hb dL_law_942 (lv_at hl 1 rfl) ?_
  refine lv_icmp_eq (tgt := 949) hx hb dL_law_944 (by decide) (fun c9 => ?_) (fun c9 => ?_)
  · have h := ty_t h c9
    refine lv_iload hx hb dL_law_949 (lv_at hl 1 rfl) ?_
    refine lv_if_ne (tgt := 966) hx hb dL_law_951 (by decide) (fun c9 => ?_) (fun c9 => ?_)
    · have h := ty_f h c9
      refine lv_goto (tgt := 1298) hx hb dL_law_966 (by decide) ?_
      refine lv_iinc (v := (x4 + (4 : Int32))) (lv' := [(4, .int (x4 + (4 : Int32))), (6, .int r37), (5, .int r36), (0, .ref b), (1, .ref (qY 0)), (2, .ref (qM 0)), (3, .ref (qY 17))]) hx hb dL_law_1298 hl (k := 6) rfl rfl (by decide) rfl (fun ls hl => ?_)
      refine lv_goto (tgt := 23) hx hb dL_law_1301 (by decide) ?_
      exact hR _ _ _ _ _ _ h Y (lv_sub hl [3, 4, 5, 6, 0] rfl)
    · have h := ty_t h c9
      refine lv_aload_n hx hb dL_law_954 rfl (lv_at hl 5 rfl) ?_
      refine lv_iconst (v := (0 : Int32)) hx hb dL_law_955 (by decide) ?_
      refine tw_out X Y h.1 dL_law_956 ?_
      have h := h.2
      refine lv_iload hx hb dL_law_957 (lv_at hl 0 rfl) ?_
      refine lv_i2l (v := r37.toInt64) hx hb dL_law_959 rfl ?_
      refine W.lcmp hx hb dL_law_960 ?_
      refine lv_if_eq (tgt := 966) hx hb dL_law_961 (by decide) (fun c9 => ?_) (fun c9 => ?_)
      · have h := ty_t h c9
        refine lv_goto (tgt := 1298) hx hb dL_law_966 (by decide) ?_
        refine lv_iinc (v := (x4 + (4 : Int32))) (lv' := [(4, .int (x4 + (4 : Int32))), (6, .int r37), (5, .int r36), (0, .ref b), (1, .ref (qY 0)), (2, .ref (qM 0)), (3, .ref (qY 17))]) hx hb dL_law_1298 hl (k := 6) rfl rfl (by decide) rfl (fun ls hl => ?_)
        refine lv_goto (tgt := 23) hx hb dL_law_1301 (by decide) ?_
        exact hR _ _ _ _ _ _ h Y (lv_sub hl [3, 4, 5, 6, 0] rfl)
      · have h := ty_f h c9
        refine lv_iconst (v := (0 : Int32)) hx hb dL_law_964 (by decide) ?_
        exact False.elim h
  · have h := ty_f h c9
    refine lv_iconst (v := (0 : Int32)) hx hb dL_law_947 (by decide) ?_
    exact False.elim h
def jL_law_969 (xs : Nat → Int32) (L : Nat) (R : Int32 → ty_S → ty_S → Prop) (x4 : Int32) (S T : ty_S) : Prop :=
  (vp_in (x4 + (1 : Int32)) L ∧ (vp_in (x4 + (2 : Int32)) L ∧ (eL_car S (xs (x4 + (1 : Int32)).toNatClampNeg) (xs (x4 + (2 : Int32)).toNatClampNeg) (fun S39 r39 => (vp_in (x4 + (1 : Int32)) L ∧ (vp_in (x4 + (2 : Int32)) L ∧ (eX5_car T (xs (x4 + (1 : Int32)).toNatClampNeg) (xs (x4 + (2 : Int32)).toNatClampNeg) (fun T40 r40 => (eX5_thrown T40  (fun T41 r41 => (if r41 = r39 then (if r39 = (0 : Int32) then (vp_in (0 : Int32) 1 ∧ (if (lg_cmp (S39 12 (0 : Int32).toNatClampNeg).toInt64 r40.toInt64) = (0 : Int32) then R (x4 + (4 : Int32)) S39 T41 else False)) else R (x4 + (4 : Int32)) S39 T41) else False)))))))))))
set_option maxHeartbeats 4000000 in
set_option maxRecDepth 100000 in
theorem wjL_law_969 {p : Program} {l : Launch} {e : Env} {s : State} {m : MethodId} {below : List Frame} {meth : Method} {c : Code} {D : va_G} {cA : Nat → ClassId} {qY qM : Nat → Nat} {b L : Nat} {xs : Nat → Int32} (hr : meth.sig.returnType = ret) (hlo : meth.locks = false) (X : tw_X l D cA p s m #[Value.ref b] c b L xs) {cells slots : Nat} (hc : cells + 1 ≤ room_1.cells) (hs : slots + 6 ≤ room_1.slots) {R : Int32 → ty_S → ty_S → Prop} (hR : ∀ (x4 : Int32) (S T : ty_S) (H : Heap) (locs : List Loc) (ls : Array Slot), R x4 S T → tw_Y D cA qY qM S T s H locs → lv_has ls 7 [(0, .ref b), (1, .ref (qY 0)), (2, .ref (qM 0)), (3, .ref (qY 17)), (4, .int x4)] → W p l e room_1 s m #[Value.ref b] below meth c H locs (cells + 1) (slots + 6) (lw_Z below #[Value.ref b] s) (F0 m 23 ls [])) (x4 : Int32) (S T : ty_S) (H : Heap) (locs : List Loc) (ls : Array Slot) (h : jL_law_969 xs L R x4 S T) (Y : tw_Y D cA qY qM S T s H locs) (hl : lv_has ls 7 [(0, .ref b), (1, .ref (qY 0)), (2, .ref (qM 0)), (3, .ref (qY 17)), (4, .int x4)]) : W p l e room_1 s m #[Value.ref b] below meth c H locs cells slots (lw_Z below #[Value.ref b] s) (F0 m 969 ls []) := by
  have hx := X.1.1
  have hb := X.1.2.1
  unfold jL_law_969 at h
  refine lv_aload_n hx hb dL_law_969 rfl (lv_at hl 1 rfl) ?_
  refine lv_aload_n hx hb dL_law_970 rfl (lv_at hl 0 rfl) ?_
  refine lv_iload hx hb dL_law_971 (lv_at hl 4 rfl) ?_
  refine lv_iconst (v := (1 : Int32)) hx hb dL_law_973 (by decide) ?_
  refine lv_iadd hx hb dL_law_974 ?_
  refine tw_sld X Y h.1 dL_law_975 ?_
  have h := h.2
  refine lv_aload_n hx hb dL_law_976 rfl (lv_at hl 0 rfl) ?_
  refine lv_iload hx hb dL_law_977 (lv_at hl 4 rfl) ?_
  refine lv_iconst (v := (2 : Int32)) hx hb dL_law_979 (by decide) ?_
  refine lv_iadd hx hb dL_law_980 ?_
  refine tw_sld X Y h.1 dL_law_981 ?_
  have h := h.2
  refine lv_aload_n hx hb dL_law_982 rfl (lv_at hl 3 rfl) ?_
  refine tw_L (As := [.ref (qY 0), .int (xs (x4 + (1 : Int32)).toNatClampNeg), .int (xs (x4 + (2 : Int32)).toNatClampNeg), .ref (qY 17)]) (rest := []) (hh := [(0, 10, 13, 19)]) X Y (cL_car_C l X.2.2.2.2.2.1 D cA qY S (xs (x4 + (1 : Int32)).toNatClampNeg) (xs (x4 + (2 : Int32)).toNatClampNeg) _ h) (fun hts => vx_cwSW 4 hts gL_law_L_car rfl rfl rfl (by decide +kernel) ⟨Nat.le_of_ble_eq_true rfl, Nat.le_of_ble_eq_true rfl⟩) rfl hl.1 (Nat.le_of_ble_eq_true rfl) dL_law_983 ⟨hc, hs⟩ (fun r39 S39 H locs h Y => ?_)
  refine lv_istore (lv' := [(5, .int r39), (0, .ref b), (1, .ref (qY 0)), (2, .ref (qM 0)), (3, .ref (qY 17)), (4, .int x4)]) hx hb dL_law_986 hl (by decide) rfl (fun ls hl => ?_)
  refine lv_aload_n hx hb dL_law_988 rfl (lv_at hl 3 rfl) ?_
  refine lv_aload_n hx hb dL_law_989 rfl (lv_at hl 1 rfl) ?_
  refine lv_iload hx hb dL_law_990 (lv_at hl 5 rfl) ?_
  refine lv_iconst (v := (1 : Int32)) hx hb dL_law_992 (by decide) ?_
  refine lv_iadd hx hb dL_law_993 ?_
  refine tw_sld X Y h.1 dL_law_994 ?_
  have h := h.2
  refine lv_aload_n hx hb dL_law_995 rfl (lv_at hl 1 rfl) ?_
  refine lv_iload hx hb dL_law_996 (lv_at hl 5 rfl) ?_
  refine lv_iconst (v := (2 : Int32)) hx hb dL_law_998 (by decide) ?_
  refine lv_iadd hx hb dL_law_999 ?_
  refine tw_sld X Y h.1 dL_law_1000 ?_
  have h := h.2
  refine tw_M (As := [.int (xs (x4 + (1 : Int32)).toNatClampNeg), .int (xs (x4 + (2 : Int32)).toNatClampNeg)]) (b9 := 0) (rest := []) X Y (cX5_car_C l D cA qM T (xs (x4 + (1 : Int32)).toNatClampNeg) (xs (x4 + (2 : Int32)).toNatClampNeg) _ h) rfl rfl (fun hts => cwV 2 hts gL_law_X5_car rfl rfl rfl (by decide +kernel) ⟨Nat.le_of_ble_eq_true rfl, Nat.le_of_ble_eq_true rfl⟩) rfl hl.1 (Nat.le_of_ble_eq_true rfl) dL_law_1001 ⟨hc, hs⟩ (fun r40 T40 H locs h Y => ?_)
  refine lv_istore (lv' := [(6, .int r40), (5, .int r39), (0, .ref b), (1, .ref (qY 0)), (2, .ref (qM 0)), (3, .ref (qY 17)), (4, .int x4)]) hx hb dL_law_1004 hl (by decide) rfl (fun ls hl => ?_)
  refine lv_aload_n hx hb dL_law_1006 rfl (lv_at hl 4 rfl) ?_
  refine tw_M (As := []) (b9 := 0) (rest := []) X Y (cX5_thrown_C l D cA qM T40  _ h) rfl rfl (fun hts => cwV 0 hts gL_law_X5_thrown rfl rfl rfl (by decide +kernel) ⟨Nat.le_of_ble_eq_true rfl, Nat.le_of_ble_eq_true rfl⟩) rfl hl.1 (Nat.le_of_ble_eq_true rfl) dL_law_1007 ⟨hc, hs⟩ (fun r41 T41 H locs h Y => ?_)
  refine lv_iload hx hb dL_law_1010 (lv_at hl 1 rfl) ?_
  refine lv_icmp_eq (tgt := 1017) hx hb dL_law_1012 (by decide) (fun c9 => ?_) (fun c9 => ?_)
  · have h := ty_t h c9
    refine lv_iload hx hb dL_law_1017 (lv_at hl 1 rfl) ?_
    refine lv_if_ne (tgt := 1034) hx hb dL_law_1019 (by decide) (fun c9 => ?_) (fun c9 => ?_)
    · have h := ty_f h c9
      refine lv_goto (tgt := 1298) hx hb dL_law_1034 (by decide) ?_
      refine lv_iinc (v := (x4 + (4 : Int32))) (lv' := [(4, .int (x4 + (4 : Int32))), (6, .int r40), (5, .int r39), (0, .ref b), (1, .ref (qY 0)), (2, .ref (qM 0)), (3, .ref (qY 17))]) hx hb dL_law_1298 hl (k := 6) rfl rfl (by decide) rfl (fun ls hl => ?_)
      refine lv_goto (tgt := 23) hx hb dL_law_1301 (by decide) ?_
      exact hR _ _ _ _ _ _ h Y (lv_sub hl [3, 4, 5, 6, 0] rfl)
    · have h := ty_t h c9
      refine lv_aload_n hx hb dL_law_1022 rfl (lv_at hl 5 rfl) ?_
      refine lv_iconst (v := (0 : Int32)) hx hb dL_law_1023 (by decide) ?_
      refine tw_out X Y h.1 dL_law_1024 ?_
      have h := h.2
      refine lv_iload hx hb dL_law_1025 (lv_at hl 0 rfl) ?_
      refine lv_i2l (v := r40.toInt64) hx hb dL_law_1027 rfl ?_
      refine W.lcmp hx hb dL_law_1028 ?_
      refine lv_if_eq (tgt := 1034) hx hb dL_law_1029 (by decide) (fun c9 => ?_) (fun c9 => ?_)
      · have h := ty_t h c9
        refine lv_goto (tgt := 1298) hx hb dL_law_1034 (by decide) ?_
        refine lv_iinc (v := (x4 + (4 : Int32))) (lv' := [(4, .int (x4 + (4 : Int32))), (6, .int r40), (5, .int r39), (0, .ref b), (1, .ref (qY 0)), (2, .ref (qM 0)), (3, .ref (qY 17))]) hx hb dL_law_1298 hl (k := 6) rfl rfl (by decide) rfl (fun ls hl => ?_)
        refine lv_goto (tgt := 23) hx hb dL_law_1301 (by decide) ?_
        exact hR _ _ _ _ _ _ h Y (lv_sub hl [3, 4, 5, 6, 0] rfl)
      · have h := ty_f h c9
        refine lv_iconst (v := (0 : Int32)) hx hb dL_law_1032 (by decide) ?_
        exact False.elim h
  · have h := ty_f h c9
    refine lv_iconst (v := (0 : Int32)) hx hb dL_law_1015 (by decide) ?_
    exact False.elim h
def jL_law_1037 (xs : Nat → Int32) (L : Nat) (R : Int32 → ty_S → ty_S → Prop) (x4 : Int32) (S T : ty_S) : Prop :=
  (vp_in (x4 + (1 : Int32)) L ∧ (vp_in (x4 + (2 : Int32)) L ∧ (eL_about S (xs (x4 + (1 : Int32)).toNatClampNeg) (xs (x4 + (2 : Int32)).toNatClampNeg) (fun S42 r42 => (vp_in (x4 + (1 : Int32)) L ∧ (vp_in (x4 + (2 : Int32)) L ∧ (eX5_about T (xs (x4 + (1 : Int32)).toNatClampNeg) (xs (x4 + (2 : Int32)).toNatClampNeg) (fun T43 r43 => (eX5_thrown T43  (fun T44 r44 => (if r44 = r42 then (if r42 = (0 : Int32) then (vp_in (0 : Int32) 1 ∧ (if (lg_cmp (S42 12 (0 : Int32).toNatClampNeg).toInt64 r43.toInt64) = (0 : Int32) then R (x4 + (4 : Int32)) S42 T44 else False)) else R (x4 + (4 : Int32)) S42 T44) else False)))))))))))
set_option maxHeartbeats 4000000 in
set_option maxRecDepth 100000 in
theorem wjL_law_1037 {p : Program} {l : Launch} {e : Env} {s : State} {m : MethodId} {below : List Frame} {meth : Method} {c : Code} {D : va_G} {cA : Nat → ClassId} {qY qM : Nat → Nat} {b L : Nat} {xs : Nat → Int32} (hr : meth.sig.returnType = ret) (hlo : meth.locks = false) (X : tw_X l D cA p s m #[Value.ref b] c b L xs) {cells slots : Nat} (hc : cells + 1 ≤ room_1.cells) (hs : slots + 6 ≤ room_1.slots) {R : Int32 → ty_S → ty_S → Prop} (hR : ∀ (x4 : Int32) (S T : ty_S) (H : Heap) (locs : List Loc) (ls : Array Slot), R x4 S T → tw_Y D cA qY qM S T s H locs → lv_has ls 7 [(0, .ref b), (1, .ref (qY 0)), (2, .ref (qM 0)), (3, .ref (qY 17)), (4, .int x4)] → W p l e room_1 s m #[Value.ref b] below meth c H locs (cells + 1) (slots + 6) (lw_Z below #[Value.ref b] s) (F0 m 23 ls [])) (x4 : Int32) (S T : ty_S) (H : Heap) (locs : List Loc) (ls : Array Slot) (h : jL_law_1037 xs L R x4 S T) (Y : tw_Y D cA qY qM S T s H locs) (hl : lv_has ls 7 [(0, .ref b), (1, .ref (qY 0)), (2, .ref (qM 0)), (3, .ref (qY 17)), (4, .int x4)]) : W p l e room_1 s m #[Value.ref b] below meth c H locs cells slots (lw_Z below #[Value.ref b] s) (F0 m 1037 ls []) := by
  have hx := X.1.1
  have hb := X.1.2.1
  unfold jL_law_1037 at h
  refine lv_aload_n hx hb dL_law_1037 rfl (lv_at hl 1 rfl) ?_
  refine lv_aload_n hx hb dL_law_1038 rfl (lv_at hl 0 rfl) ?_
  refine lv_iload hx hb dL_law_1039 (lv_at hl 4 rfl) ?_
  refine lv_iconst (v := (1 : Int32)) hx hb dL_law_1041 (by decide) ?_
  refine lv_iadd hx hb dL_law_1042 ?_
  refine tw_sld X Y h.1 dL_law_1043 ?_
  have h := h.2
  refine lv_aload_n hx hb dL_law_1044 rfl (lv_at hl 0 rfl) ?_
  refine lv_iload hx hb dL_law_1045 (lv_at hl 4 rfl) ?_
  refine lv_iconst (v := (2 : Int32)) hx hb dL_law_1047 (by decide) ?_
  refine lv_iadd hx hb dL_law_1048 ?_
  refine tw_sld X Y h.1 dL_law_1049 ?_
  have h := h.2
  refine lv_aload_n hx hb dL_law_1050 rfl (lv_at hl 3 rfl) ?_
  refine tw_L (As := [.ref (qY 0), .int (xs (x4 + (1 : Int32)).toNatClampNeg), .int (xs (x4 + (2 : Int32)).toNatClampNeg), .ref (qY 17)]) (rest := []) (hh := [(0, 10, 13, 19)]) X Y (cL_about_C l X.2.2.2.2.2.1 D cA qY S (xs (x4 + (1 : Int32)).toNatClampNeg) (xs (x4 + (2 : Int32)).toNatClampNeg) _ h) (fun hts => vx_cwSW 4 hts gL_law_L_about rfl rfl rfl (by decide +kernel) ⟨Nat.le_of_ble_eq_true rfl, Nat.le_of_ble_eq_true rfl⟩) rfl hl.1 (Nat.le_of_ble_eq_true rfl) dL_law_1051 ⟨hc, hs⟩ (fun r42 S42 H locs h Y => ?_)
  refine lv_istore (lv' := [(5, .int r42), (0, .ref b), (1, .ref (qY 0)), (2, .ref (qM 0)), (3, .ref (qY 17)), (4, .int x4)]) hx hb dL_law_1054 hl (by decide) rfl (fun ls hl => ?_)
  refine lv_aload_n hx hb dL_law_1056 rfl (lv_at hl 3 rfl) ?_
  refine lv_aload_n hx hb dL_law_1057 rfl (lv_at hl 1 rfl) ?_
  refine lv_iload hx hb dL_law_1058 (lv_at hl 5 rfl) ?_
  refine lv_iconst (v := (1 : Int32)) hx hb dL_law_1060 (by decide) ?_
  refine lv_iadd hx hb dL_law_1061 ?_
  refine tw_sld X Y h.1 dL_law_1062 ?_
  have h := h.2
  refine lv_aload_n hx hb dL_law_1063 rfl (lv_at hl 1 rfl) ?_
  refine lv_iload hx hb dL_law_1064 (lv_at hl 5 rfl) ?_
  refine lv_iconst (v := (2 : Int32)) hx hb dL_law_1066 (by decide) ?_
  refine lv_iadd hx hb dL_law_1067 ?_
  refine tw_sld X Y h.1 dL_law_1068 ?_
  have h := h.2
  refine tw_M (As := [.int (xs (x4 + (1 : Int32)).toNatClampNeg), .int (xs (x4 + (2 : Int32)).toNatClampNeg)]) (b9 := 0) (rest := []) X Y (cX5_about_C l D cA qM T (xs (x4 + (1 : Int32)).toNatClampNeg) (xs (x4 + (2 : Int32)).toNatClampNeg) _ h) rfl rfl (fun hts => cwV 2 hts gL_law_X5_about rfl rfl rfl (by decide +kernel) ⟨Nat.le_of_ble_eq_true rfl, Nat.le_of_ble_eq_true rfl⟩) rfl hl.1 (Nat.le_of_ble_eq_true rfl) dL_law_1069 ⟨hc, hs⟩ (fun r43 T43 H locs h Y => ?_)
  refine lv_istore (lv' := [(6, .int r43), (5, .int r42), (0, .ref b), (1, .ref (qY 0)), (2, .ref (qM 0)), (3, .ref (qY 17)), (4, .int x4)]) hx hb dL_law_1072 hl (by decide) rfl (fun ls hl => ?_)
  refine lv_aload_n hx hb dL_law_1074 rfl (lv_at hl 4 rfl) ?_
  refine tw_M (As := []) (b9 := 0) (rest := []) X Y (cX5_thrown_C l D cA qM T43  _ h) rfl rfl (fun hts => cwV 0 hts gL_law_X5_thrown rfl rfl rfl (by decide +kernel) ⟨Nat.le_of_ble_eq_true rfl, Nat.le_of_ble_eq_true rfl⟩) rfl hl.1 (Nat.le_of_ble_eq_true rfl) dL_law_1075 ⟨hc, hs⟩ (fun r44 T44 H locs h Y => ?_)
  refine lv_iload hx hb dL_law_1078 (lv_at hl 1 rfl) ?_
  refine lv_icmp_eq (tgt := 1085) hx hb dL_law_1080 (by decide) (fun c9 => ?_) (fun c9 => ?_)
  · have h := ty_t h c9
    refine lv_iload hx hb dL_law_1085 (lv_at hl 1 rfl) ?_
    refine lv_if_ne (tgt := 1102) hx hb dL_law_1087 (by decide) (fun c9 => ?_) (fun c9 => ?_)
    · have h := ty_f h c9
      refine lv_goto (tgt := 1298) hx hb dL_law_1102 (by decide) ?_
      refine lv_iinc (v := (x4 + (4 : Int32))) (lv' := [(4, .int (x4 + (4 : Int32))), (6, .int r43), (5, .int r42), (0, .ref b), (1, .ref (qY 0)), (2, .ref (qM 0)), (3, .ref (qY 17))]) hx hb dL_law_1298 hl (k := 6) rfl rfl (by decide) rfl (fun ls hl => ?_)
      refine lv_goto (tgt := 23) hx hb dL_law_1301 (by decide) ?_
      exact hR _ _ _ _ _ _ h Y (lv_sub hl [3, 4, 5, 6, 0] rfl)
    · have h := ty_t h c9
      refine lv_aload_n hx hb dL_law_1090 rfl (lv_at hl 5 rfl) ?_
      refine lv_iconst (v := (0 : Int32)) hx hb dL_law_1091 (by decide) ?_
      refine tw_out X Y h.1 dL_law_1092 ?_
      have h := h.2
      refine lv_iload hx hb dL_law_1093 (lv_at hl 0 rfl) ?_
      refine lv_i2l (v := r43.toInt64) hx hb dL_law_1095 rfl ?_
      refine W.lcmp hx hb dL_law_1096 ?_
      refine lv_if_eq (tgt := 1102) hx hb dL_law_1097 (by decide) (fun c9 => ?_) (fun c9 => ?_)
      · have h := ty_t h c9
        refine lv_goto (tgt := 1298) hx hb dL_law_1102 (by decide) ?_
        refine lv_iinc (v := (x4 + (4 : Int32))) (lv' := [(4, .int (x4 + (4 : Int32))), (6, .int r43), (5, .int r42), (0, .ref b), (1, .ref (qY 0)), (2, .ref (qM 0)), (3, .ref (qY 17))]) hx hb dL_law_1298 hl (k := 6) rfl rfl (by decide) rfl (fun ls hl => ?_)
        refine lv_goto (tgt := 23) hx hb dL_law_1301 (by decide) ?_
        exact hR _ _ _ _ _ _ h Y (lv_sub hl [3, 4, 5, 6, 0] rfl)
      · have h := ty_f h c9
        refine lv_iconst (v := (0 : Int32)) hx hb dL_law_1100 (by decide) ?_
        exact False.elim h
  · have h := ty_f h c9
    refine lv_iconst (v := (0 : Int32)) hx hb dL_law_1083 (by decide) ?_
    exact False.elim h
def jL_law_1105 (xs : Nat → Int32) (L : Nat) (R : Int32 → ty_S → ty_S → Prop) (x4 : Int32) (S T : ty_S) : Prop :=
  (vp_in (x4 + (1 : Int32)) L ∧ (vp_in (x4 + (2 : Int32)) L ∧ (eL_remembered S (xs (x4 + (1 : Int32)).toNatClampNeg) (xs (x4 + (2 : Int32)).toNatClampNeg) (fun S45 r45 => (vp_in (x4 + (1 : Int32)) L ∧ (vp_in (x4 + (2 : Int32)) L ∧ (eX5_remembered T (xs (x4 + (1 : Int32)).toNatClampNeg) (xs (x4 + (2 : Int32)).toNatClampNeg) (fun T46 r46 => (eX5_thrown T46  (fun T47 r47 => (if r47 = r45 then (if r45 = (0 : Int32) then (vp_in (0 : Int32) 1 ∧ (if (lg_cmp (S45 12 (0 : Int32).toNatClampNeg).toInt64 r46.toInt64) = (0 : Int32) then R (x4 + (4 : Int32)) S45 T47 else False)) else R (x4 + (4 : Int32)) S45 T47) else False)))))))))))
set_option maxHeartbeats 4000000 in
set_option maxRecDepth 100000 in
theorem wjL_law_1105 {p : Program} {l : Launch} {e : Env} {s : State} {m : MethodId} {below : List Frame} {meth : Method} {c : Code} {D : va_G} {cA : Nat → ClassId} {qY qM : Nat → Nat} {b L : Nat} {xs : Nat → Int32} (hr : meth.sig.returnType = ret) (hlo : meth.locks = false) (X : tw_X l D cA p s m #[Value.ref b] c b L xs) {cells slots : Nat} (hc : cells + 1 ≤ room_1.cells) (hs : slots + 6 ≤ room_1.slots) {R : Int32 → ty_S → ty_S → Prop} (hR : ∀ (x4 : Int32) (S T : ty_S) (H : Heap) (locs : List Loc) (ls : Array Slot), R x4 S T → tw_Y D cA qY qM S T s H locs → lv_has ls 7 [(0, .ref b), (1, .ref (qY 0)), (2, .ref (qM 0)), (3, .ref (qY 17)), (4, .int x4)] → W p l e room_1 s m #[Value.ref b] below meth c H locs (cells + 1) (slots + 6) (lw_Z below #[Value.ref b] s) (F0 m 23 ls [])) (x4 : Int32) (S T : ty_S) (H : Heap) (locs : List Loc) (ls : Array Slot) (h : jL_law_1105 xs L R x4 S T) (Y : tw_Y D cA qY qM S T s H locs) (hl : lv_has ls 7 [(0, .ref b), (1, .ref (qY 0)), (2, .ref (qM 0)), (3, .ref (qY 17)), (4, .int x4)]) : W p l e room_1 s m #[Value.ref b] below meth c H locs cells slots (lw_Z below #[Value.ref b] s) (F0 m 1105 ls []) := by
  have hx := X.1.1
  have hb := X.1.2.1
  unfold jL_law_1105 at h
  refine lv_aload_n hx hb dL_law_1105 rfl (lv_at hl 1 rfl) ?_
  refine lv_aload_n hx hb dL_law_1106 rfl (lv_at hl 0 rfl) ?_
  refine lv_iload hx hb dL_law_1107 (lv_at hl 4 rfl) ?_
  refine lv_iconst (v := (1 : Int32)) hx hb dL_law_1109 (by decide) ?_
  refine lv_iadd hx hb dL_law_1110 ?_
  refine tw_sld X Y h.1 dL_law_1111 ?_
  have h := h.2
  refine lv_aload_n hx hb dL_law_1112 rfl (lv_at hl 0 rfl) ?_
  refine lv_iload hx hb dL_law_1113 (lv_at hl 4 rfl) ?_
  refine lv_iconst (v := (2 : Int32)) hx hb dL_law_1115 (by decide) ?_
  refine lv_iadd hx hb dL_law_1116 ?_
  refine tw_sld X Y h.1 dL_law_1117 ?_
  have h := h.2
  refine lv_aload_n hx hb dL_law_1118 rfl (lv_at hl 3 rfl) ?_
  refine tw_L (As := [.ref (qY 0), .int (xs (x4 + (1 : Int32)).toNatClampNeg), .int (xs (x4 + (2 : Int32)).toNatClampNeg), .ref (qY 17)]) (rest := []) (hh := [(0, 10, 13, 19)]) X Y (cL_remembered_C l X.2.2.2.2.2.1 D cA qY S (xs (x4 + (1 : Int32)).toNatClampNeg) (xs (x4 + (2 : Int32)).toNatClampNeg) _ h) (fun hts => vx_cwSW 4 hts gL_law_L_remembered rfl rfl rfl (by decide +kernel) ⟨Nat.le_of_ble_eq_true rfl, Nat.le_of_ble_eq_true rfl⟩) rfl hl.1 (Nat.le_of_ble_eq_true rfl) dL_law_1119 ⟨hc, hs⟩ (fun r45 S45 H locs h Y => ?_)
  refine lv_istore (lv' := [(5, .int r45), (0, .ref b), (1, .ref (qY 0)), (2, .ref (qM 0)), (3, .ref (qY 17)), (4, .int x4)]) hx hb dL_law_1122 hl (by decide) rfl (fun ls hl => ?_)
  refine lv_aload_n hx hb dL_law_1124 rfl (lv_at hl 3 rfl) ?_
  refine lv_aload_n hx hb dL_law_1125 rfl (lv_at hl 1 rfl) ?_
  refine lv_iload hx hb dL_law_1126 (lv_at hl 5 rfl) ?_
  refine lv_iconst (v := (1 : Int32)) hx hb dL_law_1128 (by decide) ?_
  refine lv_iadd hx hb dL_law_1129 ?_
  refine tw_sld X Y h.1 dL_law_1130 ?_
  have h := h.2
  refine lv_aload_n hx hb dL_law_1131 rfl (lv_at hl 1 rfl) ?_
  refine lv_iload hx hb dL_law_1132 (lv_at hl 5 rfl) ?_
  refine lv_iconst (v := (2 : Int32)) hx hb dL_law_1134 (by decide) ?_
  refine lv_iadd hx hb dL_law_1135 ?_
  refine tw_sld X Y h.1 dL_law_1136 ?_
  have h := h.2
  refine tw_M (As := [.int (xs (x4 + (1 : Int32)).toNatClampNeg), .int (xs (x4 + (2 : Int32)).toNatClampNeg)]) (b9 := 0) (rest := []) X Y (cX5_remembered_C l D cA qM T (xs (x4 + (1 : Int32)).toNatClampNeg) (xs (x4 + (2 : Int32)).toNatClampNeg) _ h) rfl rfl (fun hts => cwV 2 hts gL_law_X5_remembered rfl rfl rfl (by decide +kernel) ⟨Nat.le_of_ble_eq_true rfl, Nat.le_of_ble_eq_true rfl⟩) rfl hl.1 (Nat.le_of_ble_eq_true rfl) dL_law_1137 ⟨hc, hs⟩ (fun r46 T46 H locs h Y => ?_)
  refine lv_istore (lv' := [(6, .int r46), (5, .int r45), (0, .ref b), (1, .ref (qY 0)), (2, .ref (qM 0)), (3, .ref (qY 17)), (4, .int x4)]) hx hb dL_law_1140 hl (by decide) rfl (fun ls hl => ?_)
  refine lv_aload_n hx hb dL_law_1142 rfl (lv_at hl 4 rfl) ?_
  refine tw_M (As := []) (b9 := 0) (rest := []) X Y (cX5_thrown_C l D cA qM T46  _ h) rfl rfl (fun hts => cwV 0 hts gL_law_X5_thrown rfl rfl rfl (by decide +kernel) ⟨Nat.le_of_ble_eq_true rfl, Nat.le_of_ble_eq_true rfl⟩) rfl hl.1 (Nat.le_of_ble_eq_true rfl) dL_law_1143 ⟨hc, hs⟩ (fun r47 T47 H locs h Y => ?_)
  refine lv_iload hx hb dL_law_1146 (lv_at hl 1 rfl) ?_
  refine lv_icmp_eq (tgt := 1153) hx hb dL_law_1148 (by decide) (fun c9 => ?_) (fun c9 => ?_)
  · have h := ty_t h c9
    refine lv_iload hx hb dL_law_1153 (lv_at hl 1 rfl) ?_
    refine lv_if_ne (tgt := 1170) hx hb dL_law_1155 (by decide) (fun c9 => ?_) (fun c9 => ?_)
    · have h := ty_f h c9
      refine lv_goto (tgt := 1298) hx hb dL_law_1170 (by decide) ?_
      refine lv_iinc (v := (x4 + (4 : Int32))) (lv' := [(4, .int (x4 + (4 : Int32))), (6, .int r46), (5, .int r45), (0, .ref b), (1, .ref (qY 0)), (2, .ref (qM 0)), (3, .ref (qY 17))]) hx hb dL_law_1298 hl (k := 6) rfl rfl (by decide) rfl (fun ls hl => ?_)
      refine lv_goto (tgt := 23) hx hb dL_law_1301 (by decide) ?_
      exact hR _ _ _ _ _ _ h Y (lv_sub hl [3, 4, 5, 6, 0] rfl)
    · have h := ty_t h c9
      refine lv_aload_n hx hb dL_law_1158 rfl (lv_at hl 5 rfl) ?_
      refine lv_iconst (v := (0 : Int32)) hx hb dL_law_1159 (by decide) ?_
      refine tw_out X Y h.1 dL_law_1160 ?_
      have h := h.2
      refine lv_iload hx hb dL_law_1161 (lv_at hl 0 rfl) ?_
      refine lv_i2l (v := r46.toInt64) hx hb dL_law_1163 rfl ?_
      refine W.lcmp hx hb dL_law_1164 ?_
      refine lv_if_eq (tgt := 1170) hx hb dL_law_1165 (by decide) (fun c9 => ?_) (fun c9 => ?_)
      · have h := ty_t h c9
        refine lv_goto (tgt := 1298) hx hb dL_law_1170 (by decide) ?_
        refine lv_iinc (v := (x4 + (4 : Int32))) (lv' := [(4, .int (x4 + (4 : Int32))), (6, .int r46), (5, .int r45), (0, .ref b), (1, .ref (qY 0)), (2, .ref (qM 0)), (3, .ref (qY 17))]) hx hb dL_law_1298 hl (k := 6) rfl rfl (by decide) rfl (fun ls hl => ?_)
        refine lv_goto (tgt := 23) hx hb dL_law_1301 (by decide) ?_
        exact hR _ _ _ _ _ _ h Y (lv_sub hl [3, 4, 5, 6, 0] rfl)
      · have h := ty_f h c9
        refine lv_iconst (v := (0 : Int32)) hx hb dL_law_1168 (by decide) ?_
        exact False.elim h
  · have h := ty_f h c9
    refine lv_iconst (v := (0 : Int32)) hx hb dL_law_1151 (by decide) ?_
    exact False.elim h
def jL_law_1173 (xs : Nat → Int32) (L : Nat) (R : Int32 → ty_S → ty_S → Prop) (x4 : Int32) (S T : ty_S) : Prop :=
  (vp_in (x4 + (1 : Int32)) L ∧ (eL_word S (xs (x4 + (1 : Int32)).toNatClampNeg) (fun S48 r48 => (vp_in (x4 + (1 : Int32)) L ∧ (eX5_word T (xs (x4 + (1 : Int32)).toNatClampNeg) (fun T49 r49 => (eX5_thrown T49  (fun T50 r50 => (if r50 = r48 then (if r48 = (0 : Int32) then (vp_in (0 : Int32) 1 ∧ (if (lg_cmp (S48 12 (0 : Int32).toNatClampNeg).toInt64 r49.toInt64) = (0 : Int32) then R (x4 + (4 : Int32)) S48 T50 else False)) else R (x4 + (4 : Int32)) S48 T50) else False)))))))))
set_option maxHeartbeats 4000000 in
set_option maxRecDepth 100000 in
theorem wjL_law_1173 {p : Program} {l : Launch} {e : Env} {s : State} {m : MethodId} {below : List Frame} {meth : Method} {c : Code} {D : va_G} {cA : Nat → ClassId} {qY qM : Nat → Nat} {b L : Nat} {xs : Nat → Int32} (hr : meth.sig.returnType = ret) (hlo : meth.locks = false) (X : tw_X l D cA p s m #[Value.ref b] c b L xs) {cells slots : Nat} (hc : cells + 1 ≤ room_1.cells) (hs : slots + 6 ≤ room_1.slots) {R : Int32 → ty_S → ty_S → Prop} (hR : ∀ (x4 : Int32) (S T : ty_S) (H : Heap) (locs : List Loc) (ls : Array Slot), R x4 S T → tw_Y D cA qY qM S T s H locs → lv_has ls 7 [(0, .ref b), (1, .ref (qY 0)), (2, .ref (qM 0)), (3, .ref (qY 17)), (4, .int x4)] → W p l e room_1 s m #[Value.ref b] below meth c H locs (cells + 1) (slots + 6) (lw_Z below #[Value.ref b] s) (F0 m 23 ls [])) (x4 : Int32) (S T : ty_S) (H : Heap) (locs : List Loc) (ls : Array Slot) (h : jL_law_1173 xs L R x4 S T) (Y : tw_Y D cA qY qM S T s H locs) (hl : lv_has ls 7 [(0, .ref b), (1, .ref (qY 0)), (2, .ref (qM 0)), (3, .ref (qY 17)), (4, .int x4)]) : W p l e room_1 s m #[Value.ref b] below meth c H locs cells slots (lw_Z below #[Value.ref b] s) (F0 m 1173 ls []) := by
  have hx := X.1.1
  have hb := X.1.2.1
  unfold jL_law_1173 at h
  refine lv_aload_n hx hb dL_law_1173 rfl (lv_at hl 1 rfl) ?_
  refine lv_aload_n hx hb dL_law_1174 rfl (lv_at hl 0 rfl) ?_
  refine lv_iload hx hb dL_law_1175 (lv_at hl 4 rfl) ?_
  refine lv_iconst (v := (1 : Int32)) hx hb dL_law_1177 (by decide) ?_
  refine lv_iadd hx hb dL_law_1178 ?_
  refine tw_sld X Y h.1 dL_law_1179 ?_
  have h := h.2
  refine lv_aload_n hx hb dL_law_1180 rfl (lv_at hl 3 rfl) ?_
  refine tw_L (As := [.ref (qY 0), .int (xs (x4 + (1 : Int32)).toNatClampNeg), .ref (qY 17)]) (rest := []) (hh := [(0, 9, 12, 19)]) X Y (cL_word_C l X.2.2.2.2.2.1 D cA qY S (xs (x4 + (1 : Int32)).toNatClampNeg) _ h) (fun hts => vx_cwSW 3 hts gL_law_L_word rfl rfl rfl (by decide +kernel) ⟨Nat.le_of_ble_eq_true rfl, Nat.le_of_ble_eq_true rfl⟩) rfl hl.1 (Nat.le_of_ble_eq_true rfl) dL_law_1181 ⟨hc, hs⟩ (fun r48 S48 H locs h Y => ?_)
  refine lv_istore (lv' := [(5, .int r48), (0, .ref b), (1, .ref (qY 0)), (2, .ref (qM 0)), (3, .ref (qY 17)), (4, .int x4)]) hx hb dL_law_1184 hl (by decide) rfl (fun ls hl => ?_)
  refine lv_aload_n hx hb dL_law_1186 rfl (lv_at hl 3 rfl) ?_
  refine lv_aload_n hx hb dL_law_1187 rfl (lv_at hl 1 rfl) ?_
  refine lv_iload hx hb dL_law_1188 (lv_at hl 5 rfl) ?_
  refine lv_iconst (v := (1 : Int32)) hx hb dL_law_1190 (by decide) ?_
  refine lv_iadd hx hb dL_law_1191 ?_
  refine tw_sld X Y h.1 dL_law_1192 ?_
  have h := h.2
  refine tw_M (As := [.int (xs (x4 + (1 : Int32)).toNatClampNeg)]) (b9 := 0) (rest := []) X Y (cX5_word_C l D cA qM T (xs (x4 + (1 : Int32)).toNatClampNeg) _ h) rfl rfl (fun hts => cwV 1 hts gL_law_X5_word rfl rfl rfl (by decide +kernel) ⟨Nat.le_of_ble_eq_true rfl, Nat.le_of_ble_eq_true rfl⟩) rfl hl.1 (Nat.le_of_ble_eq_true rfl) dL_law_1193 ⟨hc, hs⟩ (fun r49 T49 H locs h Y => ?_)
  refine lv_istore (lv' := [(6, .int r49), (5, .int r48), (0, .ref b), (1, .ref (qY 0)), (2, .ref (qM 0)), (3, .ref (qY 17)), (4, .int x4)]) hx hb dL_law_1196 hl (by decide) rfl (fun ls hl => ?_)
  refine lv_aload_n hx hb dL_law_1198 rfl (lv_at hl 4 rfl) ?_
  refine tw_M (As := []) (b9 := 0) (rest := []) X Y (cX5_thrown_C l D cA qM T49  _ h) rfl rfl (fun hts => cwV 0 hts gL_law_X5_thrown rfl rfl rfl (by decide +kernel) ⟨Nat.le_of_ble_eq_true rfl, Nat.le_of_ble_eq_true rfl⟩) rfl hl.1 (Nat.le_of_ble_eq_true rfl) dL_law_1199 ⟨hc, hs⟩ (fun r50 T50 H locs h Y => ?_)
  refine lv_iload hx hb dL_law_1202 (lv_at hl 1 rfl) ?_
  refine lv_icmp_eq (tgt := 1209) hx hb dL_law_1204 (by decide) (fun c9 => ?_) (fun c9 => ?_)
  · have h := ty_t h c9
    refine lv_iload hx hb dL_law_1209 (lv_at hl 1 rfl) ?_
    refine lv_if_ne (tgt := 1226) hx hb dL_law_1211 (by decide) (fun c9 => ?_) (fun c9 => ?_)
    · have h := ty_f h c9
      refine lv_goto (tgt := 1298) hx hb dL_law_1226 (by decide) ?_
      refine lv_iinc (v := (x4 + (4 : Int32))) (lv' := [(4, .int (x4 + (4 : Int32))), (6, .int r49), (5, .int r48), (0, .ref b), (1, .ref (qY 0)), (2, .ref (qM 0)), (3, .ref (qY 17))]) hx hb dL_law_1298 hl (k := 6) rfl rfl (by decide) rfl (fun ls hl => ?_)
      refine lv_goto (tgt := 23) hx hb dL_law_1301 (by decide) ?_
      exact hR _ _ _ _ _ _ h Y (lv_sub hl [3, 4, 5, 6, 0] rfl)
    · have h := ty_t h c9
      refine lv_aload_n hx hb dL_law_1214 rfl (lv_at hl 5 rfl) ?_
      refine lv_iconst (v := (0 : Int32)) hx hb dL_law_1215 (by decide) ?_
      refine tw_out X Y h.1 dL_law_1216 ?_
      have h := h.2
      refine lv_iload hx hb dL_law_1217 (lv_at hl 0 rfl) ?_
      refine lv_i2l (v := r49.toInt64) hx hb dL_law_1219 rfl ?_
      refine W.lcmp hx hb dL_law_1220 ?_
      refine lv_if_eq (tgt := 1226) hx hb dL_law_1221 (by decide) (fun c9 => ?_) (fun c9 => ?_)
      · have h := ty_t h c9
        refine lv_goto (tgt := 1298) hx hb dL_law_1226 (by decide) ?_
        refine lv_iinc (v := (x4 + (4 : Int32))) (lv' := [(4, .int (x4 + (4 : Int32))), (6, .int r49), (5, .int r48), (0, .ref b), (1, .ref (qY 0)), (2, .ref (qM 0)), (3, .ref (qY 17))]) hx hb dL_law_1298 hl (k := 6) rfl rfl (by decide) rfl (fun ls hl => ?_)
        refine lv_goto (tgt := 23) hx hb dL_law_1301 (by decide) ?_
        exact hR _ _ _ _ _ _ h Y (lv_sub hl [3, 4, 5, 6, 0] rfl)
      · have h := ty_f h c9
        refine lv_iconst (v := (0 : Int32)) hx hb dL_law_1224 (by decide) ?_
        exact False.elim h
  · have h := ty_f h c9
    refine lv_iconst (v := (0 : Int32)) hx hb dL_law_1207 (by decide) ?_
    exact False.elim h
def jL_law_1229 (xs : Nat → Int32) (L : Nat) (R : Int32 → ty_S → ty_S → Prop) (x4 : Int32) (S T : ty_S) : Prop :=
  (eX4_reached S  (fun S51 r51 => (eX5_reached T  (fun T52 r52 => (if r51 = r52 then R (x4 + (4 : Int32)) S51 T52 else False)))))
set_option maxHeartbeats 4000000 in
set_option maxRecDepth 100000 in
theorem wjL_law_1229 {p : Program} {l : Launch} {e : Env} {s : State} {m : MethodId} {below : List Frame} {meth : Method} {c : Code} {D : va_G} {cA : Nat → ClassId} {qY qM : Nat → Nat} {b L : Nat} {xs : Nat → Int32} (hr : meth.sig.returnType = ret) (hlo : meth.locks = false) (X : tw_X l D cA p s m #[Value.ref b] c b L xs) {cells slots : Nat} (hc : cells + 1 ≤ room_1.cells) (hs : slots + 6 ≤ room_1.slots) {R : Int32 → ty_S → ty_S → Prop} (hR : ∀ (x4 : Int32) (S T : ty_S) (H : Heap) (locs : List Loc) (ls : Array Slot), R x4 S T → tw_Y D cA qY qM S T s H locs → lv_has ls 7 [(0, .ref b), (1, .ref (qY 0)), (2, .ref (qM 0)), (3, .ref (qY 17)), (4, .int x4)] → W p l e room_1 s m #[Value.ref b] below meth c H locs (cells + 1) (slots + 6) (lw_Z below #[Value.ref b] s) (F0 m 23 ls [])) (x4 : Int32) (S T : ty_S) (H : Heap) (locs : List Loc) (ls : Array Slot) (h : jL_law_1229 xs L R x4 S T) (Y : tw_Y D cA qY qM S T s H locs) (hl : lv_has ls 7 [(0, .ref b), (1, .ref (qY 0)), (2, .ref (qM 0)), (3, .ref (qY 17)), (4, .int x4)]) : W p l e room_1 s m #[Value.ref b] below meth c H locs cells slots (lw_Z below #[Value.ref b] s) (F0 m 1229 ls []) := by
  have hx := X.1.1
  have hb := X.1.2.1
  unfold jL_law_1229 at h
  refine lv_aload_n hx hb dL_law_1229 rfl (lv_at hl 1 rfl) ?_
  refine tw_V (As := []) (b9 := 0) (rest := []) X Y (cX4_reached_C l D cA qY S  _ h) rfl rfl (fun hts => cwV 0 hts gL_law_X4_reached rfl rfl rfl (by decide +kernel) ⟨Nat.le_of_ble_eq_true rfl, Nat.le_of_ble_eq_true rfl⟩) rfl hl.1 (Nat.le_of_ble_eq_true rfl) dL_law_1230 ⟨Nat.le_trans (Nat.le_add_right _ 1) hc, Nat.le_trans (Nat.le_add_right _ 6) hs⟩ (fun r51 S51 H locs h Y => ?_)
  refine lv_aload_n hx hb dL_law_1233 rfl (lv_at hl 2 rfl) ?_
  refine tw_M (As := []) (b9 := 0) (rest := [.int r51]) X Y (cX5_reached_C l D cA qM T  _ h) rfl rfl (fun hts => cwV 0 hts gL_law_X5_reached rfl rfl rfl (by decide +kernel) ⟨Nat.le_of_ble_eq_true rfl, Nat.le_of_ble_eq_true rfl⟩) rfl hl.1 (Nat.le_of_ble_eq_true rfl) dL_law_1234 ⟨Nat.le_trans (Nat.le_add_right _ 1) hc, Nat.le_trans (Nat.le_add_right _ 6) hs⟩ (fun r52 T52 H locs h Y => ?_)
  refine lv_icmp_eq (tgt := 1298) hx hb dL_law_1237 (by decide) (fun c9 => ?_) (fun c9 => ?_)
  · have h := ty_t h c9
    refine lv_iinc (v := (x4 + (4 : Int32))) (lv' := [(4, .int (x4 + (4 : Int32))), (0, .ref b), (1, .ref (qY 0)), (2, .ref (qM 0)), (3, .ref (qY 17))]) hx hb dL_law_1298 hl (k := 4) rfl rfl (by decide) rfl (fun ls hl => ?_)
    refine lv_goto (tgt := 23) hx hb dL_law_1301 (by decide) ?_
    refine W.widen (k := cells + 1) (n := slots + 6) (Nat.le_add_right _ _) (Nat.le_add_right _ _) ?_
    exact hR _ _ _ _ _ _ h Y (lv_sub hl [1, 2, 3, 4, 0] rfl)
  · have h := ty_f h c9
    refine lv_iconst (v := (0 : Int32)) hx hb dL_law_1240 (by decide) ?_
    exact False.elim h
def jL_law_1242 (xs : Nat → Int32) (L : Nat) (R : Int32 → ty_S → ty_S → Prop) (x4 : Int32) (S T : ty_S) : Prop :=
  (vp_in (x4 + (1 : Int32)) L ∧ (eL_told S (xs (x4 + (1 : Int32)).toNatClampNeg) (fun S53 r53 => (vp_in (x4 + (1 : Int32)) L ∧ (eX5_told T (xs (x4 + (1 : Int32)).toNatClampNeg) (fun T54 r54 => (eX5_thrown T54  (fun T55 r55 => (if r55 = r53 then (if r53 = (0 : Int32) then (vp_in (0 : Int32) 1 ∧ (if (lg_cmp (S53 12 (0 : Int32).toNatClampNeg).toInt64 r54.toInt64) = (0 : Int32) then R (x4 + (4 : Int32)) S53 T55 else False)) else R (x4 + (4 : Int32)) S53 T55) else False)))))))))
set_option maxHeartbeats 4000000 in
set_option maxRecDepth 100000 in
theorem wjL_law_1242 {p : Program} {l : Launch} {e : Env} {s : State} {m : MethodId} {below : List Frame} {meth : Method} {c : Code} {D : va_G} {cA : Nat → ClassId} {qY qM : Nat → Nat} {b L : Nat} {xs : Nat → Int32} (hr : meth.sig.returnType = ret) (hlo : meth.locks = false) (X : tw_X l D cA p s m #[Value.ref b] c b L xs) {cells slots : Nat} (hc : cells + 1 ≤ room_1.cells) (hs : slots + 6 ≤ room_1.slots) {R : Int32 → ty_S → ty_S → Prop} (hR : ∀ (x4 : Int32) (S T : ty_S) (H : Heap) (locs : List Loc) (ls : Array Slot), R x4 S T → tw_Y D cA qY qM S T s H locs → lv_has ls 7 [(0, .ref b), (1, .ref (qY 0)), (2, .ref (qM 0)), (3, .ref (qY 17)), (4, .int x4)] → W p l e room_1 s m #[Value.ref b] below meth c H locs (cells + 1) (slots + 6) (lw_Z below #[Value.ref b] s) (F0 m 23 ls [])) (x4 : Int32) (S T : ty_S) (H : Heap) (locs : List Loc) (ls : Array Slot) (h : jL_law_1242 xs L R x4 S T) (Y : tw_Y D cA qY qM S T s H locs) (hl : lv_has ls 7 [(0, .ref b), (1, .ref (qY 0)), (2, .ref (qM 0)), (3, .ref (qY 17)), (4, .int x4)]) : W p l e room_1 s m #[Value.ref b] below meth c H locs cells slots (lw_Z below #[Value.ref b] s) (F0 m 1242 ls []) := by
  have hx := X.1.1
  have hb := X.1.2.1
  unfold jL_law_1242 at h
  refine lv_aload_n hx hb dL_law_1242 rfl (lv_at hl 1 rfl) ?_
  refine lv_aload_n hx hb dL_law_1243 rfl (lv_at hl 0 rfl) ?_
  refine lv_iload hx hb dL_law_1244 (lv_at hl 4 rfl) ?_
  refine lv_iconst (v := (1 : Int32)) hx hb dL_law_1246 (by decide) ?_
  refine lv_iadd hx hb dL_law_1247 ?_
  refine tw_sld X Y h.1 dL_law_1248 ?_
  have h := h.2
  refine lv_aload_n hx hb dL_law_1249 rfl (lv_at hl 3 rfl) ?_
  refine tw_L (As := [.ref (qY 0), .int (xs (x4 + (1 : Int32)).toNatClampNeg), .ref (qY 17)]) (rest := []) (hh := [(0, 9, 12, 19)]) X Y (cL_told_C l X.2.2.2.2.2.1 D cA qY S (xs (x4 + (1 : Int32)).toNatClampNeg) _ h) (fun hts => vx_cwSW 3 hts gL_law_L_told rfl rfl rfl (by decide +kernel) ⟨Nat.le_of_ble_eq_true rfl, Nat.le_of_ble_eq_true rfl⟩) rfl hl.1 (Nat.le_of_ble_eq_true rfl) dL_law_1250 ⟨hc, hs⟩ (fun r53 S53 H locs h Y => ?_)
  refine lv_istore (lv' := [(5, .int r53), (0, .ref b), (1, .ref (qY 0)), (2, .ref (qM 0)), (3, .ref (qY 17)), (4, .int x4)]) hx hb dL_law_1253 hl (by decide) rfl (fun ls hl => ?_)
  refine lv_aload_n hx hb dL_law_1255 rfl (lv_at hl 3 rfl) ?_
  refine lv_aload_n hx hb dL_law_1256 rfl (lv_at hl 1 rfl) ?_
  refine lv_iload hx hb dL_law_1257 (lv_at hl 5 rfl) ?_
  refine lv_iconst (v := (1 : Int32)) hx hb dL_law_1259 (by decide) ?_
  refine lv_iadd hx hb dL_law_1260 ?_
  refine tw_sld X Y h.1 dL_law_1261 ?_
  have h := h.2
  refine tw_M (As := [.int (xs (x4 + (1 : Int32)).toNatClampNeg)]) (b9 := 0) (rest := []) X Y (cX5_told_C l D cA qM T (xs (x4 + (1 : Int32)).toNatClampNeg) _ h) rfl rfl (fun hts => cwV 1 hts gL_law_X5_told rfl rfl rfl (by decide +kernel) ⟨Nat.le_of_ble_eq_true rfl, Nat.le_of_ble_eq_true rfl⟩) rfl hl.1 (Nat.le_of_ble_eq_true rfl) dL_law_1262 ⟨hc, hs⟩ (fun r54 T54 H locs h Y => ?_)
  refine lv_istore (lv' := [(6, .int r54), (5, .int r53), (0, .ref b), (1, .ref (qY 0)), (2, .ref (qM 0)), (3, .ref (qY 17)), (4, .int x4)]) hx hb dL_law_1265 hl (by decide) rfl (fun ls hl => ?_)
  refine lv_aload_n hx hb dL_law_1267 rfl (lv_at hl 4 rfl) ?_
  refine tw_M (As := []) (b9 := 0) (rest := []) X Y (cX5_thrown_C l D cA qM T54  _ h) rfl rfl (fun hts => cwV 0 hts gL_law_X5_thrown rfl rfl rfl (by decide +kernel) ⟨Nat.le_of_ble_eq_true rfl, Nat.le_of_ble_eq_true rfl⟩) rfl hl.1 (Nat.le_of_ble_eq_true rfl) dL_law_1268 ⟨hc, hs⟩ (fun r55 T55 H locs h Y => ?_)
  refine lv_iload hx hb dL_law_1271 (lv_at hl 1 rfl) ?_
  refine lv_icmp_eq (tgt := 1278) hx hb dL_law_1273 (by decide) (fun c9 => ?_) (fun c9 => ?_)
  · have h := ty_t h c9
    refine lv_iload hx hb dL_law_1278 (lv_at hl 1 rfl) ?_
    refine lv_if_ne (tgt := 1295) hx hb dL_law_1280 (by decide) (fun c9 => ?_) (fun c9 => ?_)
    · have h := ty_f h c9
      refine lv_goto (tgt := 1298) hx hb dL_law_1295 (by decide) ?_
      refine lv_iinc (v := (x4 + (4 : Int32))) (lv' := [(4, .int (x4 + (4 : Int32))), (6, .int r54), (5, .int r53), (0, .ref b), (1, .ref (qY 0)), (2, .ref (qM 0)), (3, .ref (qY 17))]) hx hb dL_law_1298 hl (k := 6) rfl rfl (by decide) rfl (fun ls hl => ?_)
      refine lv_goto (tgt := 23) hx hb dL_law_1301 (by decide) ?_
      exact hR _ _ _ _ _ _ h Y (lv_sub hl [3, 4, 5, 6, 0] rfl)
    · have h := ty_t h c9
      refine lv_aload_n hx hb dL_law_1283 rfl (lv_at hl 5 rfl) ?_
      refine lv_iconst (v := (0 : Int32)) hx hb dL_law_1284 (by decide) ?_
      refine tw_out X Y h.1 dL_law_1285 ?_
      have h := h.2
      refine lv_iload hx hb dL_law_1286 (lv_at hl 0 rfl) ?_
      refine lv_i2l (v := r54.toInt64) hx hb dL_law_1288 rfl ?_
      refine W.lcmp hx hb dL_law_1289 ?_
      refine lv_if_eq (tgt := 1295) hx hb dL_law_1290 (by decide) (fun c9 => ?_) (fun c9 => ?_)
      · have h := ty_t h c9
        refine lv_goto (tgt := 1298) hx hb dL_law_1295 (by decide) ?_
        refine lv_iinc (v := (x4 + (4 : Int32))) (lv' := [(4, .int (x4 + (4 : Int32))), (6, .int r54), (5, .int r53), (0, .ref b), (1, .ref (qY 0)), (2, .ref (qM 0)), (3, .ref (qY 17))]) hx hb dL_law_1298 hl (k := 6) rfl rfl (by decide) rfl (fun ls hl => ?_)
        refine lv_goto (tgt := 23) hx hb dL_law_1301 (by decide) ?_
        exact hR _ _ _ _ _ _ h Y (lv_sub hl [3, 4, 5, 6, 0] rfl)
      · have h := ty_f h c9
        refine lv_iconst (v := (0 : Int32)) hx hb dL_law_1293 (by decide) ?_
        exact False.elim h
  · have h := ty_f h c9
    refine lv_iconst (v := (0 : Int32)) hx hb dL_law_1276 (by decide) ?_
    exact False.elim h
/-- one turn of the law, up to the switch -/
def jL_law_23 (xs : Nat → Int32) (L : Nat) (R : Int32 → ty_S → ty_S → Prop) (x4 : Int32) (S T : ty_S) : Prop :=
  (if ((Int32.ofNat L) - (4 : Int32)) < x4 then True else (vp_in x4 L ∧ (if ((xs x4.toNatClampNeg) &&& (31 : Int32)) = (0 : Int32) then jL_law_128 xs L R x4 S T else (if ((xs x4.toNatClampNeg) &&& (31 : Int32)) = (1 : Int32) then jL_law_184 xs L R x4 S T else (if ((xs x4.toNatClampNeg) &&& (31 : Int32)) = (2 : Int32) then jL_law_264 xs L R x4 S T else (if ((xs x4.toNatClampNeg) &&& (31 : Int32)) = (3 : Int32) then jL_law_332 xs L R x4 S T else (if ((xs x4.toNatClampNeg) &&& (31 : Int32)) = (4 : Int32) then jL_law_388 xs L R x4 S T else (if ((xs x4.toNatClampNeg) &&& (31 : Int32)) = (5 : Int32) then jL_law_468 xs L R x4 S T else (if ((xs x4.toNatClampNeg) &&& (31 : Int32)) = (6 : Int32) then jL_law_548 xs L R x4 S T else (if ((xs x4.toNatClampNeg) &&& (31 : Int32)) = (7 : Int32) then jL_law_628 xs L R x4 S T else (if ((xs x4.toNatClampNeg) &&& (31 : Int32)) = (8 : Int32) then jL_law_696 xs L R x4 S T else (if ((xs x4.toNatClampNeg) &&& (31 : Int32)) = (9 : Int32) then jL_law_709 xs L R x4 S T else (if ((xs x4.toNatClampNeg) &&& (31 : Int32)) = (10 : Int32) then jL_law_765 xs L R x4 S T else (if ((xs x4.toNatClampNeg) &&& (31 : Int32)) = (11 : Int32) then jL_law_833 xs L R x4 S T else (if ((xs x4.toNatClampNeg) &&& (31 : Int32)) = (12 : Int32) then jL_law_901 xs L R x4 S T else (if ((xs x4.toNatClampNeg) &&& (31 : Int32)) = (13 : Int32) then jL_law_969 xs L R x4 S T else (if ((xs x4.toNatClampNeg) &&& (31 : Int32)) = (14 : Int32) then jL_law_1037 xs L R x4 S T else (if ((xs x4.toNatClampNeg) &&& (31 : Int32)) = (15 : Int32) then jL_law_1105 xs L R x4 S T else (if ((xs x4.toNatClampNeg) &&& (31 : Int32)) = (16 : Int32) then jL_law_1173 xs L R x4 S T else (if ((xs x4.toNatClampNeg) &&& (31 : Int32)) = (17 : Int32) then jL_law_1229 xs L R x4 S T else (if ((xs x4.toNatClampNeg) &&& (31 : Int32)) = (18 : Int32) then jL_law_1242 xs L R x4 S T else R (x4 + (4 : Int32)) S T)))))))))))))))))))))
set_option maxHeartbeats 4000000 in
set_option maxRecDepth 100000 in
theorem wjL_law_23 {p : Program} {l : Launch} {e : Env} {s : State} {m : MethodId} {below : List Frame} {meth : Method} {c : Code} {D : va_G} {cA : Nat → ClassId} {qY qM : Nat → Nat} {b L : Nat} {xs : Nat → Int32} (hr : meth.sig.returnType = ret) (hlo : meth.locks = false) (X : tw_X l D cA p s m #[Value.ref b] c b L xs) {cells slots : Nat} (hc : cells + 1 ≤ room_1.cells) (hs : slots + 6 ≤ room_1.slots) {R : Int32 → ty_S → ty_S → Prop} (hR : ∀ (x4 : Int32) (S T : ty_S) (H : Heap) (locs : List Loc) (ls : Array Slot), R x4 S T → tw_Y D cA qY qM S T s H locs → lv_has ls 7 [(0, .ref b), (1, .ref (qY 0)), (2, .ref (qM 0)), (3, .ref (qY 17)), (4, .int x4)] → W p l e room_1 s m #[Value.ref b] below meth c H locs (cells + 1) (slots + 6) (lw_Z below #[Value.ref b] s) (F0 m 23 ls [])) (x4 : Int32) (S T : ty_S) (H : Heap) (locs : List Loc) (ls : Array Slot) (h : jL_law_23 xs L R x4 S T) (Y : tw_Y D cA qY qM S T s H locs) (hl : lv_has ls 7 [(0, .ref b), (1, .ref (qY 0)), (2, .ref (qM 0)), (3, .ref (qY 17)), (4, .int x4)]) : W p l e room_1 s m #[Value.ref b] below meth c H locs cells slots (lw_Z below #[Value.ref b] s) (F0 m 23 ls []) := by
  have hx := X.1.1
  have hb := X.1.2.1
  have hc9 : cells + 1 ≤ 178 := hc
  have hs9 : slots + 6 ≤ 32040 := hs
  unfold jL_law_23 at h
  refine lv_iload hx hb dL_law_23 (lv_at hl 4 rfl) ?_
  refine lv_aload_n hx hb dL_law_25 rfl (lv_at hl 0 rfl) ?_
  refine tw_slen X Y dL_law_26 ?_
  refine lv_iconst (v := (4 : Int32)) hx hb dL_law_27 (by decide) ?_
  refine lv_isub hx hb dL_law_28 ?_
  refine lv_icmp_gt (tgt := 1304) hx hb dL_law_29 (by decide) (fun c9 => ?_) (fun c9 => ?_)
  · have h := ty_t h c9
    refine lv_iconst (v := (1 : Int32)) hx hb dL_law_1304 (by decide) ?_
    refine va_forget (fun q hq => Y.2.2.2.2 q hq) ?_
    refine W.widen (k := 178) (n := 32040) (by omega) (by omega) ?_
    exact lw_ret hx hb hr hlo dL_law_1305
  · have h := ty_f h c9
    refine lv_aload_n hx hb dL_law_32 rfl (lv_at hl 0 rfl) ?_
    refine lv_iload hx hb dL_law_33 (lv_at hl 4 rfl) ?_
    refine tw_sld X Y h.1 dL_law_35 ?_
    have h := h.2
    refine lv_bipush (v := (31 : Int32)) hx hb dL_law_36 (by decide) ?_
    refine lv_iand hx hb dL_law_38 ?_
    rcases Decidable.em (((xs x4.toNatClampNeg) &&& (31 : Int32)) = (0 : Int32)) with c0 | c0
    · have h := ty_t h c0
      refine lv_tableIn (tgt := 128) hx hb dL_law_39 (by rw [c0]; decide) (by rw [c0]; decide) (by rw [c0]; exact rfl) (by decide) ?_
      exact wjL_law_128 hr hlo X hc hs hR _ _ _ _ _ _ h Y (lv_sub hl [0, 1, 2, 3, 4] rfl)
    · have h := ty_f h c0
      rcases Decidable.em (((xs x4.toNatClampNeg) &&& (31 : Int32)) = (1 : Int32)) with c1 | c1
      · have h := ty_t h c1
        refine lv_tableIn (tgt := 184) hx hb dL_law_39 (by rw [c1]; decide) (by rw [c1]; decide) (by rw [c1]; exact rfl) (by decide) ?_
        exact wjL_law_184 hr hlo X hc hs hR _ _ _ _ _ _ h Y (lv_sub hl [0, 1, 2, 3, 4] rfl)
      · have h := ty_f h c1
        rcases Decidable.em (((xs x4.toNatClampNeg) &&& (31 : Int32)) = (2 : Int32)) with c2 | c2
        · have h := ty_t h c2
          refine lv_tableIn (tgt := 264) hx hb dL_law_39 (by rw [c2]; decide) (by rw [c2]; decide) (by rw [c2]; exact rfl) (by decide) ?_
          exact wjL_law_264 hr hlo X hc hs hR _ _ _ _ _ _ h Y (lv_sub hl [0, 1, 2, 3, 4] rfl)
        · have h := ty_f h c2
          rcases Decidable.em (((xs x4.toNatClampNeg) &&& (31 : Int32)) = (3 : Int32)) with c3 | c3
          · have h := ty_t h c3
            refine lv_tableIn (tgt := 332) hx hb dL_law_39 (by rw [c3]; decide) (by rw [c3]; decide) (by rw [c3]; exact rfl) (by decide) ?_
            exact wjL_law_332 hr hlo X hc hs hR _ _ _ _ _ _ h Y (lv_sub hl [0, 1, 2, 3, 4] rfl)
          · have h := ty_f h c3
            rcases Decidable.em (((xs x4.toNatClampNeg) &&& (31 : Int32)) = (4 : Int32)) with c4 | c4
            · have h := ty_t h c4
              refine lv_tableIn (tgt := 388) hx hb dL_law_39 (by rw [c4]; decide) (by rw [c4]; decide) (by rw [c4]; exact rfl) (by decide) ?_
              exact wjL_law_388 hr hlo X hc hs hR _ _ _ _ _ _ h Y (lv_sub hl [0, 1, 2, 3, 4] rfl)
            · have h := ty_f h c4
              rcases Decidable.em (((xs x4.toNatClampNeg) &&& (31 : Int32)) = (5 : Int32)) with c5 | c5
              · have h := ty_t h c5
                refine lv_tableIn (tgt := 468) hx hb dL_law_39 (by rw [c5]; decide) (by rw [c5]; decide) (by rw [c5]; exact rfl) (by decide) ?_
                exact wjL_law_468 hr hlo X hc hs hR _ _ _ _ _ _ h Y (lv_sub hl [0, 1, 2, 3, 4] rfl)
              · have h := ty_f h c5
                rcases Decidable.em (((xs x4.toNatClampNeg) &&& (31 : Int32)) = (6 : Int32)) with c6 | c6
                · have h := ty_t h c6
                  refine lv_tableIn (tgt := 548) hx hb dL_law_39 (by rw [c6]; decide) (by rw [c6]; decide) (by rw [c6]; exact rfl) (by decide) ?_
                  exact wjL_law_548 hr hlo X hc hs hR _ _ _ _ _ _ h Y (lv_sub hl [0, 1, 2, 3, 4] rfl)
                · have h := ty_f h c6
                  rcases Decidable.em (((xs x4.toNatClampNeg) &&& (31 : Int32)) = (7 : Int32)) with c7 | c7
                  · have h := ty_t h c7
                    refine lv_tableIn (tgt := 628) hx hb dL_law_39 (by rw [c7]; decide) (by rw [c7]; decide) (by rw [c7]; exact rfl) (by decide) ?_
                    exact wjL_law_628 hr hlo X hc hs hR _ _ _ _ _ _ h Y (lv_sub hl [0, 1, 2, 3, 4] rfl)
                  · have h := ty_f h c7
                    rcases Decidable.em (((xs x4.toNatClampNeg) &&& (31 : Int32)) = (8 : Int32)) with c8 | c8
                    · have h := ty_t h c8
                      refine lv_tableIn (tgt := 696) hx hb dL_law_39 (by rw [c8]; decide) (by rw [c8]; decide) (by rw [c8]; exact rfl) (by decide) ?_
                      exact wjL_law_696 hr hlo X hc hs hR _ _ _ _ _ _ h Y (lv_sub hl [0, 1, 2, 3, 4] rfl)
                    · have h := ty_f h c8
                      rcases Decidable.em (((xs x4.toNatClampNeg) &&& (31 : Int32)) = (9 : Int32)) with c9 | c9
                      · have h := ty_t h c9
                        refine lv_tableIn (tgt := 709) hx hb dL_law_39 (by rw [c9]; decide) (by rw [c9]; decide) (by rw [c9]; exact rfl) (by decide) ?_
                        exact wjL_law_709 hr hlo X hc hs hR _ _ _ _ _ _ h Y (lv_sub hl [0, 1, 2, 3, 4] rfl)
                      · have h := ty_f h c9
                        rcases Decidable.em (((xs x4.toNatClampNeg) &&& (31 : Int32)) = (10 : Int32)) with c10 | c10
                        · have h := ty_t h c10
                          refine lv_tableIn (tgt := 765) hx hb dL_law_39 (by rw [c10]; decide) (by rw [c10]; decide) (by rw [c10]; exact rfl) (by decide) ?_
                          exact wjL_law_765 hr hlo X hc hs hR _ _ _ _ _ _ h Y (lv_sub hl [0, 1, 2, 3, 4] rfl)
                        · have h := ty_f h c10
                          rcases Decidable.em (((xs x4.toNatClampNeg) &&& (31 : Int32)) = (11 : Int32)) with c11 | c11
                          · have h := ty_t h c11
                            refine lv_tableIn (tgt := 833) hx hb dL_law_39 (by rw [c11]; decide) (by rw [c11]; decide) (by rw [c11]; exact rfl) (by decide) ?_
                            exact wjL_law_833 hr hlo X hc hs hR _ _ _ _ _ _ h Y (lv_sub hl [0, 1, 2, 3, 4] rfl)
                          · have h := ty_f h c11
                            rcases Decidable.em (((xs x4.toNatClampNeg) &&& (31 : Int32)) = (12 : Int32)) with c12 | c12
                            · have h := ty_t h c12
                              refine lv_tableIn (tgt := 901) hx hb dL_law_39 (by rw [c12]; decide) (by rw [c12]; decide) (by rw [c12]; exact rfl) (by decide) ?_
                              exact wjL_law_901 hr hlo X hc hs hR _ _ _ _ _ _ h Y (lv_sub hl [0, 1, 2, 3, 4] rfl)
                            · have h := ty_f h c12
                              rcases Decidable.em (((xs x4.toNatClampNeg) &&& (31 : Int32)) = (13 : Int32)) with c13 | c13
                              · have h := ty_t h c13
                                refine lv_tableIn (tgt := 969) hx hb dL_law_39 (by rw [c13]; decide) (by rw [c13]; decide) (by rw [c13]; exact rfl) (by decide) ?_
                                exact wjL_law_969 hr hlo X hc hs hR _ _ _ _ _ _ h Y (lv_sub hl [0, 1, 2, 3, 4] rfl)
                              · have h := ty_f h c13
                                rcases Decidable.em (((xs x4.toNatClampNeg) &&& (31 : Int32)) = (14 : Int32)) with c14 | c14
                                · have h := ty_t h c14
                                  refine lv_tableIn (tgt := 1037) hx hb dL_law_39 (by rw [c14]; decide) (by rw [c14]; decide) (by rw [c14]; exact rfl) (by decide) ?_
                                  exact wjL_law_1037 hr hlo X hc hs hR _ _ _ _ _ _ h Y (lv_sub hl [0, 1, 2, 3, 4] rfl)
                                · have h := ty_f h c14
                                  rcases Decidable.em (((xs x4.toNatClampNeg) &&& (31 : Int32)) = (15 : Int32)) with c15 | c15
                                  · have h := ty_t h c15
                                    refine lv_tableIn (tgt := 1105) hx hb dL_law_39 (by rw [c15]; decide) (by rw [c15]; decide) (by rw [c15]; exact rfl) (by decide) ?_
                                    exact wjL_law_1105 hr hlo X hc hs hR _ _ _ _ _ _ h Y (lv_sub hl [0, 1, 2, 3, 4] rfl)
                                  · have h := ty_f h c15
                                    rcases Decidable.em (((xs x4.toNatClampNeg) &&& (31 : Int32)) = (16 : Int32)) with c16 | c16
                                    · have h := ty_t h c16
                                      refine lv_tableIn (tgt := 1173) hx hb dL_law_39 (by rw [c16]; decide) (by rw [c16]; decide) (by rw [c16]; exact rfl) (by decide) ?_
                                      exact wjL_law_1173 hr hlo X hc hs hR _ _ _ _ _ _ h Y (lv_sub hl [0, 1, 2, 3, 4] rfl)
                                    · have h := ty_f h c16
                                      rcases Decidable.em (((xs x4.toNatClampNeg) &&& (31 : Int32)) = (17 : Int32)) with c17 | c17
                                      · have h := ty_t h c17
                                        refine lv_tableIn (tgt := 1229) hx hb dL_law_39 (by rw [c17]; decide) (by rw [c17]; decide) (by rw [c17]; exact rfl) (by decide) ?_
                                        exact wjL_law_1229 hr hlo X hc hs hR _ _ _ _ _ _ h Y (lv_sub hl [0, 1, 2, 3, 4] rfl)
                                      · have h := ty_f h c17
                                        rcases Decidable.em (((xs x4.toNatClampNeg) &&& (31 : Int32)) = (18 : Int32)) with c18 | c18
                                        · have h := ty_t h c18
                                          refine lv_tableIn (tgt := 1242) hx hb dL_law_39 (by rw [c18]; decide) (by rw [c18]; decide) (by rw [c18]; exact rfl) (by decide) ?_
                                          exact wjL_law_1242 hr hlo X hc hs hR _ _ _ _ _ _ h Y (lv_sub hl [0, 1, 2, 3, 4] rfl)
                                        · have h := ty_f h c18
                                          refine lv_tableOut (tgt := 1298) hx hb dL_law_39 (ty_out (fun k h1 h2 => ?_)) (by decide) ?_
                                          · have hk : k = 0 ∨ k = 1 ∨ k = 2 ∨ k = 3 ∨ k = 4 ∨ k = 5 ∨ k = 6 ∨ k = 7 ∨ k = 8 ∨ k = 9 ∨ k = 10 ∨ k = 11 ∨ k = 12 ∨ k = 13 ∨ k = 14 ∨ k = 15 ∨ k = 16 ∨ k = 17 ∨ k = 18 := by omega
                                            rcases hk with rfl | rfl | rfl | rfl | rfl | rfl | rfl | rfl | rfl | rfl | rfl | rfl | rfl | rfl | rfl | rfl | rfl | rfl | rfl
                                            · exact c0
                                            · exact c1
                                            · exact c2
                                            · exact c3
                                            · exact c4
                                            · exact c5
                                            · exact c6
                                            · exact c7
                                            · exact c8
                                            · exact c9
                                            · exact c10
                                            · exact c11
                                            · exact c12
                                            · exact c13
                                            · exact c14
                                            · exact c15
                                            · exact c16
                                            · exact c17
                                            · exact c18
                                          · refine lv_iinc (v := (x4 + (4 : Int32))) (lv' := [(4, .int (x4 + (4 : Int32))), (0, .ref b), (1, .ref (qY 0)), (2, .ref (qM 0)), (3, .ref (qY 17))]) hx hb dL_law_1298 hl (k := 4) rfl rfl (by decide) rfl (fun ls hl => ?_)
                                            refine lv_goto (tgt := 23) hx hb dL_law_1301 (by decide) ?_
                                            refine W.widen (k := cells + 1) (n := slots + 6) (Nat.le_add_right _ _) (Nat.le_add_right _ _) ?_
                                            exact hR _ _ _ _ _ _ h Y (lv_sub hl [1, 2, 3, 4, 0] rfl)
/-- the law's loop -/
def lL_law (xs : Nat → Int32) (L : Nat) : Nat → Int32 → ty_S → ty_S → Prop
  | 0, _, _, _ => False
  | n + 1, x4, S, T => jL_law_23 xs L (fun a S9 T9 => lL_law xs L n a S9 T9) x4 S T
theorem wL_law {p : Program} {l : Launch} {e : Env} {s : State} {m : MethodId} {below : List Frame} {meth : Method} {c : Code} {D : va_G} {cA : Nat → ClassId} {qY qM : Nat → Nat} {b L : Nat} {xs : Nat → Int32} (hr : meth.sig.returnType = ret) (hlo : meth.locks = false) (X : tw_X l D cA p s m #[Value.ref b] c b L xs) : ∀ (n cells slots : Nat) (x4 : Int32) (S T : ty_S) (H : Heap) (locs : List Loc) (ls : Array Slot), lL_law xs L n x4 S T → cells + n ≤ 178 → slots + 6 * n ≤ 32040 → tw_Y D cA qY qM S T s H locs → lv_has ls 7 [(0, .ref b), (1, .ref (qY 0)), (2, .ref (qM 0)), (3, .ref (qY 17)), (4, .int x4)] → W p l e room_1 s m #[Value.ref b] below meth c H locs cells slots (lw_Z below #[Value.ref b] s) (F0 m 23 ls []) := by
  intro n
  induction n with
  | zero =>
    intro cells slots x4 S T H locs ls h
    exact False.elim h
  | succ n ih =>
    intro cells slots x4 S T H locs ls h hc hs Y hl
    exact wjL_law_23 hr hlo X (show cells + 1 ≤ 178 by omega) (show slots + 6 ≤ 32040 by omega) (fun x4 S T H locs ls h Y hl => ih (cells + 1) (slots + 6) x4 S T H locs ls h (by omega) (by omega) Y hl) x4 S T H locs ls h Y hl
