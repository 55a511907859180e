/-! THE LAW'S WORLD: the class's cells and the reference's, side by side -/
def tw_A (s : State) : Nat → Prop := fun a => s.heap.size ≤ a
def tw_Y (D : va_G) (cA : Nat → ClassId) (qY qM : Nat → Nat) (S T : ty_S) (s : State) (H : Heap) (locs : List Loc) : Prop :=
  va_P D vwCl (ty_W cA qY ty_LY S ++ ty_W cA qM ty_LM T) H ∧ va_D (tw_A s) (ty_W cA qY ty_LY S ++ ty_W cA qM ty_LM T) ∧ va_S (tw_A s) s.heap H locs
def tw_X (l : Launch) (D : va_G) (cA : Nat → ClassId) (p : Program) (s : State) (m : MethodId) (args : Array Value) (c : Code) (b L : Nat) (xs : Nat → Int32) : Prop :=
  CallFix p m c cL_law 7 s args wsL_law RL ∧ va_K D vwCl (ty_tys cA) s ∧ ty_N s ∧ tx_Z (tw_A s) s s.heap ∧ tl_N s ∧ l.stackTraces = false ∧ va_X b L xs s s.heap ∧ b < s.heap.size
theorem tw_Dfst {A : Nat → Prop} {w w' : va_W} (h : w.map Prod.fst = w'.map Prod.fst) (hD : va_D A w) : va_D A w' := by
  have key : ∀ (k : Nat) (p : Nat × va_E), w'[k]? = some p → ∃ p', w[k]? = some p' ∧ p'.1 = p.1 := by
    intro k p hp
    have h1 : (w'.map Prod.fst)[k]? = some p.1 := by rw [List.getElem?_map, hp]; rfl
    rw [← h, List.getElem?_map] at h1
    cases hw : w[k]? with
    | none => rw [hw] at h1; cases h1
    | some p' => rw [hw] at h1; exact ⟨p', rfl, Option.some.inj h1⟩
  refine ⟨fun i j x y hi hj e => ?_, fun k x hk => ?_⟩
  · obtain ⟨a, ha, ea⟩ := key i x hi
    obtain ⟨b, hb, eb⟩ := key j y hj
    exact hD.1 i j a b ha hb (by rw [ea, eb, e])
  · obtain ⟨a, ha, ea⟩ := key k x hk
    rw [← ea]; exact hD.2 k a ha
theorem ty_W_fst (cA : Nat → ClassId) (q : Nat → Nat) (Lay : List ty_E) (S S' : ty_S) : (ty_W cA q Lay S).map Prod.fst = (ty_W cA q Lay S').map Prod.fst := by
  unfold ty_W
  rw [List.map_map, List.map_map]
  rfl
theorem tw_Pl {D : va_G} {cl : List vw_C} {a b : va_W} {H : Heap} (h : va_P D cl (a ++ b) H) : va_P D cl a H := fun k x hk => h k x (by rw [List.getElem?_append_left (List.getElem?_eq_some_iff.mp hk).1]; exact hk)
theorem tw_Pr {D : va_G} {cl : List vw_C} {a b : va_W} {H : Heap} (h : va_P D cl (a ++ b) H) : va_P D cl b H := fun k x hk => h (a.length + k) x (by rw [List.getElem?_append_right (Nat.le_add_right _ _), Nat.add_sub_cancel_left]; exact hk)
theorem tw_Dl {A : Nat → Prop} {a b : va_W} (h : va_D A (a ++ b)) : va_D A a := by
  have e : ∀ {k : Nat} {x : Nat × va_E}, a[k]? = some x → (a ++ b)[k]? = some x := fun hk => by rw [List.getElem?_append_left (List.getElem?_eq_some_iff.mp hk).1]; exact hk
  exact ⟨fun i j x y hi hj => h.1 i j x y (e hi) (e hj), fun k x hk => h.2 k x (e hk)⟩
theorem tw_Dr {A : Nat → Prop} {a b : va_W} (h : va_D A (a ++ b)) : va_D A b := by
  have e : ∀ {k : Nat} {x : Nat × va_E}, b[k]? = some x → (a ++ b)[a.length + k]? = some x := fun hk => by rw [List.getElem?_append_right (Nat.le_add_right _ _), Nat.add_sub_cancel_left]; exact hk
  exact ⟨fun i j x y hi hj hxy => by have := h.1 _ _ x y (e hi) (e hj) hxy; omega, fun k x hk => h.2 _ x (e hk)⟩
theorem tw_Dx {A : Nat → Prop} {a b : va_W} (h : va_D A (a ++ b)) {i j : Nat} {x y : Nat × va_E} (hi : a[i]? = some x) (hj : b[j]? = some y) : x.1 ≠ y.1 := by
  intro e
  have h1 : (a ++ b)[i]? = some x := by rw [List.getElem?_append_left (List.getElem?_eq_some_iff.mp hi).1]; exact hi
  have h2 : (a ++ b)[a.length + j]? = some y := by rw [List.getElem?_append_right (Nat.le_add_right _ _), Nat.add_sub_cancel_left]; exact hj
  have := h.1 _ _ x y h1 h2 e
  have := (List.getElem?_eq_some_iff.mp hi).1
  omega
/-- a world's cells are no others -/
theorem ty_A_not {cA : Nat → ClassId} {q : Nat → Nat} {Lay : List ty_E} {S : ty_S} {sz a : Nat} (hlt : a < sz) (h : ∀ (k : Nat) (x : Nat × va_E), (ty_W cA q Lay S)[k]? = some x → x.1 ≠ a) : ¬ ty_A q Lay.length sz a := by
  intro hA
  rcases hA with ⟨k, hk, e⟩ | h1
  · have hl : Lay[k]? = some Lay[k] := List.getElem?_eq_getElem hk
    exact h k _ (ty_W_at hl) e.symm
  · omega
theorem ty_A_in {A : Nat → Prop} {cA : Nat → ClassId} {q : Nat → Nat} {Lay : List ty_E} {S : ty_S} {sz a : Nat} (hD : va_D A (ty_W cA q Lay S)) (hA : ∀ x, sz ≤ x → A x) (h : ty_A q Lay.length sz a) : A a := by
  rcases h with ⟨k, hk, e⟩ | h1
  · have hl : Lay[k]? = some Lay[k] := List.getElem?_eq_getElem hk
    rw [e]; exact hD.2 k _ (ty_W_at hl)
  · exact hA a h1
section TWR
variable {p : Program} {l : Launch} {e : Env} {R : Room} {s : State} {m : MethodId} {args : Array Value} {below : List Frame} {meth : Method} {c : Code} {H : Heap} {locs : List Loc} {Q : State → Prop} {cells slots : Nat}
variable {D : va_G} {cA : Nat → ClassId} {qY qM : Nat → Nat} {S T : ty_S} {pc b L : Nat} {xs : Nat → Int32} {ls : Array Slot} {rest : List Value}
theorem tw_toY {S' : ty_S} {t : State} {H1 : Heap} {locs1 : List Loc} (Y : tw_Y D cA qY qM S T s H locs) (ht : t.heap = H1) (hB : ty_B D cA qY ty_LY H.size S' t) (hk : ∀ a : Nat, a < H.size → ¬ ty_A qY ty_LY.length H.size a → H1[a]? = H[a]?) (hS : va_S (tw_A s) s.heap H1 locs1) : tw_Y D cA qY qM S' T s H1 locs1 := by
  obtain ⟨hP, hD, -⟩ := Y
  refine ⟨va_P.app (by rw [← ht]; exact hB.1) ((tw_Pr hP).kept fun k x hx => hk x.1 ((tw_Pr hP) k x hx).lt (ty_A_not ((tw_Pr hP) k x hx).lt fun k2 y hy => tw_Dx hD hy hx)), ?_, hS⟩
  exact tw_Dfst (by rw [List.map_append, List.map_append, ty_W_fst cA qY ty_LY S S']) hD
theorem tw_toM {T' : ty_S} {t : State} {H1 : Heap} {locs1 : List Loc} (Y : tw_Y D cA qY qM S T s H locs) (ht : t.heap = H1) (hB : ty_B D cA qM ty_LM H.size T' t) (hk : ∀ a : Nat, a < H.size → ¬ ty_A qM ty_LM.length H.size a → H1[a]? = H[a]?) (hS : va_S (tw_A s) s.heap H1 locs1) : tw_Y D cA qY qM S T' s H1 locs1 := by
  obtain ⟨hP, hD, -⟩ := Y
  refine ⟨va_P.app ((tw_Pl hP).kept fun k x hx => hk x.1 ((tw_Pl hP) k x hx).lt (ty_A_not ((tw_Pl hP) k x hx).lt fun k2 y hy e => tw_Dx hD hx hy e.symm)) (by rw [← ht]; exact hB.1), ?_, hS⟩
  exact tw_Dfst (by rw [List.map_append, List.map_append, ty_W_fst cA qM ty_LM T T']) hD
theorem tw_AY (Y : tw_Y D cA qY qM S T s H locs) : ∀ a, ty_A qY ty_LY.length H.size a → tw_A s a := fun a h => ty_A_in (tw_Dl Y.2.1) (fun x hx => Nat.le_trans Y.2.2.1 hx) h
theorem tw_AM (Y : tw_Y D cA qY qM S T s H locs) : ∀ a, ty_A qM ty_LM.length H.size a → tw_A s a := fun a h => ty_A_in (tw_Dr Y.2.1) (fun x hx => Nat.le_trans Y.2.2.1 hx) h
theorem tw_preY {av : List Value} (X : tw_X l D cA p s m args c b L xs) (Y : tw_Y D cA qY qM S T s H locs) : FrameBlind (ty_Pc D cA qY ty_LY S H.size av) ∧ ∀ U : State, U.heap = H → s.WarmedH U.vm → ty_Pc D cA qY ty_LY S H.size av av.toArray U := by
  obtain ⟨-, hK, hN, -⟩ := X
  refine ⟨fun a U g mk h => ?_, fun U hU hW => ⟨rfl, by rw [hU], by rw [hU]; exact tw_Pl Y.1, va_K.moved hW.alike hK, (tw_Dl Y.2.1).weaken (fun _ _ _ _ => trivial), hN.warm hW⟩⟩
  obtain ⟨q0, q1, qP, qK, qD, qN⟩ := h
  exact ⟨q0, q1, qP, va_K.moved (u := U) (U := U.calling g mk a) (Vm.Alike.refl U.vm) qK, qD, ty_N.same (u := U) (U := U.calling g mk a) rfl qN⟩
theorem tw_preM {av : List Value} (X : tw_X l D cA p s m args c b L xs) (Y : tw_Y D cA qY qM S T s H locs) : FrameBlind (ty_Pc D cA qM ty_LM T H.size av) ∧ ∀ U : State, U.heap = H → s.WarmedH U.vm → ty_Pc D cA qM ty_LM T H.size av av.toArray U := by
  obtain ⟨-, hK, hN, -⟩ := X
  refine ⟨fun a U g mk h => ?_, fun U hU hW => ⟨rfl, by rw [hU], by rw [hU]; exact tw_Pr Y.1, va_K.moved hW.alike hK, (tw_Dr Y.2.1).weaken (fun _ _ _ _ => trivial), hN.warm hW⟩⟩
  obtain ⟨q0, q1, qP, qK, qD, qN⟩ := h
  exact ⟨q0, q1, qP, va_K.moved (u := U) (U := U.calling g mk a) (Vm.Alike.refl U.vm) qK, qD, ty_N.same (u := U) (U := U.calling g mk a) rfl qN⟩
theorem tw_preL {av : List Value} (X : tw_X l D cA p s m args c b L xs) (Y : tw_Y D cA qY qM S T s H locs) : FrameBlind (tl_Pc D cA qY ty_LY S H.size av) ∧ ∀ U : State, U.heap = H → s.WarmedH U.vm → tl_Pc D cA qY ty_LY S H.size av av.toArray U := by
  obtain ⟨-, hK, hN, hZ, hC, -⟩ := X
  refine ⟨fun a U g mk h => ?_, fun U hU hW => ⟨rfl, by rw [hU], by rw [hU]; exact tw_Pl Y.1, va_K.moved hW.alike hK, (tw_Dl Y.2.1).weaken (fun _ _ _ _ => trivial), hN.warm hW, ?_, fun i j hi hj hij => (hC i j hi hj hij).moved hW.alike⟩⟩
  · obtain ⟨q0, q1, qP, qK, qD, qN, qZ, qC⟩ := h
    exact ⟨q0, q1, qP, va_K.moved (u := U) (U := U.calling g mk a) (Vm.Alike.refl U.vm) qK, qD, ty_N.same (u := U) (U := U.calling g mk a) rfl qN, tx_Z.same (s := U) (U := U.calling g mk a) rfl qZ, fun i j hi hj hij => va_Nc.moved (u := U) (U := U.calling g mk a) (Vm.Alike.refl U.vm) (qC i j hi hj hij)⟩
  · rw [hU]
    exact ((hZ.kept (fun a ha hna => Y.2.2.2.1 a ha hna)).narrow (tw_AY Y)).warm hW
variable {y : MethodName} {bytes : ByteArray} {maxL index n : Nat} {ret' : Option FieldType} {ws : List Cond} {rm : Room} {C : String} {As : List Value} {b9 : Nat} {hh : List (Nat × Nat × Nat × Nat)}
/-- one of the law's own methods -/
theorem tw_L {K : ty_S → Int32 → Prop} (X : tw_X l D cA p s m args c b L xs) (Y : tw_Y D cA qY qM S T s H locs) (hM : ∀ sz, Met l y ws rm (tl_Pc D cA qY ty_LY S sz As) (ty_Qi D cA qY ty_LY sz K) 1 6 (ty_A qY ty_LY.length sz))
    (cw : (∀ w ∈ wsL_law, w.before args s = true) → vx_CSW R s args RL index y bytes maxL ret' hh ws rm 1 6 n) (hn : As.length = n) (hsize : ls.size = 7) (hW : (rest.map fun v => v.category).sum ≤ 8) (hdg : decode cL_law pc = .ok (.invokestatic index, 3)) (hf : cells + 1 ≤ R.cells ∧ slots + 6 ≤ R.slots)
    (kk : ∀ (r : Int32) (S' : ty_S) (H1 : Heap) (locs1 : List Loc), K S' r → tw_Y D cA qY qM S' T s H1 locs1 → W p l e R s m args below meth c H1 locs1 (cells + 1) (slots + 6) Q (F0 m (pc + 3) ls (.int r :: rest))) : W p l e R s m args below meth c H locs cells slots Q (F0 m pc ls (As.reverse ++ rest)) := by
  obtain ⟨hbl, hpre⟩ := tw_preL (av := As) X Y
  refine va_calli (A1 := ty_A qY ty_LY.length H.size) (vx_runSW X.1 (hM H.size) (cw X.1.2.2.2.2) ⟨hbl, hpre⟩ rfl hn hsize rfl (lv_room hW) hdg ⟨hf.1, hf.2⟩) Y.2.2 (fun a _ h => tw_AY Y a h) (tw_AY Y) (fun r u t H1 locs1 ht hvm hw hB hz hk hS => ?_)
  exact kk r u H1 locs1 hw (tw_toY Y ht hB hk hS)
/-- a method of the class's, that throws nothing -/
theorem tw_V {K : ty_S → Int32 → Prop} (X : tw_X l D cA p s m args c b L xs) (Y : tw_Y D cA qY qM S T s H locs) (hM : ∀ sz, Met l y ws rm (ty_Pc D cA qY ty_LY S sz (.ref (qY b9) :: As)) (ty_Qi D cA qY ty_LY sz K) 0 0 (ty_A qY ty_LY.length sz))
    {ci N : Nat} {fs : List (Nat ⊕ Nat)} {T9 : u_T} (ho : ty_LY[b9]? = some (.inl (ci, fs))) (hc : vwCl[ci]? = some (C, T9, N))
    (cw : (∀ w ∈ wsL_law, w.before args s = true) → CallW R s args RL C index y bytes maxL ret' ws rm 0 0 n) (hn : As.length = n) (hsize : ls.size = 7) (hW : (rest.map fun v => v.category).sum ≤ 8) (hdg : decode cL_law pc = .ok (.invokevirtual index, 3)) (hf : cells ≤ R.cells ∧ slots ≤ R.slots)
    (kk : ∀ (r : Int32) (S' : ty_S) (H1 : Heap) (locs1 : List Loc), K S' r → tw_Y D cA qY qM S' T s H1 locs1 → W p l e R s m args below meth c H1 locs1 cells slots Q (F0 m (pc + 3) ls (.int r :: rest))) : W p l e R s m args below meth c H locs cells slots Q (F0 m pc ls (As.reverse ++ .ref (qY b9) :: rest)) := by
  obtain ⟨hbl, hpre⟩ := tw_preY (av := .ref (qY b9) :: As) X Y
  refine va_calli (A1 := ty_A qY ty_LY.length H.size) (va_runV X.1 (hM H.size) (cw X.1.2.2.2.2) ⟨hbl, va_recv (q0 := b9) X.2.1 (tw_Pl Y.1) hc (ty_W_at ho), hpre⟩ rfl hn hsize rfl (lv_room hW) hdg ⟨hf.1, hf.2⟩) Y.2.2 (fun a _ h => tw_AY Y a h) (tw_AY Y) (fun r u t H1 locs1 ht hvm hw hB hz hk hS => ?_)
  exact kk r u H1 locs1 hw (tw_toY Y ht hB hk hS)
/-- a method of the reference's -/
theorem tw_M {K : ty_S → Int32 → Prop} (X : tw_X l D cA p s m args c b L xs) (Y : tw_Y D cA qY qM S T s H locs) (hM : ∀ sz, Met l y ws rm (ty_Pc D cA qM ty_LM T sz (.ref (qM b9) :: As)) (ty_Qi D cA qM ty_LM sz K) 0 0 (ty_A qM ty_LM.length sz))
    {ci N : Nat} {fs : List (Nat ⊕ Nat)} {T9 : u_T} (ho : ty_LM[b9]? = some (.inl (ci, fs))) (hc : vwCl[ci]? = some (C, T9, N))
    (cw : (∀ w ∈ wsL_law, w.before args s = true) → CallW R s args RL C index y bytes maxL ret' ws rm 0 0 n) (hn : As.length = n) (hsize : ls.size = 7) (hW : (rest.map fun v => v.category).sum ≤ 8) (hdg : decode cL_law pc = .ok (.invokevirtual index, 3)) (hf : cells ≤ R.cells ∧ slots ≤ R.slots)
    (kk : ∀ (r : Int32) (T' : ty_S) (H1 : Heap) (locs1 : List Loc), K T' r → tw_Y D cA qY qM S T' s H1 locs1 → W p l e R s m args below meth c H1 locs1 cells slots Q (F0 m (pc + 3) ls (.int r :: rest))) : W p l e R s m args below meth c H locs cells slots Q (F0 m pc ls (As.reverse ++ .ref (qM b9) :: rest)) := by
  obtain ⟨hbl, hpre⟩ := tw_preM (av := .ref (qM b9) :: As) X Y
  refine va_calli (A1 := ty_A qM ty_LM.length H.size) (va_runV X.1 (hM H.size) (cw X.1.2.2.2.2) ⟨hbl, va_recv (q0 := b9) X.2.1 (tw_Pr Y.1) hc (ty_W_at ho), hpre⟩ rfl hn hsize rfl (lv_room hW) hdg ⟨hf.1, hf.2⟩) Y.2.2 (fun a _ h => tw_AM Y a h) (tw_AM Y) (fun r u t H1 locs1 ht hvm hw hB hz hk hS => ?_)
  exact kk r u H1 locs1 hw (tw_toM Y ht hB hk hS)
/-- what the law reads: of the script, its length, of 'out' -/
theorem tw_sld (X : tw_X l D cA p s m args c b L xs) (Y : tw_Y D cA qY qM S T s H locs) {i : Int32} (hin : vp_in i L) (hdg : decode cL_law pc = .ok (.iaload, 1))
    (kk : W p l e R s m args below meth c H locs cells slots Q (F0 m (pc + 1) ls (.int (xs i.toNatClampNeg) :: rest))) : W p l e R s m args below meth c H locs cells slots Q (F0 m pc ls (.int i :: .ref b :: rest)) :=
  va_sld (A := tw_A s) X.1.1 X.1.2.1 X.2.2.2.2.2.2.1 X.2.2.2.2.2.2.2 (Nat.not_le.mpr X.2.2.2.2.2.2.2) Y.2.2 hin hdg kk
theorem tw_slen (X : tw_X l D cA p s m args c b L xs) (Y : tw_Y D cA qY qM S T s H locs) (hdg : decode cL_law pc = .ok (.arraylength, 1))
    (kk : W p l e R s m args below meth c H locs cells slots Q (F0 m (pc + 1) ls (.int (Int32.ofNat L) :: rest))) : W p l e R s m args below meth c H locs cells slots Q (F0 m pc ls (.ref b :: rest)) :=
  va_slen (A := tw_A s) X.1.1 X.1.2.1 X.2.2.2.2.2.2.1 X.2.2.2.2.2.2.2 (Nat.not_le.mpr X.2.2.2.2.2.2.2) Y.2.2 hdg kk
theorem tw_out (X : tw_X l D cA p s m args c b L xs) (Y : tw_Y D cA qY qM S T s H locs) {i : Int32} (hin : vp_in i 1) (hdg : decode cL_law pc = .ok (.laload, 1))
    (kk : W p l e R s m args below meth c H locs cells slots Q (F0 m (pc + 1) ls (.long (S 12 i.toNatClampNeg).toInt64 :: rest))) : W p l e R s m args below meth c H locs cells slots Q (F0 m pc ls (.int i :: .ref (qY 17) :: rest)) :=
  va_lald (f := fun j => (S 12 j).toInt64) (n := 1) X.1.1 X.1.2.1 X.2.1 (tw_Pl Y.1) 17 2 (ty_W_at (Lay := ty_LY) (k := 17) rfl) rfl hin hdg kk
end TWR
