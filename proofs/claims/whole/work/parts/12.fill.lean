/-- a switch past its rows -/
theorem ty_out {x : Int32} {lo hi : Int} (h : ∀ k : Int, lo ≤ k → k ≤ hi → x ≠ Int32.ofInt k) : x.toInt < lo ∨ hi < x.toInt := by
  by_cases h1 : x.toInt < lo
  · exact Or.inl h1
  · by_cases h2 : hi < x.toInt
    · exact Or.inr h2
    · exact absurd (Int32.ofInt_toInt x).symm (h x.toInt (by omega) (by omega))
abbrev rfill : Room := { frames := 0, cells := 0, slots := 0, locals := 0 }
theorem ty_fill_0 (S : ty_S) (f : Nat) (v : Int32) : ty_fill S f 0 v = S := by
  funext g
  by_cases h : g = f
  · subst h; rw [ty_fill_s]; funext j; rw [if_neg (Nat.not_lt_zero j)]
  · rw [ty_fill_n h]
theorem ty_fill_1 (S : ty_S) (f j : Nat) (v : Int32) : ty_st (ty_fill S f j v) f j v = ty_fill S f (j + 1) v := by
  funext g
  by_cases h : g = f
  · subst h; rw [ty_st_s, ty_fill_s, ty_fill_s]; funext i
    unfold upd
    show (if i = j then v else (if i < j then v else S g i)) = if i < j + 1 then v else S g i
    by_cases h1 : i = j
    · rw [if_pos h1, if_pos (by omega)]
    · rw [if_neg h1]
      by_cases h2 : i < j
      · rw [if_pos h2, if_pos (by omega)]
      · rw [if_neg h2, if_neg (by omega)]
  · rw [ty_st_n h, ty_fill_n h, ty_fill_n h]
set_option maxHeartbeats 4000000 in
set_option maxRecDepth 100000 in
/-- Arrays.fill(int[], int) over an array of the world -/
theorem c_fill (l : Launch) (D : va_G) (cA : Nat → ClassId) (q : Nat → Nat) (Lay : List ty_E) (o n f : Nat) (ho : Lay[o]? = some (.inr (n, 0, f))) (h1 : ty_one Lay f o = true) (hn : n < 2 ^ 31) (S : ty_S) (v : Int32) (K : ty_S → Prop) (h : K (ty_fill S f n v)) : ∀ sz, Met l yJ7_fill_53178 wsJ7_fill_53178 rfill (ty_Pc D cA q Lay S sz [.ref (q o), .int v]) (ty_Qv D cA q Lay sz K) 0 0 (ty_A q Lay.length sz) := by
  refine ty_ofM (ret := none) (maxL := 4) (cc := cJ7_fill_53178) (own := RJ7) (Qc := fun sz => ty_Qv D cA q Lay sz K) (by decide +kernel) rfl (Nat.le_of_ble_eq_true rfl) rfl ?_
  intro p e s m args below meth c ls X hl Y
  have hx := X.1.1
  have hb := X.1.2.1
  have hl : lv_has ls 4 [(0, .ref (q o)), (1, .int v)] := hl
  refine lv_iconst (v := (0 : Int32)) hx hb dJ7_fill_53178_0 (by decide) ?_
  refine lv_istore_n (lv' := [(2, .int (0 : Int32)), (0, .ref (q o)), (1, .int v)]) hx hb dJ7_fill_53178_1 rfl hl (by decide) rfl (fun ls hl => ?_)
  refine lv_aload_n hx hb dJ7_fill_53178_2 rfl (lv_at hl 1 rfl) ?_
  refine ty_alen X Y o n f ho (v := nI n) rfl dJ7_fill_53178_3 ?_
  refine lv_istore_n (lv' := [(3, .int (nI n)), (2, .int (0 : Int32)), (0, .ref (q o)), (1, .int v)]) hx hb dJ7_fill_53178_4 rfl hl (by decide) rfl (fun ls hl => ?_)
  have key : ∀ (k j : Nat), j + k = n → ∀ (H : Heap) (locs : List Loc) (ls : Array Slot), ty_Y D cA q Lay (ty_fill S f j v) s H locs → lv_has ls 4 [(0, .ref (q o)), (1, .int v), (2, .int (nI j)), (3, .int (nI n))] → W p l e rfill s m args below meth c H locs 0 0 (ty_MV D cA q Lay K below args s) (F0 m 5 ls []) := by
    intro k
    induction k with
    | zero =>
      intro j hj H locs ls Y hl
      have hjn : j = n := by omega
      subst hjn
      refine lv_iload_n hx hb dJ7_fill_53178_5 rfl (lv_at hl 2 rfl) ?_
      refine lv_iload_n hx hb dJ7_fill_53178_6 rfl (lv_at hl 3 rfl) ?_
      refine lv_icmp_ge (tgt := 20) hx hb dJ7_fill_53178_7 (by decide) (fun c9 => ?_) (fun c9 => ?_)
      · exact ty_vret X Y h dJ7_fill_53178_20
      · exact absurd (nI_le (Nat.le_refl _) hn) c9
    | succ k ih =>
      intro j hj H locs ls Y hl
      refine lv_iload_n hx hb dJ7_fill_53178_5 rfl (lv_at hl 2 rfl) ?_
      refine lv_iload_n hx hb dJ7_fill_53178_6 rfl (lv_at hl 3 rfl) ?_
      refine lv_icmp_ge (tgt := 20) hx hb dJ7_fill_53178_7 (by decide) (fun c9 => ?_) (fun c9 => ?_)
      · exact absurd c9 (nI_ge (show j < n by omega) hn)
      · refine lv_aload_n hx hb dJ7_fill_53178_10 rfl (lv_at hl 0 rfl) ?_
        refine lv_iload_n hx hb dJ7_fill_53178_11 rfl (lv_at hl 2 rfl) ?_
        refine lv_iload_n hx hb dJ7_fill_53178_12 rfl (lv_at hl 1 rfl) ?_
        refine ty_iast X Y o n f ho h1 (vp_in_nI (show j < n by omega) hn) dJ7_fill_53178_13 (fun H locs Y => ?_)
        rw [nI_clamp (show j < 2 ^ 31 by omega), ty_fill_1] at Y
        refine lv_iinc (v := nI j + 1) (lv' := [(2, .int (nI j + 1)), (0, .ref (q o)), (1, .int v), (3, .int (nI n))]) hx hb dJ7_fill_53178_14 hl (k := 2) rfl rfl (by decide) rfl (fun ls hl => ?_)
        refine lv_goto (tgt := 5) hx hb dJ7_fill_53178_17 (by decide) ?_
        rw [nI_1] at hl
        exact ih (j + 1) (by omega) H locs ls Y (lv_sub hl [1, 2, 0, 3] rfl)
  exact key n 0 (by omega) _ _ ls (by rw [ty_fill_0]; exact Y) (lv_sub hl [2, 3, 1, 0] rfl)
section TYF
variable {p : Program} {l : Launch} {e : Env} {R : Room} {s : State} {m : MethodId} {args : Array Value} {below : List Frame} {meth : Method} {c : Code} {H : Heap} {locs : List Loc} {cells slots : Nat} {Q : State → Prop}
variable {D : va_G} {cA : Nat → ClassId} {q : Nat → Nat} {Lay : List ty_E} {S : ty_S} {cc : ByteArray} {nL : Nat} {ret : Option FieldType} {Ts : List Cond} {own : String} {pc : Nat} {ls : Array Slot} {rest : List Value} {index : Nat}
theorem ty_fillrow (X : ty_X D cA p s m args meth c cc nL ret Ts own) (Y : ty_Y D cA q Lay S s H locs) (o n f : Nat) (ho : Lay[o]? = some (.inr (n, 0, f))) (h1 : ty_one Lay f o = true) (hn : n < 2 ^ 31) {v : Int32} (cw : CallB R s args own index yJ7_fill_53178 cJ7_fill_53178 4 none wsJ7_fill_53178 rfill 0 0 2 ∧ (Cond.static yJ7_fill_53178).before args s = true) (hsize : ls.size = nL) (hW : (rest.map fun v => v.category).sum ≤ 8) (hdg : decode cc pc = .ok (.invokestatic index, 3)) (hf : cells ≤ R.cells ∧ slots ≤ R.slots)
    (kk : ∀ (H1 : Heap) (locs1 : List Loc), ty_Y D cA q Lay (ty_fill S f n v) s H1 locs1 → W p l e R s m args below meth c H1 locs1 cells slots Q (F0 m (pc + 3) ls rest)) : W p l e R s m args below meth c H locs cells slots Q (F0 m pc ls (.int v :: .ref (q o) :: rest)) := by
  obtain ⟨hbl, hpre⟩ := ty_pre (av := [.ref (q o), .int v]) X Y
  refine va_callv (A1 := ty_A q Lay.length H.size) (va_runS (As := [.ref (q o), .int v]) X.1 (c_fill l D cA q Lay o n f ho h1 hn S v (fun u => u = ty_fill S f n v) rfl H.size) cw ⟨hbl, hpre⟩ rfl rfl hsize rfl (lv_room hW) hdg ⟨hf.1, hf.2⟩) Y.2.2 (fun a _ h => ty_Ain Y a h) (ty_Ain Y) (fun u t H1 locs1 ht hvm hw hB hz hk hS => ?_)
  subst hw
  exact kk H1 locs1 (ty_back Y ht hB hS)
end TYF
theorem ty_lk2 {x : Int32} {a b d : Int} (h0 : ¬ x = 0) (h1 : ¬ x = 1) : Op.lookupswitch.offset (#[((0 : Int), a), ((1 : Int), b)] : Array (Int × Int)).toList d x.toInt = d := by
  have e0 : x.toInt ≠ 0 := fun e => h0 (Int32.toInt_inj.mp (by rw [e]; rfl))
  have e1 : x.toInt ≠ 1 := fun e => h1 (Int32.toInt_inj.mp (by rw [e]; rfl))
  simp [Op.lookupswitch.offset, e0, e1, Ne.symm e0, Ne.symm e1]
