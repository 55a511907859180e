abbrev vwCl : List vw_C := [(RX0, TX0, 5), (RX1, TX1, 4), (RX2, TX2, 4), (RX3, TX3, 13), (RX4, TX4, 4), (RX5, TX5, 31)]
/-! THE WORLD: a fixed list of cells (a layout), its contents a table S: field, place, number -/
abbrev ty_S : Type := Nat → Nat → Int32
def ty_st (S : ty_S) (f i : Nat) (v : Int32) : ty_S := fun g => if g = f then upd (S f) i v else S g
/-- a field filled from its beginning on -/
def ty_fill (S : ty_S) (f n : Nat) (v : Int32) : ty_S := fun g => if g = f then (fun j => if j < n then v else S f j) else S g
/-- an object (its kind; its fields: the cell k, or the number in field f), or an array (length; int 0, boolean 1, long 2; field f) -/
abbrev ty_E : Type := (Nat × List (Nat ⊕ Nat)) ⊕ (Nat × Nat × Nat)
def ty_V (q : Nat → Nat) (S : ty_S) (x : Nat ⊕ Nat) : Value := match x with
  | .inl k => .ref (q k)
  | .inr f => .int (S f 0)
def ty_R (n kd f : Nat) (S : ty_S) : Nat × ((Nat → Int32) ⊕ (Nat → Int64) ⊕ (Nat → UInt32) ⊕ (Nat → UInt64) ⊕ (Nat → Option Nat)) := match kd with
  | 2 => (n, .inr (.inl (fun i => (S f i).toInt64)))
  | _ => (n, .inl (S f))
def ty_C (cA : Nat → ClassId) (q : Nat → Nat) (S : ty_S) (x : ty_E) : va_E := match x with
  | .inl o => .inr (o.1, o.2.map (ty_V q S))
  | .inr a => .inl (cA a.2.1, ty_R a.1 a.2.1 a.2.2 S)
def ty_W (cA : Nat → ClassId) (q : Nat → Nat) (Lay : List ty_E) (S : ty_S) : va_W := Lay.zipIdx.map (fun p => (q p.2, ty_C cA q S p.1))
def ty_tys (cA : Nat → ClassId) : List (ClassId × FieldType) := [(cA 0, .int), (cA 1, .boolean), (cA 2, .long)]
theorem ty_W_get (cA : Nat → ClassId) (q : Nat → Nat) (Lay : List ty_E) (S : ty_S) (k : Nat) : (ty_W cA q Lay S)[k]? = (Lay[k]?).map (fun x => (q k, ty_C cA q S x)) := by
  unfold ty_W
  rw [List.getElem?_map, List.getElem?_zipIdx]
  cases Lay[k]? <;> simp
theorem ty_W_at {cA : Nat → ClassId} {q : Nat → Nat} {Lay : List ty_E} {S : ty_S} {k : Nat} {x : ty_E} (h : Lay[k]? = some x) : (ty_W cA q Lay S)[k]? = some (q k, ty_C cA q S x) := by
  rw [ty_W_get, h]; rfl
theorem ty_W_len (cA : Nat → ClassId) (q : Nat → Nat) (Lay : List ty_E) (S : ty_S) : (ty_W cA q Lay S).length = Lay.length := by
  simp [ty_W]
/-- the field f stands nowhere in x -/
def ty_no (f : Nat) (x : ty_E) : Bool := match x with
  | .inl o => o.2.all (fun y => match y with | .inl _ => true | .inr g => g != f)
  | .inr a => a.2.2 != f
/-- in the layout the field f stands in the entry o alone -/
def ty_one (Lay : List ty_E) (f o : Nat) : Bool := Lay.zipIdx.all (fun p => p.2 == o || ty_no f p.1)
/-- among an object's fields f stands at k alone -/
def ty_oneF (fs : List (Nat ⊕ Nat)) (f k : Nat) : Bool := fs.zipIdx.all (fun p => p.2 == k || (match p.1 with | .inl _ => true | .inr g => g != f))
theorem ty_one_at {Lay : List ty_E} {f o k : Nat} {x : ty_E} (h : ty_one Lay f o = true) (hk : Lay[k]? = some x) (hn : k ≠ o) : ty_no f x = true := by
  have hm : (x, k) ∈ Lay.zipIdx := by
    apply List.mem_of_getElem? (i := k)
    rw [List.getElem?_zipIdx, hk]; simp
  have h1 := List.all_eq_true.mp h (x, k) hm
  simp only [Bool.or_eq_true, beq_iff_eq] at h1
  rcases h1 with h1 | h1
  · exact absurd h1 hn
  · exact h1
theorem ty_oneF_at {fs : List (Nat ⊕ Nat)} {f k j : Nat} {g : Nat} (h : ty_oneF fs f k = true) (hk : fs[j]? = some (.inr g)) (hn : j ≠ k) : g ≠ f := by
  have hm : ((.inr g : Nat ⊕ Nat), j) ∈ fs.zipIdx := by
    apply List.mem_of_getElem? (i := j)
    rw [List.getElem?_zipIdx, hk]; simp
  have h1 := List.all_eq_true.mp h _ hm
  simp only [Bool.or_eq_true, beq_iff_eq, bne_iff_ne, ne_eq] at h1
  rcases h1 with h1 | h1
  · exact absurd h1 hn
  · exact h1
theorem ty_st_s {S : ty_S} {f i : Nat} {v : Int32} : ty_st S f i v f = upd (S f) i v := by simp [ty_st]
theorem ty_st_n {S : ty_S} {f i g : Nat} {v : Int32} (h : g ≠ f) : ty_st S f i v g = S g := by simp [ty_st, h]
theorem ty_fill_s {S : ty_S} {f n : Nat} {v : Int32} : ty_fill S f n v f = fun j => if j < n then v else S f j := by simp [ty_fill]
theorem ty_fill_n {S : ty_S} {f n g : Nat} {v : Int32} (h : g ≠ f) : ty_fill S f n v g = S g := by simp [ty_fill, h]
/-- an entry that doesn't hold f isn't changed with f -/
theorem ty_C_no {cA : Nat → ClassId} {q : Nat → Nat} {S S' : ty_S} {f : Nat} {x : ty_E} (h : ty_no f x = true) (hS : ∀ g, g ≠ f → S' g = S g) : ty_C cA q S' x = ty_C cA q S x := by
  match x with
  | .inl o =>
    show Sum.inr (o.1, o.2.map (ty_V q S')) = Sum.inr (o.1, o.2.map (ty_V q S))
    congr 2
    apply List.map_congr_left
    intro y hy
    have h1 := List.all_eq_true.mp h y hy
    match y with
    | .inl k => rfl
    | .inr g =>
      simp only [bne_iff_ne, ne_eq] at h1
      show Value.int _ = Value.int _
      rw [hS g h1]
  | .inr (n, kd, g) =>
    have h1 : g ≠ f := by simpa [ty_no] using h
    show Sum.inl (cA kd, ty_R n kd g S') = Sum.inl (cA kd, ty_R n kd g S)
    unfold ty_R
    rw [hS g h1]
theorem ty_W_put {cA : Nat → ClassId} {q : Nat → Nat} {Lay : List ty_E} {S : ty_S} {o k f ci : Nat} {fs : List (Nat ⊕ Nat)} {v : Int32} (ho : Lay[o]? = some (.inl (ci, fs))) (h1 : ty_one Lay f o = true) (hk : fs[k]? = some (.inr f)) (h2 : ty_oneF fs f k = true) :
    (ty_W cA q Lay S).set o (q o, .inr (ci, (fs.map (ty_V q S)).set k (.int v))) = ty_W cA q Lay (ty_st S f 0 v) := by
  apply List.ext_getElem?
  intro j
  rw [List.getElem?_set, ty_W_get, ty_W_get, ty_W_len]
  by_cases hj : o = j
  · subst hj
    rw [ho, if_pos rfl, if_pos (List.getElem?_eq_some_iff.mp ho).1]
    show some (q o, Sum.inr (ci, _)) = some (q o, Sum.inr (ci, _))
    congr 4
    apply List.ext_getElem?
    intro i
    rw [List.getElem?_set, List.getElem?_map, List.getElem?_map, List.length_map]
    by_cases hi : k = i
    · subst hi
      rw [if_pos rfl, if_pos (List.getElem?_eq_some_iff.mp hk).1, hk]
      show some (Value.int v) = some (Value.int (ty_st S f 0 v f 0))
      rw [ty_st_s]
      simp [upd]
    · rw [if_neg hi]
      cases hfi : fs[i]? with
      | none => rfl
      | some y =>
        match y, hfi with
        | .inl k, _ => rfl
        | .inr g, hfi =>
          show some (Value.int _) = some (Value.int _)
          rw [ty_st_n (ty_oneF_at h2 hfi (fun e => hi e.symm))]
  · rw [if_neg hj]
    cases hl : Lay[j]? with
    | none => rfl
    | some x =>
      show some (q j, _) = some (q j, _)
      rw [ty_C_no (ty_one_at h1 hl (fun e => hj e.symm)) (fun g hg => (ty_st_n hg : ty_st S f 0 v g = S g))]
/-- an array's new contents, out of any S' that differs in its field alone -/
theorem ty_W_arr {cA : Nat → ClassId} {q : Nat → Nat} {Lay : List ty_E} {S S' : ty_S} {o f n kd : Nat} (ho : Lay[o]? = some (.inr (n, kd, f))) (h1 : ty_one Lay f o = true) (hS : ∀ g, g ≠ f → S' g = S g) :
    (ty_W cA q Lay S).set o (q o, .inl (cA kd, ty_R n kd f S')) = ty_W cA q Lay S' := by
  apply List.ext_getElem?
  intro j
  rw [List.getElem?_set, ty_W_get, ty_W_get, ty_W_len]
  by_cases hj : o = j
  · subst hj
    rw [ho, if_pos rfl, if_pos (List.getElem?_eq_some_iff.mp ho).1]
    rfl
  · rw [if_neg hj]
    cases hl : Lay[j]? with
    | none => rfl
    | some x =>
      show some (q j, _) = some (q j, _)
      rw [ty_C_no (ty_one_at h1 hl (fun e => hj e.symm)) hS]
/-- which cells may change: the world's n, and what is new -/
def ty_A (q : Nat → Nat) (n sz : Nat) : Nat → Prop := fun a => (∃ k, k < n ∧ a = q k) ∨ sz ≤ a
/-- the world's cells are apart, whatever S is -/
theorem ty_D_any {cA : Nat → ClassId} {q : Nat → Nat} {Lay : List ty_E} {S S' : ty_S} {A : Nat → Prop} (h : va_D A (ty_W cA q Lay S)) : va_D A (ty_W cA q Lay S') := by
  have key : ∀ (k : Nat) (p : Nat × va_E), (ty_W cA q Lay S')[k]? = some p → ∃ p', (ty_W cA q Lay S)[k]? = some p' ∧ p'.1 = p.1 := by
    intro k p hp
    rw [ty_W_get] at hp
    cases hl : Lay[k]? with
    | none => rw [hl] at hp; cases hp
    | some x =>
      rw [hl] at hp
      refine ⟨(q k, ty_C cA q S x), ty_W_at hl, ?_⟩
      cases hp; rfl
  refine ⟨fun i j p p2 hi hj e => ?_, fun k p hk => ?_⟩
  · obtain ⟨a, ha, ea⟩ := key i p hi
    obtain ⟨b, hb, eb⟩ := key j p2 hj
    exact h.1 i j a b ha hb (by rw [ea, eb, e])
  · obtain ⟨a, ha, ea⟩ := key k p hk
    rw [← ea]; exact h.2 k a ha
theorem ty_D_self {cA : Nat → ClassId} {q : Nat → Nat} {Lay : List ty_E} {S : ty_S} {B : Nat → Prop} (sz : Nat) (h : va_D B (ty_W cA q Lay S)) : va_D (ty_A q Lay.length sz) (ty_W cA q Lay S) := by
  refine ⟨h.1, fun k p hk => ?_⟩
  rw [ty_W_get] at hk
  cases hl : Lay[k]? with
  | none => rw [hl] at hk; cases hk
  | some x =>
    rw [hl] at hk
    cases hk
    exact Or.inl ⟨k, (List.getElem?_eq_some_iff.mp hl).1, rfl⟩
