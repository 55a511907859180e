/-! PURE: whole numbers for ints -/
def py_o (a : Int) : Int32 := Int32.ofInt a
abbrev py_Z : Type := Nat → Nat → Int
def py_O (s : py_Z) : ty_S := fun f i => py_o (s f i)
def py_st (s : py_Z) (f i : Nat) (v : Int) : py_Z := fun g j => if g = f then (if j = i then v else s g j) else s g j
theorem py_add {a b : Int} : py_o a + py_o b = py_o (a + b) := (Int32.ofInt_add a b).symm
theorem py_sub {a b : Int} : py_o a - py_o b = py_o (a - b) := (Int32.ofInt_sub a b).symm
theorem py_mul {a b : Int} : py_o a * py_o b = py_o (a * b) := (Int32.ofInt_mul a b).symm
theorem py_toInt {a : Int} (h : -2147483648 ≤ a ∧ a < 2147483648) : (py_o a).toInt = a := Int32.toInt_ofInt_of_le h.1 h.2
theorem py_lt {a b : Int} (ha : -2147483648 ≤ a ∧ a < 2147483648) (hb : -2147483648 ≤ b ∧ b < 2147483648) : py_o a < py_o b ↔ a < b := by
  rw [Int32.lt_iff_toInt_lt, py_toInt ha, py_toInt hb]
theorem py_le {a b : Int} (ha : -2147483648 ≤ a ∧ a < 2147483648) (hb : -2147483648 ≤ b ∧ b < 2147483648) : py_o a ≤ py_o b ↔ a ≤ b := by
  rw [Int32.le_iff_toInt_le, py_toInt ha, py_toInt hb]
theorem py_eq {a b : Int} (ha : -2147483648 ≤ a ∧ a < 2147483648) (hb : -2147483648 ≤ b ∧ b < 2147483648) : py_o a = py_o b ↔ a = b := by
  rw [← Int32.toInt_inj, py_toInt ha, py_toInt hb]
theorem py_nat {a : Int} (ha : -2147483648 ≤ a ∧ a < 2147483648) : (py_o a).toNatClampNeg = a.toNat := by
  show (py_o a).toInt.toNat = a.toNat
  rw [py_toInt ha]
theorem py_div {a b : Int} (ha : 0 ≤ a ∧ a < 2147483648) (hb : 0 < b ∧ b < 2147483648) : py_o a / py_o b = py_o (a / b) := by
  have h1 : 0 ≤ a / b := Int.ediv_nonneg ha.1 (by omega)
  have h2 : a / b ≤ a := Int.ediv_le_self b ha.1
  apply Int32.toInt_inj.mp
  have hb1 : py_o b ≠ -1 := fun e => by
    have h3 := congrArg Int32.toInt e
    rw [py_toInt (by omega)] at h3
    have h4 : (-1 : Int32).toInt = -1 := rfl
    omega
  rw [Int32.toInt_div_of_ne_right _ _ hb1, py_toInt (by omega), py_toInt (by omega), py_toInt (by omega), Int.tdiv_eq_ediv_of_nonneg ha.1]
theorem py_all (x : Int32) : ∃ a : Int, x = py_o a ∧ -2147483648 ≤ a ∧ a < 2147483648 := by
  refine ⟨x.toInt, (Int32.ofInt_toInt x).symm, ?_, ?_⟩
  · have := x.le_toInt; omega
  · have := x.toInt_lt; omega
theorem py_l0 : (0 : Int32) = py_o 0 := rfl
theorem py_l1 : (1 : Int32) = py_o 1 := rfl
theorem py_l2 : (2 : Int32) = py_o 2 := rfl
theorem py_l3 : (3 : Int32) = py_o 3 := rfl
theorem py_l4 : (4 : Int32) = py_o 4 := rfl
theorem py_l5 : (5 : Int32) = py_o 5 := rfl
theorem py_l6 : (6 : Int32) = py_o 6 := rfl
theorem py_l7 : (7 : Int32) = py_o 7 := rfl
theorem py_l8 : (8 : Int32) = py_o 8 := rfl
theorem py_l9 : (9 : Int32) = py_o 9 := rfl
theorem py_l12 : (12 : Int32) = py_o 12 := rfl
theorem py_l16 : (16 : Int32) = py_o 16 := rfl
theorem py_l32 : (32 : Int32) = py_o 32 := rfl
theorem py_l40 : (40 : Int32) = py_o 40 := rfl
theorem py_l100 : (100 : Int32) = py_o 100 := rfl
theorem py_l640 : (640 : Int32) = py_o 640 := rfl
theorem py_l1280 : (1280 : Int32) = py_o 1280 := rfl
theorem py_lm1 : (-1 : Int32) = py_o (-1) := rfl
theorem py_O_ap {s : py_Z} {f i : Nat} : py_O s f i = py_o (s f i) := rfl
theorem py_stO {s : py_Z} {f i : Nat} {v : Int} : ty_st (py_O s) f i (py_o v) = py_O (py_st s f i v) := by
  funext g j
  show (if g = f then upd (py_O s f) i (py_o v) else py_O s g) j = py_o (py_st s f i v g j)
  unfold py_st
  by_cases h : g = f
  · subst h
    rw [if_pos rfl, if_pos rfl]
    by_cases hj : j = i
    · subst hj; rw [if_pos rfl, pk_us]
    · rw [if_neg hj, pk_un hj]; rfl
  · rw [if_neg h, if_neg h]; rfl
theorem py_fillO {s : py_Z} {f n : Nat} {v : Int} : ty_fill (py_O s) f n (py_o v) = py_O (fun g j => if g = f then (if j < n then v else s g j) else s g j) := by
  funext g j
  show (if g = f then (fun j => if j < n then py_o v else py_O s f j) else py_O s g) j = py_o _
  by_cases h : g = f
  · subst h
    rw [if_pos rfl]
    by_cases hj : j < n
    · simp only [hj, if_true]
    · simp only [hj, if_true, if_false]; rfl
  · simp only [h, if_false]; rfl
theorem py_ss {s : py_Z} {f i j : Nat} {v : Int} : py_st s f i v f j = if j = i then v else s f j := by simp [py_st]
theorem py_se {s : py_Z} {f i : Nat} {v : Int} : py_st s f i v f i = v := by simp [py_st]
theorem py_sj {s : py_Z} {f i j : Nat} {v : Int} (h : j ≠ i) : py_st s f i v f j = s f j := by simp [py_st, h]
theorem py_sn {s : py_Z} {f i g j : Nat} {v : Int} (h : g ≠ f) : py_st s f i v g j = s g j := by simp [py_st, h]
theorem py_and {a : Int} {n : Nat} {P : Prop} (h : P) (h0 : 0 ≤ a := by omega) (h1 : a < (n : Int) := by omega) (h2 : a < 2147483648 := by omega) : vp_in (py_o a) n ∧ P := by
  refine ⟨vp_in_iff.mpr ?_, h⟩
  rw [py_toInt ⟨by omega, h2⟩]
  exact ⟨h0, h1⟩
theorem py_ilt {a b : Int} {A B : Prop} (h1 : a < b → A) (h2 : b ≤ a → B) (ra : -2147483648 ≤ a ∧ a < 2147483648 := by omega) (rb : -2147483648 ≤ b ∧ b < 2147483648 := by omega) : (if py_o a < py_o b then A else B) := by
  by_cases h : a < b
  · rw [if_pos ((py_lt ra rb).mpr h)]; exact h1 h
  · rw [if_neg (fun e => h ((py_lt ra rb).mp e))]; exact h2 (by omega)
theorem py_ile {a b : Int} {A B : Prop} (h1 : a ≤ b → A) (h2 : b < a → B) (ra : -2147483648 ≤ a ∧ a < 2147483648 := by omega) (rb : -2147483648 ≤ b ∧ b < 2147483648 := by omega) : (if py_o a ≤ py_o b then A else B) := by
  by_cases h : a ≤ b
  · rw [if_pos ((py_le ra rb).mpr h)]; exact h1 h
  · rw [if_neg (fun e => h ((py_le ra rb).mp e))]; exact h2 (by omega)
theorem py_ieq {a b : Int} {A B : Prop} (h1 : a = b → A) (h2 : a ≠ b → B) (ra : -2147483648 ≤ a ∧ a < 2147483648 := by omega) (rb : -2147483648 ≤ b ∧ b < 2147483648 := by omega) : (if py_o a = py_o b then A else B) := by
  by_cases h : a = b
  · rw [if_pos ((py_eq ra rb).mpr h)]; exact h1 h
  · rw [if_neg (fun e => h ((py_eq ra rb).mp e))]; exact h2 h
/-- how many of the first n numbers hold -/
def py_cnt (P : Nat → Bool) : Nat → Nat
  | 0 => 0
  | n + 1 => py_cnt P n + (if P n then 1 else 0)
theorem py_cnt_le (P : Nat → Bool) (n : Nat) : py_cnt P n ≤ n := by
  induction n with
  | zero => exact Nat.le_refl _
  | succ n ih => simp only [py_cnt]; split <;> omega
theorem py_cnt_congr {P Q : Nat → Bool} {n : Nat} (h : ∀ k, k < n → P k = Q k) : py_cnt P n = py_cnt Q n := by
  induction n with
  | zero => rfl
  | succ n ih => simp only [py_cnt]; rw [ih (fun k hk => h k (by omega)), h n (by omega)]
theorem py_cnt_all {P : Nat → Bool} {n : Nat} (h : ∀ k, k < n → P k = true) : py_cnt P n = n := by
  induction n with
  | zero => rfl
  | succ n ih => simp only [py_cnt]; rw [ih (fun k hk => h k (by omega)), h n (by omega)]; rfl
theorem py_cnt_none {P : Nat → Bool} {n : Nat} (h : ∀ k, k < n → P k = false) : py_cnt P n = 0 := by
  induction n with
  | zero => rfl
  | succ n ih => simp only [py_cnt]; rw [ih (fun k hk => h k (by omega)), h n (by omega)]; rfl
theorem py_cnt_full {P : Nat → Bool} {n : Nat} (h : py_cnt P n = n) : ∀ k, k < n → P k = true := by
  induction n with
  | zero => intro k hk; omega
  | succ n ih =>
    intro k hk
    have h1 := py_cnt_le P n
    simp only [py_cnt] at h
    cases hP : P n with
    | true =>
      rw [hP, if_pos rfl] at h
      rcases Nat.lt_succ_iff_lt_or_eq.mp hk with h2 | h2
      · exact ih (by omega) k h2
      · rw [h2]; exact hP
    | false => rw [hP] at h; simp at h; omega
theorem py_cnt_lt {P : Nat → Bool} {n k : Nat} (hk : k < n) (h : P k = false) : py_cnt P n < n := by
  have h1 := py_cnt_le P n
  rcases Nat.lt_or_eq_of_le h1 with h2 | h2
  · exact h2
  · have := py_cnt_full h2 k hk; rw [h] at this; cases this
theorem py_cnt_ex {P : Nat → Bool} {n : Nat} (h : py_cnt P n < n) : ∃ k, k < n ∧ P k = false := by
  induction n with
  | zero => omega
  | succ n ih =>
    cases hP : P n with
    | false => exact ⟨n, by omega, hP⟩
    | true =>
      simp only [py_cnt] at h
      rw [hP, if_pos rfl] at h
      obtain ⟨k, h1, h2⟩ := ih (by omega)
      exact ⟨k, by omega, h2⟩
/-- one more holds -/
theorem py_cnt_up {P Q : Nat → Bool} {n k : Nat} (hk : k < n) (h0 : P k = false) (h1 : Q k = true) (h : ∀ j, j < n → j ≠ k → P j = Q j) : py_cnt Q n = py_cnt P n + 1 := by
  induction n with
  | zero => omega
  | succ n ih =>
    simp only [py_cnt]
    by_cases e : k = n
    · subst e
      rw [py_cnt_congr (fun j hj => (h j (by omega) (by omega)).symm), h0, h1]; rfl
    · rw [ih (by omega) (fun j hj hn => h j (by omega) hn), h n (by omega) (fun e2 => e e2.symm)]; omega
/-- the first that holds -/
theorem py_least {P : Nat → Prop} (hd : ∀ k, P k ∨ ¬ P k) {n : Nat} (h : P n) : ∃ k, k ≤ n ∧ P k ∧ ∀ j, j < k → ¬ P j := by
  induction n using Nat.strongRecOn with
  | _ n ih =>
    by_cases e : ∃ j, j < n ∧ P j
    · obtain ⟨j, hj, hP⟩ := e
      obtain ⟨k, h1, h2, h3⟩ := ih j hj hP
      exact ⟨k, by omega, h2, h3⟩
    · exact ⟨n, Nat.le_refl _, h, fun j hj hP => e ⟨j, hj, hP⟩⟩
theorem py_neg {a : Int} : -py_o a = py_o (-a) := (Int32.ofInt_neg a).symm
