/-! PURE: the reference's small methods -/
section PMS
variable {t : py_Z} {K : ty_S → Int32 → Prop}
def pm_rts (t : py_Z) (a b : Nat) : py_Z := fun g x =>
  if g = 50 then (if x = 0 then t 50 0 - 1 else t 50 x) else if g = 40 ∨ g = 41 then (if x < a then t g (x + 1) else t g x)
  else if g = 42 then (if x < b then t 42 (x + 40) else t 42 x) else t g x
theorem pm_rts_0 {t : py_Z} : pm_rts t 0 0 = py_st t 50 0 (t 50 0 - 1) := by
  funext g x
  simp only [py_st, pm_rts]
  grind
theorem pm_rts_a {t : py_Z} {a b : Nat} : pm_rts t (a + 1) b = py_st (py_st (pm_rts t a b) 40 a (t 40 (a + 1))) 41 a (t 41 (a + 1)) := by
  funext g x
  simp only [py_st, pm_rts]
  grind
theorem pm_rts_b {t : py_Z} {a b : Nat} : pm_rts t a (b + 1) = py_st (pm_rts t a b) 42 b (t 42 (b + 40)) := by
  funext g x
  simp only [py_st, pm_rts]
  grind
theorem pm_rts_fin {t : py_Z} {n : Nat} (h : (n : Int) = t 50 0 - 1) : pm_rts t n (40 * n) = pm_rt t := by
  funext g x
  have e : ((x / 40 : Nat) : Int) < t 50 0 - 1 ↔ x < 40 * n := by omega
  have e2 : (x : Int) < t 50 0 - 1 ↔ x < n := by omega
  simp only [pm_rts, pm_rt, e, e2]
theorem pm_removeTrain {t : py_Z} {K : ty_S → Prop} (hn : 0 < t 50 0 ∧ t 50 0 ≤ 40) (hK : K (py_O (pm_rt t))) : eX5_removeTrain (py_O t) (py_o 0) K := by
  have hin : ∀ k : Nat, (k : Int) < t 50 0 - 1 → ∀ R : Int32 → ty_S → Prop, R (py_o (k + 1)) (py_O (pm_rts t (k + 1) (40 * (k + 1)))) → ∀ d i : Nat, i + d = 40 → ∃ n9, lX5_removeTrain_50 K R n9 (py_o k) (py_o i) (py_O (pm_rts t (k + 1) (40 * k + i))) := by
    intro k hk R hR d
    induction d with
    | zero =>
      intro i hi
      refine ⟨1, ?_⟩
      unfold lX5_removeTrain_50
      try simp only [py_O_ap, py_l0, py_l1, py_l2, py_l3, py_l4, py_l5, py_l6, py_l7, py_l8, py_l9, py_l12, py_l16, py_l32, py_l40, py_l100, py_l640, py_l1280, py_neg, py_add, py_sub, py_mul, py_stO]
      refine py_ile (fun _ => ?_) (fun c => absurd c (by omega))
      rw [show 40 * k + i = 40 * (k + 1) by omega]
      exact hR
    | succ d ih =>
      intro i hi
      obtain ⟨n, hn⟩ := ih (i + 1) (by omega)
      refine ⟨n + 1, ?_⟩
      unfold lX5_removeTrain_50
      try simp only [py_O_ap, py_l0, py_l1, py_l2, py_l3, py_l4, py_l5, py_l6, py_l7, py_l8, py_l9, py_l12, py_l16, py_l32, py_l40, py_l100, py_l640, py_l1280, py_neg, py_add, py_sub, py_mul, py_stO]
      refine py_ile (fun c => absurd c (by omega)) (fun _ => py_and (py_and ?_))
      rw [py_nat (by omega), py_nat (by omega)]
      have e1 : ((40 : Int) * k + i).toNat = 40 * k + i := by omega
      have e2 : ((40 : Int) * (k + 1) + i).toNat = 40 * k + i + 40 := by omega
      have e3 : pm_rts t (k + 1) (40 * k + i) 42 (40 * k + i + 40) = t 42 (40 * k + i + 40) := by
        simp [pm_rts]
        intro c; omega
      rw [e1, e2, e3]
      rw [show 40 * k + (i + 1) = 40 * k + i + 1 by omega, pm_rts_b] at hn
      exact hn
  have key : ∀ d k : Nat, (k : Int) + d = t 50 0 - 1 → ∃ n9, lX5_removeTrain_12 K n9 (py_o k) (py_O (pm_rts t k (40 * k))) := by
    intro d
    induction d with
    | zero =>
      intro k hk
      refine ⟨1, ?_⟩
      unfold lX5_removeTrain_12
      try simp only [py_O_ap, py_l0, py_l1, py_l2, py_l3, py_l4, py_l5, py_l6, py_l7, py_l8, py_l9, py_l12, py_l16, py_l32, py_l40, py_l100, py_l640, py_l1280, py_neg, py_add, py_sub, py_mul, py_stO]
      have e : pm_rts t k (40 * k) 50 0 = t 50 0 - 1 := by simp [pm_rts]
      rw [e]
      refine py_ile (fun _ => ?_) (fun c => absurd c (by omega))
      rw [pm_rts_fin (by omega)]
      exact hK
    | succ d ih =>
      intro k hk
      obtain ⟨n0, hn0⟩ := ih (k + 1) (by omega)
      obtain ⟨n, hn1⟩ := hin k (by omega) (fun a0 S9 => lX5_removeTrain_12 K n0 a0 S9) hn0 40 0 rfl
      refine ⟨n0 + 1, ?_⟩
      unfold lX5_removeTrain_12
      try simp only [py_O_ap, py_l0, py_l1, py_l2, py_l3, py_l4, py_l5, py_l6, py_l7, py_l8, py_l9, py_l12, py_l16, py_l32, py_l40, py_l100, py_l640, py_l1280, py_neg, py_add, py_sub, py_mul, py_stO]
      have e : pm_rts t k (40 * k) 50 0 = t 50 0 - 1 := by simp [pm_rts]
      rw [e]
      refine py_ile (fun c => absurd c (by omega)) (fun _ => py_and (py_and (py_and (py_and ?_))))
      have e1 : ((k : Int) + 1).toNat = k + 1 := by omega
      rw [py_nat (by omega), py_nat (by omega), e1]
      have e2 : pm_rts t k (40 * k) 40 (k + 1) = t 40 (k + 1) := by
        simp [pm_rts]
        intro c; omega
      have e3 : pm_rts t k (40 * k) 41 (k + 1) = t 41 (k + 1) := by
        simp [pm_rts]
        intro c; omega
      rw [e2, e3]
      simp only [Int.toNat_natCast]
      rw [← pm_rts_a]
      exact ⟨n, hn1⟩
  unfold eX5_removeTrain
  try simp only [py_O_ap, py_l0, py_l1, py_l2, py_l3, py_l4, py_l5, py_l6, py_l7, py_l8, py_l9, py_l12, py_l16, py_l32, py_l40, py_l100, py_l640, py_l1280, py_neg, py_add, py_sub, py_mul, py_stO]
  rw [← pm_rts_0]
  exact key (t 50 0 - 1).toNat 0 (by omega)
theorem pm_hasRoom {c : Nat} {n : Int} (hc : c < 40) (hu : 0 ≤ t 37 c ∧ t 37 c ≤ 32) (hn : -2147483648 ≤ n ∧ n < 2147483648) (h1 : n ≤ 32 - t 37 c → K (py_O t) (py_o 1)) (h0 : 32 - t 37 c < n → K (py_O t) (py_o 0)) : eX5_hasRoom (py_O t) (py_o c) (py_o n) K := by
  unfold eX5_hasRoom
  try simp only [py_O_ap, py_l0, py_l1, py_l2, py_l3, py_l4, py_l5, py_l6, py_l7, py_l8, py_l9, py_l12, py_l16, py_l32, py_l40, py_l100, py_l640, py_l1280, py_neg, py_add, py_sub, py_mul, py_stO]
  refine py_and ?_
  rw [py_nat (by omega)]
  simp only [Int.toNat_natCast]
  try simp only [py_O_ap, py_l0, py_l1, py_l2, py_l3, py_l4, py_l5, py_l6, py_l7, py_l8, py_l9, py_l12, py_l16, py_l32, py_l40, py_l100, py_l640, py_l1280, py_neg, py_add, py_sub, py_mul, py_stO]
  exact py_ilt h0 h1
theorem pm_wordsOf {x : Nat} (hx : x < 640) (hK : K (py_O t) (py_o (2 + t 33 x + t 34 x))) : eX5_wordsOf (py_O t) (py_o x) K := by
  unfold eX5_wordsOf
  try simp only [py_O_ap, py_l0, py_l1, py_l2, py_l3, py_l4, py_l5, py_l6, py_l7, py_l8, py_l9, py_l12, py_l16, py_l32, py_l40, py_l100, py_l640, py_l1280, py_neg, py_add, py_sub, py_mul, py_stO]
  refine py_and (py_and ?_)
  rw [py_nat (by omega)]
  simp only [Int.toNat_natCast]
  try simp only [py_O_ap, py_l0, py_l1, py_l2, py_l3, py_l4, py_l5, py_l6, py_l7, py_l8, py_l9, py_l12, py_l16, py_l32, py_l40, py_l100, py_l640, py_l1280, py_neg, py_add, py_sub, py_mul, py_stO]
  exact hK
/-- a thing lies in a car -/
def pm_lay (t : py_Z) (x c : Nat) : py_Z := fun g i =>
  if g = 31 then (if i = x then (c : Int) else t 31 i) else if g = 32 then (if i = x then t 37 c else t 32 i)
  else if g = 39 then (if i = 16 * c + (t 38 c).toNat then (x : Int) else t 39 i)
  else if g = 38 then (if i = c then t 38 c + 1 else t 38 i)
  else if g = 37 then (if i = c then t 37 c + (2 + t 33 x + t 34 x) else t 37 i) else t g i
theorem pm_layM {x c : Nat} {K : ty_S → Prop} (hx : x < 640) (hc : c < 40) (hk : 0 ≤ t 38 c ∧ t 38 c < 16) (hK : K (py_O (pm_lay t x c))) : eX5_lay (py_O t) (py_o x) (py_o c) K := by
  unfold eX5_lay
  try simp only [py_O_ap, py_l0, py_l1, py_l2, py_l3, py_l4, py_l5, py_l6, py_l7, py_l8, py_l9, py_l12, py_l16, py_l32, py_l40, py_l100, py_l640, py_l1280, py_neg, py_add, py_sub, py_mul, py_stO]
  refine py_and (py_and (py_and (py_and ?_)))
  rw [py_nat (by omega), py_nat (by omega)]
  simp only [Int.toNat_natCast]
  try simp only [py_O_ap, py_l0, py_l1, py_l2, py_l3, py_l4, py_l5, py_l6, py_l7, py_l8, py_l9, py_l12, py_l16, py_l32, py_l40, py_l100, py_l640, py_l1280, py_neg, py_add, py_sub, py_mul, py_stO]
  refine py_and (py_and (py_and (py_and ?_)))
  rw [py_nat (by omega)]
  refine pm_wordsOf hx (py_and ?_)
  try simp only [py_O_ap, py_l0, py_l1, py_l2, py_l3, py_l4, py_l5, py_l6, py_l7, py_l8, py_l9, py_l12, py_l16, py_l32, py_l40, py_l100, py_l640, py_l1280, py_neg, py_add, py_sub, py_mul, py_stO]
  have e : pm_lay t x c = py_st (py_st (py_st (py_st (py_st t 31 x c) 32 x (t 37 c)) 39 (16 * (c : Int) + t 38 c).toNat x) 38 c (t 38 c + 1)) 37 c (t 37 c + (2 + py_st (py_st (py_st (py_st t 31 x c) 32 x (t 37 c)) 39 (16 * (c : Int) + t 38 c).toNat x) 38 c (t 38 c + 1) 33 x + py_st (py_st (py_st (py_st t 31 x c) 32 x (t 37 c)) 39 (16 * (c : Int) + t 38 c).toNat x) 38 c (t 38 c + 1) 34 x)) := by
    have e1 : (16 * (c : Int) + t 38 c).toNat = 16 * c + (t 38 c).toNat := by omega
    rw [e1]
    funext g i
    simp only [pm_lay, py_st]
    grind
  rw [← e]
  exact hK
theorem pm_place {x : Nat} (hx : x < 640) (hK : K (py_O t) (py_o (32 * t 31 x + t 32 x))) : eX5_place (py_O t) (py_o x) K := by
  unfold eX5_place
  try simp only [py_O_ap, py_l0, py_l1, py_l2, py_l3, py_l4, py_l5, py_l6, py_l7, py_l8, py_l9, py_l12, py_l16, py_l32, py_l40, py_l100, py_l640, py_l1280, py_neg, py_add, py_sub, py_mul, py_stO]
  refine py_and (py_and ?_)
  rw [py_nat (by omega)]
  simp only [Int.toNat_natCast]
  try simp only [py_O_ap, py_l0, py_l1, py_l2, py_l3, py_l4, py_l5, py_l6, py_l7, py_l8, py_l9, py_l12, py_l16, py_l32, py_l40, py_l100, py_l640, py_l1280, py_neg, py_add, py_sub, py_mul, py_stO]
  exact hK
theorem pm_isInCar {y : Int} (ry : -1 ≤ y ∧ y < 640) (hl : ∀ x : Nat, x < 640 → 0 ≤ t 30 x ∧ t 30 x < 2147483648) (hh : ∀ x : Nat, x < 640 → 0 < t 30 x → -1 ≤ t 31 x ∧ t 31 x < 40) (he : -1 ≤ t 59 0 ∧ t 59 0 < 40) (h1 : 0 ≤ y → 0 < t 30 y.toNat → t 31 y.toNat = t 59 0 → K (py_O t) (py_o 1)) (h0 : ¬ (0 ≤ y ∧ 0 < t 30 y.toNat ∧ t 31 y.toNat = t 59 0) → K (py_O t) (py_o 0)) : eX5_isInCar (py_O t) (py_o y) K := by
  unfold eX5_isInCar
  try simp only [py_O_ap, py_l0, py_l1, py_l2, py_l3, py_l4, py_l5, py_l6, py_l7, py_l8, py_l9, py_l12, py_l16, py_l32, py_l40, py_l100, py_l640, py_l1280, py_neg, py_add, py_sub, py_mul, py_stO]
  refine py_ilt (fun c => h0 (by omega)) (fun c => py_and ?_)
  rw [py_nat (by omega)]
  have hl2 := hl y.toNat (by omega)
  refine py_ile (fun c2 => h0 (by omega)) (fun c2 => py_and ?_)
  have hh2 := hh y.toNat (by omega) (by omega)
  exact py_ieq (fun c3 => h1 (by omega) (by omega) c3) (fun c3 => h0 (fun e => c3 e.2.2))
/-- what is forgotten with a car -/
def pm_fgl (t : py_Z) (c : Nat) : Nat → Nat → Int
  | 0 => t 30
  | m + 1 => fun y => if y = (t 39 (16 * c + m)).toNat ∧ t 31 y = c then 0 else pm_fgl t c m y
def pm_fgn (t : py_Z) (c m : Nat) : Nat := py_cnt (fun k => decide (t 31 (t 39 (16 * c + k)).toNat = c)) m
def pm_fg (t : py_Z) (c : Nat) : py_Z := fun g i =>
  if g = 30 then pm_fgl t c (t 38 c).toNat i else if g = 37 ∨ g = 38 then (if i = c then 0 else t g i)
  else if g = 54 then (if i = 0 then t 54 0 + pm_fgn t c (t 38 c).toNat else t 54 i) else t g i
def pm_fgs (t : py_Z) (c m : Nat) : py_Z := fun g i => if g = 30 then pm_fgl t c m i else t g i
theorem pm_fgl_keep {c : Nat} : ∀ (m : Nat) {y : Nat}, (∀ k : Nat, k < m → (t 39 (16 * c + k)).toNat ≠ y) → pm_fgl t c m y = t 30 y
  | 0, _, _ => rfl
  | m + 1, y, h => by
    show (if y = (t 39 (16 * c + m)).toNat ∧ t 31 y = c then 0 else pm_fgl t c m y) = _
    rw [if_neg (fun e => h m (by omega) e.1.symm), pm_fgl_keep m (fun k hk => h k (by omega))]
theorem pm_fgl_gone {c : Nat} : ∀ (m : Nat) {y k : Nat}, k < m → (t 39 (16 * c + k)).toNat = y → t 31 y = c → pm_fgl t c m y = 0
  | m + 1, y, k, hk, h1, h2 => by
    show (if y = (t 39 (16 * c + m)).toNat ∧ t 31 y = c then 0 else pm_fgl t c m y) = _
    by_cases e : k = m
    · subst e; rw [if_pos ⟨h1.symm, h2⟩]
    · split
      · rfl
      · exact pm_fgl_gone m (by omega) h1 h2
theorem pm_fgl_other {c : Nat} : ∀ (m : Nat) {y : Nat}, t 31 y ≠ c → pm_fgl t c m y = t 30 y
  | 0, _, _ => rfl
  | m + 1, y, h => by
    show (if y = (t 39 (16 * c + m)).toNat ∧ t 31 y = c then 0 else pm_fgl t c m y) = _
    rw [if_neg (fun e => h e.2), pm_fgl_other m h]
theorem pm_forget {c : Nat} (hc : c < 40) (hk : 0 ≤ t 38 c ∧ t 38 c ≤ 16) (hx : ∀ k : Nat, (k : Int) < t 38 c → (0 ≤ t 39 (16 * c + k) ∧ t 39 (16 * c + k) < 640) ∧ (0 < t 30 (t 39 (16 * c + k)).toNat ∧ t 30 (t 39 (16 * c + k)).toNat < 2147483648) ∧ -2147483648 ≤ t 31 (t 39 (16 * c + k)).toNat ∧ t 31 (t 39 (16 * c + k)).toNat < 2147483648) (hinj : ∀ k m : Nat, k < m → (m : Int) < t 38 c → t 39 (16 * c + k) ≠ t 39 (16 * c + m)) (hK : K (py_O (pm_fg t c)) (py_o (pm_fgn t c (t 38 c).toNat))) : eX5_forget (py_O t) (py_o c) K := by
  have key : ∀ d m : Nat, (m : Int) + d = t 38 c → ∃ n9, lX5_forget_4 K n9 (py_o c) (py_o (pm_fgn t c m)) (py_o m) (py_O (pm_fgs t c m)) := by
    intro d
    induction d with
    | zero =>
      intro m hm
      refine ⟨1, ?_⟩
      unfold lX5_forget_4
      try simp only [py_O_ap, py_l0, py_l1, py_l2, py_l3, py_l4, py_l5, py_l6, py_l7, py_l8, py_l9, py_l12, py_l16, py_l32, py_l40, py_l100, py_l640, py_l1280, py_neg, py_add, py_sub, py_mul, py_stO]
      refine py_and ?_
      rw [py_nat (by omega)]
      simp only [Int.toNat_natCast]
      have e : pm_fgs t c m 38 c = t 38 c := by simp [pm_fgs]
      have e54 : pm_fgs t c m 54 0 = t 54 0 := by simp [pm_fgs]
      rw [e, e54]
      refine py_ile (fun _ => py_and (py_and ?_)) (fun c => absurd c (by omega))
      have e2 : pm_fg t c = py_st (py_st (py_st (pm_fgs t c m) 38 c 0) 37 c 0) 54 0 (t 54 0 + pm_fgn t c m) := by
        have e3 : (t 38 c).toNat = m := by omega
        funext g i
        simp only [pm_fg, pm_fgs, py_st, e3]
        grind
      rw [e2, show (t 38 c).toNat = m by omega] at hK
      exact hK
    | succ d ih =>
      intro m hm
      obtain ⟨n, hn⟩ := ih (m + 1) (by omega)
      obtain ⟨h1, h2, h3⟩ := hx m (by omega)
      have e : pm_fgs t c m 38 c = t 38 c := by simp [pm_fgs]
      have e39 : ∀ i, pm_fgs t c m 39 i = t 39 i := fun i => by simp [pm_fgs]
      have e31 : ∀ i, pm_fgs t c m 31 i = t 31 i := fun i => by simp [pm_fgs]
      have e30 : pm_fgs t c m 30 (t 39 (16 * c + m)).toNat = t 30 (t 39 (16 * c + m)).toNat := by
        show pm_fgl t c m _ = _
        refine pm_fgl_keep m (fun k hk => ?_)
        have h4 := hx k (by omega)
        have h5 := hinj k m hk (by omega)
        omega
      have e1 : ((16 : Int) * c + m).toNat = 16 * c + m := by omega
      have hcn : pm_fgn t c (m + 1) = pm_fgn t c m + (if decide (t 31 (t 39 (16 * c + m)).toNat = c) = true then 1 else 0) := rfl
      refine ⟨n + 1, ?_⟩
      unfold lX5_forget_4
      try simp only [py_O_ap, py_l0, py_l1, py_l2, py_l3, py_l4, py_l5, py_l6, py_l7, py_l8, py_l9, py_l12, py_l16, py_l32, py_l40, py_l100, py_l640, py_l1280, py_neg, py_add, py_sub, py_mul, py_stO]
      refine py_and ?_
      rw [py_nat (by omega)]
      simp only [Int.toNat_natCast]
      rw [e]
      refine py_ile (fun c => absurd c (by omega)) (fun _ => py_and ?_)
      rw [py_nat (by omega), e1, e39]
      refine py_and ?_
      rw [py_nat (by omega), e30]
      refine py_ile (fun c => absurd c (by omega)) (fun _ => py_and ?_)
      rw [e31]
      by_cases e5 : t 31 (t 39 (16 * c + m)).toNat = c
      · refine py_ieq (fun _ => py_and ?_) (fun c => absurd e5 c)
        rw [hcn, if_pos (by simpa using e5)] at hn
        have e6 : pm_fgs t c (m + 1) = py_st (pm_fgs t c m) 30 (t 39 (16 * c + m)).toNat 0 := by
          funext g i
          simp only [pm_fgs, py_st, pm_fgl]
          grind
        rw [e6] at hn
        exact hn
      · refine py_ieq (fun c => absurd c e5) (fun _ => ?_)
        rw [hcn, if_neg (by simpa using e5)] at hn
        have e6 : pm_fgs t c (m + 1) = pm_fgs t c m := by
          funext g i
          simp only [pm_fgs, pm_fgl]
          grind
        rw [e6] at hn
        exact hn
  unfold eX5_forget
  rw [py_l0]
  have e : pm_fgs t c 0 = t := by
    funext g i
    simp only [pm_fgs, pm_fgl]
    grind
  have := key (t 38 c).toNat 0 (by omega)
  rw [e] at this
  exact this
end PMS
