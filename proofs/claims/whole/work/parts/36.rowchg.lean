/-! PURE: the row changes -/
def pr_RV (s t : py_Z) : Prop :=
  (0 ≤ t 50 0 ∧ t 50 0 ≤ 40) ∧
  (∀ j : Nat, (j : Int) < t 50 0 → 0 ≤ t 41 j ∧ t 41 j ≤ 40) ∧
  ((pr_off t (t 50 0).toNat : Int) = s 13 0 ∧ s 13 0 ≤ 40) ∧
  (∀ j k : Nat, (j : Int) < t 50 0 → (k : Int) < t 41 j → s 5 (pr_off t j + k) = t 42 (40 * j + k) ∧ (0 ≤ t 42 (40 * j + k) ∧ t 42 (40 * j + k) < 40) ∧ s 6 (t 42 (40 * j + k)).toNat = t 40 j) ∧
  (∀ j : Nat, (j : Int) < t 50 0 → 1 ≤ t 40 j ∧ t 40 j ≤ t 57 0) ∧
  (∀ i j : Nat, i < j → (j : Int) < t 50 0 → t 40 i < t 40 j) ∧
  (s 14 0 = t 57 0 ∧ 0 ≤ t 57 0 ∧ t 57 0 ≤ 100000) ∧
  (∀ c : Nat, c < 40 → s 6 c ≠ 0 → ∃ k : Nat, (k : Int) < s 13 0 ∧ s 5 k = c) ∧
  (∀ a b : Nat, a < b → (b : Int) < s 13 0 → s 5 a ≠ s 5 b) ∧
  ((py_cnt (fun c => decide (s 6 c ≠ 0)) 40 : Int) = s 13 0)
theorem pr_RW.rv {s t : py_Z} (h : pr_RW s t) : pr_RV s t := ⟨h.1, fun j hj => by have := h.2.1 j hj; omega, h.2.2⟩
theorem pr_RV.rw {s t : py_Z} (h : pr_RV s t) (hp : ∀ j : Nat, (j : Int) < t 50 0 → 1 ≤ t 41 j) : pr_RW s t := ⟨h.1, fun j hj => ⟨hp j hj, (h.2.1 j hj).2⟩, h.2.2⟩
theorem pr_RV.car {s t : py_Z} (h : pr_RV s t) {i : Nat} (hi : (i : Int) < s 13 0) : (0 ≤ s 5 i ∧ s 5 i < 40) ∧ 1 ≤ s 6 (s 5 i).toNat ∧ s 6 (s 5 i).toNat ≤ t 57 0 := by
  obtain ⟨j, k, h2, h3, h4⟩ := pr_off_dec (t := t) (t 50 0).toNat i (by have := h.2.2.1; omega)
  obtain ⟨h5, h6, h7⟩ := h.2.2.2.1 j k (by omega) h3
  have := h.2.2.2.2.1 j (by omega)
  subst h4
  rw [h5]
  exact ⟨h6, by omega, by omega⟩
theorem pr_RV.lt {s t : py_Z} (h : pr_RV s t) {j : Nat} (hj : (j : Int) < t 50 0) : (pr_off t j : Int) + t 41 j ≤ s 13 0 := by
  have h1 := pr_off_le (t := t) (show j + 1 ≤ (t 50 0).toNat by omega)
  have h2 : pr_off t (j + 1) = pr_off t j + (t 41 j).toNat := rfl
  have := h.2.2.1
  have := h.2.1 j hj
  omega
/-- a car comes in, at a place of the row -/
def pr_ins (s : py_Z) (a c : Nat) (num : Int) : py_Z := fun g i =>
  if g = 5 then (if i < a then s 5 i else if i = a then c else if (i : Int) ≤ s 13 0 then s 5 (i - 1) else s 5 i)
  else if g = 6 then (if i = c then num else s 6 i) else if g = 13 then (if i = 0 then s 13 0 + 1 else s 13 i) else s g i
/-- a car comes behind the last one of a train -/
def pm_cpl (t : py_Z) (j c : Nat) : py_Z := fun g i =>
  if g = 42 then (if i = 40 * j + (t 41 j).toNat then c else t 42 i)
  else if g = 41 then (if i = j then t 41 j + 1 else t 41 i)
  else if g = 37 ∨ g = 38 then (if i = c then 0 else t g i) else t g i
theorem pm_couple {t : py_Z} {j c : Nat} {K : ty_S → Prop} (hj : j < 41) (hs : 0 ≤ t 41 j ∧ t 41 j < 40) (hc : c < 40) (hK : K (py_O (pm_cpl t j c))) : eX5_couple (py_O t) (py_o j) (py_o c) K := by
  unfold eX5_couple
  try simp only [py_O_ap, py_l0, py_l1, py_l2, py_l3, py_l4, py_l5, py_l6, py_l7, py_l8, py_l9, py_l12, py_l16, py_l32, py_l40, py_l100, py_l640, py_l1280, py_neg, py_add, py_sub, py_mul, py_stO]
  refine py_and ?_
  rw [py_nat (by omega)]
  simp only [Int.toNat_natCast]
  try simp only [py_O_ap, py_l0, py_l1, py_l2, py_l3, py_l4, py_l5, py_l6, py_l7, py_l8, py_l9, py_l12, py_l16, py_l32, py_l40, py_l100, py_l640, py_l1280, py_neg, py_add, py_sub, py_mul, py_stO]
  refine py_and (py_and (py_and (py_and (py_and ?_))))
  rw [py_nat (by omega), py_nat (by omega)]
  simp only [Int.toNat_natCast]
  have e : pm_cpl t j c = py_st (py_st (py_st (py_st t 42 (40 * (j : Int) + t 41 j).toNat c) 41 j (t 41 j + 1)) 37 c 0) 38 c 0 := by
    funext g i
    simp only [pm_cpl, py_st]
    grind
  rw [← e]
  exact hK
def pr_shf (s : py_Z) (m : Nat) : py_Z := fun g i => if g = 5 ∧ m < i ∧ (i : Int) ≤ s 13 0 then s 5 (i - 1) else s g i
theorem pr_shf_n {s : py_Z} {m g i : Nat} (h : g ≠ 5) : pr_shf s m g i = s g i := by simp [pr_shf, h]
theorem pr_shf_5 {s : py_Z} {m i : Nat} (h : i ≤ m) : pr_shf s m 5 i = s 5 i := by
  unfold pr_shf
  rw [if_neg (by omega)]
theorem pr_shf_st {s : py_Z} {m : Nat} (h0 : 0 < m) (h : (m : Int) ≤ s 13 0) : pr_shf s (m - 1) = py_st (pr_shf s m) 5 m (s 5 (m - 1)) := by
  funext g i
  simp only [py_st, pr_shf]
  grind
theorem pr_shf_fin {s : py_Z} {a c : Nat} {num : Int} (h : (a : Int) ≤ s 13 0) : pr_ins s a c num = py_st (py_st (py_st (pr_shf s a) 5 a c) 6 c num) 13 0 (s 13 0 + 1) := by
  funext g i
  simp only [pr_ins, py_st, pr_shf]
  grind
theorem pr_addCar {s : py_Z} {a c : Nat} {num : Int} {K : ty_S → Int32 → Prop} (hN : 0 ≤ s 13 0 ∧ s 13 0 < 40) (hb : ∀ k : Nat, (k : Int) < s 13 0 → (0 ≤ s 5 k ∧ s 5 k < 40)) (h6 : ∀ c : Nat, c < 40 → 0 ≤ s 6 c ∧ s 6 c < 2147483648) (hc : c < 40) (hfree : s 6 c = 0) (hleast : ∀ d : Nat, d < c → s 6 d ≠ 0) (ha : (a : Int) ≤ s 13 0) (hgt : ∀ k : Nat, a ≤ k → (k : Int) < s 13 0 → num < s 6 (s 5 k).toNat) (hle : 0 < a → s 6 (s 5 (a - 1)).toNat ≤ num) (hnum : 0 ≤ num ∧ num < 2147483648) (hK : K (py_O (pr_ins s a c num)) (py_o c)) : eX1_addCar (py_O s) (py_o num) K := by
  have hfin : ∃ n9, lX1_addCar_26 K n9 (py_o num) (py_o c) (py_o a) (py_O (pr_shf s a)) := by
    rw [pr_shf_fin ha] at hK
    have hj : jX1_addCar_66 K (py_o num) (py_o c) (py_o a) (py_O (pr_shf s a)) := by
      unfold jX1_addCar_66
      try simp only [py_O_ap, py_l0, py_l1, py_l2, py_l3, py_l4, py_l5, py_l6, py_l7, py_l8, py_l9, py_l12, py_l16, py_l32, py_l40, py_l100, py_l640, py_l1280, py_neg, py_add, py_sub, py_mul, py_stO]
      refine py_and (py_and ?_)
      rw [py_nat (by omega), py_nat (by omega)]
      simp only [Int.toNat_natCast]
      exact hK
    refine ⟨1, ?_⟩
    unfold lX1_addCar_26
    try simp only [py_O_ap, py_l0, py_l1, py_l2, py_l3, py_l4, py_l5, py_l6, py_l7, py_l8, py_l9, py_l12, py_l16, py_l32, py_l40, py_l100, py_l640, py_l1280, py_neg, py_add, py_sub, py_mul, py_stO]
    refine py_ile (fun _ => hj) (fun c1 => py_and ?_)
    have e1 : ((a : Int) - 1).toNat = a - 1 := by omega
    rw [py_nat (by omega), e1, pr_shf_5 (by omega)]
    have := hb (a - 1) (by omega)
    have h62 := h6 (s 5 (a - 1)).toNat (by omega)
    refine pr_trainOf (fun _ _ => ?_) (fun c => absurd c (by omega))
    rw [pr_shf_n (by decide)]
    have := hle (by omega)
    exact py_ile (fun _ => hj) (fun c => absurd c (by omega))
  have key : ∀ d m : Nat, a + d = m → (m : Int) ≤ s 13 0 → ∃ n9, lX1_addCar_26 K n9 (py_o num) (py_o c) (py_o m) (py_O (pr_shf s m)) := by
    intro d
    induction d with
    | zero => intro m hm _; rw [show m = a by omega]; exact hfin
    | succ d ih =>
      intro m hm hm2
      obtain ⟨n, hn⟩ := ih (m - 1) (by omega) (by omega)
      refine ⟨n + 1, ?_⟩
      unfold lX1_addCar_26
      try simp only [py_O_ap, py_l0, py_l1, py_l2, py_l3, py_l4, py_l5, py_l6, py_l7, py_l8, py_l9, py_l12, py_l16, py_l32, py_l40, py_l100, py_l640, py_l1280, py_neg, py_add, py_sub, py_mul, py_stO]
      refine py_ile (fun c => absurd c (by omega)) (fun c1 => py_and ?_)
      have e1 : ((m : Int) - 1).toNat = m - 1 := by omega
      rw [py_nat (by omega), py_nat (by omega), e1, pr_shf_5 (by omega)]
      simp only [Int.toNat_natCast]
      have := hb (m - 1) (by omega)
      have h62 := h6 (s 5 (m - 1)).toNat (by omega)
      refine pr_trainOf (fun _ _ => ?_) (fun c => absurd c (by omega))
      rw [pr_shf_n (by decide)]
      have := hgt (m - 1) (by omega) (by omega)
      refine py_ile (fun c => absurd c (by omega)) (fun _ => py_and (py_and ?_))
      try simp only [py_O_ap, py_l0, py_l1, py_l2, py_l3, py_l4, py_l5, py_l6, py_l7, py_l8, py_l9, py_l12, py_l16, py_l32, py_l40, py_l100, py_l640, py_l1280, py_neg, py_add, py_sub, py_mul, py_stO]
      rw [pr_shf_5 (by omega)]
      have e4 : ((m - 1 : Nat) : Int) = (m : Int) + -1 := by omega
      rw [e4] at hn
      rw [pr_shf_st (by omega) hm2] at hn
      exact hn
  unfold eX1_addCar
  try simp only [py_O_ap, py_l0, py_l1, py_l2, py_l3, py_l4, py_l5, py_l6, py_l7, py_l8, py_l9, py_l12, py_l16, py_l32, py_l40, py_l100, py_l640, py_l1280, py_neg, py_add, py_sub, py_mul, py_stO]
  refine pr_leastFree h6 (fun c' hc' h1 h2 => ?_) (fun h1 => absurd hfree (h1 c hc))
  have e : c' = c := by
    rcases Nat.lt_trichotomy c' c with e | e | e
    · exact absurd h1 (hleast c' e)
    · exact e
    · exact absurd hfree (h2 c e)
  subst e
  refine py_ieq (fun c => absurd c (by omega)) (fun _ => ?_)
  refine py_ilt (fun _ => ?_) (fun c => absurd c (by omega))
  have := key ((s 13 0).toNat - a) (s 13 0).toNat (by omega) (by omega)
  have e : pr_shf s (s 13 0).toNat = s := by
    funext g i
    unfold pr_shf
    rw [if_neg (by omega)]
  rw [e] at this
  have e2 : (((s 13 0).toNat : Nat) : Int) = s 13 0 := by omega
  rw [e2] at this
  exact this
theorem pr_RV.add {s t : py_Z} (h : pr_RV s t) (hN : s 13 0 < 40) {j c : Nat} (hj : (j : Int) < t 50 0) (hc : c < 40) (hfree : s 6 c = 0) : pr_RV (pr_ins s (pr_off t j + (t 41 j).toNat) c (t 40 j)) (pm_cpl t j c) := by
  have hend := h.lt hj
  have hsz := h.2.1 j hj
  have hnj := h.2.2.2.2.1 j hj
  have hcar := fun {i : Nat} => h.car (i := i)
  have hne : ∀ k : Nat, (k : Int) < s 13 0 → s 5 k ≠ c := fun k hk e => by
    have := hcar hk
    rw [e] at this
    simp only [Int.toNat_natCast] at this
    omega
  have hcnt0 : 0 ≤ s 13 0 := by have := h.2.2.1; omega
  have hoff : ∀ i : Nat, pr_off (pm_cpl t j c) i = pr_off t i + (if j < i then 1 else 0) := by
    intro i
    induction i with
    | zero => rfl
    | succ i ih =>
      have e1 : pr_off (pm_cpl t j c) (i + 1) = pr_off (pm_cpl t j c) i + (pm_cpl t j c 41 i).toNat := rfl
      have e2 : pr_off t (i + 1) = pr_off t i + (t 41 i).toNat := rfl
      have e3 : pm_cpl t j c 41 i = if i = j then t 41 j + 1 else t 41 i := by simp [pm_cpl]
      rw [e1, e2, e3, ih]
      by_cases e : i = j
      · subst e; rw [if_pos rfl, if_neg (by omega), if_pos (by omega)]; omega
      · rw [if_neg e]
        by_cases e4 : j < i
        · rw [if_pos e4, if_pos (by omega)]; omega
        · rw [if_neg e4, if_neg (by omega)]; omega
  have e50 : pm_cpl t j c 50 0 = t 50 0 := by simp [pm_cpl]
  have e40 : ∀ i, pm_cpl t j c 40 i = t 40 i := fun i => by simp [pm_cpl]
  have e57 : pm_cpl t j c 57 0 = t 57 0 := by simp [pm_cpl]
  have e41 : ∀ i, pm_cpl t j c 41 i = if i = j then t 41 j + 1 else t 41 i := fun i => by simp [pm_cpl]
  have e42 : ∀ i, pm_cpl t j c 42 i = if i = 40 * j + (t 41 j).toNat then (c : Int) else t 42 i := fun i => by simp [pm_cpl]
  have s13 : pr_ins s (pr_off t j + (t 41 j).toNat) c (t 40 j) 13 0 = s 13 0 + 1 := by simp [pr_ins]
  have s14 : pr_ins s (pr_off t j + (t 41 j).toNat) c (t 40 j) 14 0 = s 14 0 := by simp [pr_ins]
  have s6 : ∀ i, pr_ins s (pr_off t j + (t 41 j).toNat) c (t 40 j) 6 i = if i = c then t 40 j else s 6 i := fun i => by simp [pr_ins]
  have s5 : ∀ i, pr_ins s (pr_off t j + (t 41 j).toNat) c (t 40 j) 5 i = if i < pr_off t j + (t 41 j).toNat then s 5 i else if i = pr_off t j + (t 41 j).toNat then (c : Int) else if (i : Int) ≤ s 13 0 then s 5 (i - 1) else s 5 i := fun i => by simp [pr_ins]
  generalize pr_ins s (pr_off t j + (t 41 j).toNat) c (t 40 j) = s' at *
  generalize pm_cpl t j c = t' at *
  have hsz2 : t 41 j < 40 := by omega
  refine ⟨by rw [e50]; exact h.1, ?_, ?_, ?_, ?_, ?_, ?_, ?_, ?_, ?_⟩
  · intro i hi
    rw [e50] at hi
    rw [e41]
    have := h.2.1 i hi
    split <;> omega
  · rw [hoff, e50, s13, if_pos (by omega)]
    have := h.2.2.1
    omega
  · intro i k hi hk
    rw [e50] at hi
    rw [e41] at hk
    rw [e40]
    have hsi := h.2.1 i hi
    have ho1 : i ≤ j → pr_off t' i = pr_off t i := fun e => by rw [hoff, if_neg (by omega)]; rfl
    have ho2 : j < i → pr_off t' i = pr_off t i + 1 := fun e => by rw [hoff, if_pos e]
    by_cases e : i = j ∧ k = (t 41 j).toNat
    · obtain ⟨e1, e2⟩ := e
      subst e1; subst e2
      rw [ho1 (Nat.le_refl _), e42, if_pos rfl, s5, if_neg (by omega), if_pos rfl, s6]
      refine ⟨rfl, by omega, ?_⟩
      rw [if_pos (by omega)]
    · have hk2 : (k : Int) < t 41 i := by
        by_cases e1 : i = j
        · subst e1; rw [if_pos rfl] at hk; omega
        · rwa [if_neg e1] at hk
      obtain ⟨h1, h2, h3⟩ := h.2.2.2.1 i k hi hk2
      have h4 := h.lt hi
      have hidx : 40 * i + k ≠ 40 * j + (t 41 j).toNat := by omega
      rw [e42, if_neg hidx]
      refine ⟨?_, h2, ?_⟩
      · rw [← h1, s5]
        rcases Nat.lt_trichotomy i j with h5 | h5 | h5
        · have h6 := pr_off_le (t := t) (show i + 1 ≤ j by omega)
          have h7 : pr_off t (i + 1) = pr_off t i + (t 41 i).toNat := rfl
          rw [ho1 (by omega), if_pos (by omega)]
        · subst h5
          rw [ho1 (by omega), if_pos (by omega)]
        · have h6 := pr_off_le (t := t) (show j + 1 ≤ i by omega)
          have h7 : pr_off t (j + 1) = pr_off t j + (t 41 j).toNat := rfl
          rw [ho2 h5, if_neg (by omega), if_neg (by omega), if_pos (by omega)]
          congr 1
          omega
      · rw [s6, if_neg, h3]
        intro e2
        have := hne (pr_off t i + k) (by omega)
        rw [h1] at this
        omega
  · intro i hi
    rw [e50] at hi
    rw [e40, e57]; exact h.2.2.2.2.1 i hi
  · intro i i' hii hi
    rw [e50] at hi
    rw [e40, e40]; exact h.2.2.2.2.2.1 i i' hii hi
  · rw [s14, e57]; exact h.2.2.2.2.2.2.1
  · intro c' hc' h1
    rw [s6] at h1
    rw [s13]
    by_cases e : c' = c
    · refine ⟨pr_off t j + (t 41 j).toNat, by omega, ?_⟩
      rw [s5, if_neg (by omega), if_pos rfl, e]
    · rw [if_neg e] at h1
      obtain ⟨k, h2, h3⟩ := h.2.2.2.2.2.2.2.1 c' hc' h1
      by_cases e2 : k < pr_off t j + (t 41 j).toNat
      · exact ⟨k, by omega, by rw [s5, if_pos e2]; exact h3⟩
      · exact ⟨k + 1, by omega, by rw [s5, if_neg (by omega), if_neg (by omega), if_pos (by omega)]; exact h3⟩
  · intro x y hxy hy
    rw [s13] at hy
    have hinj := h.2.2.2.2.2.2.2.2.1
    have hx1 := hne x
    have hx2 := hne (y - 1)
    have ey1 : y < pr_off t j + (t 41 j).toNat → s' 5 y = s 5 y := fun e => by rw [s5, if_pos e]
    have ey2 : y = pr_off t j + (t 41 j).toNat → s' 5 y = c := fun e => by rw [s5, if_neg (by omega), if_pos e]
    have ey3 : pr_off t j + (t 41 j).toNat < y → s' 5 y = s 5 (y - 1) := fun e => by rw [s5, if_neg (by omega), if_neg (by omega), if_pos (by omega)]
    have ex1 : x < pr_off t j + (t 41 j).toNat → s' 5 x = s 5 x := fun e => by rw [s5, if_pos e]
    have ex2 : x = pr_off t j + (t 41 j).toNat → s' 5 x = c := fun e => by rw [s5, if_neg (by omega), if_pos e]
    have ex3 : pr_off t j + (t 41 j).toNat < x → s' 5 x = s 5 (x - 1) := fun e => by rw [s5, if_neg (by omega), if_neg (by omega), if_pos (by omega)]
    rcases Nat.lt_trichotomy y (pr_off t j + (t 41 j).toNat) with e1 | e1 | e1
    · rw [ey1 e1, ex1 (by omega)]
      exact hinj x y hxy (by omega)
    · rw [ey2 e1, ex1 (by omega)]
      exact hx1 (by omega)
    · rw [ey3 e1]
      rcases Nat.lt_trichotomy x (pr_off t j + (t 41 j).toNat) with e3 | e3 | e3
      · rw [ex1 e3]
        exact hinj x (y - 1) (by omega) (by omega)
      · rw [ex2 e3]
        exact fun e => hx2 (by omega) e.symm
      · rw [ex3 e3]
        exact hinj (x - 1) (y - 1) (by omega) (by omega)
  · rw [s13, py_cnt_up (P := fun c => decide (s 6 c ≠ 0)) hc (by simp [hfree]) (by rw [s6, if_pos rfl]; simp; omega) (fun i hi hne2 => by rw [s6, if_neg hne2])]
    have := h.2.2.2.2.2.2.2.2.2
    omega
