/-! PURE: trains begin and end -/
theorem pr_off_congr {t t' : py_Z} : ∀ (n : Nat), (∀ i : Nat, i < n → t' 41 i = t 41 i) → pr_off t' n = pr_off t n
  | 0, _ => rfl
  | n + 1, h => by
    show pr_off t' n + _ = pr_off t n + _
    rw [pr_off_congr n (fun i hi => h i (by omega)), h n (by omega)]
theorem pr_addCar_in {s t : py_Z} {K : ty_S → Int32 → Prop} (h : pr_RW s t) (hN : s 13 0 < 40) {j c : Nat} (hj : (j : Int) < t 50 0) (hc : c < 40) (hfree : s 6 c = 0) (hleast : ∀ d : Nat, d < c → s 6 d ≠ 0) (hK : K (py_O (pr_ins s (pr_off t j + (t 41 j).toNat) c (t 40 j))) (py_o c)) : eX1_addCar (py_O s) (py_o (t 40 j)) K := by
  have hend := h.end_le hj
  have hsz := h.2.1 j hj
  have hnj := h.2.2.2.2.1 j hj
  have hm := h.2.2.2.2.2.2.1
  refine pr_addCar ⟨h.cnt.1, hN⟩ (fun k hk => (h.car hk).1) (fun c hc => by have := h.six_b hc; omega) hc hfree hleast (by omega) (fun k hk1 hk2 => ?_) (fun h0 => ?_) (by omega) hK
  · obtain ⟨hb, j', k', hj', hk', h2, h3, h4, h5, h6⟩ := h.car hk2
    rw [h4]
    refine h.2.2.2.2.2.1 j j' ?_ hj'
    rcases Nat.lt_or_ge j j' with e | e
    · exact e
    · have h8 := pr_off_le (t := t) (show j' + 1 ≤ j + 1 by omega)
      have h9 : pr_off t (j + 1) = pr_off t j + (t 41 j).toNat := rfl
      have h10 : pr_off t (j' + 1) = pr_off t j' + (t 41 j').toNat := rfl
      omega
  · rw [(h.in_iff (j := j) (k := pr_off t j + (t 41 j).toNat - 1) hj (by omega)).mpr ⟨by omega, by omega⟩]
    exact Int.le_refl _
theorem pr_RW.add {s t : py_Z} (h : pr_RW s t) (hN : s 13 0 < 40) {j c : Nat} (hj : (j : Int) < t 50 0) (hc : c < 40) (hfree : s 6 c = 0) : pr_RW (pr_ins s (pr_off t j + (t 41 j).toNat) c (t 40 j)) (pm_cpl t j c) := by
  refine (h.rv.add hN hj hc hfree).rw (fun i hi => ?_)
  have e50 : pm_cpl t j c 50 0 = t 50 0 := by simp [pm_cpl]
  have e41 : pm_cpl t j c 41 i = if i = j then t 41 j + 1 else t 41 i := by simp [pm_cpl]
  rw [e50] at hi
  rw [e41]
  have := h.2.1 i hi
  have := h.2.1 j hj
  split <;> omega
/-- a new train, with no car yet -/
def pm_nt (t : py_Z) : py_Z := fun g i =>
  if g = 57 then (if i = 0 then t 57 0 + 1 else t 57 i) else if g = 40 then (if i = (t 50 0).toNat then t 57 0 + 1 else t 40 i)
  else if g = 41 then (if i = (t 50 0).toNat then 0 else t 41 i) else if g = 50 then (if i = 0 then t 50 0 + 1 else t 50 i) else t g i
theorem pr_RW.nt {s t : py_Z} (h : pr_RW s t) (hn : t 50 0 < 40) (hm : t 57 0 < 100000) : pr_RV (py_st s 14 0 (s 14 0 + 1)) (pm_nt t) ∧ pr_off (pm_nt t) (t 50 0).toNat = (s 13 0).toNat := by
  have h0 := h.1
  have ht := h.2.2.1
  have e50 : pm_nt t 50 0 = t 50 0 + 1 := by simp [pm_nt]
  have e57 : pm_nt t 57 0 = t 57 0 + 1 := by simp [pm_nt]
  have e40 : ∀ i, pm_nt t 40 i = if i = (t 50 0).toNat then t 57 0 + 1 else t 40 i := fun i => by simp [pm_nt]
  have e41 : ∀ i, pm_nt t 41 i = if i = (t 50 0).toNat then 0 else t 41 i := fun i => by simp [pm_nt]
  have e42 : ∀ i, pm_nt t 42 i = t 42 i := fun i => by simp [pm_nt]
  have s5 : ∀ i, py_st s 14 0 (s 14 0 + 1) 5 i = s 5 i := fun i => py_sn (by decide)
  have s6 : ∀ i, py_st s 14 0 (s 14 0 + 1) 6 i = s 6 i := fun i => py_sn (by decide)
  have s13 : ∀ i, py_st s 14 0 (s 14 0 + 1) 13 i = s 13 i := fun i => py_sn (by decide)
  have s14 : py_st s 14 0 (s 14 0 + 1) 14 0 = s 14 0 + 1 := py_se
  generalize py_st s 14 0 (s 14 0 + 1) = s' at *
  generalize pm_nt t = t' at *
  have hoff : ∀ i : Nat, (i : Int) ≤ t 50 0 → pr_off t' i = pr_off t i := fun i hi => pr_off_congr i (fun k hk => by rw [e41, if_neg (by omega)])
  have hoff2 : pr_off t' (t 50 0).toNat = (s 13 0).toNat := by rw [hoff _ (by omega)]; omega
  refine ⟨⟨by omega, ?_, ?_, ?_, ?_, ?_, ?_, ?_, ?_, ?_⟩, hoff2⟩
  · intro i hi
    rw [e41]
    split
    · omega
    · have := h.2.1 i (by omega); omega
  · rw [e50, show (t 50 0 + 1).toNat = (t 50 0).toNat + 1 by omega, s13]
    have e : pr_off t' ((t 50 0).toNat + 1) = pr_off t' (t 50 0).toNat + (t' 41 (t 50 0).toNat).toNat := rfl
    rw [e, e41, if_pos rfl, hoff2]
    omega
  · intro j k hj hk
    rw [e41] at hk
    by_cases e : j = (t 50 0).toNat
    · rw [if_pos e] at hk; omega
    · rw [if_neg e] at hk
      have := h.2.2.2.1 j k (by omega) hk
      rw [hoff j (by omega), e42, s5, s6, e40, if_neg e]
      exact this
  · intro j hj
    rw [e40, e57]
    have hmm := h.2.2.2.2.2.2.1
    split
    · omega
    · have := h.2.2.2.2.1 j (by omega); omega
  · intro i j hij hj
    rw [e40, e40, if_neg (by omega)]
    have h1 := h.2.2.2.2.1 i (by omega)
    split
    · omega
    · exact h.2.2.2.2.2.1 i j hij (by omega)
  · rw [s14, e57]; have := h.2.2.2.2.2.2.1; omega
  · intro c hc h1
    rw [s6] at h1
    rw [s13]
    obtain ⟨k, h2, h3⟩ := h.2.2.2.2.2.2.2.1 c hc h1
    exact ⟨k, h2, by rw [s5]; exact h3⟩
  · intro a b hab hb
    rw [s13] at hb
    rw [s5, s5]
    exact h.2.2.2.2.2.2.2.2.1 a b hab hb
  · rw [s13, ← h.2.2.2.2.2.2.2.2.2]
    rw [py_cnt_congr (fun k _ => by rw [s6])]
/-- the class's state behind a new train -/
def pr_new (s : py_Z) (c : Nat) : py_Z := pr_ins (py_st s 14 0 (s 14 0 + 1)) (s 13 0).toNat c (s 14 0 + 1)
def pm_new (t : py_Z) (c : Nat) : py_Z := pm_cpl (pm_nt t) (t 50 0).toNat c
theorem pr_addTrain {s t : py_Z} {K : ty_S → Int32 → Prop} (h : pr_RW s t) (hN : s 13 0 < 40) {c : Nat} (hc : c < 40) (hfree : s 6 c = 0) (hleast : ∀ d : Nat, d < c → s 6 d ≠ 0) (hK : K (py_O (pr_new s c)) (py_o c)) : eX1_addTrain (py_O s) K := by
  have hm := h.2.2.2.2.2.2.1
  have hc0 := h.cnt
  unfold eX1_addTrain
  try simp only [py_O_ap, py_l0, py_l1, py_l2, py_l3, py_l4, py_l5, py_l6, py_l7, py_l8, py_l9, py_l12, py_l16, py_l32, py_l40, py_l100, py_l640, py_l1280, py_neg, py_add, py_sub, py_mul, py_stO]
  refine pr_countFree ?_
  refine py_ieq (fun c => absurd c (by omega)) (fun _ => ?_)
  try simp only [py_O_ap, py_l0, py_l1, py_l2, py_l3, py_l4, py_l5, py_l6, py_l7, py_l8, py_l9, py_l12, py_l16, py_l32, py_l40, py_l100, py_l640, py_l1280, py_neg, py_add, py_sub, py_mul, py_stO]
  refine pr_addCar (a := (s 13 0).toNat) (c := c) ?_ (fun k hk => ?_) (fun c hc => ?_) hc ?_ (fun d hd => ?_) ?_ (fun k hk1 hk2 => ?_) (fun h0 => ?_) (by omega) hK
  · rw [py_sn (by decide)]; exact ⟨h.cnt.1, hN⟩
  · rw [py_sn (by decide)] at hk
    rw [py_sn (by decide)]; exact (h.car hk).1
  · rw [py_sn (by decide)]; have := h.six_b hc; omega
  · rw [py_sn (by decide)]; exact hfree
  · rw [py_sn (by decide)]; exact hleast d hd
  · rw [py_sn (by decide)]; omega
  · rw [py_sn (by decide)] at hk2; omega
  · rw [py_sn (by decide), py_sn (by decide)]
    have := h.rv.car (i := (s 13 0).toNat - 1) (by omega)
    omega
theorem pm_newTrain {s t : py_Z} {K : ty_S → Prop} (h : pr_RW s t) (hN : t 50 0 < 40) {c : Nat} (hc : c < 40) (hfree : s 6 c = 0) (hleast : ∀ d : Nat, d < c → s 6 d ≠ 0) (hK : K (py_O (pm_new t c))) : eX5_newTrain (py_O t) K := by
  have h0 := h.1
  unfold eX5_newTrain
  try simp only [py_O_ap, py_l0, py_l1, py_l2, py_l3, py_l4, py_l5, py_l6, py_l7, py_l8, py_l9, py_l12, py_l16, py_l32, py_l40, py_l100, py_l640, py_l1280, py_neg, py_add, py_sub, py_mul, py_stO]
  refine pm_freeCar h (fun c' hc' h1 h2 => ?_) (fun h1 => absurd hfree (h1 c hc))
  have e : c' = c := by
    rcases Nat.lt_trichotomy c' c with e | e | e
    · exact absurd h1 (hleast c' e)
    · exact e
    · exact absurd hfree (h2 c e)
  subst e
  try simp only [py_O_ap, py_l0, py_l1, py_l2, py_l3, py_l4, py_l5, py_l6, py_l7, py_l8, py_l9, py_l12, py_l16, py_l32, py_l40, py_l100, py_l640, py_l1280, py_neg, py_add, py_sub, py_mul, py_stO]
  refine py_and (py_and ?_)
  rw [py_nat (by omega)]
  have e1 : t 50 0 + 1 - 1 = ((t 50 0).toNat : Nat) := by omega
  rw [e1]
  have e2 : py_st (py_st (py_st (py_st t 57 0 (t 57 0 + 1)) 40 (t 50 0).toNat (t 57 0 + 1)) 41 (t 50 0).toNat 0) 50 0 (t 50 0 + 1) = pm_nt t := by
    funext g i
    simp only [py_st, pm_nt]
    grind
  rw [e2]
  refine pm_couple (by omega) ?_ hc hK
  simp [pm_nt]
theorem pr_RW.trains_le {s t : py_Z} (h : pr_RW s t) : t 50 0 ≤ s 13 0 := by
  have h1 := h.off_ge (t 50 0).toNat (by have := h.1; omega)
  have := h.2.2.1
  have := h.1
  omega
theorem pr_RW.new {s t : py_Z} (h : pr_RW s t) (hN : s 13 0 < 40) (hm : t 57 0 < 100000) {c : Nat} (hc : c < 40) (hfree : s 6 c = 0) : pr_RW (pr_new s c) (pm_new t c) := by
  have h0 := h.1
  have hl := h.trains_le
  obtain ⟨h1, h2⟩ := h.nt (by omega) hm
  have e50 : pm_nt t 50 0 = t 50 0 + 1 := by simp [pm_nt]
  have e41 : pm_nt t 41 (t 50 0).toNat = 0 := by simp [pm_nt]
  have e40 : pm_nt t 40 (t 50 0).toNat = s 14 0 + 1 := by simp [pm_nt]; have := h.2.2.2.2.2.2.1; omega
  have h3 := h1.add (j := (t 50 0).toNat) (c := c) (by rw [py_sn (by decide)]; exact hN) (by omega) hc (by rw [py_sn (by decide)]; exact hfree)
  rw [h2, e41, e40] at h3
  refine pr_RV.rw h3 (fun i hi => ?_)
  have f50 : pm_new t c 50 0 = t 50 0 + 1 := by simp [pm_new, pm_cpl, pm_nt]
  rw [f50] at hi
  have f41 : pm_new t c 41 i = if i = (t 50 0).toNat then 1 else t 41 i := by
    simp only [pm_new, pm_cpl, pm_nt]; grind
  rw [f41]
  split
  · omega
  · have := h.2.1 i (by omega); omega
/-! the first car goes -/
def pr_rem (s : py_Z) : py_Z := fun g i =>
  if g = 5 then (if (i : Int) + 1 < s 13 0 then s 5 (i + 1) else s 5 i) else if g = 6 then (if i = (s 5 0).toNat then 0 else s 6 i)
  else if g = 13 then (if i = 0 then s 13 0 - 1 else s 13 i) else s g i
def pr_rs (s : py_Z) (m : Nat) : py_Z := fun g i => if g = 5 then (if i + 1 < m then s 5 (i + 1) else s 5 i) else if g = 6 then (if i = (s 5 0).toNat then 0 else s 6 i) else s g i
theorem pr_rs_st {s : py_Z} {m : Nat} (h0 : 0 < m) : pr_rs s (m + 1) = py_st (pr_rs s m) 5 (m - 1) (s 5 m) := by
  funext g i
  simp only [py_st, pr_rs]
  grind
theorem pr_rs_fin {s : py_Z} {m : Nat} (h : (m : Int) = s 13 0) : pr_rem s = py_st (pr_rs s m) 13 0 (s 13 0 - 1) := by
  funext g i
  simp only [py_st, pr_rs, pr_rem]
  grind
theorem pr_rs_1 {s : py_Z} : pr_rs s 1 = py_st s 6 (s 5 0).toNat 0 := by
  funext g i
  simp only [py_st, pr_rs]
  grind
theorem pr_removeFirstCar {s : py_Z} {K : ty_S → Prop} (hN : 0 < s 13 0 ∧ s 13 0 ≤ 40) (hb : 0 ≤ s 5 0 ∧ s 5 0 < 40) (hK : K (py_O (pr_rem s))) : eX1_removeFirstCar (py_O s) K := by
  have key : ∀ d m : Nat, 0 < m → (m : Int) + d = s 13 0 → ∃ n9, lX1_removeFirstCar_23 K n9 (py_o m) (py_O (pr_rs s m)) := by
    intro d
    induction d with
    | zero =>
      intro m h0 hm
      refine ⟨1, ?_⟩
      unfold lX1_removeFirstCar_23
      try simp only [py_O_ap, py_l0, py_l1, py_l2, py_l3, py_l4, py_l5, py_l6, py_l7, py_l8, py_l9, py_l12, py_l16, py_l32, py_l40, py_l100, py_l640, py_l1280, py_neg, py_add, py_sub, py_mul, py_stO]
      have e : pr_rs s m 13 0 = s 13 0 := by simp [pr_rs]
      rw [e]
      refine py_ile (fun _ => ?_) (fun c => absurd c (by omega))
      rw [pr_rs_fin (m := m) (by omega)] at hK
      exact hK
    | succ d ih =>
      intro m h0 hm
      obtain ⟨n, hn⟩ := ih (m + 1) (by omega) (by omega)
      refine ⟨n + 1, ?_⟩
      unfold lX1_removeFirstCar_23
      try simp only [py_O_ap, py_l0, py_l1, py_l2, py_l3, py_l4, py_l5, py_l6, py_l7, py_l8, py_l9, py_l12, py_l16, py_l32, py_l40, py_l100, py_l640, py_l1280, py_neg, py_add, py_sub, py_mul, py_stO]
      have e : pr_rs s m 13 0 = s 13 0 := by simp [pr_rs]
      rw [e]
      refine py_ile (fun c => absurd c (by omega)) (fun _ => py_and (py_and ?_))
      have e1 : ((m : Int) - 1).toNat = m - 1 := by omega
      have e2 : pr_rs s m 5 m = s 5 m := by simp only [pr_rs]; grind
      rw [py_nat (by omega), py_nat (by omega), e1]
      simp only [Int.toNat_natCast]
      rw [e2]
      rw [pr_rs_st h0] at hn
      exact hn
  unfold eX1_removeFirstCar
  try simp only [py_O_ap, py_l0, py_l1, py_l2, py_l3, py_l4, py_l5, py_l6, py_l7, py_l8, py_l9, py_l12, py_l16, py_l32, py_l40, py_l100, py_l640, py_l1280, py_neg, py_add, py_sub, py_mul, py_stO]
  refine pr_carAt (by omega) (fun _ _ => ?_) (fun c => absurd c (by omega))
  simp only [Int.toNat_zero]
  refine pr_isCar (fun _ _ => ?_) (fun c => absurd c (by omega))
  refine py_ieq (fun c => absurd c (by omega)) (fun _ => py_and ?_)
  rw [py_nat (by omega)]
  try simp only [py_O_ap, py_l0, py_l1, py_l2, py_l3, py_l4, py_l5, py_l6, py_l7, py_l8, py_l9, py_l12, py_l16, py_l32, py_l40, py_l100, py_l640, py_l1280, py_neg, py_add, py_sub, py_mul, py_stO]
  rw [← pr_rs_1]
  exact key ((s 13 0).toNat - 1) 1 (by omega) (by omega)
/-- the reference's first train loses its first car -/
def pm_sh (t : py_Z) : py_Z := fun g i => if g = 41 then (if i = 0 then t 41 0 - 1 else t 41 i) else if g = 42 then (if (i : Int) + 1 < t 41 0 then t 42 (i + 1) else t 42 i) else t g i
theorem pr_RV.rem {s t : py_Z} (h : pr_RV s t) (hn : 0 < t 50 0) (hs : 0 < t 41 0) : pr_RV (pr_rem s) (pm_sh t) := by
  have h0 := h.1
  have hs0 := h.2.1 0 (by omega)
  have hl0 := h.lt (j := 0) (by omega)
  have ho0 : pr_off t 0 = 0 := rfl
  have hc0 := h.car (i := 0) (by omega)
  have hinj := h.2.2.2.2.2.2.2.2.1
  have e50 : pm_sh t 50 0 = t 50 0 := by simp [pm_sh]
  have e57 : pm_sh t 57 0 = t 57 0 := by simp [pm_sh]
  have e40 : ∀ i, pm_sh t 40 i = t 40 i := fun i => by simp [pm_sh]
  have e41 : ∀ i, pm_sh t 41 i = if i = 0 then t 41 0 - 1 else t 41 i := fun i => by simp [pm_sh]
  have e42 : ∀ i, pm_sh t 42 i = if (i : Int) + 1 < t 41 0 then t 42 (i + 1) else t 42 i := fun i => by simp [pm_sh]
  have s5 : ∀ i, pr_rem s 5 i = if (i : Int) + 1 < s 13 0 then s 5 (i + 1) else s 5 i := fun i => by simp [pr_rem]
  have s6 : ∀ i, pr_rem s 6 i = if i = (s 5 0).toNat then 0 else s 6 i := fun i => by simp [pr_rem]
  have s13 : pr_rem s 13 0 = s 13 0 - 1 := by simp [pr_rem]
  have s14 : pr_rem s 14 0 = s 14 0 := by simp [pr_rem]
  generalize pr_rem s = s' at *
  generalize pm_sh t = t' at *
  have hoff : ∀ i : Nat, pr_off t' i + (if i = 0 then 0 else 1) = pr_off t i := by
    intro i
    induction i with
    | zero => rfl
    | succ i ih =>
      have e1 : pr_off t' (i + 1) = pr_off t' i + (t' 41 i).toNat := rfl
      have e2 : pr_off t (i + 1) = pr_off t i + (t 41 i).toNat := rfl
      rw [e1, e2, e41, ← ih]
      by_cases e : i = 0
      · subst e; rw [if_pos rfl, if_pos rfl, if_neg (by omega)]; omega
      · rw [if_neg e, if_neg e, if_neg (by omega)]; omega
  refine ⟨by omega, ?_, ?_, ?_, ?_, ?_, ?_, ?_, ?_, ?_⟩
  · intro i hi
    rw [e50] at hi
    rw [e41]
    have := h.2.1 i hi
    split <;> omega
  · have h1 := hoff (t 50 0).toNat
    rw [if_neg (by omega)] at h1
    have := h.2.2.1
    rw [e50, s13]
    omega
  · intro j k hj hk
    rw [e50] at hj
    rw [e41] at hk
    have hsj := h.2.1 j hj
    have hlj := h.lt hj
    by_cases e : j = 0
    · subst e
      rw [if_pos rfl] at hk
      obtain ⟨h1, h2, h3⟩ := h.2.2.2.1 0 (k + 1) hj (by omega)
      simp only [pr_off, Nat.mul_zero, Nat.zero_add] at h1 h2 h3 ⊢
      rw [e42, if_pos (by omega), s5, if_pos (by omega), e40, s6, if_neg, h3]
      · exact ⟨h1, h2, rfl⟩
      · have := hinj 0 (k + 1) (by omega) (by omega)
        omega
    · rw [if_neg e] at hk
      obtain ⟨h1, h2, h3⟩ := h.2.2.2.1 j k hj hk
      have h4 := hoff j
      rw [if_neg e] at h4
      rw [e42, if_neg (by omega), s5, if_pos (by omega), e40, s6, if_neg, h3]
      · refine ⟨?_, h2, rfl⟩
        rw [← h1]; congr 1; omega
      · have := hinj 0 (pr_off t j + k) (by omega) (by omega)
        omega
  · intro i hi
    rw [e50] at hi
    rw [e40, e57]; exact h.2.2.2.2.1 i hi
  · intro i i' hii hi
    rw [e50] at hi
    rw [e40, e40]; exact h.2.2.2.2.2.1 i i' hii hi
  · rw [s14, e57]; exact h.2.2.2.2.2.2.1
  · intro c hc h1
    rw [s6] at h1
    rw [s13]
    by_cases e : c = (s 5 0).toNat
    · rw [if_pos e] at h1; exact absurd rfl h1
    · rw [if_neg e] at h1
      obtain ⟨k, h2, h3⟩ := h.2.2.2.2.2.2.2.1 c hc h1
      have hk0 : k ≠ 0 := fun e2 => by subst e2; omega
      refine ⟨k - 1, by omega, ?_⟩
      rw [s5, if_pos (by omega), show k - 1 + 1 = k by omega]; exact h3
  · intro a b hab hb
    rw [s13] at hb
    rw [s5, s5, if_pos (by omega), if_pos (by omega)]
    exact hinj (a + 1) (b + 1) (by omega) (by omega)
  · have h1 := h.2.2.2.2.2.2.2.2.2
    rw [py_cnt_up (P := fun c => decide (s' 6 c ≠ 0)) (Q := fun c => decide (s 6 c ≠ 0)) (k := (s 5 0).toNat) (by omega) (by rw [s6, if_pos rfl]; rfl) (by simp; omega) (fun i hi hne => by rw [s6, if_neg hne])] at h1
    rw [s13]; omega
/-- the reference's first train goes -/
def pm_rt (t : py_Z) : py_Z := fun g i =>
  if g = 50 then (if i = 0 then t 50 0 - 1 else t 50 i) else if g = 40 ∨ g = 41 then (if (i : Int) < t 50 0 - 1 then t g (i + 1) else t g i)
  else if g = 42 then (if ((i / 40 : Nat) : Int) < t 50 0 - 1 then t 42 (i + 40) else t 42 i) else t g i
theorem pr_off_shift {t t' : py_Z} (h0 : t 41 0 = 0) : ∀ n : Nat, (∀ i : Nat, i < n → t' 41 i = t 41 (i + 1)) → pr_off t' n = pr_off t (n + 1)
  | 0, _ => by show 0 = 0 + (t 41 0).toNat; rw [h0]; rfl
  | n + 1, h => by
    show pr_off t' n + _ = pr_off t (n + 1) + _
    rw [pr_off_shift h0 n (fun i hi => h i (by omega)), h n (by omega)]
theorem pr_RV.rt {s t : py_Z} (h : pr_RV s t) (hn : 0 < t 50 0) (hs : t 41 0 = 0) : pr_RV s (pm_rt t) := by
  have h0 := h.1
  have e50 : pm_rt t 50 0 = t 50 0 - 1 := by simp [pm_rt]
  have e57 : pm_rt t 57 0 = t 57 0 := by simp [pm_rt]
  have e40 : ∀ i : Nat, (i : Int) < t 50 0 - 1 → pm_rt t 40 i = t 40 (i + 1) := fun i hi => by simp [pm_rt, hi]
  have e41 : ∀ i : Nat, (i : Int) < t 50 0 - 1 → pm_rt t 41 i = t 41 (i + 1) := fun i hi => by simp [pm_rt, hi]
  have e42 : ∀ j k : Nat, (j : Int) < t 50 0 - 1 → k < 40 → pm_rt t 42 (40 * j + k) = t 42 (40 * (j + 1) + k) := fun j k hj hk => by
    have e1 : (40 * j + k) / 40 = j := by omega
    have e2 : 40 * j + k + 40 = 40 * (j + 1) + k := by omega
    simp [pm_rt, e1, hj, e2]
  generalize pm_rt t = t' at *
  have hoff : ∀ i : Nat, (i : Int) ≤ t 50 0 - 1 → pr_off t' i = pr_off t (i + 1) := fun i hi => pr_off_shift hs i (fun k hk => e41 k (by omega))
  refine ⟨by omega, ?_, ?_, ?_, ?_, ?_, ?_, ?_, ?_, ?_⟩
  · intro i hi
    rw [e50] at hi
    rw [e41 i hi]
    exact h.2.1 (i + 1) (by omega)
  · rw [e50, hoff _ (by omega), show (t 50 0 - 1).toNat + 1 = (t 50 0).toNat by omega]
    exact h.2.2.1
  · intro j k hj hk
    rw [e50] at hj
    rw [e41 j hj] at hk
    have hsj := h.2.1 (j + 1) (by omega)
    rw [e42 j k hj (by omega), e40 j hj, hoff j (by omega)]
    exact h.2.2.2.1 (j + 1) k (by omega) hk
  · intro i hi
    rw [e50] at hi
    rw [e40 i hi, e57]; exact h.2.2.2.2.1 (i + 1) (by omega)
  · intro i i' hii hi
    rw [e50] at hi
    rw [e40 i (by omega), e40 i' hi]; exact h.2.2.2.2.2.1 (i + 1) (i' + 1) (by omega) (by omega)
  · rw [e57]; exact h.2.2.2.2.2.2.1
  · exact h.2.2.2.2.2.2.2.1
  · exact h.2.2.2.2.2.2.2.2.1
  · exact h.2.2.2.2.2.2.2.2.2
/-- only what lies in the trains counts -/
theorem pr_RV.congr {s t t' : py_Z} (h : pr_RV s t) (e50 : t' 50 0 = t 50 0) (e57 : t' 57 0 = t 57 0) (e40 : ∀ j : Nat, (j : Int) < t 50 0 → t' 40 j = t 40 j) (e41 : ∀ j : Nat, (j : Int) < t 50 0 → t' 41 j = t 41 j) (e42 : ∀ j k : Nat, (j : Int) < t 50 0 → (k : Int) < t 41 j → t' 42 (40 * j + k) = t 42 (40 * j + k)) : pr_RV s t' := by
  have h0 := h.1
  have hoff : ∀ i : Nat, (i : Int) ≤ t 50 0 → pr_off t' i = pr_off t i := fun i hi => pr_off_congr i (fun k hk => e41 k (by omega))
  refine ⟨by omega, ?_, ?_, ?_, ?_, ?_, ?_, h.2.2.2.2.2.2.2⟩
  · intro j hj; rw [e50] at hj; rw [e41 j hj]; exact h.2.1 j hj
  · rw [e50, hoff _ (by omega)]; exact h.2.2.1
  · intro j k hj hk
    rw [e50] at hj
    rw [e41 j hj] at hk
    rw [hoff j (by omega), e42 j k hj hk, e40 j hj]; exact h.2.2.2.1 j k hj hk
  · intro j hj; rw [e50] at hj; rw [e40 j hj, e57]; exact h.2.2.2.2.1 j hj
  · intro i j hij hj; rw [e50] at hj; rw [e40 i (by omega), e40 j hj]; exact h.2.2.2.2.2.1 i j hij hj
  · rw [e57]; exact h.2.2.2.2.2.2.1
/-- only three arrays and two numbers of the class count -/
theorem pr_RV.congrS {s s' t : py_Z} (h : pr_RV s t) (e5 : ∀ i, s' 5 i = s 5 i) (e6 : ∀ i, s' 6 i = s 6 i) (e13 : s' 13 0 = s 13 0) (e14 : s' 14 0 = s 14 0) : pr_RV s' t := by
  refine ⟨h.1, h.2.1, by rw [e13]; exact h.2.2.1, ?_, h.2.2.2.2.1, h.2.2.2.2.2.1, by rw [e14]; exact h.2.2.2.2.2.2.1, ?_, ?_, ?_⟩
  · intro j k hj hk; rw [e5, e6]; exact h.2.2.2.1 j k hj hk
  · intro c hc h1
    rw [e6] at h1
    obtain ⟨k, h2, h3⟩ := h.2.2.2.2.2.2.2.1 c hc h1
    exact ⟨k, by rw [e13]; exact h2, by rw [e5]; exact h3⟩
  · intro a b hab hb; rw [e13] at hb; rw [e5, e5]; exact h.2.2.2.2.2.2.2.2.1 a b hab hb
  · rw [e13, ← h.2.2.2.2.2.2.2.2.2, py_cnt_congr (fun k _ => by rw [e6])]
theorem pr_RW.congr {s t s' t' : py_Z} (h : pr_RW s t) (e5 : ∀ i, s' 5 i = s 5 i) (e6 : ∀ i, s' 6 i = s 6 i) (e13 : s' 13 0 = s 13 0) (e14 : s' 14 0 = s 14 0) (e50 : t' 50 0 = t 50 0) (e57 : t' 57 0 = t 57 0) (e40 : ∀ j : Nat, t' 40 j = t 40 j) (e41 : ∀ j : Nat, t' 41 j = t 41 j) (e42 : ∀ j, t' 42 j = t 42 j) : pr_RW s' t' := by
  refine ((h.rv.congrS e5 e6 e13 e14).congr e50 e57 (fun j _ => e40 j) (fun j _ => e41 j) (fun j k _ _ => e42 _)).rw (fun j hj => ?_)
  rw [e50] at hj; rw [e41]; exact (h.2.1 j hj).1
