/-! PURE: in the middle of a step -/
def ph_PV (t : py_Z) (y : Int) : Prop := y = -1 ∨ ((0 ≤ y ∧ y < 640) ∧ 0 < t 30 y.toNat)
def ph_E (t : py_Z) (y : Int) : Int := if y < 0 then -1 else 32 * t 31 y.toNat + t 32 y.toNat
def ph_MH (t : py_Z) (e : Int) : Prop :=
  (0 ≤ t 58 0 ∧ t 58 0 ≤ 600) ∧
  (∀ x : Nat, x < 640 → 0 ≤ t 30 x ∧ t 30 x ≤ t 58 0 ∧ (t 58 0 ≤ x → t 30 x = 0)) ∧
  (∀ x : Nat, x < 640 → 0 < t 30 x → ∃ c k : Nat, c < 40 ∧ (k : Int) < t 38 c ∧ ph_x t c k = x ∧ t 31 x = c ∧ t 32 x = ph_pos t c k) ∧
  (∀ c k : Nat, c < 40 → (c : Int) ≠ e → (k : Int) < t 38 c → 0 < t 30 (ph_x t c k) ∧ t 31 (ph_x t c k) = c ∧ t 32 (ph_x t c k) = ph_pos t c k) ∧
  (∀ r : Nat, r < 16 → ph_PV t (t 43 r)) ∧
  (∀ x : Nat, x < 640 → 0 < t 30 x → ∀ i : Nat, (i : Int) < t 33 x → ph_PV t (t 35 (12 * x + i)))
/-- what has been moved out of a car, and how many words -/
def ph_mc (t : py_Z) (e : Nat) (m : Nat) : Nat := py_cnt (fun k => decide (t 31 (ph_x t e k) ≠ e)) m
def ph_mw (t : py_Z) (e : Nat) : Nat → Nat
  | 0 => 0
  | m + 1 => ph_mw t e m + (if t 31 (ph_x t e m) = e then 0 else ph_sz t (ph_x t e m))
theorem ph_mw_le {t : py_Z} {e : Nat} : ∀ m : Nat, ph_mw t e m ≤ ph_pos t e m
  | 0 => Nat.le_refl _
  | m + 1 => by
    have := ph_mw_le (t := t) (e := e) m
    show ph_mw t e m + (if t 31 (ph_x t e m) = e then 0 else ph_sz t (ph_x t e m)) ≤ ph_pos t e m + ph_sz t (ph_x t e m)
    split <;> omega
theorem ph_mw_un {t : py_Z} {e k : Nat} (hu : t 31 (ph_x t e k) = e) : ∀ m : Nat, k < m → ph_mw t e m + ph_sz t (ph_x t e k) ≤ ph_pos t e m
  | 0, h => absurd h (by omega)
  | m + 1, h => by
    show ph_mw t e m + (if t 31 (ph_x t e m) = e then 0 else ph_sz t (ph_x t e m)) + _ ≤ ph_pos t e m + ph_sz t (ph_x t e m)
    by_cases e2 : k = m
    · subst e2
      have := ph_mw_le (t := t) (e := e) k
      rw [if_pos hu]; omega
    · have := ph_mw_un hu m (by omega)
      split <;> omega
theorem ph_mw_up {t t' : py_Z} {e k : Nat} (hx : ∀ j, ph_x t' e j = ph_x t e j) (hs : ∀ y, ph_sz t' y = ph_sz t y) (hu : t 31 (ph_x t e k) = e) (hm : t' 31 (ph_x t e k) ≠ e) (ho : ∀ j : Nat, j ≠ k → ph_x t e j ≠ ph_x t e k → t' 31 (ph_x t e j) = t 31 (ph_x t e j)) : ∀ m : Nat, (∀ j : Nat, j < m → j ≠ k → ph_x t e j ≠ ph_x t e k) → ph_mw t' e m = ph_mw t e m + (if k < m then ph_sz t (ph_x t e k) else 0)
  | 0, _ => rfl
  | m + 1, hi => by
    show ph_mw t' e m + (if t' 31 (ph_x t' e m) = e then 0 else ph_sz t' (ph_x t' e m)) = ph_mw t e m + (if t 31 (ph_x t e m) = e then 0 else ph_sz t (ph_x t e m)) + _
    rw [ph_mw_up hx hs hu hm ho m (fun j hj => hi j (by omega)), hx, hs]
    by_cases e2 : m = k
    · subst e2
      rw [if_neg (by omega), if_neg hm, if_pos hu, if_pos (by omega)]
    · rw [ho m e2 (hi m (by omega) e2)]
      by_cases e3 : k < m
      · rw [if_pos e3, if_pos (show k < m + 1 by omega)]; omega
      · rw [if_neg e3, if_neg (show ¬ k < m + 1 by omega)]; omega
def ph_Mid (s t s0 t0 : py_Z) (e : Nat) : Prop :=
  pr_RW s t ∧ ph_TH s t (ph_E t0) ∧ ph_MH t e ∧
  (∀ r : Nat, r < 16 → s 7 r = ph_E t0 (t 43 r)) ∧
  (s 20 0 = e ∧ t 59 0 = e ∧ e < 40 ∧ t 42 0 = e ∧ 0 < t 50 0) ∧
  (s 18 0 = t 55 0 ∧ s 19 0 = t 56 0) ∧
  ((∀ g i, (g = 7 ∨ (10 ≤ g ∧ g ≤ 12) ∨ (15 ≤ g ∧ g ≤ 17) ∨ 23 ≤ g) → s g i = s0 g i) ∧ (∀ g i, (g = 30 ∨ (33 ≤ g ∧ g ≤ 36) ∨ g = 43 ∨ (45 ≤ g ∧ g ≤ 48) ∨ (51 ≤ g ∧ g ≤ 54) ∨ 58 ≤ g) → t g i = t0 g i)) ∧
  (t 38 e = t0 38 e ∧ t 37 e = t0 37 e ∧ ∀ k : Nat, k < 16 → t 39 (16 * e + k) = t0 39 (16 * e + k)) ∧
  (∀ x : Nat, x < 640 → 0 < t 30 x → (0 ≤ t0 31 x ∧ t0 31 x < 40) ∧ (0 ≤ t0 32 x ∧ t0 32 x < 31) ∧ (t0 31 x ≠ e → t 31 x = t0 31 x ∧ t 32 x = t0 32 x) ∧ (t0 31 x = e → ∃ k : Nat, (k : Int) < t 38 e ∧ ph_x t e k = x)) ∧
  (∀ k : Nat, (k : Int) < t 38 e → 0 < t 30 (ph_x t e k) ∧ t0 31 (ph_x t e k) = e ∧ t0 32 (ph_x t e k) = ph_pos t e k ∧ ((t 31 (ph_x t e k) = e ∧ t 32 (ph_x t e k) = ph_pos t e k ∧ s 8 (ph_pos t e k) = -1) ∨ (t 31 (ph_x t e k) ≠ e ∧ s 8 (ph_pos t e k) = 32 * t 31 (ph_x t e k) + t 32 (ph_x t e k)))) ∧
  (s 21 0 = ph_mc t e (t 38 e).toNat) ∧
  (s 13 0 < 40 ∨ ∃ f : Nat, f < 40 ∧ s 6 f ≠ 0 ∧ f ≠ e ∧ t 37 f ≤ ph_mw t e (t 38 e).toNat) ∧
  (t0 57 0 < 99999 ∧ ((t 50 0 = t0 50 0 ∧ t 57 0 = t0 57 0) ∨ (t0 50 0 = 1 ∧ t 50 0 = 2 ∧ t 57 0 = t0 57 0 + 1))) ∧
  (∀ c : Nat, s0 6 c ≠ 0 → s 6 c = s0 6 c)
section PMID
variable {s t s0 t0 : py_Z} {e : Nat}
/-- things of the car lie at places of their own -/
theorem ph_Mid.inj (h : ph_Mid s t s0 t0 e) {k m : Nat} (hk : (k : Int) < t 38 e) (hm : (m : Int) < t 38 e) (hne : k ≠ m) : ph_x t e k ≠ ph_x t e m ∧ ph_pos t e k ≠ ph_pos t e m := by
  obtain ⟨a1, a2, a3, a4, a5, a6, a7, a8, a9, a10, a11⟩ := h
  obtain ⟨b1, b2, b3, b4⟩ := a10 k hk
  obtain ⟨c1, c2, c3, c4⟩ := a10 m hm
  have h2 : ph_pos t e k ≠ ph_pos t e m := by
    rcases Nat.lt_or_gt_of_ne hne with h2 | h2
    · have := ph_pos_lt (t := t) (c := e) h2; unfold ph_sz at this; omega
    · have := ph_pos_lt (t := t) (c := e) h2; unfold ph_sz at this; omega
  exact ⟨fun e2 => by rw [e2] at b3; omega, h2⟩
/-- where a thing is, to the class: its place of before -/
theorem ph_Mid.E (h : ph_Mid s t s0 t0 e) {y : Int} (hy : ph_PV t y) : (y = -1 ∧ ph_E t0 y = -1) ∨ (0 ≤ y ∧ y < 640 ∧ 0 < t 30 y.toNat ∧ ph_E t0 y = 32 * t0 31 y.toNat + t0 32 y.toNat ∧ (0 ≤ t0 31 y.toNat ∧ t0 31 y.toNat < 40) ∧ (0 ≤ t0 32 y.toNat ∧ t0 32 y.toNat < 31)) := by
  obtain ⟨a1, a2, a3, a4, a5, a6, a7, a8, a9, a10, a11⟩ := h
  rcases hy with e1 | ⟨e1, e2⟩
  · subst e1; exact Or.inl ⟨rfl, by simp [ph_E]⟩
  · have := a9 y.toNat (by omega) e2
    exact Or.inr ⟨e1.1, e1.2, e2, by unfold ph_E; rw [if_neg (by omega)], this.1, this.2.1⟩
theorem ph_Mid.still (h : ph_Mid s t s0 t0 e) {y : Int} (hy : ph_PV t y) {K : ty_S → Int32 → Prop} (h1 : 0 ≤ y → t 31 y.toNat = e → K (py_O s) (py_o 1)) (h0 : ¬ (0 ≤ y ∧ t 31 y.toNat = e) → K (py_O s) (py_o 0)) : eX3_isStillThere (py_O s) (py_o (ph_E t0 y)) K := by
  obtain ⟨a1, a2, a3, a4, a5, a6, a7, a8, a9, a10, a11⟩ := id h
  rcases h.E hy with ⟨e1, e2⟩ | ⟨e1, e2, e3, e4, e5, e6⟩
  · rw [e2]
    unfold eX3_isStillThere
    try simp only [py_O_ap, py_l0, py_l1, py_l2, py_l3, py_l4, py_l5, py_l6, py_l7, py_l8, py_l9, py_l12, py_l16, py_l32, py_l40, py_l100, py_l640, py_l1280, py_neg, py_add, py_sub, py_mul, py_stO]
    exact py_ilt (fun _ => h0 (by omega)) (fun c => absurd c (by omega))
  · rw [e4]
    obtain ⟨b1, b2, b3, b4⟩ := a9 y.toNat (by omega) e3
    unfold eX3_isStillThere
    try simp only [py_O_ap, py_l0, py_l1, py_l2, py_l3, py_l4, py_l5, py_l6, py_l7, py_l8, py_l9, py_l12, py_l16, py_l32, py_l40, py_l100, py_l640, py_l1280, py_neg, py_add, py_sub, py_mul, py_stO]
    refine py_ilt (fun c => absurd c (by omega)) (fun _ => ?_)
    refine pr_carOf (fun _ _ => ?_) (fun c => absurd c (by omega))
    try simp only [py_O_ap, py_l0, py_l1, py_l2, py_l3, py_l4, py_l5, py_l6, py_l7, py_l8, py_l9, py_l12, py_l16, py_l32, py_l40, py_l100, py_l640, py_l1280, py_neg, py_add, py_sub, py_mul, py_stO]
    rw [py_div (by omega) (by omega)]
    try simp only [py_O_ap, py_l0, py_l1, py_l2, py_l3, py_l4, py_l5, py_l6, py_l7, py_l8, py_l9, py_l12, py_l16, py_l32, py_l40, py_l100, py_l640, py_l1280, py_neg, py_add, py_sub, py_mul, py_stO]
    rw [a5.1, show (32 * t0 31 y.toNat + t0 32 y.toNat) / 32 = t0 31 y.toNat by omega]
    have e7 : 32 * t0 31 y.toNat + t0 32 y.toNat - t0 31 y.toNat * 32 = t0 32 y.toNat := by omega
    rw [e7]
    refine py_ieq (fun c => py_and ?_) (fun c => h0 (fun c2 => c (by have := (b3 c).1; omega)))
    rw [py_nat (by omega)]
    obtain ⟨k, hk, hk2⟩ := b4 c
    obtain ⟨c1, c2, c3, c4⟩ := a10 k hk
    rw [hk2] at c1 c2 c3 c4
    have e8 : (t0 32 y.toNat).toNat = ph_pos t e k := by omega
    rw [e8]
    have hh : (0 < t 30 y.toNat → ∃ c k : Nat, c < 40 ∧ (k : Int) < t 38 c ∧ ph_x t c k = y.toNat ∧ t 31 y.toNat = c ∧ t 32 y.toNat = ph_pos t c k) := a3.2.2.1 y.toNat (by omega)
    obtain ⟨d, m, hd, hm, hm2, hm3, hm4⟩ := hh e3
    have hf := a2.fit hd hm
    rcases c4 with ⟨c5, c6, c7⟩ | ⟨c5, c6⟩
    · rw [c7]
      exact py_ieq (fun _ => h1 (by omega) c5) (fun c => absurd rfl c)
    · rw [c6]
      refine py_ieq (fun c => absurd c (by omega)) (fun _ => h0 (fun c => c5 c.2)) (by omega)
theorem ph_Mid.inCar (h : ph_Mid s t s0 t0 e) {y : Int} (hy : ph_PV t y) {K : ty_S → Int32 → Prop} (h1 : 0 ≤ y → t 31 y.toNat = e → K (py_O t) (py_o 1)) (h0 : ¬ (0 ≤ y ∧ t 31 y.toNat = e) → K (py_O t) (py_o 0)) : eX5_isInCar (py_O t) (py_o y) K := by
  obtain ⟨a1, a2, a3, a4, a5, a6, a7, a8, a9, a10, a11⟩ := id h
  refine pm_isInCar ?_ (fun x hx => by have := a3.2.1 x hx; have := a3.1; omega) (fun x hx hl => ?_) (by omega) (fun e1 e2 e3 => h1 e1 (by omega)) (fun c => h0 (fun c2 => c ⟨c2.1, ?_, by omega⟩))
  · rcases hy with e1 | ⟨e1, e2⟩ <;> omega
  · obtain ⟨c, k, hc, hk, h1, h2, h3⟩ := a3.2.2.1 x hx hl
    omega
  · rcases hy with e1 | ⟨e1, e2⟩
    · omega
    · exact e2
/-- one thing is moved -/
theorem ph_Mid.move (h : ph_Mid s t s0 t0 e) {y j : Nat} (hy : y < 640) (hl : 0 < t 30 y) (hin : t 31 y = e) (hj : (j : Int) < t 50 0) :
    ∃ s' t' : py_Z, (∀ K : ty_S → Prop, K (py_O s') → eX3_moveOne (py_O s) (py_o (ph_E t0 y)) (py_o (t 40 j)) K) ∧ (∀ K : ty_S → Prop, K (py_O t') → eX5_move (py_O t) (py_o y) (py_o j) K) ∧
      ph_Mid s' t' s0 t0 e ∧ t' 31 y ≠ e ∧ (∀ x : Nat, x ≠ y → t' 31 x = t 31 x ∧ t' 32 x = t 32 x) ∧ s' 22 0 = s 22 0 ∧ s' 21 0 = s 21 0 + 1 ∧ (0 ≤ s 21 0 ∧ s 21 0 < 16) ∧
      (∀ i : Nat, s' 9 i = if (i : Int) = s 21 0 then 32 * t' 31 y + t' 32 y else s 9 i) ∧ (∀ i, t' 44 i = t 44 i) ∧ (t' 50 0 = t 50 0 ∧ ∀ i, t' 40 i = t 40 i) := by
  obtain ⟨a1, a2, a3, a4, a5, a6, a7, a8, a9, a10, a11, a12, a13⟩ := id h
  have h0 := a1.1
  have hPV : ph_PV t y := Or.inr ⟨by omega, by simpa using hl⟩
  obtain ⟨b1, b2, b3, b4⟩ := a9 y hy hl
  have ht0 : t0 31 y = e := by
    by_cases c : t0 31 y = e
    · exact c
    · have := (b3 c).1; omega
  obtain ⟨k, hk, hky⟩ := b4 ht0
  obtain ⟨c1, c2, c3, c4⟩ := a10 k hk
  obtain ⟨w1, w2, w3, w4, w5, w6, w7⟩ := a2.2.1 e k a5.2.2.1 hk
  obtain ⟨f1, f2, f3, f4⟩ := a2.fit a5.2.2.1 hk
  rw [hky] at c1 c2 c3 c4 w2 w3 w4 w5 w6 w7 f1 f4
  have hC := a2.1 e a5.2.2.1
  have hEy : ph_E t0 y = ((32 * e + ph_pos t e k : Nat) : Int) := by
    unfold ph_E
    rw [if_neg (by omega)]
    simp only [Int.toNat_natCast]
    omega
  have hcm : ph_mc t e (t 38 e).toNat < (t 38 e).toNat := py_cnt_lt (k := k) (by omega) (by rw [hky, hin]; simp)
  have hmw := ph_mw_un (t := t) (e := e) (k := k) (by rw [hky]; exact hin) (t 38 e).toNat (by omega)
  rw [hky] at hmw
  have hpos4 := hC.2.2.2.1
  have hC16 := hC.2.2.1
  obtain ⟨c, s1, t1, p1, p2, p3, p4, p5, p6, p7, p8, p9, p10, p11, p12⟩ := pp_put a1 hj (e := e) (n := 2 + t 33 y + t 34 y) a5.1 a5.2.1 (by omega) (fun _ e2 => by
      simp only [Int.toNat_natCast] at e2
      have := (a1.2.2.2.1 0 0 (by omega) (by have := a1.2.1 0 (by omega); omega)).2.2
      simp only [Nat.mul_zero, Nat.add_zero] at this
      rw [a5.2.2.2.1] at this
      simp only [Int.toNat_natCast] at this
      have := a1.2.2.2.2.1 0 (by omega)
      omega) (by omega) (fun d hd => by have := a2.1 d hd; unfold ph_C at this; omega) (fun d hd hz => by
      have := a2.1 d hd
      have h6 := this.2.2.2.2.2.1 hz
      have h7 := this.2.2.2.1
      rw [h6] at h7
      exact ⟨h7, h6⟩) (by
      rcases a12 with e1 | ⟨f, g1, g2, g3, g4⟩
      · exact Or.inl e1
      · exact Or.inr ⟨f, g1, g2, by omega, by omega⟩)
  have q0 : ∀ i, s1 0 i = s 0 i := fun i => p7 0 i (by decide) (by decide) (by decide)
  have q1 : ∀ i, s1 1 i = s 1 i := fun i => p7 1 i (by decide) (by decide) (by decide)
  have q2 : ∀ i, s1 2 i = s 2 i := fun i => p7 2 i (by decide) (by decide) (by decide)
  have q3 : ∀ i, s1 3 i = s 3 i := fun i => p7 3 i (by decide) (by decide) (by decide)
  have q4 : ∀ i, s1 4 i = s 4 i := fun i => p7 4 i (by decide) (by decide) (by decide)
  have hCc := a2.1 c p1
  have r30 : ∀ i, t1 30 i = t 30 i := fun i => p8 30 i (by decide) (by decide)
  have r31 : ∀ i, t1 31 i = t 31 i := fun i => p8 31 i (by decide) (by decide)
  have r32 : ∀ i, t1 32 i = t 32 i := fun i => p8 32 i (by decide) (by decide)
  have r33 : ∀ i, t1 33 i = t 33 i := fun i => p8 33 i (by decide) (by decide)
  have r34 : ∀ i, t1 34 i = t 34 i := fun i => p8 34 i (by decide) (by decide)
  have r35 : ∀ i, t1 35 i = t 35 i := fun i => p8 35 i (by decide) (by decide)
  have r36 : ∀ i, t1 36 i = t 36 i := fun i => p8 36 i (by decide) (by decide)
  have r37 : ∀ i, t1 37 i = t 37 i := fun i => p8 37 i (by decide) (by decide)
  have r38 : ∀ i, t1 38 i = t 38 i := fun i => p8 38 i (by decide) (by decide)
  have r39 : ∀ i, t1 39 i = t 39 i := fun i => p8 39 i (by decide) (by decide)
  have hcnt2 := ph_pos_two (t := t) (c := c) (t 38 c).toNat
  have hcpos := hCc.2.2.2.1
  have hccnt := hCc.2.2.1
  have hc15 : t 38 c ≤ 15 := by omega
  have hcc : (((t 38 c).toNat : Nat) : Int) = t 38 c := Int.toNat_of_nonneg hccnt.1
  have hce : c ≠ e := by omega
  have hbr := hCc.2.1
  obtain ⟨X, hX⟩ : ∃ X, X = py_st (py_st (py_st (py_st (py_st (pr_br s1 (32 * e + ph_pos t e k) c (t 33 y) (t 34 y)) 8 (ph_pos t e k) (32 * c + t 37 c)) 9 (s 21 0).toNat (32 * c + t 37 c)) 21 0 (s 21 0 + 1)) 18 0 (s 18 0 + 1)) 19 0 (s 19 0 + (2 + t 33 y + t 34 y)) := ⟨_, rfl⟩
  obtain ⟨Y, hY⟩ : ∃ Y, Y = py_st (py_st (pm_lay t1 y c) 55 0 (t 55 0 + 1)) 56 0 (t 56 0 + (2 + t 33 y + t 34 y)) := ⟨_, rfl⟩
  have hb2 : s1 2 c = t 37 c := by rw [q2]; exact hbr
  have x0 : ∀ q : Nat, X 0 q = if 32 * (c : Int) + t 37 c ≤ q ∧ (q : Int) < 32 * c + t 37 c + (2 + t 33 y + t 34 y) then s 0 (32 * e + ph_pos t e k + (q - (32 * (c : Int) + t 37 c).toNat)) else s 0 q := fun q => by rw [hX]; simp [py_st, pr_br, hb2, q0]
  have x1 : ∀ q : Nat, X 1 q = if 32 * (c : Int) + t1 37 c + 2 ≤ q ∧ (q : Int) < 32 * c + t1 37 c + 2 + t1 33 y then 1 else s1 1 q := fun q => by rw [hX]; simp [py_st, pr_br, hb2, r37, r33]
  have x2 : ∀ d : Nat, X 2 d = if d = c then t1 37 c + (2 + t1 33 y + t1 34 y) else s1 2 d := fun d => by rw [hX]; simp [py_st, pr_br, hb2, r37, r33, r34]
  have x3 : ∀ d : Nat, X 3 d = if d = c then t1 38 c + 1 else s1 3 d := fun d => by rw [hX]; simp [py_st, pr_br, q3, hCc.1, r38]
  have x4 : ∀ d : Nat, X 4 d = if d = c then 32 * (c : Int) + t1 37 c else s1 4 d := fun d => by rw [hX]; simp [py_st, pr_br, hb2, r37]
  have x8 : ∀ i : Nat, X 8 i = if i = ph_pos t e k then 32 * (c : Int) + t 37 c else s 8 i := fun i => by
    rw [hX]; simp [py_st, pr_br]; rw [p7 8 i (by decide) (by decide) (by decide)]
  have x9 : ∀ i : Nat, X 9 i = if i = (s 21 0).toNat then 32 * (c : Int) + t 37 c else s 9 i := fun i => by
    rw [hX]; simp [py_st, pr_br]; rw [p7 9 i (by decide) (by decide) (by decide)]
  have x21 : X 21 0 = s 21 0 + 1 := by rw [hX]; simp [py_st]
  have x18 : X 18 0 = s 18 0 + 1 := by rw [hX]; simp [py_st]
  have x19 : X 19 0 = s 19 0 + (2 + t 33 y + t 34 y) := by rw [hX]; simp [py_st]
  have xg : ∀ g i, 4 < g → g ≠ 8 → g ≠ 9 → g ≠ 18 → g ≠ 19 → g ≠ 21 → X g i = s1 g i := fun g i h1 h2 h3 h4 h5 h6 => by
    rw [hX]
    simp only [py_st, pr_br, h2, h3, h4, h5, h6, if_false]
    rw [if_neg (by omega), if_neg (by omega), if_neg (by omega), if_neg (by omega), if_neg (by omega)]
  have y31 : ∀ x, Y 31 x = if x = y then (c : Int) else t 31 x := fun x => by rw [hY]; simp [py_st, pm_lay, r31]
  have y32 : ∀ x, Y 32 x = if x = y then t 37 c else t 32 x := fun x => by rw [hY]; simp [py_st, pm_lay, r32, r37]
  have y37 : ∀ d, Y 37 d = if d = c then t 37 c + (2 + t 33 y + t 34 y) else t 37 d := fun d => by rw [hY]; simp [py_st, pm_lay, r37, r33, r34]
  have y38 : ∀ d, Y 38 d = if d = c then t 38 c + 1 else t 38 d := fun d => by rw [hY]; simp [py_st, pm_lay, r38]
  have y39 : ∀ i, Y 39 i = if i = 16 * c + (t 38 c).toNat then (y : Int) else t 39 i := fun i => by rw [hY]; simp [py_st, pm_lay, r38, r39]
  have y55 : Y 55 0 = t 55 0 + 1 := by rw [hY]; simp [py_st]
  have y56 : Y 56 0 = t 56 0 + (2 + t 33 y + t 34 y) := by rw [hY]; simp [py_st]
  have yg : ∀ g i, g ≠ 31 → g ≠ 32 → g ≠ 37 → g ≠ 38 → g ≠ 39 → g ≠ 55 → g ≠ 56 → Y g i = t1 g i := fun g i h1 h2 h3 h4 h5 h6 h7 => by
    rw [hY]; simp [py_st, pm_lay, h1, h2, h3, h4, h5, h6, h7]
  have ylay : ∀ g i, 30 ≤ g → g ≤ 39 → Y g i = pm_lay t1 y c g i := fun g i h1 h2 => by
    rw [hY, py_sn (by omega), py_sn (by omega)]
  have esz : ∀ z, ph_sz Y z = ph_sz t z := fun z => by unfold ph_sz; rw [yg 33 z (by decide) (by decide) (by decide) (by decide) (by decide) (by decide) (by decide), yg 34 z (by decide) (by decide) (by decide) (by decide) (by decide) (by decide) (by decide), r33, r34]
  have ex : ∀ d m : Nat, d < 40 → (m : Int) < t 38 d → ph_x Y d m = ph_x t d m := fun d m hd hm => by
    unfold ph_x
    have hd3 := (a2.1 d hd).2.2.1
    rw [y39, if_neg]
    intro e9
    have e10 : d = c := by omega
    subst e10
    omega
  have exn : ph_x Y c (t 38 c).toNat = y := by unfold ph_x; rw [y39, if_pos rfl]; simp
  have ep : ∀ d m : Nat, d < 40 → (m : Int) ≤ t 38 d → ph_pos Y d m = ph_pos t d m := fun d m hd hm => ph_pos_congr m (fun i hi => ⟨ex d i hd (by omega), esz _⟩)
  have hTH : ph_TH X Y (ph_E t0) := by
    have h1 := ph_TH.lay (s' := X) (x := y) (c := c) (a2.congr (s' := s1) (t' := t1) (fun g i hg => p7 g i (by omega) (by omega) (by omega)) (fun d _ hz => by
        by_cases e9 : s 6 d = 0
        · exact e9
        · rw [p10 d e9] at hz; exact absurd hz e9) (fun g i _ _ _ _ => p8 g i (by omega) (by omega))) hy p1 (by rw [r33]; exact w2) (by rw [r34]; exact w3) (by rw [r37, r33, r34]; exact p3) (fun q hq => by
        rw [r37, r33, r34] at hq
        rw [x0, if_neg hq, q0]) x1 x2 x3 x4 (fun d _ hz => by
        rw [xg 6 d (by decide) (by decide) (by decide) (by decide) (by decide) (by decide)] at hz
        exact ⟨fun e9 => p9 (by rw [← e9]; exact hz), hz⟩) (by
        rw [x0, r37, if_pos (by omega), r30, ← w4]
        congr 1; omega) (by
        rw [x0, r37, if_pos (by omega), r33, r34, ← w5]
        congr 1; omega) (fun i hi => by
        rw [r33] at hi
        rw [x0, r37, if_pos (by omega), r35, ← (w6 i hi).1]
        congr 1; omega) (fun i hi => by
        rw [r34] at hi
        rw [x0, r37, r33, if_pos (by omega), r36, ← w7 i hi]
        congr 1; omega)
    exact h1.congr (fun g i _ => rfl) (fun _ _ hz => hz) (fun g i h1 h2 _ _ => ylay g i h1 h2)
  have hyne : Y 31 y ≠ e := by rw [y31, if_pos rfl]; omega
  have yo : ∀ x : Nat, x ≠ y → Y 31 x = t 31 x ∧ Y 32 x = t 32 x := fun x hx => by rw [y31, y32, if_neg hx, if_neg hx]; exact ⟨rfl, rfl⟩
  have y38e : Y 38 e = t 38 e := by rw [y38, if_neg (fun e9 => hce e9.symm)]
  have hexe : ∀ m : Nat, (m : Int) < t 38 e → ph_x Y e m = ph_x t e m := fun m hm => ex e m a5.2.2.1 hm
  have y30 : ∀ i, Y 30 i = t 30 i := fun i => by rw [yg 30 i (by decide) (by decide) (by decide) (by decide) (by decide) (by decide) (by decide), r30]
  have y33 : ∀ i, Y 33 i = t 33 i := fun i => by rw [yg 33 i (by decide) (by decide) (by decide) (by decide) (by decide) (by decide) (by decide), r33]
  have y35 : ∀ i, Y 35 i = t 35 i := fun i => by rw [yg 35 i (by decide) (by decide) (by decide) (by decide) (by decide) (by decide) (by decide), r35]
  have y43 : ∀ i, Y 43 i = t 43 i := fun i => by rw [yg 43 i (by decide) (by decide) (by decide) (by decide) (by decide) (by decide) (by decide), p8 43 i (by decide) (by decide)]
  have hMH : ph_MH Y e := by
    have e58 : Y 58 0 = t 58 0 := by rw [yg 58 0 (by decide) (by decide) (by decide) (by decide) (by decide) (by decide) (by decide), p8 58 0 (by decide) (by decide)]
    unfold ph_MH
    simp only [e58, y30, y33, y35, y43, ph_PV]
    refine ⟨a3.1, a3.2.1, fun x hx hlx => ?_, fun d m hd hde hm => ?_, a3.2.2.2.2.1, a3.2.2.2.2.2⟩
    · by_cases e9 : x = y
      · subst e9
        exact ⟨c, (t 38 c).toNat, p1, by rw [y38, if_pos rfl, hcc]; exact Int.lt_add_one_of_le (Int.le_refl _), exn, by rw [y31, if_pos rfl], by rw [y32, if_pos rfl, ep c _ p1 (Int.le_of_eq hcc)]; exact hcpos⟩
      · obtain ⟨d, m, hd, hm, hm1, hm2, hm3⟩ := a3.2.2.1 x hx hlx
        refine ⟨d, m, hd, ?_, by rw [ex d m hd hm]; exact hm1, by rw [(yo x e9).1]; exact hm2, by rw [(yo x e9).2, ep d m hd (by omega)]; exact hm3⟩
        rw [y38]
        split
        · rename_i e10; subst e10; omega
        · exact hm
    · by_cases e9 : d = c ∧ m = (t 38 c).toNat
      · obtain ⟨e10, e11⟩ := e9
        subst e10; subst e11
        rw [exn, y31, y32, if_pos rfl, if_pos rfl, ep d _ hd (by omega)]
        exact ⟨hl, rfl, hcpos⟩
      · have hm2 : (m : Int) < t 38 d := by
          rw [y38] at hm
          by_cases e10 : d = c
          · subst e10; rw [if_pos rfl] at hm; omega
          · rwa [if_neg e10] at hm
        obtain ⟨g1, g2, g3⟩ := a3.2.2.2.1 d m hd hde hm2
        have hne : ph_x t d m ≠ y := fun e10 => by rw [e10] at g2; omega
        rw [ex d m hd hm2, ep d m hd (by omega), (yo _ hne).1, (yo _ hne).2]
        exact ⟨g1, g2, g3⟩
  refine ⟨X, Y, fun K hK => ?_, fun K hK => ?_, ⟨?_, hTH, hMH, ?_, ?_, ?_, ⟨?_, ?_⟩, ?_, ?_, ?_, ?_, ?_, ?_, ?_⟩, hyne, yo, ?_, x21, ⟨by omega, by omega⟩, fun i => ?_, fun i => ?_, ?_, fun i => ?_⟩
  · unfold eX3_moveOne
    try simp only [py_O_ap, py_l0, py_l1, py_l2, py_l3, py_l4, py_l5, py_l6, py_l7, py_l8, py_l9, py_l12, py_l16, py_l32, py_l40, py_l100, py_l640, py_l1280, py_neg, py_add, py_sub, py_mul, py_stO]
    refine h.still hPV (fun _ _ => ?_) (fun c => absurd ⟨by omega, by simpa using hin⟩ c)
    refine py_ieq (fun c => absurd c (by omega)) (fun _ => ?_)
    try simp only [py_O_ap, py_l0, py_l1, py_l2, py_l3, py_l4, py_l5, py_l6, py_l7, py_l8, py_l9, py_l12, py_l16, py_l32, py_l40, py_l100, py_l640, py_l1280, py_neg, py_add, py_sub, py_mul, py_stO]
    refine py_ilt (fun _ => ?_) (fun c => absurd c (by omega))
    rw [hEy]
    refine pr_size (r := t 33 y) (n := t 34 y) (by omega) (by omega) (by rw [show (((32 * e + ph_pos t e k : Nat) : Int) + 1).toNat = 32 * e + ph_pos t e k + 1 by omega]; exact w5) (by omega) (by omega) (by omega) (by omega) ?_
    refine p4 _ ?_
    refine pr_bring (r := t 33 y) (n := t 34 y) p1 (by rw [q2]; omega) (by omega) (by omega) (by omega) (by omega) (by rw [q2]; omega) (by omega) (by rw [q0]; exact w5) (by rw [q2]; omega) ?_
    rw [q2, hbr]
    refine py_ieq (fun c => absurd c (by omega)) (fun _ => ?_)
    rw [py_div (by omega) (by omega)]
    try simp only [py_O_ap, py_l0, py_l1, py_l2, py_l3, py_l4, py_l5, py_l6, py_l7, py_l8, py_l9, py_l12, py_l16, py_l32, py_l40, py_l100, py_l640, py_l1280, py_neg, py_add, py_sub, py_mul, py_stO]
    have e1 : ((32 * e + ph_pos t e k : Nat) : Int) - ((32 * e + ph_pos t e k : Nat) : Int) / 32 * 32 = (ph_pos t e k : Nat) := by omega
    rw [e1]
    have e2 : pr_br s1 (32 * e + ph_pos t e k) c (t 33 y) (t 34 y) 21 0 = s 21 0 := by
      show s1 21 0 = s 21 0
      exact p7 21 0 (by decide) (by decide) (by decide)
    have e3 : pr_br s1 (32 * e + ph_pos t e k) c (t 33 y) (t 34 y) 18 0 = s 18 0 := by
      show s1 18 0 = s 18 0
      exact p7 18 0 (by decide) (by decide) (by decide)
    have e4 : pr_br s1 (32 * e + ph_pos t e k) c (t 33 y) (t 34 y) 19 0 = s 19 0 := by
      show s1 19 0 = s 19 0
      exact p7 19 0 (by decide) (by decide) (by decide)
    rw [e2, e3, e4]
    refine py_and (py_and ?_)
    rw [py_nat (by omega), py_nat (by omega)]
    simp only [Int.toNat_natCast]
    try simp only [py_O_ap, py_l0, py_l1, py_l2, py_l3, py_l4, py_l5, py_l6, py_l7, py_l8, py_l9, py_l12, py_l16, py_l32, py_l40, py_l100, py_l640, py_l1280, py_neg, py_add, py_sub, py_mul, py_stO]
    rw [hX] at hK
    exact hK
  · unfold eX5_move
    try simp only [py_O_ap, py_l0, py_l1, py_l2, py_l3, py_l4, py_l5, py_l6, py_l7, py_l8, py_l9, py_l12, py_l16, py_l32, py_l40, py_l100, py_l640, py_l1280, py_neg, py_add, py_sub, py_mul, py_stO]
    refine pm_wordsOf hy ?_
    refine p5 _ ?_
    refine pm_layM hy p1 (by rw [r38]; omega) ?_
    try simp only [py_O_ap, py_l0, py_l1, py_l2, py_l3, py_l4, py_l5, py_l6, py_l7, py_l8, py_l9, py_l12, py_l16, py_l32, py_l40, py_l100, py_l640, py_l1280, py_neg, py_add, py_sub, py_mul, py_stO]
    refine pm_wordsOf hy ?_
    try simp only [py_O_ap, py_l0, py_l1, py_l2, py_l3, py_l4, py_l5, py_l6, py_l7, py_l8, py_l9, py_l12, py_l16, py_l32, py_l40, py_l100, py_l640, py_l1280, py_neg, py_add, py_sub, py_mul, py_stO]
    have e1 : pm_lay t1 y c 55 0 = t 55 0 := by
      show t1 55 0 = t 55 0
      exact p8 55 0 (by decide) (by decide)
    have e2 : pm_lay t1 y c 56 0 = t 56 0 := by
      show t1 56 0 = t 56 0
      exact p8 56 0 (by decide) (by decide)
    have e3 : ∀ v, py_st (pm_lay t1 y c) 55 0 v 33 y = t 33 y := fun v => by
      rw [py_sn (by decide)]
      exact r33 y
    have e4 : ∀ v, py_st (pm_lay t1 y c) 55 0 v 34 y = t 34 y := fun v => by
      rw [py_sn (by decide)]
      exact r34 y
    rw [e1, e2, e3, e4]
    rw [hY] at hK
    exact hK
  · exact p6.congr (fun i => xg 5 i (by decide) (by decide) (by decide) (by decide) (by decide) (by decide)) (fun i => xg 6 i (by decide) (by decide) (by decide) (by decide) (by decide) (by decide)) (xg 13 0 (by decide) (by decide) (by decide) (by decide) (by decide) (by decide)) (xg 14 0 (by decide) (by decide) (by decide) (by decide) (by decide) (by decide)) (yg 50 0 (by decide) (by decide) (by decide) (by decide) (by decide) (by decide) (by decide)) (yg 57 0 (by decide) (by decide) (by decide) (by decide) (by decide) (by decide) (by decide)) (fun i => yg 40 i (by decide) (by decide) (by decide) (by decide) (by decide) (by decide) (by decide)) (fun i => yg 41 i (by decide) (by decide) (by decide) (by decide) (by decide) (by decide) (by decide)) (fun i => yg 42 i (by decide) (by decide) (by decide) (by decide) (by decide) (by decide) (by decide))
  · intro r hr
    rw [xg 7 r (by decide) (by decide) (by decide) (by decide) (by decide) (by decide), p7 7 r (by decide) (by decide) (by decide), y43]
    exact a4 r hr
  · rw [xg 20 0 (by decide) (by decide) (by decide) (by decide) (by decide) (by decide), p7 20 0 (by decide) (by decide) (by decide), yg 59 0 (by decide) (by decide) (by decide) (by decide) (by decide) (by decide) (by decide), p8 59 0 (by decide) (by decide), yg 42 0 (by decide) (by decide) (by decide) (by decide) (by decide) (by decide) (by decide), p12.2.1, yg 50 0 (by decide) (by decide) (by decide) (by decide) (by decide) (by decide) (by decide), p8 50 0 (by decide) (by decide)]
    exact a5
  · rw [x18, x19, y55, y56, a6.1, a6.2]
    exact ⟨rfl, rfl⟩
  · intro g i hg
    rw [xg g i (by omega) (by omega) (by omega) (by omega) (by omega) (by omega), p7 g i (by omega) (by omega) (by omega)]
    exact a7.1 g i hg
  · intro g i hg
    rw [yg g i (by omega) (by omega) (by omega) (by omega) (by omega) (by omega) (by omega), p8 g i (by omega) (by omega)]
    exact a7.2 g i hg
  · refine ⟨by rw [y38e]; exact a8.1, by rw [y37, if_neg (fun e9 => hce e9.symm)]; exact a8.2.1, fun m hm => ?_⟩
    rw [y39, if_neg (by omega)]
    exact a8.2.2 m hm
  · intro x hx hlx
    rw [y30] at hlx
    obtain ⟨g1, g2, g3, g4⟩ := a9 x hx hlx
    refine ⟨g1, g2, fun e9 => ?_, fun e9 => ?_⟩
    · have hne : x ≠ y := fun e10 => e9 (by rw [e10]; exact ht0)
      rw [(yo x hne).1, (yo x hne).2]
      exact g3 e9
    · obtain ⟨m, hm, hm2⟩ := g4 e9
      exact ⟨m, by rw [y38e]; exact hm, by rw [hexe m hm]; exact hm2⟩
  · intro m hm
    rw [y38e] at hm
    obtain ⟨g1, g2, g3, g4⟩ := a10 m hm
    rw [hexe m hm, ep e m a5.2.2.1 (by omega), y30]
    refine ⟨g1, g2, g3, ?_⟩
    by_cases e9 : m = k
    · subst e9
      rw [hky]
      refine Or.inr ⟨hyne, ?_⟩
      rw [x8, if_pos rfl, y31, y32, if_pos rfl, if_pos rfl]
    · obtain ⟨i1, i2⟩ := h.inj hm hk e9
      rw [hky] at i1
      rw [(yo _ i1).1, (yo _ i1).2, x8, if_neg i2]
      exact g4
  · rw [x21, y38e, a11]
    have := py_cnt_up (P := fun m => decide (t 31 (ph_x t e m) ≠ e)) (Q := fun m => decide (Y 31 (ph_x Y e m) ≠ e)) (n := (t 38 e).toNat) (k := k) (by omega) (by rw [hky, hin]; simp) (by rw [hexe k hk, hky]; simpa using hyne) (fun m hm hne => by
      obtain ⟨i1, i2⟩ := h.inj (k := m) (by omega) hk hne
      rw [hky] at i1
      rw [hexe m (by omega), (yo _ i1).1])
    unfold ph_mc
    omega
  · rw [y38e, xg 13 0 (by decide) (by decide) (by decide) (by decide) (by decide) (by decide)]
    have hup := ph_mw_up (t := t) (t' := fun g i => if g = 39 then t 39 i else Y g i) (e := e) (k := k) (fun m => rfl) (fun z => by
      have := esz z
      unfold ph_sz at this ⊢
      simpa using this) (by rw [hky]; exact hin) (by rw [hky]; simpa using hyne) (fun m hm hne => by
      rw [hky] at hne
      simpa using (yo _ hne).1) (t 38 e).toNat (fun m hm hne => (h.inj (k := m) (by omega) hk hne).1)
    rw [hky, if_pos (by omega)] at hup
    have hmw2 : ∀ n : Nat, (n : Int) ≤ t 38 e → ph_mw Y e n = ph_mw (fun g i => if g = 39 then t 39 i else Y g i) e n := by
      intro n
      induction n with
      | zero => intro _; rfl
      | succ n ih =>
        intro hn
        have e9 : ph_x (fun g i => if g = 39 then t 39 i else Y g i) e n = ph_x t e n := by simp [ph_x]
        have e10 : ∀ z, ph_sz (fun g i => if g = 39 then t 39 i else Y g i) z = ph_sz Y z := fun z => by simp [ph_sz]
        simp only [ph_mw]
        rw [ih (by omega), hexe n (by omega), e9, e10]
        simp
    rw [hmw2 _ (by omega), hup]
    have x6 : ∀ f, X 6 f = s1 6 f := fun f => xg 6 f (by decide) (by decide) (by decide) (by decide) (by decide) (by decide)
    by_cases e9 : s1 13 0 < 40
    · exact Or.inl e9
    · refine Or.inr ?_
      rcases a12 with e10 | ⟨f, g1, g2, g3, g4⟩
      · rcases p11 e10 with e11 | e11
        · exact absurd e11 e9
        · refine ⟨c, p1, by rw [x6]; exact p9, hce, ?_⟩
          rw [y37, if_pos rfl]; omega
      · refine ⟨f, g1, by rw [x6, p10 f g2]; exact g2, g3, ?_⟩
        rw [y37]
        split
        · rename_i e11; subst e11; omega
        · omega
  · rw [yg 50 0 (by decide) (by decide) (by decide) (by decide) (by decide) (by decide) (by decide), p8 50 0 (by decide) (by decide), yg 57 0 (by decide) (by decide) (by decide) (by decide) (by decide) (by decide) (by decide), p8 57 0 (by decide) (by decide)]
    exact a13.1
  · intro c9 h9
    rw [xg 6 c9 (by decide) (by decide) (by decide) (by decide) (by decide) (by decide), p10 c9 (by rw [a13.2 c9 h9]; exact h9)]
    exact a13.2 c9 h9
  · rw [xg 22 0 (by decide) (by decide) (by decide) (by decide) (by decide) (by decide), p7 22 0 (by decide) (by decide) (by decide)]
  · rw [x9, y31, y32, if_pos rfl, if_pos rfl]
    by_cases e9 : i = (s 21 0).toNat
    · rw [if_pos e9, if_pos (by omega)]
    · rw [if_neg e9, if_neg (by omega)]
  · rw [yg 44 i (by decide) (by decide) (by decide) (by decide) (by decide) (by decide) (by decide), p8 44 i (by decide) (by decide)]
  · rw [yg 50 0 (by decide) (by decide) (by decide) (by decide) (by decide) (by decide) (by decide), p8 50 0 (by decide) (by decide)]
  · rw [yg 40 i (by decide) (by decide) (by decide) (by decide) (by decide) (by decide) (by decide), p8 40 i (by decide) (by decide)]
end PMID
