/-! PURE: a step -/
def py_sum (f : Nat → Int) : Nat → Int
  | 0 => 0
  | k + 1 => py_sum f k + f k
theorem py_sum_congr {f g : Nat → Int} : ∀ n : Nat, (∀ k : Nat, k < n → f k = g k) → py_sum f n = py_sum g n
  | 0, _ => rfl
  | n + 1, h => by
    simp only [py_sum]
    rw [py_sum_congr n (fun k hk => h k (by omega)), h n (by omega)]
theorem py_sum_b {f : Nat → Int} {B : Nat} : ∀ n : Nat, (∀ k : Nat, k < n → 0 ≤ f k ∧ f k ≤ B) → 0 ≤ py_sum f n ∧ py_sum f n ≤ B * n
  | 0, _ => by simp [py_sum]
  | n + 1, h => by
    have h1 := py_sum_b n (fun k hk => h k (by omega))
    have h2 := h n (by omega)
    simp only [py_sum]
    have : (B : Int) * ((n + 1 : Nat) : Int) = B * n + B := by rw [Int.natCast_add, Int.mul_add]; simp
    omega
theorem pr_thingsIn {s : py_Z} {a m : Nat} {K : ty_S → Int32 → Prop} (hc : 0 ≤ s 13 0 ∧ s 13 0 ≤ 40) (ha : (a : Int) + m ≤ s 13 0) (hb : ∀ k : Nat, (k : Int) < s 13 0 → 0 ≤ s 5 k ∧ s 5 k < 40) (h3 : ∀ c : Nat, c < 40 → 0 ≤ s 3 c ∧ s 3 c ≤ 16) (hK : K (py_O s) (py_o (py_sum (fun k => s 3 (s 5 (a + k)).toNat) m))) : eX3_thingsIn (py_O s) (py_o a) (py_o m) K := by
  have key : ∀ d k : Nat, k + d = m → ∃ n9, lX3_thingsIn_5 K n9 (py_o a) (py_o m) (py_o (py_sum (fun k => s 3 (s 5 (a + k)).toNat) k)) (py_o k) (py_O s) := by
    intro d
    induction d with
    | zero =>
      intro k hk
      refine ⟨1, ?_⟩
      unfold lX3_thingsIn_5
      try simp only [py_O_ap, py_l0, py_l1, py_l2, py_l3, py_l4, py_l5, py_l6, py_l7, py_l8, py_l9, py_l12, py_l16, py_l32, py_l40, py_l100, py_l640, py_l1280, py_neg, py_add, py_sub, py_mul, py_stO]
      refine py_ile (fun _ => ?_) (fun c => absurd c (by omega))
      rw [show k = m by omega]; exact hK
    | succ d ih =>
      intro k hk
      obtain ⟨n9, hn9⟩ := ih (k + 1) (by omega)
      have h5 := hb (a + k) (by omega)
      refine ⟨n9 + 1, ?_⟩
      unfold lX3_thingsIn_5
      try simp only [py_O_ap, py_l0, py_l1, py_l2, py_l3, py_l4, py_l5, py_l6, py_l7, py_l8, py_l9, py_l12, py_l16, py_l32, py_l40, py_l100, py_l640, py_l1280, py_neg, py_add, py_sub, py_mul, py_stO]
      refine py_ile (fun c => absurd c (by omega)) (fun _ => ?_)
      refine pr_carAt hc (fun _ _ => ?_) (fun c => absurd c (by omega))
      rw [show ((a : Int) + k).toNat = a + k by omega]
      refine pr_things (fun _ _ => ?_) (fun c => absurd c (by omega))
      try simp only [py_O_ap, py_l0, py_l1, py_l2, py_l3, py_l4, py_l5, py_l6, py_l7, py_l8, py_l9, py_l12, py_l16, py_l32, py_l40, py_l100, py_l640, py_l1280, py_neg, py_add, py_sub, py_mul, py_stO]
      exact hn9
  unfold eX3_thingsIn
  rw [py_l0]
  exact key m 0 (by omega)
section PHS
variable {s t : py_Z}
theorem ph_in0 (hRW : pr_RW s t) (hn : 0 < t 50 0) {c : Nat} (hc : c < 40) : s 6 c = t 40 0 ↔ ∃ j : Nat, j < (t 41 0).toNat ∧ t 42 j = c := by
  have h40 := hRW.2.2.2.2.1 0 (by omega)
  constructor
  · intro h
    rcases hRW.six hc with e | ⟨j, k, hj, hk, h1, h2, h3, h4, h5⟩
    · omega
    · have : j = 0 := hRW.num hj (by omega) (by omega)
      subst this
      exact ⟨k, by omega, by simpa using h1⟩
  · intro ⟨j, hj, h1⟩
    have h2 := (hRW.2.2.2.1 0 j (by omega) (by omega)).2.2
    simp only [Nat.mul_zero, Nat.zero_add] at h2
    rw [h1] at h2
    simpa using h2
/-- a first train to which nothing refers from outside goes -/
theorem ph_dropStep (hRW : pr_RW s t) (hTH : ph_TH s t (ph_E t)) (hMH : ph_MH t (-1)) (hH : ∀ r : Nat, r < 16 → s 7 r = ph_E t (t 43 r)) (hn : 0 < t 50 0) (hW0 : ∀ r : Nat, r < 16 → ¬ ph_W0 s t r) (hW1 : ∀ x i : Nat, ¬ ph_W1 s t x i) :
    ∃ s' t' : py_Z, (∀ K : ty_S → Int32 → Prop, K (py_O s') (py_o (ph_sum t (t 41 0).toNat)) → eX3_dropFirstTrain (py_O s) (py_o (t 40 0)) K) ∧
      (∀ K : ty_S → Int32 → Prop, K (py_O t') (py_o (ph_sum t (t 41 0).toNat)) → ∃ n9, lX5_oneStep_21 K n9 (py_o 0) (py_o 0) (py_O t)) ∧
      pr_RW s' t' ∧ ph_TH s' t' (ph_E t') ∧ ph_MH t' (-1) ∧ (∀ r : Nat, r < 16 → s' 7 r = ph_E t' (t' 43 r)) ∧ s' 16 0 = s 16 0 + 1 ∧ t' 53 0 = t 53 0 + 1 ∧ t' 54 0 = t 54 0 + ph_sum t (t 41 0).toNat ∧
      (∀ g i, g ≠ 16 → g = 7 ∨ (8 ≤ g ∧ g ≤ 12) ∨ 14 ≤ g → s' g i = s g i) ∧ (∀ g i, g = 43 ∨ g = 51 ∨ g = 52 ∨ 55 ≤ g → t' g i = t g i) ∧ (0 ≤ ph_sum t (t 41 0).toNat ∧ ph_sum t (t 41 0).toNat ≤ 640) := by
  have h0 := hRW.1
  have h41 := hRW.2.1 0 (by omega)
  have hcars : ∀ k : Nat, (k : Int) < t 41 0 → (0 ≤ t 42 k ∧ t 42 k < 40) ∧ s 5 k = t 42 k := fun k hk => by
    obtain ⟨d1, d2, d3⟩ := hRW.2.2.2.1 0 k (by omega) hk
    simp only [Nat.mul_zero, Nat.zero_add, pr_off] at d1 d2 d3
    exact ⟨d2, d1⟩
  have hsb := ph_sum_b hTH (fun k hk => (hcars k hk).1)
  have hsumN := hsb (t 41 0).toNat (by omega)
  have hend := hRW.end_le (j := 0) (by omega)
  simp only [pr_off] at hend
  have hc0 := hRW.cnt
  -- car by car
  have hloop : ∀ d k : Nat, (k : Int) + d = t 41 0 → ∀ s1 t1 : py_Z, ph_D s t s1 t1 k → ∃ s2 t2 : py_Z, (∀ K : ty_S → Int32 → Prop, K (py_O (py_st s2 16 0 (s2 16 0 + 1))) (py_o (ph_sum t (t 41 0).toNat)) → ∃ n9, lX3_dropFirstTrain_19 K n9 (py_o (t 41 0)) (py_o (ph_sum t (t 41 0).toNat)) (py_o k) (py_O s1)) ∧
      (∀ K : ty_S → Int32 → Prop, K (py_O (pm_rt (py_st t2 53 0 (t2 53 0 + 1)))) (py_o (ph_sum t (t 41 0).toNat)) → ∃ n9, lX5_oneStep_21 K n9 (py_o (ph_sum t k)) (py_o k) (py_O t1)) ∧ ph_D s t s2 t2 (t 41 0).toNat := by
    intro d
    induction d with
    | zero =>
      intro k hk s1 t1 hD
      have e1 : (t 41 0).toNat = k := by omega
      have t41 := hD.2.2.1 41 0 (by decide) (by decide) (by decide) (by decide)
      have t50 := hD.2.2.1 50 0 (by decide) (by decide) (by decide) (by decide)
      rw [e1]
      refine ⟨s1, t1, fun K hK => ⟨1, ?_⟩, fun K hK => ⟨1, ?_⟩, hD⟩
      · unfold lX3_dropFirstTrain_19
        try simp only [py_O_ap, py_l0, py_l1, py_l2, py_l3, py_l4, py_l5, py_l6, py_l7, py_l8, py_l9, py_l12, py_l16, py_l32, py_l40, py_l100, py_l640, py_l1280, py_neg, py_add, py_sub, py_mul, py_stO]
        exact py_ile (fun _ => hK) (fun c => absurd c (by omega))
      · unfold lX5_oneStep_21
        try simp only [py_O_ap, py_l0, py_l1, py_l2, py_l3, py_l4, py_l5, py_l6, py_l7, py_l8, py_l9, py_l12, py_l16, py_l32, py_l40, py_l100, py_l640, py_l1280, py_neg, py_add, py_sub, py_mul, py_stO]
        refine py_and ?_
        rw [py_nat (by omega)]
        simp only [Int.toNat_zero]
        refine py_ile (fun _ => ?_) (fun c => absurd c (by omega))
        refine pm_removeTrain ?_ hK
        rw [py_sn (by decide)]; omega
    | succ d ih =>
      intro k hk s1 t1 hD
      obtain ⟨s2, t2, o1, o2, o3⟩ := ph_drop1 hRW hTH hMH hn (by omega) hD
      obtain ⟨s3, t3, p1, p2, p3⟩ := ih (k + 1) (by omega) s2 t2 o3
      have t41 := hD.2.2.1 41 0 (by decide) (by decide) (by decide) (by decide)
      have t42 := hD.2.2.1 42 k (by decide) (by decide) (by decide) (by decide)
      refine ⟨s3, t3, fun K hK => ?_, fun K hK => ?_, p3⟩
      · obtain ⟨n9, hn9⟩ := p1 K hK
        refine ⟨n9 + 1, ?_⟩
        unfold lX3_dropFirstTrain_19
        try simp only [py_O_ap, py_l0, py_l1, py_l2, py_l3, py_l4, py_l5, py_l6, py_l7, py_l8, py_l9, py_l12, py_l16, py_l32, py_l40, py_l100, py_l640, py_l1280, py_neg, py_add, py_sub, py_mul, py_stO]
        refine py_ile (fun c => absurd c (by omega)) (fun _ => ?_)
        exact o1 _ hn9
      · obtain ⟨n9, hn9⟩ := p2 K hK
        refine ⟨n9 + 1, ?_⟩
        unfold lX5_oneStep_21
        try simp only [py_O_ap, py_l0, py_l1, py_l2, py_l3, py_l4, py_l5, py_l6, py_l7, py_l8, py_l9, py_l12, py_l16, py_l32, py_l40, py_l100, py_l640, py_l1280, py_neg, py_add, py_sub, py_mul, py_stO]
        refine py_and ?_
        rw [py_nat (by omega), py_nat (by omega)]
        simp only [Int.toNat_zero, Int.toNat_natCast]
        refine py_ile (fun c => absurd c (by omega)) (fun _ => py_and ?_)
        rw [t42]
        refine o2 _ ?_
        try simp only [py_O_ap, py_l0, py_l1, py_l2, py_l3, py_l4, py_l5, py_l6, py_l7, py_l8, py_l9, py_l12, py_l16, py_l32, py_l40, py_l100, py_l640, py_l1280, py_neg, py_add, py_sub, py_mul, py_stO]
        exact hn9
  have hD0 : ph_D s t s t 0 := by
    refine ⟨hRW.rv, hTH, fun _ _ _ _ _ _ => rfl, fun c _ ⟨j, hj, _⟩ => absurd hj (by omega), fun _ _ _ => ⟨rfl, rfl⟩, fun x _ ⟨j, hj, _⟩ => absurd hj (by omega), fun _ _ _ => rfl, by simp [ph_sum], fun _ _ _ => rfl⟩
  obtain ⟨s2, t2, o1, o2, hD⟩ := hloop (t 41 0).toNat 0 (by omega) s t hD0
  obtain ⟨h1, h2, h3, h4, h5, h6, h7, h8, h9⟩ := hD
  have g3 : ∀ g i, g ≠ 30 → g ≠ 37 → g ≠ 38 → g ≠ 53 → g ≠ 54 → g ≠ 40 → g ≠ 41 → g ≠ 42 → g ≠ 50 → pm_rt (py_st t2 53 0 (t2 53 0 + 1)) g i = t g i := fun g i a b c d e f g' h k => by
    simp only [pm_rt, f, g', h, k, if_false, or_self]
    rw [py_sn d]; exact h3 g i a b c e
  have g4 : ∀ g i, g = 30 ∨ g = 37 ∨ g = 38 → pm_rt (py_st t2 53 0 (t2 53 0 + 1)) g i = t2 g i := fun g i hg => by
    rcases hg with e | e | e <;> subst e <;> simp [pm_rt, py_st]
  have g53 : pm_rt (py_st t2 53 0 (t2 53 0 + 1)) 53 0 = t 53 0 + 1 := by
    simp [pm_rt, py_st]; exact h3 53 0 (by decide) (by decide) (by decide) (by decide)
  have g54 : pm_rt (py_st t2 53 0 (t2 53 0 + 1)) 54 0 = t2 54 0 := by simp [pm_rt, py_st]
  have hRT : pr_RW (py_st s2 16 0 (s2 16 0 + 1)) (pm_rt (py_st t2 53 0 (t2 53 0 + 1))) := by
    have v41 : pv_sh t (t 41 0).toNat 41 0 = 0 := by rw [pv_sh_41, if_pos rfl]; omega
    have v50 : pv_sh t (t 41 0).toNat 50 0 = t 50 0 := pv_sh_g _ 50 0 (by decide) (by decide)
    have hr := h1.rt (by omega) v41
    have hr2 := hr.congrS (s' := py_st s2 16 0 (s2 16 0 + 1)) (fun i => py_sn (by decide)) (fun i => py_sn (by decide)) (py_sn (by decide)) (py_sn (by decide))
    have r50 : pm_rt (pv_sh t (t 41 0).toNat) 50 0 = t 50 0 - 1 := by simp [pm_rt, v50]
    have x50 : pm_rt (py_st t2 53 0 (t2 53 0 + 1)) 50 0 = t 50 0 - 1 := by
      simp [pm_rt, py_st]; rw [h3 50 0 (by decide) (by decide) (by decide) (by decide)]
    have y50 : py_st t2 53 0 (t2 53 0 + 1) 50 0 = t 50 0 := by rw [py_sn (by decide)]; exact h3 50 0 (by decide) (by decide) (by decide) (by decide)
    have z41 : ∀ j : Nat, (j : Int) < t 50 0 - 1 → pm_rt (py_st t2 53 0 (t2 53 0 + 1)) 41 j = t 41 (j + 1) := fun j hj => by
      simp only [pm_rt, y50]
      simp [hj, py_st]
      exact h3 41 (j + 1) (by decide) (by decide) (by decide) (by decide)
    refine (hr2.congr (t' := pm_rt (py_st t2 53 0 (t2 53 0 + 1))) (by rw [r50, x50]) ?_ (fun j hj => ?_) (fun j hj => ?_) (fun j k hj hk => ?_)).rw (fun j hj => ?_)
    · have : pm_rt (pv_sh t (t 41 0).toNat) 57 0 = t 57 0 := by simp [pm_rt]; exact pv_sh_g _ 57 0 (by decide) (by decide)
      rw [this]; exact g3 57 0 (by decide) (by decide) (by decide) (by decide) (by decide) (by decide) (by decide) (by decide) (by decide)
    · rw [r50] at hj
      have a1 : pm_rt (py_st t2 53 0 (t2 53 0 + 1)) 40 j = t 40 (j + 1) := by
        simp only [pm_rt, y50]
        simp [hj, py_st]
        exact h3 40 (j + 1) (by decide) (by decide) (by decide) (by decide)
      have a2 : pm_rt (pv_sh t (t 41 0).toNat) 40 j = t 40 (j + 1) := by
        simp only [pm_rt, v50]
        simp [hj]
        exact pv_sh_g _ 40 (j + 1) (by decide) (by decide)
      rw [a1, a2]
    · rw [r50] at hj
      have a2 : pm_rt (pv_sh t (t 41 0).toNat) 41 j = t 41 (j + 1) := by
        simp only [pm_rt, v50]
        simp [hj]
        rw [pv_sh_41, if_neg (by omega)]
      rw [z41 j hj, a2]
    · rw [r50] at hj
      have a2 : pm_rt (pv_sh t (t 41 0).toNat) 41 j = t 41 (j + 1) := by
        simp only [pm_rt, v50]
        simp [hj]
        rw [pv_sh_41, if_neg (by omega)]
      rw [a2] at hk
      have hkb := hRW.2.1 (j + 1) (by omega)
      have e1 : (((40 * j + k) / 40 : Nat) : Int) < t 50 0 - 1 := by omega
      simp only [pm_rt, y50, v50]
      simp [e1, py_st]
      rw [h3 42 _ (by decide) (by decide) (by decide) (by decide), pv_sh_42b _ _ (by omega), if_pos (by omega), if_pos (by omega)]
    · rw [x50] at hj
      rw [z41 j hj]
      exact (hRW.2.1 (j + 1) (by omega)).1
  have hE : ph_E (pm_rt (py_st t2 53 0 (t2 53 0 + 1))) = ph_E t := ph_E_congr (fun x => g3 31 x (by decide) (by decide) (by decide) (by decide) (by decide) (by decide) (by decide) (by decide) (by decide)) (fun x => g3 32 x (by decide) (by decide) (by decide) (by decide) (by decide) (by decide) (by decide) (by decide) (by decide))
  have hin : ∀ x : Nat, x < 640 → 0 < t 30 x → ((∃ j : Nat, j < (t 41 0).toNat ∧ t 42 j = t 31 x) ↔ s 6 (t 31 x).toNat = t 40 0) := fun x hx hl => by
    obtain ⟨c, k, hc, hk, p1, p2, p3, p4, p5⟩ := ph_live hTH hMH hx hl
    rw [p2]
    simp only [Int.toNat_natCast]
    exact (ph_in0 hRW hn hc).symm
  have hkeep : ∀ x : Nat, x < 640 → 0 < t 30 x → s 6 (t 31 x).toNat ≠ t 40 0 → t2 30 x = t 30 x := fun x hx hl hne => h7 x hx (fun j hj e1 => hne ((hin x hx hl).mp ⟨j, hj, e1⟩))
  have hlive : ∀ x : Nat, x < 640 → 0 < t2 30 x → 0 < t 30 x ∧ s 6 (t 31 x).toNat ≠ t 40 0 ∧ t2 30 x = t 30 x ∧ ∀ j : Nat, j < (t 41 0).toNat → t 42 j ≠ t 31 x := fun x hx hl => by
    by_cases e1 : ∃ j : Nat, j < (t 41 0).toNat ∧ t 42 j = t 31 x
    · rw [h6 x hx e1] at hl; omega
    · have e2 := h7 x hx (fun j hj e3 => e1 ⟨j, hj, e3⟩)
      rw [e2] at hl
      exact ⟨hl, fun e3 => e1 ((hin x hx hl).mpr e3), e2, fun j hj e3 => e1 ⟨j, hj, e3⟩⟩
  generalize ht' : pm_rt (py_st t2 53 0 (t2 53 0 + 1)) = t' at *
  have e30 : ∀ x, t' 30 x = t2 30 x := fun x => g4 30 x (by omega)
  have e38 : ∀ x, t' 38 x = t2 38 x := fun x => g4 38 x (by omega)
  have gg : ∀ g i, g = 31 ∨ g = 32 ∨ g = 33 ∨ g = 34 ∨ g = 35 ∨ g = 39 ∨ g = 43 ∨ g = 58 → t' g i = t g i := fun g i hg => g3 g i (by omega) (by omega) (by omega) (by omega) (by omega) (by omega) (by omega) (by omega) (by omega)
  refine ⟨py_st s2 16 0 (s2 16 0 + 1), t', fun K hK => ?_, fun K hK => ?_, hRT, ?_, ?_, fun r hr => ?_, ?_, g53, ?_, fun g i h16 hg => ?_, fun g i hg => ?_, by omega⟩
  · unfold eX3_dropFirstTrain
    try simp only [py_O_ap, py_l0, py_l1, py_l2, py_l3, py_l4, py_l5, py_l6, py_l7, py_l8, py_l9, py_l12, py_l16, py_l32, py_l40, py_l100, py_l640, py_l1280, py_neg, py_add, py_sub, py_mul, py_stO]
    refine pr_carsOf hRW (j := 0) (by omega) ?_
    have e1 : t 41 0 = ((t 41 0).toNat : Nat) := by omega
    rw [e1, show (0 : Int) = ((0 : Nat) : Int) from rfl]
    refine pr_thingsIn hc0 (by omega) (fun k hk => (hRW.car hk).1) (fun c hc => by have := hTH.1 c hc; have h3' := this.1; have := this.2.2.1; omega) ?_
    have e2 : py_sum (fun k => s 3 (s 5 (0 + k)).toNat) (t 41 0).toNat = ph_sum t (t 41 0).toNat := by
      have : ∀ k : Nat, (k : Int) ≤ t 41 0 → py_sum (fun k => s 3 (s 5 (0 + k)).toNat) k = ph_sum t k := by
        intro k
        induction k with
        | zero => intro _; rfl
        | succ k ih =>
          intro hk
          have hck := hcars k (by omega)
          simp only [py_sum, ph_sum]
          rw [ih (by omega), Nat.zero_add, hck.2, (hTH.1 (t 42 k).toNat (by omega)).1]
      exact this _ (by omega)
    rw [e2, ← e1]
    exact o1 K hK
  · have := o2 K hK
    exact this
  · rw [hE]
    exact h2.congr (fun g i hg => py_sn (by omega)) (fun c _ hz => by rwa [py_sn (by decide)] at hz) (fun g i a b c d => by
      by_cases e : g = 30 ∨ g = 37 ∨ g = 38
      · exact g4 g i e
      · rw [g3 g i (by omega) (by omega) (by omega) (by omega) (by omega) (by omega) (by omega) (by omega) (by omega), h3 g i (by omega) (by omega) (by omega) (by omega)])
  · have ex : ∀ c k, ph_x t' c k = ph_x t c k := fun c k => by unfold ph_x; rw [gg 39 _ (by omega)]
    have ep : ∀ c k, ph_pos t' c k = ph_pos t c k := fun c k => ph_pos_congr k (fun m _ => ⟨ex c m, by unfold ph_sz; rw [gg 33 _ (by omega), gg 34 _ (by omega)]⟩)
    have hPV : ∀ y : Int, ph_PV t y → (0 ≤ y → s 6 (t 31 y.toNat).toNat ≠ t 40 0) → ph_PV t' y := fun y hy ho => by
      rcases hy with e1 | ⟨e1, e2⟩
      · exact Or.inl e1
      · exact Or.inr ⟨e1, by rw [e30, hkeep _ (by omega) e2 (ho e1.1)]; exact e2⟩
    refine ⟨by rw [gg 58 0 (by omega)]; exact hMH.1, fun x hx => ?_, fun x hx hl => ?_, fun c k hc _ hk => ?_, fun r hr => ?_, fun x hx hl i hi => ?_⟩
    · have hl := hMH.2.1 x hx
      have h58 := hMH.1
      rw [e30, gg 58 0 (by omega)]
      by_cases e1 : ∃ j : Nat, j < (t 41 0).toNat ∧ t 42 j = t 31 x
      · rw [h6 x hx e1]; exact ⟨by omega, by omega, fun _ => rfl⟩
      · rw [h7 x hx (fun j hj e3 => e1 ⟨j, hj, e3⟩)]; exact hl
    · rw [e30] at hl
      obtain ⟨l1, l2, l3, l4⟩ := hlive x hx hl
      obtain ⟨c, k, hc, hk, p1, p2, p3⟩ := hMH.2.2.1 x hx l1
      refine ⟨c, k, hc, ?_, by rw [ex]; exact p1, by rw [gg 31 _ (by omega)]; exact p2, by rw [gg 32 _ (by omega), ep]; exact p3⟩
      rw [e38, (h5 c hc (fun j hj e1 => l4 j hj (by rw [p2]; exact e1))).1]; exact hk
    · rw [e38] at hk
      by_cases e1 : ∃ j : Nat, j < (t 41 0).toNat ∧ t 42 j = c
      · rw [(h4 c hc e1).1] at hk; omega
      · rw [(h5 c hc (fun j hj e2 => e1 ⟨j, hj, e2⟩)).1] at hk
        obtain ⟨w1, w2, w3, w4⟩ := hTH.2.1 c k hc hk
        obtain ⟨g1, g2, g3'⟩ := hMH.2.2.2.1 c k hc (by omega) hk
        rw [ex, e30, gg 31 _ (by omega), gg 32 _ (by omega), ep]
        refine ⟨?_, g2, g3'⟩
        rw [h7 _ (by unfold ph_x; omega) (fun j hj e2 => e1 ⟨j, hj, by rw [e2]; exact g2⟩)]
        exact g1
    · rw [gg 43 r (by omega)]
      exact hPV _ (hMH.2.2.2.2.1 r hr) (fun h e => hW0 r hr ⟨h, e⟩)
    · rw [e30] at hl
      rw [gg 33 x (by omega)] at hi
      rw [gg 35 _ (by omega)]
      obtain ⟨l1, l2, l3, l4⟩ := hlive x hx hl
      exact hPV _ (hMH.2.2.2.2.2 x hx l1 i hi) (fun h e => hW1 x i ⟨hx, l1, hi, l2, h, e⟩)
  · rw [hE, py_sn (by decide), h9 7 r (by omega), gg 43 r (by omega)]; exact hH r hr
  · rw [py_se, h9 16 0 (by omega)]
  · rw [g54, h8]
  · rw [py_sn h16]; exact h9 g i hg
  · exact g3 g i (by omega) (by omega) (by omega) (by omega) (by omega) (by omega) (by omega) (by omega) (by omega)
end PHS
