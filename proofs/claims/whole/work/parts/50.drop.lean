/-! PURE: a first train goes as a whole -/
def pv_sh (t : py_Z) : Nat → py_Z
  | 0 => t
  | k + 1 => pm_sh (pv_sh t k)
theorem pv_sh_g {t : py_Z} : ∀ (k g i : Nat), g ≠ 41 → g ≠ 42 → pv_sh t k g i = t g i
  | 0, _, _, _, _ => rfl
  | k + 1, g, i, h1, h2 => by
    show pm_sh (pv_sh t k) g i = _
    simp only [pm_sh, h1, h2, if_false]
    exact pv_sh_g k g i h1 h2
theorem pv_sh_41 {t : py_Z} : ∀ (k i : Nat), pv_sh t k 41 i = if i = 0 then t 41 0 - k else t 41 i
  | 0, i => by
    show t 41 i = _
    split
    · rename_i h; subst h; omega
    · rfl
  | k + 1, i => by
    show pm_sh (pv_sh t k) 41 i = _
    simp only [pm_sh, if_true]
    rw [pv_sh_41 k 0, pv_sh_41 k i]
    by_cases e : i = 0
    · rw [if_pos e, if_pos e, if_pos rfl]; omega
    · rw [if_neg e, if_neg e, if_neg e]
theorem pv_sh_42a {t : py_Z} : ∀ (k i : Nat), (i : Int) + k < t 41 0 → pv_sh t k 42 i = t 42 (i + k)
  | 0, _, _ => rfl
  | k + 1, i, h => by
    show pm_sh (pv_sh t k) 42 i = _
    have h1 := pv_sh_41 (t := t) k 0
    rw [if_pos rfl] at h1
    have e : pm_sh (pv_sh t k) 42 i = pv_sh t k 42 (i + 1) := by
      have : (i : Int) + 1 < pv_sh t k 41 0 := by omega
      simp [pm_sh, this]
    rw [e, pv_sh_42a k (i + 1) (by omega)]
    congr 1; omega
theorem pv_sh_42b {t : py_Z} : ∀ (k i : Nat), t 41 0 ≤ (i : Int) → pv_sh t k 42 i = t 42 i
  | 0, _, _ => rfl
  | k + 1, i, h => by
    show pm_sh (pv_sh t k) 42 i = _
    have h1 := pv_sh_41 (t := t) k 0
    rw [if_pos rfl] at h1
    have e : pm_sh (pv_sh t k) 42 i = pv_sh t k 42 i := by
      have : ¬ (i : Int) + 1 < pv_sh t k 41 0 := by omega
      simp [pm_sh, this]
    rw [e, pv_sh_42b k i h]
/-- the things of the first cars, so many -/
def ph_sum (t : py_Z) : Nat → Int
  | 0 => 0
  | k + 1 => ph_sum t k + t 38 (t 42 k).toNat
section PHD
variable {s t : py_Z}
/-- what is known when so many cars are gone -/
def ph_D (s t s1 t1 : py_Z) (k : Nat) : Prop :=
  pr_RV s1 (pv_sh t k) ∧ ph_TH s1 t1 (ph_E t) ∧
  (∀ g i, g ≠ 30 → g ≠ 37 → g ≠ 38 → g ≠ 54 → t1 g i = t g i) ∧
  (∀ c : Nat, c < 40 → (∃ j : Nat, j < k ∧ t 42 j = c) → t1 38 c = 0 ∧ t1 37 c = 0) ∧
  (∀ c : Nat, c < 40 → (∀ j : Nat, j < k → t 42 j ≠ c) → t1 38 c = t 38 c ∧ t1 37 c = t 37 c) ∧
  (∀ x : Nat, x < 640 → (∃ j : Nat, j < k ∧ t 42 j = t 31 x) → t1 30 x = 0) ∧
  (∀ x : Nat, x < 640 → (∀ j : Nat, j < k → t 42 j ≠ t 31 x) → t1 30 x = t 30 x) ∧
  t1 54 0 = t 54 0 + ph_sum t k ∧
  (∀ g i, g = 7 ∨ (8 ≤ g ∧ g ≤ 12) ∨ 14 ≤ g → s1 g i = s g i)
theorem ph_sum_b {E0 : Int → Int} (hTH : ph_TH s t E0) (hc : ∀ k : Nat, (k : Int) < t 41 0 → 0 ≤ t 42 k ∧ t 42 k < 40) : ∀ k : Nat, (k : Int) ≤ t 41 0 → 0 ≤ ph_sum t k ∧ ph_sum t k ≤ 16 * k
  | 0, _ => by simp [ph_sum]
  | k + 1, h => by
    have h1 := ph_sum_b hTH hc k (by omega)
    have h2 := hc k (by omega)
    have h3 := (hTH.1 (t 42 k).toNat (by omega)).2.2.1
    simp only [ph_sum]
    omega
/-- one car more goes -/
theorem ph_drop1 (hRW : pr_RW s t) (hTH : ph_TH s t (ph_E t)) (hMH : ph_MH t (-1)) (hn : 0 < t 50 0) {s1 t1 : py_Z} {k : Nat} (hk : (k : Int) < t 41 0) (hD : ph_D s t s1 t1 k) :
    ∃ s2 t2 : py_Z, (∀ K : ty_S → Prop, K (py_O s2) → eX1_carAt (py_O s1) (py_o 0) (fun S3 r3 => (eX0_clear S3 r3 (fun S4 => (eX1_removeFirstCar S4 K))))) ∧
      (∀ K : ty_S → Int32 → Prop, K (py_O t2) (py_o (t 38 (t 42 k).toNat)) → eX5_forget (py_O t1) (py_o (t 42 k)) K) ∧ ph_D s t s2 t2 (k + 1) := by
  obtain ⟨h1, h2, h3, h4, h5, h6, h7, h8, h9⟩ := hD
  have h0 := hRW.1
  obtain ⟨d1, d2, d3⟩ := hRW.2.2.2.1 0 k (by omega) hk
  simp only [Nat.mul_zero, Nat.zero_add, pr_off] at d1 d2 d3
  have hv41 : pv_sh t k 41 0 = t 41 0 - k := by rw [pv_sh_41, if_pos rfl]
  have hv50 : pv_sh t k 50 0 = t 50 0 := pv_sh_g k 50 0 (by decide) (by decide)
  have hrem := h1.rem (by omega) (by omega)
  have hlt := h1.lt (j := 0) (by omega)
  simp only [pr_off] at hlt
  obtain ⟨q1, q2, q3⟩ := h1.2.2.2.1 0 0 (by omega) (by omega)
  simp only [Nat.mul_zero, Nat.add_zero, pr_off] at q1 q2 q3
  have hv42 : pv_sh t k 42 0 = t 42 k := by rw [pv_sh_42a k 0 (by omega)]; congr 1; omega
  have h13 := h1.2.2.1
  obtain ⟨c, hcv⟩ : ∃ c : Nat, t 42 k = c := ⟨(t 42 k).toNat, by omega⟩
  have hc : c < 40 := by omega
  have hs50 : s1 5 0 = c := by omega
  -- cars are of one place alone
  have hcar : ∀ j : Nat, j < k → t 42 j ≠ c := fun j hj e1 => by
    have := (hRW.inj2 (j := 0) (k := j) (j' := 0) (k' := k) (by omega) (by omega) (by omega) hk (by simp only [Nat.mul_zero, Nat.zero_add]; omega)).2
    omega
  obtain ⟨u1, u2⟩ := h5 c hc hcar
  have hCc := hTH.1 c hc
  have h38 := hCc.2.2.1
  have t39 : ∀ i, t1 39 i = t 39 i := fun i => h3 39 i (by decide) (by decide) (by decide) (by decide)
  have t31 : ∀ i, t1 31 i = t 31 i := fun i => h3 31 i (by decide) (by decide) (by decide) (by decide)
  have hthing : ∀ m : Nat, (m : Int) < t 38 c → (0 ≤ t 39 (16 * c + m) ∧ t 39 (16 * c + m) < 640) ∧ 0 < t 30 (t 39 (16 * c + m)).toNat ∧ t 31 (t 39 (16 * c + m)).toNat = c ∧ t 32 (t 39 (16 * c + m)).toNat = ph_pos t c m := fun m hm => by
    obtain ⟨w1, w2, w3, w4⟩ := hTH.2.1 c m hc hm
    obtain ⟨g1, g2, g3⟩ := hMH.2.2.2.1 c m hc (by omega) hm
    exact ⟨w1, g1, g2, g3⟩
  have hthing1 : ∀ m : Nat, (m : Int) < t 38 c → t1 30 (t 39 (16 * c + m)).toNat = t 30 (t 39 (16 * c + m)).toNat := fun m hm => by
    obtain ⟨w1, g1, g2, g3⟩ := hthing m hm
    exact h7 _ (by omega) (fun j hj => by rw [g2]; exact hcar j hj)
  have hfgn : pm_fgn t1 c (t1 38 c).toNat = (t 38 c).toNat := by
    rw [u1]
    exact py_cnt_all (fun m hm => by rw [t39, t31, (hthing m (by omega)).2.2.1]; simp)
  have f30 : ∀ y : Nat, pm_fg t1 c 30 y = pm_fgl t1 c (t1 38 c).toNat y := fun y => by simp [pm_fg]
  have f37 : ∀ g d : Nat, (g = 37 ∨ g = 38) → pm_fg t1 c g d = if d = c then 0 else t1 g d := fun g d hg => by rcases hg with e | e <;> subst e <;> simp [pm_fg]
  have fg : ∀ g i, g ≠ 30 → g ≠ 37 → g ≠ 38 → g ≠ 54 → pm_fg t1 c g i = t1 g i := fun g i a b c d => by simp [pm_fg, a, b, c, d]
  have f54 : pm_fg t1 c 54 0 = t1 54 0 + pm_fgn t1 c (t1 38 c).toNat := by simp [pm_fg]
  have hcl5 : ∀ g i, 4 ≤ g → pr_clr s1 c g i = s1 g i := fun g i hg => by
    have : ¬ (g = 0 ∨ g = 1) := by omega
    have : ¬ (g = 2 ∨ g = 3) := by omega
    simp [pr_clr, *]
  refine ⟨pr_rem (pr_clr s1 c), pm_fg t1 c, fun K hK => ?_, fun K hK => ?_, ?_, ?_, ?_, ?_, ?_, ?_, ?_, ?_, ?_⟩
  · refine pr_carAt (by omega) (fun _ _ => ?_) (fun c => absurd c (by omega))
    simp only [Int.toNat_zero]
    rw [hs50]
    refine pr_clear hc ?_
    exact pr_removeFirstCar (by rw [hcl5 13 0 (by omega)]; omega) (by rw [hcl5 5 0 (by omega)]; omega) hK
  · rw [hcv]
    have h58 := hMH.1
    refine pm_forget hc (by rw [u1]; exact h38) (fun m hm => ?_) (fun a b hab hb => ?_) ?_
    · rw [u1] at hm
      obtain ⟨w1, g1, g2, g3⟩ := hthing m hm
      rw [t39, t31, hthing1 m hm]
      have := hMH.2.1 (t 39 (16 * c + m)).toNat (by omega)
      exact ⟨w1, by omega, by omega, by omega⟩
    · rw [u1] at hb
      rw [t39, t39]
      intro e1
      obtain ⟨w1, g1, g2, g3⟩ := hthing a (by omega)
      obtain ⟨w1', g1', g2', g3'⟩ := hthing b hb
      rw [e1] at g3
      have := ph_pos_lt (t := t) (c := c) hab
      unfold ph_sz at this
      omega
    · rw [hfgn]
      have : (((t 38 c).toNat : Nat) : Int) = t 38 (t 42 k).toNat := by rw [hcv]; simp only [Int.toNat_natCast]; omega
      rw [this]; exact hK
  · refine hrem.congrS (fun i => ?_) (fun i => ?_) ?_ ?_
    · simp [pr_rem, hcl5]
    · simp [pr_rem, hcl5]
    · simp [pr_rem, hcl5]
    · simp [pr_rem, hcl5]
  · refine h2.clear hc (fun q => ?_) (fun q => ?_) (fun d => ?_) (fun d => ?_) (fun d => ?_) (fun d hd hz => ?_) (fun d m hd hdc hm => ?_) (fun d => f37 37 d (Or.inl rfl)) (fun d => f37 38 d (Or.inr rfl)) (fun g i hg => fg g i (by omega) (by omega) (by omega) (by omega))
    · simp [pr_rem, pr_clr]
    · simp [pr_rem, pr_clr]
    · simp [pr_rem, pr_clr]
    · simp [pr_rem, pr_clr]
    · simp [pr_rem, pr_clr]
    · have e1 : pr_rem (pr_clr s1 c) 6 d = if d = (s1 5 0).toNat then 0 else s1 6 d := by simp [pr_rem, hcl5]
      rw [e1, hs50] at hz
      simp only [Int.toNat_natCast] at hz
      by_cases e2 : d = c
      · exact Or.inl e2
      · rw [if_neg e2] at hz; exact Or.inr hz
    · rw [f30]
      refine pm_fgl_other _ ?_
      rw [t31]
      -- its car is another one
      have hm2 : (m : Int) < t 38 d := by
        by_cases e1 : ∃ j : Nat, j < k ∧ t 42 j = d
        · rw [(h4 d hd e1).1] at hm; omega
        · rw [(h5 d hd (fun j hj e2 => e1 ⟨j, hj, e2⟩)).1] at hm; exact hm
      have ex : ph_x t1 d m = ph_x t d m := by unfold ph_x; rw [t39]
      rw [ex, (hMH.2.2.2.1 d m hd (by omega) hm2).2.1]
      omega
  · intro g i a b c' d
    rw [fg g i a b c' d]; exact h3 g i a b c' d
  · intro d hd hex
    rw [f37 38 d (Or.inr rfl), f37 37 d (Or.inl rfl)]
    by_cases e1 : d = c
    · rw [if_pos e1, if_pos e1]; exact ⟨rfl, rfl⟩
    · rw [if_neg e1, if_neg e1]
      obtain ⟨j, hj, e2⟩ := hex
      refine h4 d hd ⟨j, ?_, e2⟩
      rcases Nat.lt_succ_iff_lt_or_eq.mp hj with e3 | e3
      · exact e3
      · subst e3; omega
  · intro d hd hno
    have e1 : d ≠ c := fun e2 => hno k (by omega) (by omega)
    rw [f37 38 d (Or.inr rfl), f37 37 d (Or.inl rfl), if_neg e1, if_neg e1]
    exact h5 d hd (fun j hj => hno j (by omega))
  · intro x hx hex
    rw [f30]
    by_cases e1 : ∃ j : Nat, j < k ∧ t 42 j = t 31 x
    · have := h6 x hx e1
      rcases pm_fgl_01 (t := t1) (c := c) (t1 38 c).toNat x with e2 | e2
      · exact e2
      · rw [e2, this]
    · have e2 : t 31 x = c := by
        obtain ⟨j, hj, e3⟩ := hex
        rcases Nat.lt_succ_iff_lt_or_eq.mp hj with e4 | e4
        · exact absurd ⟨j, e4, e3⟩ e1
        · subst e4; omega
      by_cases hl : 0 < t 30 x
      · obtain ⟨c', m, hc', hm, g1, g2, g3⟩ := hMH.2.2.1 x hx hl
        have e3 : c' = c := by omega
        subst e3
        refine pm_fgl_gone (t := t1) _ (k := m) (by rw [u1]; omega) ?_ (by rw [t31]; exact e2)
        rw [t39]; exact g1
      · have := hMH.2.1 x hx
        have h7x := h7 x hx (fun j hj e3 => e1 ⟨j, hj, e3⟩)
        rcases pm_fgl_01 (t := t1) (c := c) (t1 38 c).toNat x with e3 | e3
        · exact e3
        · rw [e3, h7x]; omega
  · intro x hx hno
    rw [f30, pm_fgl_other _ (by rw [t31]; exact fun e1 => hno k (by omega) (by omega))]
    exact h7 x hx (fun j hj => hno j (by omega))
  · rw [f54, h8, hfgn]
    simp only [ph_sum, hcv, Int.toNat_natCast]
    omega
  · intro g i hg
    have e1 : pr_rem (pr_clr s1 c) g i = pr_clr s1 c g i := by
      have : g ≠ 5 := by omega
      have : g ≠ 6 := by omega
      have : g ≠ 13 := by omega
      simp [pr_rem, *]
    rw [e1, hcl5 g i (by omega)]
    exact h9 g i hg
end PHD
