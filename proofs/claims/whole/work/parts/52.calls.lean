/-! PURE: the calls, begun -/
def py_code0 (k : Nat) : Int := if k = 0 then 1 else 0
def py_code2 (k : Nat) : Int := if k = 2 then 1 else 0
def py_codeM (k : Nat) : Int := if k = 0 then 1 else if k = 2 then 2 else 0
def py_codeT (k : Nat) : Int := if k = 0 then 1 else if k = 1 then 2 else 0
section PC1
variable {s t : py_Z} {n : Nat} {m : Int}
theorem ph_R.congr {s' t' : py_Z} (h : ph_R s t n m) (hs : ∀ g i, g ≠ 8 → g ≠ 9 → g ≠ 11 → g ≠ 12 → g ≠ 21 → g ≠ 22 → g ≠ 25 → s' g i = s g i) (ht : ∀ g i, g ≠ 44 → g ≠ 45 → g ≠ 46 → g ≠ 47 → g ≠ 48 → g ≠ 60 → g ≠ 61 → t' g i = t g i) : ph_R s' t' n m := by
  obtain ⟨b1, b2, b3, b4, b5, b6, b7, b8, b9, b10⟩ := h
  have es : ∀ g i, g = 5 ∨ g = 6 ∨ g = 7 ∨ g = 10 ∨ g = 13 ∨ g = 14 ∨ g = 15 ∨ g = 16 ∨ g = 17 ∨ g = 18 ∨ g = 19 ∨ g = 20 ∨ g = 23 ∨ g = 24 ∨ g = 26 ∨ g ≤ 4 → s' g i = s g i := fun g i h => hs g i (by omega) (by omega) (by omega) (by omega) (by omega) (by omega) (by omega)
  have et : ∀ g i, (30 ≤ g ∧ g ≤ 43) ∨ (50 ≤ g ∧ g ≤ 59) → t' g i = t g i := fun g i h => ht g i (by omega) (by omega) (by omega) (by omega) (by omega) (by omega) (by omega)
  have hE : ph_E t' = ph_E t := ph_E_congr (fun x => et 31 x (by omega)) (fun x => et 32 x (by omega))
  refine ⟨b1.congr (fun i => es 5 i (by omega)) (fun i => es 6 i (by omega)) (es 13 0 (by omega)) (es 14 0 (by omega)) (et 50 0 (by omega)) (et 57 0 (by omega)) (fun i => et 40 i (by omega)) (fun i => et 41 i (by omega)) (fun i => et 42 i (by omega)), ?_, b3.congr (fun g i hg => et g i (by omega)), fun r hr => ?_, ?_, ?_, ?_, ?_, ?_, ?_⟩
  · rw [hE]; exact b2.congr (fun g i hg => es g i (by omega)) (fun c _ hz => by rwa [es 6 c (by omega)] at hz) (fun g i _ _ _ _ => et g i (by omega))
  · rw [es 7 r (by omega), et 43 r (by omega), hE]; exact b4 r hr
  · rw [es 20 0 (by omega), et 59 0 (by omega)]; exact b5
  · rw [es 15 0 (by omega), es 16 0 (by omega), es 17 0 (by omega), es 18 0 (by omega), es 19 0 (by omega), et 52 0 (by omega), et 53 0 (by omega), et 54 0 (by omega), et 55 0 (by omega), et 56 0 (by omega)]; exact b6
  · rw [es 23 0 (by omega), et 51 0 (by omega)]; exact b7
  · rw [es 24 0 (by omega), et 58 0 (by omega)]; exact b8
  · rw [et 57 0 (by omega)]; exact b9
  · rw [es 26 0 (by omega)]; exact ⟨b10.1, b10.2.1, fun p hp => by rw [es 10 p (by omega)]; exact b10.2.2 p hp⟩
theorem ph_R.t60 (h : ph_R s t n m) (v : Int) : ph_R s (py_st t 60 0 v) n m := h.congr (fun _ _ _ _ _ _ _ _ _ => rfl) (fun g i _ _ _ _ _ h6 _ => py_sn h6)
theorem ph_R.mono {n' : Nat} {m' : Int} (h : ph_R s t n m) (hn : n ≤ n') (hm : m ≤ m') : ph_R s t n' m' := by
  obtain ⟨b1, b2, b3, b4, b5, b6, b7, b8, b9, b10⟩ := h
  exact ⟨b1, b2, b3, b4, b5, b6, b7, ⟨b8.1, by omega⟩, by omega, ⟨b10.1, by omega, b10.2.2⟩⟩
/-- a call's outcome on both sides -/
def ph_Out (P : (ty_S → Int32 → Prop) → (Nat → ty_S → Prop) → Prop) (M : (ty_S → Int32 → Prop) → Prop) (code : Nat → Int) (n : Nat) (m : Int) : Prop :=
  ∃ (s' t' : py_Z) (r : Int), ph_R s' t' n m ∧ (∀ K : ty_S → Int32 → Prop, K (py_O t') (py_o r) → M K) ∧
    ((t' 60 0 = 0 ∧ ∀ (K : ty_S → Int32 → Prop) (KX : Nat → ty_S → Prop), K (py_O s') (py_o r) → P K KX) ∨ ∃ k : Nat, k < 3 ∧ t' 60 0 = code k ∧ (1 ≤ code k ∧ code k ≤ 3) ∧ ∀ (K : ty_S → Int32 → Prop) (KX : Nat → ty_S → Prop), KX k (py_O s') → P K KX)
theorem pr_canStep {K : ty_S → Int32 → Prop} (hc : 0 ≤ s 13 0 ∧ s 13 0 ≤ 40) (h1 : 0 < s 13 0 → s 13 0 < 40 → K (py_O s) (py_o 1)) (h0 : (s 13 0 = 0 ∨ s 13 0 = 40) → K (py_O s) (py_o 0)) : eX3_canStep (py_O s) K := by
  unfold eX3_canStep
  try simp only [py_O_ap, py_l0, py_l1, py_l2, py_l3, py_l4, py_l5, py_l6, py_l7, py_l8, py_l9, py_l12, py_l16, py_l32, py_l40, py_l100, py_l640, py_l1280, py_neg, py_add, py_sub, py_mul, py_stO]
  refine py_ile (fun c => h0 (by omega)) (fun c => ?_)
  refine pr_countFree ?_
  exact py_ile (fun c2 => h0 (by omega)) (fun c2 => h1 (by omega) (by omega))
theorem pm_maySteps {K : ty_S → Int32 → Prop} (hRW : pr_RW s t) (h1 : 0 < s 13 0 → s 13 0 < 40 → K (py_O t) (py_o 1)) (h0 : (s 13 0 = 0 ∨ s 13 0 = 40) → K (py_O t) (py_o 0)) : eX5_maySteps (py_O t) K := by
  have hc := hRW.cnt
  have hs := hRW.some
  have hn := hRW.1
  unfold eX5_maySteps
  try simp only [py_O_ap, py_l0, py_l1, py_l2, py_l3, py_l4, py_l5, py_l6, py_l7, py_l8, py_l9, py_l12, py_l16, py_l32, py_l40, py_l100, py_l640, py_l1280, py_neg, py_add, py_sub, py_mul, py_stO]
  refine py_ile (fun c => h0 (by omega)) (fun c => ?_)
  refine pm_freeCars hRW ?_
  exact py_ile (fun c2 => h0 (by omega)) (fun c2 => h1 (by omega) (by omega))
/-- a step, on both sides -/
theorem ph_step (h : ph_R s t n m) (hn : 0 < s 13 0) (hN : s 13 0 < 40) (hm : m < 99999) :
    ∃ (s' t' : py_Z) (r : Int), (∀ K : ty_S → Int32 → Prop, K (py_O s') (py_o r) → eX3_doStep (py_O s) K) ∧ (∀ K : ty_S → Int32 → Prop, K (py_O t') (py_o r) → eX5_oneStep (py_O t) K) ∧ ph_R s' t' n (m + 1) ∧ (0 ≤ r ∧ r ≤ 640) ∧ t' 60 0 = t 60 0 := by
  obtain ⟨b1, b2, b3, b4, b5, b6, b7, b8, b9, b10⟩ := id h
  have hs := b1.some
  have h50 := b1.1
  obtain ⟨⟨c1, c2⟩, -⟩ := b1.car (i := 0) (by omega)
  have h41 := b1.2.1 0 (by omega)
  obtain ⟨d1, d2, d3⟩ := b1.2.2.2.1 0 0 (by omega) (by omega)
  simp only [Nat.mul_zero, Nat.add_zero, pr_off] at d1 d2 d3
  -- behind the count of steps
  have hg : ∀ g i, g ≠ 52 → py_st t 52 0 (t 52 0 + 1) g i = t g i := fun g i hg => py_sn hg
  have h52 : py_st t 52 0 (t 52 0 + 1) 52 0 = t 52 0 + 1 := py_se
  obtain ⟨tq, htq⟩ : ∃ tq, tq = py_st t 52 0 (t 52 0 + 1) := ⟨_, rfl⟩
  rw [← htq] at hg h52
  have hRWq : pr_RW s tq := b1.congr (fun _ => rfl) (fun _ => rfl) rfl rfl (hg 50 0 (by decide)) (hg 57 0 (by decide)) (fun i => hg 40 i (by decide)) (fun i => hg 41 i (by decide)) (fun i => hg 42 i (by decide))
  have hEq : ph_E tq = ph_E t := ph_E_congr (fun x => hg 31 x (by decide)) (fun x => hg 32 x (by decide))
  have hTHq : ph_TH s tq (ph_E tq) := by rw [hEq]; exact b2.congr (fun _ _ _ => rfl) (fun _ _ hz => hz) (fun g i _ _ _ _ => hg g i (by omega))
  have hMHq : ph_MH tq (-1) := b3.congr (fun g i hh => hg g i (by omega))
  have hHq : ∀ r : Nat, r < 16 → s 7 r = ph_E tq (tq 43 r) := fun r hr => by rw [hEq, hg 43 r (by decide)]; exact b4 r hr
  have q40 : tq 40 0 = t 40 0 := hg 40 0 (by decide)
  by_cases hW : (∃ r : Nat, r < 16 ∧ ph_W0 s tq r) ∨ (∃ x i : Nat, ph_W1 s tq x i)
  · obtain ⟨s', t', r, o1, o2, ⟨o3, o4, o5, o6, o7, o8⟩, o9, o10, o11, o12⟩ := ph_emptyStep h (by omega) hN (by omega)
    refine ⟨s', t', r, fun K hK => ?_, fun K hK => ?_, ⟨o3, o4, o5, o6, o7, o8, ?_, ?_, by omega, ?_⟩, by omega, o10 60 0 (by omega)⟩
    · unfold eX3_doStep
      try simp only [py_O_ap, py_l0, py_l1, py_l2, py_l3, py_l4, py_l5, py_l6, py_l7, py_l8, py_l9, py_l12, py_l16, py_l32, py_l40, py_l100, py_l640, py_l1280, py_neg, py_add, py_sub, py_mul, py_stO]
      refine pr_firstTrain b1 (fun _ => ?_) (fun c => absurd c (by omega))
      have := pr_isReferredTo hRWq hTHq hMHq hHq (by rw [hg 50 0 (by decide)]; omega) (K := fun S2 r2 => if r2 = py_o 0 then eX3_dropFirstTrain S2 (py_o (t 40 0)) fun S3 r3 => jX3_doStep_67 K r3 S3 else eX3_startEmptying S2 fun S4 => eX3_moveHeld S4 (py_o (t 40 0)) fun S5 => eX3_moveReferredTo S5 (py_o (t 40 0)) (py_o 0) fun S6 => eX3_moveReferredTo S6 (py_o (t 40 0)) (py_o 1) fun S7 => eX0_things S7 (S7 20 0) fun S8 r8 => eX3_endEmptying S8 fun S9 => jX3_doStep_67 K (r8 - S8 21 0) S9) (fun _ => ?_) (fun a b => absurd hW (fun c => c.elim (fun ⟨r, hr, w⟩ => a r hr w) (fun ⟨x, i, w⟩ => b x i w)))
      · rw [q40] at this; exact this
      · refine py_ieq (fun c => absurd c (by omega)) (fun _ => ?_)
        exact o1 K hK
    · unfold eX5_oneStep
      try simp only [py_O_ap, py_l0, py_l1, py_l2, py_l3, py_l4, py_l5, py_l6, py_l7, py_l8, py_l9, py_l12, py_l16, py_l32, py_l40, py_l100, py_l640, py_l1280, py_neg, py_add, py_sub, py_mul, py_stO]
      rw [← htq]
      refine pm_isWanted hRWq hTHq hMHq (by rw [hg 50 0 (by decide)]; omega) (fun _ => ?_) (fun a b => absurd hW (fun c => c.elim (fun ⟨r, hr, w⟩ => a r hr w) (fun ⟨x, i, w⟩ => b x i w)))
      refine py_ieq (fun c => absurd c (by omega)) (fun _ => py_and ?_)
      rw [py_nat (by omega)]
      try simp only [py_O_ap, py_l0, py_l1, py_l2, py_l3, py_l4, py_l5, py_l6, py_l7, py_l8, py_l9, py_l12, py_l16, py_l32, py_l40, py_l100, py_l640, py_l1280, py_neg, py_add, py_sub, py_mul, py_stO]
      have := o2 K hK
      rw [← htq] at this
      rw [Int.toNat_zero, hg 42 0 (by decide)]
      exact this
    · rw [o9 23 0 (by omega), o10 51 0 (by omega)]; exact b7
    · rw [o9 24 0 (by omega), o10 58 0 (by omega)]; exact b8
    · rw [o9 26 0 (by omega)]; exact ⟨b10.1, b10.2.1, fun p hp => by rw [o9 10 p (by omega)]; exact b10.2.2 p hp⟩
  · have hW0 : ∀ r : Nat, r < 16 → ¬ ph_W0 s tq r := fun r hr w => hW (Or.inl ⟨r, hr, w⟩)
    have hW1 : ∀ x i : Nat, ¬ ph_W1 s tq x i := fun x i w => hW (Or.inr ⟨x, i, w⟩)
    obtain ⟨s', t', o1, o2, o3, o4, o5, o6, o7, o8, o9, o10, o11, o12⟩ := ph_dropStep hRWq hTHq hMHq hHq (by rw [hg 50 0 (by decide)]; omega) hW0 hW1
    have e41 : tq 41 0 = t 41 0 := hg 41 0 (by decide)
    refine ⟨py_st (py_st s' 15 0 (s' 15 0 + 1)) 17 0 (s' 17 0 + ph_sum tq (tq 41 0).toNat), t', ph_sum tq (tq 41 0).toNat, fun K hK => ?_, fun K hK => ?_, ⟨?_, ?_, o5, fun r hr => ?_, ⟨?_, ?_⟩, ⟨?_, ?_, ?_, ?_, ?_⟩, ?_, ?_, ?_, ?_⟩, o12, ?_⟩
    · unfold eX3_doStep
      try simp only [py_O_ap, py_l0, py_l1, py_l2, py_l3, py_l4, py_l5, py_l6, py_l7, py_l8, py_l9, py_l12, py_l16, py_l32, py_l40, py_l100, py_l640, py_l1280, py_neg, py_add, py_sub, py_mul, py_stO]
      refine pr_firstTrain b1 (fun _ => ?_) (fun c => absurd c (by omega))
      have := pr_isReferredTo hRWq hTHq hMHq hHq (by rw [hg 50 0 (by decide)]; omega) (K := fun S2 r2 => if r2 = py_o 0 then eX3_dropFirstTrain S2 (py_o (t 40 0)) fun S3 r3 => jX3_doStep_67 K r3 S3 else eX3_startEmptying S2 fun S4 => eX3_moveHeld S4 (py_o (t 40 0)) fun S5 => eX3_moveReferredTo S5 (py_o (t 40 0)) (py_o 0) fun S6 => eX3_moveReferredTo S6 (py_o (t 40 0)) (py_o 1) fun S7 => eX0_things S7 (S7 20 0) fun S8 r8 => eX3_endEmptying S8 fun S9 => jX3_doStep_67 K (r8 - S8 21 0) S9) (fun c => absurd c hW) (fun _ _ => ?_)
      · rw [q40] at this; exact this
      · rw [if_pos rfl]
        have := o1 (fun S3 r3 => jX3_doStep_67 K r3 S3) ?_
        · rw [q40] at this; exact this
        · unfold jX3_doStep_67
          try simp only [py_O_ap, py_l0, py_l1, py_l2, py_l3, py_l4, py_l5, py_l6, py_l7, py_l8, py_l9, py_l12, py_l16, py_l32, py_l40, py_l100, py_l640, py_l1280, py_neg, py_add, py_sub, py_mul, py_stO]
          exact hK
    · unfold eX5_oneStep
      try simp only [py_O_ap, py_l0, py_l1, py_l2, py_l3, py_l4, py_l5, py_l6, py_l7, py_l8, py_l9, py_l12, py_l16, py_l32, py_l40, py_l100, py_l640, py_l1280, py_neg, py_add, py_sub, py_mul, py_stO]
      rw [← htq]
      refine pm_isWanted hRWq hTHq hMHq (by rw [hg 50 0 (by decide)]; omega) (fun c => absurd c hW) (fun _ _ => ?_)
      refine py_ieq (fun _ => ?_) (fun c => absurd rfl c)
      exact o2 K hK
    · exact o3.congr (fun i => by rw [py_sn (by decide), py_sn (by decide)]) (fun i => by rw [py_sn (by decide), py_sn (by decide)]) (by rw [py_sn (by decide), py_sn (by decide)]) (by rw [py_sn (by decide), py_sn (by decide)]) rfl rfl (fun _ => rfl) (fun _ => rfl) (fun _ => rfl)
    · exact o4.congr (fun g i hg => by rw [py_sn (by omega), py_sn (by omega)]) (fun c _ hz => by rwa [py_sn (by decide), py_sn (by decide)] at hz) (fun _ _ _ _ _ _ => rfl)
    · rw [py_sn (by decide), py_sn (by decide)]; exact o6 r hr
    · rw [py_sn (by decide), py_sn (by decide), o10 20 0 (by decide) (by omega)]; exact b5.1
    · rw [o11 59 0 (by omega), hg 59 0 (by decide)]; exact b5.2
    · rw [py_sn (by decide), py_se, o10 15 0 (by decide) (by omega), o11 52 0 (by omega), h52]; omega
    · rw [py_sn (by decide), py_sn (by decide), o7, o8, hg 53 0 (by decide)]; omega
    · rw [py_se, o10 17 0 (by decide) (by omega), o9, hg 54 0 (by decide)]; omega
    · rw [py_sn (by decide), py_sn (by decide), o10 18 0 (by decide) (by omega), o11 55 0 (by omega), hg 55 0 (by decide)]; omega
    · rw [py_sn (by decide), py_sn (by decide), o10 19 0 (by decide) (by omega), o11 56 0 (by omega), hg 56 0 (by decide)]; omega
    · rw [py_sn (by decide), py_sn (by decide), o10 23 0 (by decide) (by omega), o11 51 0 (by omega), hg 51 0 (by decide)]; exact b7
    · rw [py_sn (by decide), py_sn (by decide), o10 24 0 (by decide) (by omega), o11 58 0 (by omega), hg 58 0 (by decide)]; exact b8
    · rw [o11 57 0 (by omega), hg 57 0 (by decide)]; omega
    · rw [py_sn (by decide), py_sn (by decide), o10 26 0 (by decide) (by omega)]
      refine ⟨b10.1, b10.2.1, fun p hp => ?_⟩
      rw [py_sn (by decide), py_sn (by decide), o10 10 p (by decide) (by omega)]; exact b10.2.2 p hp
    · rw [o11 60 0 (by omega), hg 60 0 (by decide)]
/-- step -/
theorem ph_callStep (h : ph_R s t n m) (hm : m < 99999) : ∃ (s' t' : py_Z) (r : Int), (∀ K : ty_S → Int32 → Prop, K (py_O s') (py_o r) → eX4_step (py_O s) K) ∧ (∀ K : ty_S → Int32 → Prop, K (py_O t') (py_o r) → eX5_step (py_O t) K) ∧ ph_R s' t' (n + 1) (m + 101) := by
  have h2 := h.t60 0
  have hc := h.1.cnt
  by_cases hcan : 0 < s 13 0 ∧ s 13 0 < 40
  · obtain ⟨s', t', r, o1, o2, o3, o4, o5⟩ := ph_step h2 hcan.1 hcan.2 hm
    refine ⟨s', t', r, fun K hK => ?_, fun K hK => ?_, o3.mono (by omega) (by omega)⟩
    · unfold eX4_step
      try simp only [py_O_ap, py_l0, py_l1, py_l2, py_l3, py_l4, py_l5, py_l6, py_l7, py_l8, py_l9, py_l12, py_l16, py_l32, py_l40, py_l100, py_l640, py_l1280, py_neg, py_add, py_sub, py_mul, py_stO]
      refine pr_canStep hc (fun _ _ => ?_) (fun c => absurd c (by omega))
      exact py_ieq (fun c => absurd c (by omega)) (fun _ => o1 K hK)
    · unfold eX5_step
      try simp only [py_O_ap, py_l0, py_l1, py_l2, py_l3, py_l4, py_l5, py_l6, py_l7, py_l8, py_l9, py_l12, py_l16, py_l32, py_l40, py_l100, py_l640, py_l1280, py_neg, py_add, py_sub, py_mul, py_stO]
      refine pm_maySteps h2.1 (fun _ _ => ?_) (fun c => absurd c (by omega))
      exact py_ieq (fun c => absurd c (by omega)) (fun _ => o2 K hK)
  · refine ⟨s, py_st t 60 0 0, -1, fun K hK => ?_, fun K hK => ?_, h2.mono (by omega) (by omega)⟩
    · unfold eX4_step
      try simp only [py_O_ap, py_l0, py_l1, py_l2, py_l3, py_l4, py_l5, py_l6, py_l7, py_l8, py_l9, py_l12, py_l16, py_l32, py_l40, py_l100, py_l640, py_l1280, py_neg, py_add, py_sub, py_mul, py_stO]
      refine pr_canStep hc (fun a b => absurd ⟨a, b⟩ hcan) (fun _ => ?_)
      rw [if_pos rfl]; exact hK
    · unfold eX5_step
      try simp only [py_O_ap, py_l0, py_l1, py_l2, py_l3, py_l4, py_l5, py_l6, py_l7, py_l8, py_l9, py_l12, py_l16, py_l32, py_l40, py_l100, py_l640, py_l1280, py_neg, py_add, py_sub, py_mul, py_stO]
      refine pm_maySteps h2.1 (fun a b => absurd ⟨a, b⟩ hcan) (fun _ => ?_)
      rw [if_pos rfl]; exact hK
/-- some steps, one after the other -/
theorem ph_steps {a : Int} (ha : 0 ≤ a ∧ a ≤ 100) : ∀ (d k : Nat) (f : Int) (s t : py_Z) (m : Int), (k : Int) + d = a → ph_R s t n m → m + d < 99999 → t 60 0 = 0 →
    ∃ (s' t' : py_Z) (r : Int), (∀ (K : ty_S → Int32 → Prop) (KX : Nat → ty_S → Prop), K (py_O s') (py_o r) → ∃ n9, lX4_collect_44 K KX n9 (py_o a) (py_o f) (py_o k) (py_O s)) ∧ (∀ K : ty_S → Int32 → Prop, K (py_O t') (py_o r) → ∃ n9, lX5_collect_49 K n9 (py_o a) (py_o f) (py_o k) (py_O t)) ∧ ph_R s' t' n (m + d) ∧ t' 60 0 = 0 := by
  intro d
  induction d with
  | zero =>
    intro k f s t m hk h hm h60
    refine ⟨s, t, f, fun K KX hK => ⟨1, ?_⟩, fun K hK => ⟨1, ?_⟩, h.mono (Nat.le_refl _) (by omega), h60⟩
    · unfold lX4_collect_44
      try simp only [py_O_ap, py_l0, py_l1, py_l2, py_l3, py_l4, py_l5, py_l6, py_l7, py_l8, py_l9, py_l12, py_l16, py_l32, py_l40, py_l100, py_l640, py_l1280, py_neg, py_add, py_sub, py_mul, py_stO]
      exact py_ile (fun _ => hK) (fun c => absurd c (by omega))
    · unfold lX5_collect_49
      try simp only [py_O_ap, py_l0, py_l1, py_l2, py_l3, py_l4, py_l5, py_l6, py_l7, py_l8, py_l9, py_l12, py_l16, py_l32, py_l40, py_l100, py_l640, py_l1280, py_neg, py_add, py_sub, py_mul, py_stO]
      exact py_ile (fun _ => hK) (fun c => absurd c (by omega))
  | succ d ih =>
    intro k f s t m hk h hm h60
    have hc := h.1.cnt
    by_cases hcan : 0 < s 13 0 ∧ s 13 0 < 40
    · obtain ⟨s1, t1, r1, o1, o2, o3, o4, o5⟩ := ph_step h hcan.1 hcan.2 (by omega)
      obtain ⟨s', t', r, p1, p2, p3, p4⟩ := ih (k + 1) (f + r1) s1 t1 (m + 1) (by omega) o3 (by omega) (by omega)
      refine ⟨s', t', r, fun K KX hK => ?_, fun K hK => ?_, p3.mono (Nat.le_refl _) (by omega), p4⟩
      · obtain ⟨n9, hn9⟩ := p1 K KX hK
        refine ⟨n9 + 1, ?_⟩
        unfold lX4_collect_44
        try simp only [py_O_ap, py_l0, py_l1, py_l2, py_l3, py_l4, py_l5, py_l6, py_l7, py_l8, py_l9, py_l12, py_l16, py_l32, py_l40, py_l100, py_l640, py_l1280, py_neg, py_add, py_sub, py_mul, py_stO]
        refine py_ile (fun c => absurd c (by omega)) (fun _ => ?_)
        refine pr_canStep hc (fun _ _ => ?_) (fun c => absurd c (by omega))
        refine py_ieq (fun c => absurd c (by omega)) (fun _ => ?_)
        refine o1 _ ?_
        try simp only [py_O_ap, py_l0, py_l1, py_l2, py_l3, py_l4, py_l5, py_l6, py_l7, py_l8, py_l9, py_l12, py_l16, py_l32, py_l40, py_l100, py_l640, py_l1280, py_neg, py_add, py_sub, py_mul, py_stO]
        exact hn9
      · obtain ⟨n9, hn9⟩ := p2 K hK
        refine ⟨n9 + 1, ?_⟩
        unfold lX5_collect_49
        try simp only [py_O_ap, py_l0, py_l1, py_l2, py_l3, py_l4, py_l5, py_l6, py_l7, py_l8, py_l9, py_l12, py_l16, py_l32, py_l40, py_l100, py_l640, py_l1280, py_neg, py_add, py_sub, py_mul, py_stO]
        refine py_ile (fun c => absurd c (by omega)) (fun _ => ?_)
        refine pm_maySteps h.1 (fun _ _ => ?_) (fun c => absurd c (by omega))
        refine py_ieq (fun c => absurd c (by omega)) (fun _ => ?_)
        refine o2 _ ?_
        try simp only [py_O_ap, py_l0, py_l1, py_l2, py_l3, py_l4, py_l5, py_l6, py_l7, py_l8, py_l9, py_l12, py_l16, py_l32, py_l40, py_l100, py_l640, py_l1280, py_neg, py_add, py_sub, py_mul, py_stO]
        exact hn9
    · refine ⟨s, t, f, fun K KX hK => ⟨1, ?_⟩, fun K hK => ⟨1, ?_⟩, h.mono (Nat.le_refl _) (by omega), h60⟩
      · unfold lX4_collect_44
        try simp only [py_O_ap, py_l0, py_l1, py_l2, py_l3, py_l4, py_l5, py_l6, py_l7, py_l8, py_l9, py_l12, py_l16, py_l32, py_l40, py_l100, py_l640, py_l1280, py_neg, py_add, py_sub, py_mul, py_stO]
        refine py_ile (fun c => absurd c (by omega)) (fun _ => ?_)
        refine pr_canStep hc (fun a b => absurd ⟨a, b⟩ hcan) (fun _ => ?_)
        rw [if_pos rfl]; exact hK
      · unfold lX5_collect_49
        try simp only [py_O_ap, py_l0, py_l1, py_l2, py_l3, py_l4, py_l5, py_l6, py_l7, py_l8, py_l9, py_l12, py_l16, py_l32, py_l40, py_l100, py_l640, py_l1280, py_neg, py_add, py_sub, py_mul, py_stO]
        refine py_ile (fun c => absurd c (by omega)) (fun _ => ?_)
        refine pm_maySteps h.1 (fun a b => absurd ⟨a, b⟩ hcan) (fun _ => ?_)
        rw [if_pos rfl]; exact hK
theorem ph_callCollect (h : ph_R s t n m) (hm : m < 99000) {a : Int} (ra : -2147483648 ≤ a ∧ a < 2147483648) : ph_Out (fun K KX => eX4_collect (py_O s) (py_o a) K KX) (fun K => eX5_collect (py_O t) (py_o a) K) py_code2 (n + 1) (m + 101) := by
  have hc := h.1.cnt
  by_cases hr : 0 ≤ a ∧ a ≤ 100
  · have h2 := h.t60 0
    obtain ⟨b, hb⟩ : ∃ b : Int, b = if a = 0 then s 13 0 else a := ⟨_, rfl⟩
    have hb2 : 0 ≤ b ∧ b ≤ 100 := by rw [hb]; split <;> omega
    obtain ⟨s', t', r, o1, o2, o3, o4⟩ := ph_steps hb2 b.toNat 0 0 s (py_st t 60 0 0) m (by omega) h2 (by omega) py_se
    refine ⟨s', t', r, o3.mono (by omega) (by omega), fun K hK => ?_, Or.inl ⟨o4, fun K KX hK => ?_⟩⟩
    · have hj : jX5_collect_16 K (py_o a) (py_o 0) (py_O t) := by
        unfold jX5_collect_16
        try simp only [py_O_ap, py_l0, py_l1, py_l2, py_l3, py_l4, py_l5, py_l6, py_l7, py_l8, py_l9, py_l12, py_l16, py_l32, py_l40, py_l100, py_l640, py_l1280, py_neg, py_add, py_sub, py_mul, py_stO]
        rw [if_pos (Int32.le_refl _)]
        refine py_ieq (fun e => ?_) (fun e => ?_)
        · refine pm_freeCars h2.1 ?_
          try simp only [py_O_ap, py_l0, py_l1, py_l2, py_l3, py_l4, py_l5, py_l6, py_l7, py_l8, py_l9, py_l12, py_l16, py_l32, py_l40, py_l100, py_l640, py_l1280, py_neg, py_add, py_sub, py_mul, py_stO]
          rw [if_pos e] at hb
          have := o2 K hK
          rw [hb] at this
          rw [show (40 : Int) - (40 - s 13 0) = s 13 0 by omega]
          exact this
        · rw [if_neg e] at hb
          rw [hb] at o2
          exact o2 K hK
      unfold eX5_collect
      try simp only [py_O_ap, py_l0, py_l1, py_l2, py_l3, py_l4, py_l5, py_l6, py_l7, py_l8, py_l9, py_l12, py_l16, py_l32, py_l40, py_l100, py_l640, py_l1280, py_neg, py_add, py_sub, py_mul, py_stO]
      exact py_ilt (fun c => absurd c (by omega)) (fun _ => py_ile (fun _ => hj) (fun c => absurd c (by omega)))
    · unfold eX4_collect
      try simp only [py_O_ap, py_l0, py_l1, py_l2, py_l3, py_l4, py_l5, py_l6, py_l7, py_l8, py_l9, py_l12, py_l16, py_l32, py_l40, py_l100, py_l640, py_l1280, py_neg, py_add, py_sub, py_mul, py_stO]
      refine py_ilt (fun c => absurd c (by omega)) (fun _ => py_ile (fun _ => ?_) (fun c => absurd c (by omega)))
      refine py_ieq (fun e => ?_) (fun e => ?_)
      · rw [if_pos e] at hb
        rw [hb] at o1
        exact o1 K KX hK
      · rw [if_neg e] at hb
        rw [hb] at o1
        exact o1 K KX hK
  · refine ⟨s, py_st t 60 0 1, 0, (h.t60 1).mono (by omega) (by omega), fun K hK => ?_, Or.inr ⟨2, by omega, py_se, by decide, fun K KX hK => ?_⟩⟩
    · have hj : jX5_collect_11 K (py_o a) (py_O t) := by
        unfold jX5_collect_11 jX5_collect_16
        try simp only [py_O_ap, py_l0, py_l1, py_l2, py_l3, py_l4, py_l5, py_l6, py_l7, py_l8, py_l9, py_l12, py_l16, py_l32, py_l40, py_l100, py_l640, py_l1280, py_neg, py_add, py_sub, py_mul, py_stO]
        exact py_ile (fun c => absurd c (by omega)) (fun _ => hK)
      unfold eX5_collect
      try simp only [py_O_ap, py_l0, py_l1, py_l2, py_l3, py_l4, py_l5, py_l6, py_l7, py_l8, py_l9, py_l12, py_l16, py_l32, py_l40, py_l100, py_l640, py_l1280, py_neg, py_add, py_sub, py_mul, py_stO]
      exact py_ilt (fun _ => hj) (fun _ => py_ile (fun c => absurd c (by omega)) (fun _ => hj))
    · unfold eX4_collect
      try simp only [py_O_ap, py_l0, py_l1, py_l2, py_l3, py_l4, py_l5, py_l6, py_l7, py_l8, py_l9, py_l12, py_l16, py_l32, py_l40, py_l100, py_l640, py_l1280, py_neg, py_add, py_sub, py_mul, py_stO]
      exact py_ilt (fun _ => hK) (fun _ => py_ile (fun c => absurd c (by omega)) (fun _ => hK))
theorem ph_callLength (h : ph_R s t n m) {a : Int} (ra : -2147483648 ≤ a ∧ a < 2147483648) : ph_Out (fun K KX => eX4_length (py_O s) (py_o a) K KX) (fun K => eX5_length (py_O t) (py_o a) K) py_code2 (n + 1) (m + 101) := by
  obtain ⟨b1, b2, b3, b4, b5, b6, b7, b8, b9, b10⟩ := id h
  by_cases hr : 1 ≤ a ∧ a ≤ 40
  · have hR : ph_R (py_st s 23 0 a) (py_st (py_st t 60 0 0) 51 0 a) n m := by
      have e : ∀ g i, g ≠ 51 → g ≠ 60 → py_st (py_st t 60 0 0) 51 0 a g i = t g i := fun g i h1 h2 => by rw [py_sn h1, py_sn h2]
      have es : ∀ g i, g ≠ 23 → py_st s 23 0 a g i = s g i := fun g i h1 => py_sn h1
      have hE : ph_E (py_st (py_st t 60 0 0) 51 0 a) = ph_E t := ph_E_congr (fun x => e 31 x (by decide) (by decide)) (fun x => e 32 x (by decide) (by decide))
      refine ⟨b1.congr (fun i => es 5 i (by decide)) (fun i => es 6 i (by decide)) (es 13 0 (by decide)) (es 14 0 (by decide)) (e 50 0 (by decide) (by decide)) (e 57 0 (by decide) (by decide)) (fun i => e 40 i (by decide) (by decide)) (fun i => e 41 i (by decide) (by decide)) (fun i => e 42 i (by decide) (by decide)), ?_, b3.congr (fun g i hg => e g i (by omega) (by omega)), fun r hr => ?_, ?_, ?_, ?_, ?_, ?_, ?_⟩
      · rw [hE]; exact b2.congr (fun g i hg => es g i (by omega)) (fun c _ hz => by rwa [es 6 c (by decide)] at hz) (fun g i _ _ _ _ => e g i (by omega) (by omega))
      · rw [es 7 r (by decide), e 43 r (by decide) (by decide), hE]; exact b4 r hr
      · rw [es 20 0 (by decide), e 59 0 (by decide) (by decide)]; exact b5
      · rw [es 15 0 (by decide), es 16 0 (by decide), es 17 0 (by decide), es 18 0 (by decide), es 19 0 (by decide), e 52 0 (by decide) (by decide), e 53 0 (by decide) (by decide), e 54 0 (by decide) (by decide), e 55 0 (by decide) (by decide), e 56 0 (by decide) (by decide)]; exact b6
      · rw [py_se, py_se]; omega
      · rw [es 24 0 (by decide), e 58 0 (by decide) (by decide)]; exact b8
      · rw [e 57 0 (by decide) (by decide)]; exact b9
      · rw [es 26 0 (by decide)]; exact ⟨b10.1, b10.2.1, fun p hp => by rw [es 10 p (by decide)]; exact b10.2.2 p hp⟩
    refine ⟨_, _, t 51 0, hR.mono (by omega) (by omega), fun K hK => ?_, Or.inl ⟨by rw [py_sn (by decide), py_se], fun K KX hK => ?_⟩⟩
    · have hj : jX5_length_17 K (py_o a) (py_o 0) (py_O t) := by
        unfold jX5_length_17
        try simp only [py_O_ap, py_l0, py_l1, py_l2, py_l3, py_l4, py_l5, py_l6, py_l7, py_l8, py_l9, py_l12, py_l16, py_l32, py_l40, py_l100, py_l640, py_l1280, py_neg, py_add, py_sub, py_mul, py_stO]
        rw [if_pos (Int32.le_refl _)]
        exact hK
      unfold eX5_length
      try simp only [py_O_ap, py_l0, py_l1, py_l2, py_l3, py_l4, py_l5, py_l6, py_l7, py_l8, py_l9, py_l12, py_l16, py_l32, py_l40, py_l100, py_l640, py_l1280, py_neg, py_add, py_sub, py_mul, py_stO]
      exact py_ilt (fun c => absurd c (by omega)) (fun _ => py_ile (fun _ => hj) (fun c => absurd c (by omega)))
    · unfold eX4_length
      try simp only [py_O_ap, py_l0, py_l1, py_l2, py_l3, py_l4, py_l5, py_l6, py_l7, py_l8, py_l9, py_l12, py_l16, py_l32, py_l40, py_l100, py_l640, py_l1280, py_neg, py_add, py_sub, py_mul, py_stO]
      rw [b7.1]
      exact py_ilt (fun c => absurd c (by omega)) (fun _ => py_ile (fun _ => hK) (fun c => absurd c (by omega)))
  · refine ⟨s, py_st t 60 0 1, 0, (h.t60 1).mono (by omega) (by omega), fun K hK => ?_, Or.inr ⟨2, by omega, py_se, by decide, fun K KX hK => ?_⟩⟩
    · have hj : jX5_length_12 K (py_o a) (py_O t) := by
        unfold jX5_length_12 jX5_length_17
        try simp only [py_O_ap, py_l0, py_l1, py_l2, py_l3, py_l4, py_l5, py_l6, py_l7, py_l8, py_l9, py_l12, py_l16, py_l32, py_l40, py_l100, py_l640, py_l1280, py_neg, py_add, py_sub, py_mul, py_stO]
        exact py_ile (fun c => absurd c (by omega)) (fun _ => hK)
      unfold eX5_length
      try simp only [py_O_ap, py_l0, py_l1, py_l2, py_l3, py_l4, py_l5, py_l6, py_l7, py_l8, py_l9, py_l12, py_l16, py_l32, py_l40, py_l100, py_l640, py_l1280, py_neg, py_add, py_sub, py_mul, py_stO]
      exact py_ilt (fun _ => hj) (fun _ => py_ile (fun c => absurd c (by omega)) (fun _ => hj))
    · unfold eX4_length
      try simp only [py_O_ap, py_l0, py_l1, py_l2, py_l3, py_l4, py_l5, py_l6, py_l7, py_l8, py_l9, py_l12, py_l16, py_l32, py_l40, py_l100, py_l640, py_l1280, py_neg, py_add, py_sub, py_mul, py_stO]
      exact py_ilt (fun _ => hK) (fun _ => py_ile (fun c => absurd c (by omega)) (fun _ => hK))
end PC1
