/-! PURE: what the registers hold is moved -/
section PHE
variable {s t s0 t0 : py_Z} {e : Nat}
theorem ph_Mid.six_e (h : ph_Mid s t s0 t0 e) : s 6 e = t 40 0 ∧ 1 ≤ t 40 0 := by
  have h5 := h.2.2.2.2.1
  have h1 := h.1.2.1 0 (by omega)
  have h2 := (h.1.2.2.2.1 0 0 (by omega) (by omega)).2.2
  simp only [Nat.mul_zero, Nat.add_zero] at h2
  rw [h5.2.2.2.1] at h2
  exact ⟨by simpa using h2, (h.1.2.2.2.2.1 0 (by omega)).1⟩
/-- a new train, in the middle of a step -/
theorem ph_Mid.new (h : ph_Mid s t s0 t0 e) (h1 : t 50 0 = 1) (hN : s 13 0 < 40) {c : Nat} (hc : c < 40) (hf : s 6 c = 0) : ph_Mid (pr_new s c) (pm_new t c) s0 t0 e := by
  obtain ⟨a1, a2, a3, a4, a5, a6, a7, a8, a9, a10, a11, a12, a13⟩ := id h
  have hse := h.six_e
  have hce : c ≠ e := fun e9 => by rw [e9] at hf; omega
  obtain ⟨c1, c2, c3, c4, c5, c6, c7⟩ := a2.1 c hc
  have z38 := c6 hf
  have z37 : t 37 c = 0 := by rw [z38] at c4; exact c4
  have sg : ∀ g i, g ≠ 5 → g ≠ 6 → g ≠ 13 → g ≠ 14 → pr_new s c g i = s g i := fun g i h5 h6 h13 h14 => by simp [pr_new, pr_ins, py_st, h5, h6, h13, h14]
  have tg : ∀ g i, g ≠ 40 → g ≠ 41 → g ≠ 42 → g ≠ 50 → g ≠ 57 → pm_new t c g i = t g i := fun g i h1 h2 h3 h4 h5 => by
    simp only [pm_new, pm_cpl, pm_nt, h1, h2, h3, h4, h5, if_false]
    by_cases e3 : g = 37 ∨ g = 38
    · rw [if_pos e3]
      by_cases e4 : i = c
      · rw [if_pos e4, e4]
        rcases e3 with e3 | e3 <;> rw [e3] <;> omega
      · rw [if_neg e4]
    · rw [if_neg e3]
  have s6 : ∀ d, pr_new s c 6 d = if d = c then s 14 0 + 1 else s 6 d := fun d => by simp [pr_new, pr_ins, py_st]
  have s13 : pr_new s c 13 0 = s 13 0 + 1 := by simp [pr_new, pr_ins, py_st]
  have t42 : pm_new t c 42 0 = t 42 0 := by
    have : 0 ≠ 40 * (t 50 0).toNat + (pm_nt t 41 (t 50 0).toNat).toNat := by omega
    simp only [pm_new, pm_cpl, this, if_false]
    simp [pm_nt]
  have t50 : pm_new t c 50 0 = 2 := by simp [pm_new, pm_cpl, pm_nt, h1]
  have t57 : pm_new t c 57 0 = t 57 0 + 1 := by simp [pm_new, pm_cpl, pm_nt]
  have hRW := a1.new hN (by omega) hc hf
  generalize pr_new s c = s' at *
  generalize pm_new t c = t' at *
  have t30 : ∀ i, t' 30 i = t 30 i := fun i => tg 30 i (by omega) (by omega) (by omega) (by omega) (by omega)
  have t31 : ∀ i, t' 31 i = t 31 i := fun i => tg 31 i (by omega) (by omega) (by omega) (by omega) (by omega)
  have t32 : ∀ i, t' 32 i = t 32 i := fun i => tg 32 i (by omega) (by omega) (by omega) (by omega) (by omega)
  have t33 : ∀ i, t' 33 i = t 33 i := fun i => tg 33 i (by omega) (by omega) (by omega) (by omega) (by omega)
  have t34 : ∀ i, t' 34 i = t 34 i := fun i => tg 34 i (by omega) (by omega) (by omega) (by omega) (by omega)
  have t37 : ∀ i, t' 37 i = t 37 i := fun i => tg 37 i (by omega) (by omega) (by omega) (by omega) (by omega)
  have t38 : ∀ i, t' 38 i = t 38 i := fun i => tg 38 i (by omega) (by omega) (by omega) (by omega) (by omega)
  have t39 : ∀ i, t' 39 i = t 39 i := fun i => tg 39 i (by omega) (by omega) (by omega) (by omega) (by omega)
  have t43 : ∀ i, t' 43 i = t 43 i := fun i => tg 43 i (by omega) (by omega) (by omega) (by omega) (by omega)
  have ex : ∀ c k, ph_x t' c k = ph_x t c k := fun c k => by unfold ph_x; rw [t39]
  have esz : ∀ y, ph_sz t' y = ph_sz t y := fun y => by unfold ph_sz; rw [t33, t34]
  have ep : ∀ c k, ph_pos t' c k = ph_pos t c k := fun c k => ph_pos_congr k (fun m _ => ⟨ex c m, esz _⟩)
  have emc : ∀ m, ph_mc t' e m = ph_mc t e m := fun m => py_cnt_congr (fun k _ => by rw [ex, t31])
  have emw : ∀ m, ph_mw t' e m = ph_mw t e m := by
    intro m
    induction m with
    | zero => rfl
    | succ m ih => simp only [ph_mw]; rw [ih, ex, t31, esz]
  refine ⟨hRW, a2.congr (fun g i hg => sg g i (by omega) (by omega) (by omega) (by omega)) (fun d _ hz => by
      rw [s6] at hz
      by_cases e9 : d = c
      · rw [e9]; exact hf
      · rwa [if_neg e9] at hz) (fun g i _ _ _ _ => tg g i (by omega) (by omega) (by omega) (by omega) (by omega)), a3.congr (fun g i hg => tg g i (by omega) (by omega) (by omega) (by omega) (by omega)), ?_, ?_, ?_, ⟨?_, ?_⟩, ?_, ?_, ?_, ?_, ?_, ?_, ?_⟩
  · intro r hr; rw [sg 7 r (by omega) (by omega) (by omega) (by omega), t43]; exact a4 r hr
  · rw [sg 20 0 (by omega) (by omega) (by omega) (by omega), tg 59 0 (by omega) (by omega) (by omega) (by omega) (by omega), t42, t50]
    exact ⟨a5.1, a5.2.1, a5.2.2.1, a5.2.2.2.1, by omega⟩
  · rw [sg 18 0 (by omega) (by omega) (by omega) (by omega), sg 19 0 (by omega) (by omega) (by omega) (by omega), tg 55 0 (by omega) (by omega) (by omega) (by omega) (by omega), tg 56 0 (by omega) (by omega) (by omega) (by omega) (by omega)]; exact a6
  · intro g i hg; rw [sg g i (by omega) (by omega) (by omega) (by omega)]; exact a7.1 g i hg
  · intro g i hg; rw [tg g i (by omega) (by omega) (by omega) (by omega) (by omega)]; exact a7.2 g i hg
  · rw [t38, t37]; exact ⟨a8.1, a8.2.1, fun k hk => by rw [t39]; exact a8.2.2 k hk⟩
  · intro x hx hl
    rw [t30] at hl
    have := a9 x hx hl
    simp only [t31, t32, t38, ex]; exact this
  · intro k hk
    rw [t38] at hk
    have := a10 k hk
    simp only [t30, t31, t32, ex, ep, sg 8 _ (show 8 ≠ 5 by decide) (show 8 ≠ 6 by decide) (show 8 ≠ 13 by decide) (show 8 ≠ 14 by decide)]; exact this
  · rw [sg 21 0 (by omega) (by omega) (by omega) (by omega), t38, emc]; exact a11
  · rw [s13, t38, emw]
    refine Or.inr ⟨c, hc, ?_, hce, by rw [t37, z37]; omega⟩
    rw [s6, if_pos rfl]
    have := a1.2.2.2.2.2.2.1
    omega
  · rw [t50, t57]
    omega
  · intro d hd
    have h9 := a13.2 d hd
    rw [s6, if_neg (fun e9 => by rw [e9] at h9; rw [e9] at hd; omega)]
    exact h9
/-- the registers, one after the other -/
theorem ph_held : ∀ (d r : Nat) (s t : py_Z), ph_Mid s t s0 t0 e → s 22 0 = s 21 0 → ph_CL t t0 e (fun _ => False) → (t 50 0 = 1 → s 13 0 < 40) → r + d = 16 →
    (∀ q : Nat, q < r → t0 43 q < 0 ∨ t 31 (t0 43 q).toNat ≠ e) →
    ∃ s' t' : py_Z, (∀ K : ty_S → Prop, K (py_O s') → ∃ n9, lX3_moveHeld_2 K n9 (py_o (t 40 0)) (py_o r) (py_O s)) ∧
      (∀ K : ty_S → Int32 → Prop, (∃ n9, lX5_oneStep_138 K n9 (py_o 0) (py_O t')) → ∃ n9, lX5_oneStep_83 K n9 (py_o r) (py_O t)) ∧
      ph_Mid s' t' s0 t0 e ∧ s' 22 0 = s' 21 0 ∧ ph_CL t' t0 e (fun _ => False) ∧ (∀ x : Nat, t 31 x ≠ e → t' 31 x = t 31 x ∧ t' 32 x = t 32 x) ∧
      (∀ q : Nat, q < 16 → t0 43 q < 0 ∨ t' 31 (t0 43 q).toNat ≠ e) := by
  intro d
  induction d with
  | zero =>
    intro r s t hM h22 hCL hN hr hdone
    refine ⟨s, t, fun K hK => ⟨1, ?_⟩, fun K hK => ⟨1, ?_⟩, hM, h22, hCL, fun _ _ => ⟨rfl, rfl⟩, fun q hq => hdone q (by omega)⟩
    · unfold lX3_moveHeld_2
      try simp only [py_O_ap, py_l0, py_l1, py_l2, py_l3, py_l4, py_l5, py_l6, py_l7, py_l8, py_l9, py_l12, py_l16, py_l32, py_l40, py_l100, py_l640, py_l1280, py_neg, py_add, py_sub, py_mul, py_stO]
      exact py_ile (fun _ => hK) (fun c => absurd c (by omega))
    · unfold lX5_oneStep_83
      try simp only [py_O_ap, py_l0, py_l1, py_l2, py_l3, py_l4, py_l5, py_l6, py_l7, py_l8, py_l9, py_l12, py_l16, py_l32, py_l40, py_l100, py_l640, py_l1280, py_neg, py_add, py_sub, py_mul, py_stO]
      exact py_ile (fun _ => hK) (fun c => absurd c (by omega))
  | succ d ih =>
    intro r s t hM h22 hCL hN hr hdone
    have g43 := hM.f 43 r (by omega)
    have hPV : ph_PV t (t0 43 r) := by
      have := hM.2.2.1.2.2.2.2.1 r (by omega)
      rwa [g43] at this
    have hs7 : s 7 r = ph_E t0 (t0 43 r) := by rw [hM.2.2.2.1 r (by omega), g43]
    have hEb := hM.E hPV
    have hnum := hM.1.2.2.2.2.1
    have hmade := hM.1.2.2.2.2.2.2.1
    by_cases hin : 0 ≤ t0 43 r ∧ t 31 (t0 43 r).toNat = e
    · obtain ⟨y1, y2, y3, y4⟩ := hEb.resolve_left (by omega)
      have hyc : t0 43 r = ((t0 43 r).toNat : Nat) := by omega
      -- behind the new train, if there is one
      have hmid : ∃ s1 t1 : py_Z, ph_Mid s1 t1 s0 t0 e ∧ s1 22 0 = s 22 0 ∧ s1 21 0 = s 21 0 ∧ (∀ x, t1 31 x = t 31 x ∧ t1 32 x = t 32 x) ∧ t1 40 0 = t 40 0 ∧ s1 7 r = s 7 r ∧ 2 ≤ t1 50 0 ∧ (∀ g, g = 30 ∨ g = 43 → ∀ i, t1 g i = t g i) ∧
          (∀ (K : ty_S → Prop) (n : Nat), jX3_moveHeld_40 K (fun a0 a1 S9 => lX3_moveHeld_2 K n a0 a1 S9) (py_o (t 40 0)) (py_o r) (py_O s1) → lX3_moveHeld_2 K (n + 1) (py_o (t 40 0)) (py_o r) (py_O s)) ∧
          (∀ (K : ty_S → Int32 → Prop) (n : Nat), jX5_oneStep_114 K (fun a0 S9 => lX5_oneStep_83 K n a0 S9) (py_o r) (py_O t1) → lX5_oneStep_83 K (n + 1) (py_o r) (py_O t)) := by
        by_cases e1 : t 50 0 = 1
        · obtain ⟨c, hc, hf, hlst⟩ := pp_least hM.1 (hN e1)
          have m1 : pm_new t c 40 0 = t 40 0 := by
            simp only [pm_new, pm_cpl, pm_nt]
            grind
          refine ⟨pr_new s c, pm_new t c, hM.new e1 (hN e1) hc hf, by simp [pr_new, pr_ins, py_st], by simp [pr_new, pr_ins, py_st], fun x => by simp [pm_new, pm_cpl, pm_nt], m1, by simp [pr_new, pr_ins, py_st], by simp [pm_new, pm_cpl, pm_nt, e1], fun g hg i => by rcases hg with e9 | e9 <;> subst e9 <;> simp [pm_new, pm_cpl, pm_nt], fun K n hK => ?_, fun K n hK => ?_⟩
          · unfold lX3_moveHeld_2
            try simp only [py_O_ap, py_l0, py_l1, py_l2, py_l3, py_l4, py_l5, py_l6, py_l7, py_l8, py_l9, py_l12, py_l16, py_l32, py_l40, py_l100, py_l640, py_l1280, py_neg, py_add, py_sub, py_mul, py_stO]
            refine py_ile (fun c => absurd c (by omega)) (fun _ => py_and ?_)
            rw [py_nat (by omega)]
            simp only [Int.toNat_natCast]
            rw [hs7]
            refine hM.still hPV (fun _ _ => ?_) (fun c => absurd hin c)
            refine py_ieq (fun c => absurd c (by omega)) (fun _ => ?_)
            have := hnum 0 (by omega)
            refine pr_lastTrain hM.1 (fun _ => ?_) (fun c => absurd c (by omega))
            rw [show (t 50 0).toNat - 1 = 0 by omega]
            refine py_ieq (fun _ => ?_) (fun c => absurd rfl c)
            exact pr_addTrain hM.1 (hN e1) hc hf hlst hK
          · unfold lX5_oneStep_83
            try simp only [py_O_ap, py_l0, py_l1, py_l2, py_l3, py_l4, py_l5, py_l6, py_l7, py_l8, py_l9, py_l12, py_l16, py_l32, py_l40, py_l100, py_l640, py_l1280, py_neg, py_add, py_sub, py_mul, py_stO]
            refine py_ile (fun c => absurd c (by omega)) (fun _ => py_and ?_)
            rw [py_nat (by omega)]
            simp only [Int.toNat_natCast]
            rw [g43]
            refine hM.inCar hPV (fun _ _ => ?_) (fun c => absurd hin c)
            refine py_ieq (fun c => absurd c (by omega)) (fun _ => ?_)
            try simp only [py_O_ap, py_l0, py_l1, py_l2, py_l3, py_l4, py_l5, py_l6, py_l7, py_l8, py_l9, py_l12, py_l16, py_l32, py_l40, py_l100, py_l640, py_l1280, py_neg, py_add, py_sub, py_mul, py_stO]
            refine py_ieq (fun _ => ?_) (fun c => absurd e1 c)
            exact pm_newTrain hM.1 (by omega) hc hf hlst hK
        · have h50 := hM.2.2.2.2.1.2.2.2.2
          have h0 := hM.1.1
          refine ⟨s, t, hM, rfl, rfl, fun _ => ⟨rfl, rfl⟩, rfl, rfl, by omega, fun _ _ _ => rfl, fun K n hK => ?_, fun K n hK => ?_⟩
          · unfold lX3_moveHeld_2
            try simp only [py_O_ap, py_l0, py_l1, py_l2, py_l3, py_l4, py_l5, py_l6, py_l7, py_l8, py_l9, py_l12, py_l16, py_l32, py_l40, py_l100, py_l640, py_l1280, py_neg, py_add, py_sub, py_mul, py_stO]
            refine py_ile (fun c => absurd c (by omega)) (fun _ => py_and ?_)
            rw [py_nat (by omega)]
            simp only [Int.toNat_natCast]
            rw [hs7]
            refine hM.still hPV (fun _ _ => ?_) (fun c => absurd hin c)
            refine py_ieq (fun c => absurd c (by omega)) (fun _ => ?_)
            have h1 := hnum 0 (by omega)
            have h2 := hnum ((t 50 0).toNat - 1) (by omega)
            have h3 := hM.1.2.2.2.2.2.1 0 ((t 50 0).toNat - 1) (by omega) (by omega)
            refine pr_lastTrain hM.1 (fun _ => ?_) (fun c => absurd c (by omega))
            exact py_ieq (fun c => absurd c (by omega)) (fun _ => hK)
          · unfold lX5_oneStep_83
            try simp only [py_O_ap, py_l0, py_l1, py_l2, py_l3, py_l4, py_l5, py_l6, py_l7, py_l8, py_l9, py_l12, py_l16, py_l32, py_l40, py_l100, py_l640, py_l1280, py_neg, py_add, py_sub, py_mul, py_stO]
            refine py_ile (fun c => absurd c (by omega)) (fun _ => py_and ?_)
            rw [py_nat (by omega)]
            simp only [Int.toNat_natCast]
            rw [g43]
            refine hM.inCar hPV (fun _ _ => ?_) (fun c => absurd hin c)
            refine py_ieq (fun c => absurd c (by omega)) (fun _ => ?_)
            try simp only [py_O_ap, py_l0, py_l1, py_l2, py_l3, py_l4, py_l5, py_l6, py_l7, py_l8, py_l9, py_l12, py_l16, py_l32, py_l40, py_l100, py_l640, py_l1280, py_neg, py_add, py_sub, py_mul, py_stO]
            exact py_ieq (fun c => absurd c e1) (fun _ => hK)
      obtain ⟨s1, t1, hM1, v1, v2, v3, v4, v5, v6, v7, v8, v9⟩ := hmid
      have h50 := hM1.1.1
      obtain ⟨s2, t2, u1, u2, u3, u4, u5, u6, u7⟩ := hM1.moveAll (by rw [v1, v2]; exact h22) (fun x hx hl h0 hme hX a ha => by
        rw [(v3 x).1] at hme
        rw [(v3 _).1]
        exact hCL x hx hl h0 hme hX a ha) (y := (t0 43 r).toNat) (j := (t1 50 0).toNat - 1) (by omega) (by rw [v7 30 (Or.inl rfl)]; exact y3) (by rw [(v3 _).1]; exact hin.2) (by omega)
      have hmono : ∀ x : Nat, t 31 x ≠ e → t2 31 x = t 31 x ∧ t2 32 x = t 32 x := fun x hx => by
        have := u6.1 x (by rw [(v3 x).1]; exact hx)
        rw [(v3 x).1, (v3 x).2] at this
        exact this
      obtain ⟨s', t', w1, w2, w3, w4, w5, w6, w7⟩ := ih (r + 1) s2 t2 u3 u4 u5 (fun e9 => by rw [u6.2.1] at e9; omega) (by omega) (fun q hq => by
        by_cases e9 : q = r
        · rw [e9]; exact Or.inr u7
        · rcases hdone q (by omega) with e10 | e10
          · exact Or.inl e10
          · exact Or.inr (by rw [(hmono _ e10).1]; exact e10))
      refine ⟨s', t', fun K hK => ?_, fun K hK => ?_, w3, w4, w5, fun x hx => ?_, w7⟩
      · obtain ⟨n9, hn9⟩ := w1 K hK
        refine ⟨n9 + 1, v8 K n9 ?_⟩
        unfold jX3_moveHeld_40
        try simp only [py_O_ap, py_l0, py_l1, py_l2, py_l3, py_l4, py_l5, py_l6, py_l7, py_l8, py_l9, py_l12, py_l16, py_l32, py_l40, py_l100, py_l640, py_l1280, py_neg, py_add, py_sub, py_mul, py_stO]
        refine py_and ?_
        rw [py_nat (by omega)]
        simp only [Int.toNat_natCast]
        refine pr_lastTrain hM1.1 (fun _ => ?_) (fun c => absurd c (by omega))
        rw [v5, hs7, hyc]
        refine u1 _ ?_
        rw [u6.2.2, v4] at hn9
        exact hn9
      · obtain ⟨n9, hn9⟩ := w2 K hK
        refine ⟨n9 + 1, v9 K n9 ?_⟩
        unfold jX5_oneStep_114
        try simp only [py_O_ap, py_l0, py_l1, py_l2, py_l3, py_l4, py_l5, py_l6, py_l7, py_l8, py_l9, py_l12, py_l16, py_l32, py_l40, py_l100, py_l640, py_l1280, py_neg, py_add, py_sub, py_mul, py_stO]
        refine py_and ?_
        rw [py_nat (by omega)]
        simp only [Int.toNat_natCast]
        try simp only [py_O_ap, py_l0, py_l1, py_l2, py_l3, py_l4, py_l5, py_l6, py_l7, py_l8, py_l9, py_l12, py_l16, py_l32, py_l40, py_l100, py_l640, py_l1280, py_neg, py_add, py_sub, py_mul, py_stO]
        rw [v7 43 (Or.inr rfl), g43, hyc, show t1 50 0 - 1 = (((t1 50 0).toNat - 1 : Nat) : Int) by omega]
        exact u2 _ hn9
      · have := w6 x (by rw [(hmono x hx).1]; exact hx)
        rw [(hmono x hx).1, (hmono x hx).2] at this
        exact this
    · obtain ⟨s', t', w1, w2, w3, w4, w5, w6, w7⟩ := ih (r + 1) s t hM h22 hCL hN (by omega) (fun q hq => by
        by_cases e9 : q = r
        · rw [e9]
          by_cases e10 : t0 43 r < 0
          · exact Or.inl e10
          · exact Or.inr (fun e11 => hin ⟨by omega, e11⟩)
        · exact hdone q (by omega))
      have hb := hnum 0 (by have := hM.2.2.2.2.1; omega)
      refine ⟨s', t', fun K hK => ?_, fun K hK => ?_, w3, w4, w5, w6, w7⟩
      · obtain ⟨n9, hn9⟩ := w1 K hK
        refine ⟨n9 + 1, ?_⟩
        unfold lX3_moveHeld_2
        try simp only [py_O_ap, py_l0, py_l1, py_l2, py_l3, py_l4, py_l5, py_l6, py_l7, py_l8, py_l9, py_l12, py_l16, py_l32, py_l40, py_l100, py_l640, py_l1280, py_neg, py_add, py_sub, py_mul, py_stO]
        refine py_ile (fun c => absurd c (by omega)) (fun _ => py_and ?_)
        rw [py_nat (by omega)]
        simp only [Int.toNat_natCast]
        rw [hs7]
        refine hM.still hPV (fun a b => absurd ⟨a, b⟩ hin) (fun _ => ?_)
        exact py_ieq (fun _ => hn9) (fun c => absurd rfl c)
      · obtain ⟨n9, hn9⟩ := w2 K hK
        refine ⟨n9 + 1, ?_⟩
        unfold lX5_oneStep_83
        try simp only [py_O_ap, py_l0, py_l1, py_l2, py_l3, py_l4, py_l5, py_l6, py_l7, py_l8, py_l9, py_l12, py_l16, py_l32, py_l40, py_l100, py_l640, py_l1280, py_neg, py_add, py_sub, py_mul, py_stO]
        refine py_ile (fun c => absurd c (by omega)) (fun _ => py_and ?_)
        rw [py_nat (by omega)]
        simp only [Int.toNat_natCast]
        rw [g43]
        refine hM.inCar hPV (fun a b => absurd ⟨a, b⟩ hin) (fun _ => ?_)
        exact py_ieq (fun _ => hn9) (fun c => absurd rfl c)
end PHE
