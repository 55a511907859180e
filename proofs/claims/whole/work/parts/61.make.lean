/-! PURE: make -/
section PMK
variable {s t : py_Z} {n : Nat} {m : Int}
/-- the last car has room -/
def ph_LR (s t : py_Z) (z : Int) : Prop := 0 < s 13 0 ∧ z ≤ 32 - t 37 (s 5 (s 13 0 - 1).toNat).toNat
theorem ph_R.fil (h : ph_R s t n m) {c : Nat} (hc : c < 40) : s 2 c = t 37 c ∧ 0 ≤ t 37 c ∧ t 37 c ≤ 32 := by
  have := h.2.1.1 c hc
  have h1 := this.2.1
  have h2 := this.2.2.2.1
  have h3 := this.2.2.2.2.1
  omega
theorem pr_lastHasRoom (h : ph_R s t n m) {z : Int} (hz : 2 ≤ z ∧ z ≤ 26) {K : ty_S → Int32 → Prop} (h1 : ph_LR s t z → K (py_O s) (py_o 1)) (h0 : ¬ ph_LR s t z → K (py_O s) (py_o 0)) : eX3_lastHasRoom (py_O s) (py_o z) K := by
  have hc0 := h.1.cnt
  unfold eX3_lastHasRoom
  try simp only [py_O_ap, py_l0, py_l1, py_l2, py_l3, py_l4, py_l5, py_l6, py_l7, py_l8, py_l9, py_l12, py_l16, py_l32, py_l40, py_l100, py_l640, py_l1280, py_neg, py_add, py_sub, py_mul, py_stO]
  refine pr_carAt hc0 (fun a1 a2 => ?_) (fun c => ?_)
  · have hcar := (h.1.car (i := (s 13 0 - 1).toNat) (by omega)).1
    have hf := h.fil (c := (s 5 (s 13 0 - 1).toNat).toNat) (by omega)
    refine pr_room (fun _ _ => ?_) (fun c => absurd c (by omega))
    rw [hf.1]
    exact py_ilt (fun c => h0 (fun e => by have := e.2; omega)) (fun c => h1 ⟨by omega, c⟩)
  · refine pr_room (fun c _ => absurd c (by omega)) (fun _ => ?_)
    exact py_ilt (fun _ => h0 (fun e => by have := e.1; omega)) (fun c => absurd c (by omega))
/-- the last car of the last train -/
theorem ph_lastCar (hRW : pr_RW s t) (hn : 0 < t 50 0) : t 42 (40 * ((t 50 0).toNat - 1) + ((t 41 ((t 50 0).toNat - 1)).toNat - 1)) = s 5 (s 13 0 - 1).toNat := by
  have h41 := hRW.2.1 ((t 50 0).toNat - 1) (by omega)
  have hl := hRW.last hn
  obtain ⟨d1, d2, d3⟩ := hRW.2.2.2.1 ((t 50 0).toNat - 1) ((t 41 ((t 50 0).toNat - 1)).toNat - 1) (by omega) (by omega)
  rw [← d1]
  congr 1
  omega
theorem pm_lastHasRoom (h : ph_R s t n m) {z : Int} (hz : 2 ≤ z ∧ z ≤ 26) {K : ty_S → Int32 → Prop} (h1 : ph_LR s t z → K (py_O t) (py_o 1)) (h0 : ¬ ph_LR s t z → K (py_O t) (py_o 0)) : eX5_lastHasRoom (py_O t) (py_o z) K := by
  have hc0 := h.1.cnt
  have h50 := h.1.1
  have hs := h.1.some
  unfold eX5_lastHasRoom
  try simp only [py_O_ap, py_l0, py_l1, py_l2, py_l3, py_l4, py_l5, py_l6, py_l7, py_l8, py_l9, py_l12, py_l16, py_l32, py_l40, py_l100, py_l640, py_l1280, py_neg, py_add, py_sub, py_mul, py_stO]
  refine py_ile (fun c => h0 (fun e => by have := e.1; omega)) (fun c => ?_)
  rw [show t 50 0 - 1 = (((t 50 0).toNat - 1 : Nat) : Int) by omega]
  refine pm_lastCar h.1 (by omega) ?_
  rw [ph_lastCar h.1 c]
  have hcar := (h.1.car (i := (s 13 0 - 1).toNat) (by omega)).1
  have hf := h.fil (c := (s 5 (s 13 0 - 1).toNat).toNat) (by omega)
  rw [show s 5 (s 13 0 - 1).toNat = (((s 5 (s 13 0 - 1).toNat).toNat : Nat) : Int) by omega]
  refine pm_hasRoom (by omega) hf.2 (by omega) (fun e => ?_) (fun e => ?_)
  · exact py_ieq (fun c => absurd c (by omega)) (fun _ => h1 ⟨by omega, e⟩)
  · exact py_ieq (fun _ => h0 (fun e2 => by have := e2.2; omega)) (fun c => absurd rfl c)
theorem pr_takesNew (h : ph_R s t n m) {z : Int} (hz : 2 ≤ z ∧ z ≤ 26) {K : ty_S → Int32 → Prop} (h1 : (ph_LR s t z ∨ s 13 0 ≤ 38) → K (py_O s) (py_o 1)) (h0 : ¬ (ph_LR s t z ∨ s 13 0 ≤ 38) → K (py_O s) (py_o 0)) : eX3_takesNew (py_O s) (py_o z) K := by
  have hc0 := h.1.cnt
  unfold eX3_takesNew
  try simp only [py_O_ap, py_l0, py_l1, py_l2, py_l3, py_l4, py_l5, py_l6, py_l7, py_l8, py_l9, py_l12, py_l16, py_l32, py_l40, py_l100, py_l640, py_l1280, py_neg, py_add, py_sub, py_mul, py_stO]
  refine pr_lastHasRoom h hz (fun e => ?_) (fun e => ?_)
  · exact py_ieq (fun c => absurd c (by omega)) (fun _ => h1 (Or.inl e))
  · refine py_ieq (fun _ => ?_) (fun c => absurd rfl c)
    refine pr_countFree ?_
    exact py_ilt (fun c => h0 (fun e2 => e2.elim e (fun e3 => by omega))) (fun c => h1 (Or.inr (by omega)))
/-- only what lies in the cars counts -/
theorem ph_TH.congrX {E : Int → Int} {s' t' : py_Z} (h : ph_TH s t E) (hs : ∀ g i, g ≤ 4 → s' g i = s g i) (h6 : ∀ c : Nat, c < 40 → s' 6 c = 0 → s 6 c = 0) (ht : ∀ g i, 37 ≤ g → g ≤ 39 → t' g i = t g i) (hx : ∀ c k : Nat, c < 40 → (k : Int) < t 38 c → t' 30 (ph_x t c k) = t 30 (ph_x t c k) ∧ t' 33 (ph_x t c k) = t 33 (ph_x t c k) ∧ t' 34 (ph_x t c k) = t 34 (ph_x t c k) ∧ ∀ i : Nat, i < 12 → t' 35 (12 * ph_x t c k + i) = t 35 (12 * ph_x t c k + i) ∧ t' 36 (12 * ph_x t c k + i) = t 36 (12 * ph_x t c k + i)) : ph_TH s' t' E := by
  have ex : ∀ c k, ph_x t' c k = ph_x t c k := fun c k => by unfold ph_x; rw [ht 39 _ (by omega) (by omega)]
  have ep : ∀ c k : Nat, c < 40 → (k : Int) ≤ t 38 c → ph_pos t' c k = ph_pos t c k := fun c k hc hk => ph_pos_congr k (fun m hm => ⟨ex c m, by unfold ph_sz; rw [(hx c m hc (by omega)).2.1, (hx c m hc (by omega)).2.2.1]⟩)
  refine ⟨fun c hc => ?_, fun c k hc hk => ?_, fun p hp => ?_⟩
  · obtain ⟨d1, d2, d3, d4, d5, d6, d7, d8⟩ := h.1 c hc
    refine ⟨by rw [hs 3 c (by omega), ht 38 c (by omega) (by omega)]; exact d1, by rw [hs 2 c (by omega), ht 37 c (by omega) (by omega)]; exact d2, by rw [ht 38 c (by omega) (by omega)]; exact d3, by rw [ht 37 c (by omega) (by omega), ht 38 c (by omega) (by omega), ep c _ hc (by omega)]; exact d4, by rw [ht 37 c (by omega) (by omega)]; exact d5, fun e => by rw [ht 38 c (by omega) (by omega)]; exact d6 (h6 c hc e), fun e => ?_, fun w hw hu => ?_⟩
    · rw [ht 38 c (by omega) (by omega)] at e
      rw [hs 4 c (by omega), ht 38 c (by omega) (by omega), ep c _ hc (by omega)]; exact d7 e
    · rw [ht 37 c (by omega) (by omega)] at hu
      rw [hs 0 _ (by omega)]; exact d8 w hw hu
  · rw [ht 38 c (by omega) (by omega)] at hk
    obtain ⟨w1, w2, w3, w4, w5, w6, w7⟩ := h.2.1 c k hc hk
    obtain ⟨x1, x2, x3, x4⟩ := hx c k hc hk
    unfold ph_W
    simp only [ex, ep c k hc (show (k : Int) ≤ t 38 c by omega), x1, x2, x3]
    refine ⟨by rw [ht 39 _ (by omega) (by omega)]; exact w1, w2, w3, by rw [hs 0 _ (by omega)]; exact w4, by rw [hs 0 _ (by omega)]; exact w5, fun i hi => ⟨by rw [hs 0 _ (by omega), (x4 i (by omega)).1]; exact (w6 i hi).1, by rw [hs 1 _ (by omega)]; exact (w6 i hi).2⟩, fun i hi => by rw [hs 0 _ (by omega), (x4 i (by omega)).2]; exact w7 i hi⟩
  · rw [hs 1 p (by omega)]
    rcases h.2.2 p hp with e1 | ⟨e1, c, k, i, hc, hk, hi, hp2⟩
    · exact Or.inl e1
    · exact Or.inr ⟨e1, c, k, i, hc, by rw [ht 38 c (by omega) (by omega)]; exact hk, by rw [ex, (hx c k hc hk).2.1]; exact hi, by rw [ep c k hc (by omega)]; exact hp2⟩
/-- the car for a new thing: both take the same -/
theorem ph_newCar (h : ph_R s t n m) {z : Int} (hz : 2 ≤ z ∧ z ≤ 26) (hm : m < 99000) (ht : ph_LR s t z ∨ s 13 0 ≤ 38) :
    ∃ (c : Nat) (s' t' : py_Z), c < 40 ∧ t 37 c + z ≤ 32 ∧ s' 6 c ≠ 0 ∧ (∀ K : ty_S → Int32 → Prop, K (py_O s') (py_o c) → eX3_carForNew (py_O s) (py_o z) (py_o (s 23 0)) K) ∧
      (∀ (K : ty_S → Int32 → Prop) (a b d : Int32), (∃ n9, lX5_make_188 K n9 a b d (py_o 0) (py_O t')) → jX5_make_111 K a b d (py_o z) (py_O t)) ∧
      pr_RW s' t' ∧ s' 5 (s' 13 0 - 1).toNat = c ∧ 0 < t' 50 0 ∧ (∀ g i, g ≠ 5 → g ≠ 6 → g ≠ 13 → g ≠ 14 → s' g i = s g i) ∧ (∀ g i, g ≠ 40 → g ≠ 41 → g ≠ 42 → g ≠ 50 → g ≠ 57 → t' g i = t g i) ∧ (∀ c' : Nat, c' < 40 → s' 6 c' = 0 → s 6 c' = 0) ∧ t' 57 0 ≤ t 57 0 + 1 := by
  obtain ⟨b1, b2, b3, b4, b5, b6, b7, b8, b9, b10⟩ := id h
  have hc0 := b1.cnt
  have h50 := b1.1
  have hs := b1.some
  by_cases hLR : ph_LR s t z
  · have hcar := (b1.car (i := (s 13 0 - 1).toNat) (by have := hLR.1; omega)).1
    have hcar2 := b1.rv.car (i := (s 13 0 - 1).toNat) (by have := hLR.1; omega)
    have e1 : s 5 (s 13 0 - 1).toNat = (((s 5 (s 13 0 - 1).toNat).toNat : Nat) : Int) := by omega
    have hL := hLR
    unfold ph_LR at hL
    refine ⟨(s 5 (s 13 0 - 1).toNat).toNat, s, t, by omega, by omega, by omega, fun K hK => ?_, fun K a b d hK => ?_, b1, e1, by omega, fun _ _ _ _ _ _ => rfl, fun _ _ _ _ _ _ _ => rfl, fun _ _ hz => hz, by omega⟩
    · unfold eX3_carForNew
      try simp only [py_O_ap, py_l0, py_l1, py_l2, py_l3, py_l4, py_l5, py_l6, py_l7, py_l8, py_l9, py_l12, py_l16, py_l32, py_l40, py_l100, py_l640, py_l1280, py_neg, py_add, py_sub, py_mul, py_stO]
      refine pr_lastHasRoom h hz (fun _ => ?_) (fun c => absurd hLR c)
      refine py_ieq (fun c => absurd c (by omega)) (fun _ => ?_)
      try simp only [py_O_ap, py_l0, py_l1, py_l2, py_l3, py_l4, py_l5, py_l6, py_l7, py_l8, py_l9, py_l12, py_l16, py_l32, py_l40, py_l100, py_l640, py_l1280, py_neg, py_add, py_sub, py_mul, py_stO]
      refine pr_carAt hc0 (fun _ _ => ?_) (fun c => absurd c (by omega))
      rw [e1]; exact hK
    · unfold jX5_make_111
      rw [py_l0]
      refine pm_lastHasRoom h hz (fun _ => ?_) (fun c => absurd hLR c)
      refine py_ieq (fun c => absurd c (by omega)) (fun _ => ?_)
      unfold jX5_make_134
      try simp only [py_O_ap, py_l0, py_l1, py_l2, py_l3, py_l4, py_l5, py_l6, py_l7, py_l8, py_l9, py_l12, py_l16, py_l32, py_l40, py_l100, py_l640, py_l1280, py_neg, py_add, py_sub, py_mul, py_stO]
      exact py_ieq (fun c => absurd c (by omega)) (fun _ => hK)
  · have hN : s 13 0 ≤ 38 := ht.resolve_left hLR
    obtain ⟨c, hc, hf, hlst⟩ := pp_least b1 (by omega)
    obtain ⟨z1, z2, z3, z4, z5, z6, z7⟩ := b2.1 c hc
    have z38 := z6 hf
    have z37 : t 37 c = 0 := by rw [z38] at z4; exact z4
    have hmodR : ∀ (K : ty_S → Int32 → Prop) (a b d : Int32), jX5_make_134 K a b d (py_o 0) (py_O t) → jX5_make_111 K a b d (py_o z) (py_O t) := fun K a b d hK => by
      unfold jX5_make_111
      rw [py_l0, py_l2]
      refine pm_lastHasRoom h hz (fun c => absurd c hLR) (fun _ => ?_)
      refine py_ieq (fun _ => ?_) (fun c => absurd rfl c)
      refine pm_freeCars b1 ?_
      exact py_ile (fun _ => hK) (fun c => absurd c (by omega))
    by_cases hnew : t 50 0 = 0 ∨ s 23 0 ≤ t 41 ((t 50 0).toNat - 1)
    · have hRW := b1.new (by omega) (by omega) hc hf
      have sg : ∀ g i, g ≠ 5 → g ≠ 6 → g ≠ 13 → g ≠ 14 → pr_new s c g i = s g i := fun g i h5 h6 h13 h14 => by simp [pr_new, pr_ins, py_st, h5, h6, h13, h14]
      have tg : ∀ g i, g ≠ 40 → g ≠ 41 → g ≠ 42 → g ≠ 50 → g ≠ 57 → pm_new t c g i = t g i := fun g i h1 h2 h3 h4 h5 => by
        simp only [pm_new, pm_cpl, pm_nt, h1, h2, h3, h4, h5, if_false]
        by_cases e3 : g = 37 ∨ g = 38
        · rw [if_pos e3]
          by_cases e4 : i = c
          · rw [if_pos e4, e4]
            rcases e3 with e3 | e3 <;> rw [e3] <;> omega
          · rw [if_neg e4]
        · rw [if_neg e3]
      have s13 : pr_new s c 13 0 = s 13 0 + 1 := by simp [pr_new, pr_ins, py_st]
      have s6 : ∀ d, pr_new s c 6 d = if d = c then s 14 0 + 1 else s 6 d := fun d => by simp [pr_new, pr_ins, py_st]
      have h14 := b1.2.2.2.2.2.2.1
      refine ⟨c, pr_new s c, pm_new t c, hc, by omega, by rw [s6, if_pos rfl]; omega, fun K hK => ?_, fun K a b d hK => hmodR K a b d ?_, hRW, ?_, ?_, sg, tg, fun c' hc' hz' => ?_, ?_⟩
      · unfold eX3_carForNew
        try simp only [py_O_ap, py_l0, py_l1, py_l2, py_l3, py_l4, py_l5, py_l6, py_l7, py_l8, py_l9, py_l12, py_l16, py_l32, py_l40, py_l100, py_l640, py_l1280, py_neg, py_add, py_sub, py_mul, py_stO]
        refine pr_lastHasRoom h hz (fun c => absurd c hLR) (fun _ => ?_)
        refine py_ieq (fun _ => ?_) (fun c => absurd rfl c)
        refine pr_lastTrain b1 (fun e1 => ?_) (fun e1 => ?_)
        · try simp only [py_O_ap, py_l0, py_l1, py_l2, py_l3, py_l4, py_l5, py_l6, py_l7, py_l8, py_l9, py_l12, py_l16, py_l32, py_l40, py_l100, py_l640, py_l1280, py_neg, py_add, py_sub, py_mul, py_stO]
          refine py_ieq (fun e2 => absurd e2 (by omega)) (fun _ => ?_)
          have h41 := b1.2.1 ((t 50 0).toNat - 1) (by omega)
          refine pr_carsOf b1 (by omega) ?_
          refine py_ilt (fun e2 => absurd e2 (by omega)) (fun _ => ?_)
          exact pr_addTrain b1 (by omega) hc hf hlst hK
        · try simp only [py_O_ap, py_l0, py_l1, py_l2, py_l3, py_l4, py_l5, py_l6, py_l7, py_l8, py_l9, py_l12, py_l16, py_l32, py_l40, py_l100, py_l640, py_l1280, py_neg, py_add, py_sub, py_mul, py_stO]
          refine py_ieq (fun _ => ?_) (fun e2 => absurd e2 (by omega))
          exact pr_addTrain b1 (by omega) hc hf hlst hK
      · unfold jX5_make_134
        try simp only [py_O_ap, py_l0, py_l1, py_l2, py_l3, py_l4, py_l5, py_l6, py_l7, py_l8, py_l9, py_l12, py_l16, py_l32, py_l40, py_l100, py_l640, py_l1280, py_neg, py_add, py_sub, py_mul, py_stO]
        rw [if_pos True.intro]
        have hlt := b1.trains_le
        refine py_ieq (fun _ => ?_) (fun e1 => py_and ?_)
        · exact pm_newTrain b1 (by omega) hc hf hlst hK
        · have h41 := b1.2.1 ((t 50 0).toNat - 1) (by omega)
          rw [py_nat (by omega), show (t 50 0 - 1).toNat = (t 50 0).toNat - 1 by omega]
          refine py_ilt (fun e2 => absurd e2 (by omega)) (fun _ => ?_)
          exact pm_newTrain b1 (by omega) hc hf hlst hK
      · rw [s13, show (s 13 0 + 1 - 1).toNat = (s 13 0).toNat by omega]
        simp [pr_new, pr_ins, py_st]
      · have : pm_new t c 50 0 = t 50 0 + 1 := by simp [pm_new, pm_cpl, pm_nt]
        omega
      · rw [s6] at hz'
        by_cases e9 : c' = c
        · rw [e9]; exact hf
        · rwa [if_neg e9] at hz'
      · have : pm_new t c 57 0 = t 57 0 + 1 := by simp [pm_new, pm_cpl, pm_nt]
        omega
    · have hj : (((t 50 0).toNat - 1 : Nat) : Int) < t 50 0 := by omega
      have hRW := b1.add (by omega) hj hc hf
      have h41 := b1.2.1 ((t 50 0).toNat - 1) hj
      have hlast := b1.last (by omega)
      have hnum := b1.2.2.2.2.1 ((t 50 0).toNat - 1) hj
      have sg : ∀ g i, g ≠ 5 → g ≠ 6 → g ≠ 13 → g ≠ 14 → pr_ins s (pr_off t ((t 50 0).toNat - 1) + (t 41 ((t 50 0).toNat - 1)).toNat) c (t 40 ((t 50 0).toNat - 1)) g i = s g i := fun g i h5 h6 h13 _ => by simp [pr_ins, h5, h6, h13]
      have tg : ∀ g i, g ≠ 40 → g ≠ 41 → g ≠ 42 → g ≠ 50 → g ≠ 57 → pm_cpl t ((t 50 0).toNat - 1) c g i = t g i := fun g i h1 h2 h3 h4 h5 => by
        simp only [pm_cpl, h2, h3, if_false]
        by_cases e3 : g = 37 ∨ g = 38
        · rw [if_pos e3]
          by_cases e4 : i = c
          · rw [if_pos e4, e4]
            rcases e3 with e3 | e3 <;> rw [e3] <;> omega
          · rw [if_neg e4]
        · rw [if_neg e3]
      have s13 : pr_ins s (pr_off t ((t 50 0).toNat - 1) + (t 41 ((t 50 0).toNat - 1)).toNat) c (t 40 ((t 50 0).toNat - 1)) 13 0 = s 13 0 + 1 := by simp [pr_ins]
      have s6 : ∀ d, pr_ins s (pr_off t ((t 50 0).toNat - 1) + (t 41 ((t 50 0).toNat - 1)).toNat) c (t 40 ((t 50 0).toNat - 1)) 6 d = if d = c then t 40 ((t 50 0).toNat - 1) else s 6 d := fun d => by simp [pr_ins]
      refine ⟨c, _, _, hc, by omega, by rw [s6, if_pos rfl]; omega, fun K hK => ?_, fun K a b d hK => hmodR K a b d ?_, hRW, ?_, ?_, sg, tg, fun c' hc' hz' => ?_, ?_⟩
      · unfold eX3_carForNew
        try simp only [py_O_ap, py_l0, py_l1, py_l2, py_l3, py_l4, py_l5, py_l6, py_l7, py_l8, py_l9, py_l12, py_l16, py_l32, py_l40, py_l100, py_l640, py_l1280, py_neg, py_add, py_sub, py_mul, py_stO]
        refine pr_lastHasRoom h hz (fun c => absurd c hLR) (fun _ => ?_)
        refine py_ieq (fun _ => ?_) (fun c => absurd rfl c)
        refine pr_lastTrain b1 (fun e1 => ?_) (fun e1 => absurd e1 (by omega))
        try simp only [py_O_ap, py_l0, py_l1, py_l2, py_l3, py_l4, py_l5, py_l6, py_l7, py_l8, py_l9, py_l12, py_l16, py_l32, py_l40, py_l100, py_l640, py_l1280, py_neg, py_add, py_sub, py_mul, py_stO]
        refine py_ieq (fun e2 => absurd e2 (by omega)) (fun _ => ?_)
        refine pr_carsOf b1 hj ?_
        refine py_ilt (fun _ => ?_) (fun e2 => absurd e2 (by omega))
        exact pr_addCar_in b1 (by omega) hj hc hf hlst hK
      · unfold jX5_make_134
        try simp only [py_O_ap, py_l0, py_l1, py_l2, py_l3, py_l4, py_l5, py_l6, py_l7, py_l8, py_l9, py_l12, py_l16, py_l32, py_l40, py_l100, py_l640, py_l1280, py_neg, py_add, py_sub, py_mul, py_stO]
        rw [if_pos True.intro]
        refine py_ieq (fun e1 => absurd e1 (by omega)) (fun e1 => py_and ?_)
        rw [py_nat (by omega), show (t 50 0 - 1).toNat = (t 50 0).toNat - 1 by omega]
        refine py_ilt (fun _ => ?_) (fun e2 => absurd e2 (by omega))
        refine pm_freeCar b1 (fun c' hc' h1 h2 => ?_) (fun h1 => absurd hf (h1 c hc))
        have e : c' = c := by
          rcases Nat.lt_trichotomy c' c with e | e | e
          · exact absurd h1 (hlst c' e)
          · exact e
          · exact absurd hf (h2 c e)
        subst e
        try simp only [py_O_ap, py_l0, py_l1, py_l2, py_l3, py_l4, py_l5, py_l6, py_l7, py_l8, py_l9, py_l12, py_l16, py_l32, py_l40, py_l100, py_l640, py_l1280, py_neg, py_add, py_sub, py_mul, py_stO]
        rw [show t 50 0 - 1 = (((t 50 0).toNat - 1 : Nat) : Int) by omega]
        exact pm_couple (by omega) (by have := b1.end_le hj; omega) hc hK
      · rw [s13, show (s 13 0 + 1 - 1).toNat = pr_off t ((t 50 0).toNat - 1) + (t 41 ((t 50 0).toNat - 1)).toNat by omega]
        simp [pr_ins]
      · have : pm_cpl t ((t 50 0).toNat - 1) c 50 0 = t 50 0 := by simp [pm_cpl]
        omega
      · rw [s6] at hz'
        by_cases e9 : c' = c
        · rw [e9]; exact hf
        · rwa [if_neg e9] at hz'
      · have : pm_cpl t ((t 50 0).toNat - 1) c 57 0 = t 57 0 := by simp [pm_cpl]
        omega
end PMK
