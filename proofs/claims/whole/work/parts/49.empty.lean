/-! PURE: a step that empties a car -/
def pr_start (s : py_Z) : py_Z := fun g i => if g = 20 then (if i = 0 then s 5 0 else s 20 i) else if g = 8 then (if i < 32 then -1 else s 8 i) else if g = 21 ∨ g = 22 then (if i = 0 then 0 else s g i) else s g i
theorem pr_startEmptying {s : py_Z} {K : ty_S → Prop} (hc : 0 < s 13 0 ∧ s 13 0 ≤ 40) (hK : K (py_O (pr_start s))) : eX3_startEmptying (py_O s) K := by
  unfold eX3_startEmptying
  try simp only [py_O_ap, py_l0, py_l1, py_l2, py_l3, py_l4, py_l5, py_l6, py_l7, py_l8, py_l9, py_l12, py_l16, py_l32, py_l40, py_l100, py_l640, py_l1280, py_neg, py_add, py_sub, py_mul, py_stO]
  refine pr_carAt (by omega) (fun _ _ => ?_) (fun c => absurd c (by omega))
  try simp only [py_O_ap, py_l0, py_l1, py_l2, py_l3, py_l4, py_l5, py_l6, py_l7, py_l8, py_l9, py_l12, py_l16, py_l32, py_l40, py_l100, py_l640, py_l1280, py_neg, py_add, py_sub, py_mul, py_stO]
  rw [py_fillO]
  try simp only [py_O_ap, py_l0, py_l1, py_l2, py_l3, py_l4, py_l5, py_l6, py_l7, py_l8, py_l9, py_l12, py_l16, py_l32, py_l40, py_l100, py_l640, py_l1280, py_neg, py_add, py_sub, py_mul, py_stO]
  have e : pr_start s = py_st (py_st (fun g j => if g = 8 then (if j < 32 then (-1 : Int) else py_st s 20 0 (s 5 (0 : Int).toNat) g j) else py_st s 20 0 (s 5 (0 : Int).toNat) g j) 21 0 0) 22 0 0 := by
    funext g i
    simp only [pr_start, py_st, Int.toNat_zero]
    grind
  rw [e] at hK
  exact hK
theorem ph_E_congr {t t' : py_Z} (h31 : ∀ x, t' 31 x = t 31 x) (h32 : ∀ x, t' 32 x = t 32 x) : ph_E t' = ph_E t := by
  funext y
  unfold ph_E
  rw [h31, h32]
theorem ph_start {s t t0 : py_Z} {n : Nat} {m9 : Int} (h : ph_R s t n m9) (hn : 0 < t 50 0) (hN : s 13 0 < 40) (hm : t 57 0 < 99999) (h59 : t0 59 0 = s 5 0) (ht : ∀ g i, g ≠ 45 → g ≠ 46 → g ≠ 47 → g ≠ 52 → g ≠ 59 → g ≠ 61 → t0 g i = t g i) :
    ∃ e : Nat, s 5 0 = e ∧ e < 40 ∧ t 42 0 = e ∧ ph_Mid (pr_start s) t0 (pr_start s) t0 e ∧ ph_CL t0 t0 e (fun _ => False) ∧ s 6 e = t 40 0 := by
  obtain ⟨b1, b2, b3, b4, b5, b6, b7, b8, b9, b10⟩ := h
  have hs := b1.some
  obtain ⟨⟨c1, c2⟩, -⟩ := b1.car (i := 0) (by omega)
  have h41 := b1.2.1 0 (by omega)
  obtain ⟨d1, d2, d3⟩ := b1.2.2.2.1 0 0 (by omega) (by omega)
  simp only [Nat.mul_zero, Nat.add_zero, pr_off] at d1 d2 d3
  have sg : ∀ g i, g ≠ 8 → g ≠ 20 → g ≠ 21 → g ≠ 22 → pr_start s g i = s g i := fun g i h1 h2 h3 h4 => by simp [pr_start, h1, h2, h3, h4]
  have s8 : ∀ i, i < 32 → pr_start s 8 i = -1 := fun i hi => by simp [pr_start, hi]
  have s20 : pr_start s 20 0 = s 5 0 := by simp [pr_start]
  have s21 : pr_start s 21 0 = 0 := by simp [pr_start]
  have t31 : ∀ x, t0 31 x = t 31 x := fun x => ht 31 x (by omega) (by omega) (by omega) (by omega) (by omega) (by omega)
  have t32 : ∀ x, t0 32 x = t 32 x := fun x => ht 32 x (by omega) (by omega) (by omega) (by omega) (by omega) (by omega)
  have t38 : ∀ x, t0 38 x = t 38 x := fun x => ht 38 x (by omega) (by omega) (by omega) (by omega) (by omega) (by omega)
  have hE := ph_E_congr t31 t32
  have hMH0 : ph_MH t0 (-1) := b3.congr (fun g i hg => ht g i (by omega) (by omega) (by omega) (by omega) (by omega) (by omega))
  have hTH0 : ph_TH (pr_start s) t0 (ph_E t0) := by
    rw [hE]
    exact b2.congr (fun g i hg => sg g i (by omega) (by omega) (by omega) (by omega)) (fun c _ hz => by rwa [sg 6 c (by omega) (by omega) (by omega) (by omega)] at hz) (fun g i _ _ _ _ => ht g i (by omega) (by omega) (by omega) (by omega) (by omega) (by omega))
  have hRW0 : pr_RW (pr_start s) t0 := b1.congr (fun i => sg 5 i (by omega) (by omega) (by omega) (by omega)) (fun i => sg 6 i (by omega) (by omega) (by omega) (by omega)) (sg 13 0 (by omega) (by omega) (by omega) (by omega)) (sg 14 0 (by omega) (by omega) (by omega) (by omega)) (ht 50 0 (by omega) (by omega) (by omega) (by omega) (by omega) (by omega)) (ht 57 0 (by omega) (by omega) (by omega) (by omega) (by omega) (by omega)) (fun i => ht 40 i (by omega) (by omega) (by omega) (by omega) (by omega) (by omega)) (fun i => ht 41 i (by omega) (by omega) (by omega) (by omega) (by omega) (by omega)) (fun i => ht 42 i (by omega) (by omega) (by omega) (by omega) (by omega) (by omega))
  have heN : s 5 0 = ((s 5 0).toNat : Nat) := by omega
  have hs6 : s 6 (s 5 0).toNat = t 40 0 := by rw [d1]; exact d3
  generalize he : (s 5 0).toNat = e at *
  have hpos : ∀ k : Nat, (k : Int) < t0 38 e → 0 < t0 30 (ph_x t0 e k) ∧ t0 31 (ph_x t0 e k) = e ∧ t0 32 (ph_x t0 e k) = ph_pos t0 e k := fun k hk => hMH0.2.2.2.1 e k (by omega) (by omega) hk
  refine ⟨e, heN, by omega, by omega, ⟨hRW0, hTH0, ⟨hMH0.1, hMH0.2.1, hMH0.2.2.1, fun c k hc _ hk => hMH0.2.2.2.1 c k hc (by omega) hk, hMH0.2.2.2.2⟩, fun r hr => ?_, ⟨by omega, by omega, by omega, ?_, ?_⟩, ⟨?_, ?_⟩, ⟨fun _ _ _ => rfl, fun _ _ _ => rfl⟩, ⟨rfl, rfl, fun _ _ => rfl⟩, fun x hx hl => ?_, fun k hk => ?_, ?_, ?_, ⟨?_, Or.inl ⟨rfl, rfl⟩⟩, fun _ _ => rfl⟩, fun x hx hl h0 hne => absurd h0 hne, hs6⟩
  · rw [sg 7 r (by omega) (by omega) (by omega) (by omega), ht 43 r (by omega) (by omega) (by omega) (by omega) (by omega) (by omega), hE]
    exact b4 r hr
  · rw [ht 42 0 (by omega) (by omega) (by omega) (by omega) (by omega) (by omega)]; omega
  · rw [ht 50 0 (by omega) (by omega) (by omega) (by omega) (by omega) (by omega)]; omega
  · rw [sg 18 0 (by omega) (by omega) (by omega) (by omega), ht 55 0 (by omega) (by omega) (by omega) (by omega) (by omega) (by omega)]; exact b6.2.2.2.1
  · rw [sg 19 0 (by omega) (by omega) (by omega) (by omega), ht 56 0 (by omega) (by omega) (by omega) (by omega) (by omega) (by omega)]; exact b6.2.2.2.2
  · obtain ⟨c, k, hc, hk, g1, g2, g3, g4, g5, g6, g7⟩ := ph_live hTH0 hMH0 hx hl
    refine ⟨by omega, g5, fun _ => ⟨rfl, rfl⟩, fun e1 => ?_⟩
    have : c = e := by omega
    subst this
    exact ⟨k, hk, g1⟩
  · obtain ⟨p1, p2, p3⟩ := hpos k hk
    refine ⟨p1, p2, p3, Or.inl ⟨p2, p3, s8 _ ?_⟩⟩
    obtain ⟨f1, f2, f3, f4⟩ := hTH0.fit (c := e) (k := k) (by omega) hk
    unfold ph_sz at f1
    omega
  · rw [s21]
    have : ph_mc t0 e (t0 38 e).toNat = 0 := py_cnt_none (fun k hk => by rw [(hpos k (by omega)).2.1]; simp)
    rw [this]; rfl
  · rw [sg 13 0 (by omega) (by omega) (by omega) (by omega)]; exact Or.inl hN
  · rw [ht 57 0 (by omega) (by omega) (by omega) (by omega) (by omega) (by omega)]; exact hm
/-- a step that empties the first car -/
theorem ph_emptyStep {s t : py_Z} {n : Nat} {m9 : Int} (h : ph_R s t n m9) (hn : 0 < t 50 0) (hN : s 13 0 < 40) (hm : t 57 0 < 99999) :
    ∃ (s' t' : py_Z) (r : Int),
      (∀ K : ty_S → Int32 → Prop, K (py_O s') (py_o r) → eX3_startEmptying (py_O s) (fun S4 => (eX3_moveHeld S4 (py_o (t 40 0)) (fun S5 => (eX3_moveReferredTo S5 (py_o (t 40 0)) (0 : Int32) (fun S6 => (eX3_moveReferredTo S6 (py_o (t 40 0)) (1 : Int32) (fun S7 => (eX0_things S7 (S7 20 0) (fun S8 r8 => (eX3_endEmptying S8 (fun S9 => jX3_doStep_67 K (r8 - (S8 21 0)) S9)))))))))))) ∧
      (∀ K : ty_S → Int32 → Prop, K (py_O t') (py_o r) → eX5_gather (py_O (py_st (py_st t 52 0 (t 52 0 + 1)) 59 0 (t 42 0))) (fun S2 => ∃ n9, lX5_oneStep_83 K n9 (0 : Int32) S2)) ∧
      (pr_RW s' t' ∧ ph_TH s' t' (ph_E t') ∧ ph_MH t' (-1) ∧ (∀ r : Nat, r < 16 → s' 7 r = ph_E t' (t' 43 r)) ∧ (s' 20 0 = -1 ∧ t' 59 0 = -1) ∧ (s' 15 0 = t' 52 0 ∧ s' 16 0 = t' 53 0 ∧ s' 17 0 = t' 54 0 ∧ s' 18 0 = t' 55 0 ∧ s' 19 0 = t' 56 0)) ∧
      (∀ g i, g = 10 ∨ g = 11 ∨ g = 12 ∨ 23 ≤ g → s' g i = s g i) ∧ (∀ g i, g = 51 ∨ g = 58 ∨ g = 60 → t' g i = t g i) ∧ t' 57 0 ≤ t 57 0 + 1 ∧ (0 ≤ r ∧ r ≤ 16) := by
  obtain ⟨b1, b2, b3, b4, b5, b6, b7, b8, b9, b10⟩ := id h
  have hs := b1.some
  obtain ⟨⟨c1, c2⟩, -⟩ := b1.car (i := 0) (by omega)
  have h41 := b1.2.1 0 (by omega)
  obtain ⟨d1, d2, d3⟩ := b1.2.2.2.1 0 0 (by omega) (by omega)
  simp only [Nat.mul_zero, Nat.add_zero, pr_off] at d1 d2 d3
  -- the list
  obtain ⟨tA, htA⟩ : ∃ tA, tA = py_st (py_st t 52 0 (t 52 0 + 1)) 59 0 (t 42 0) := ⟨_, rfl⟩
  have tAg : ∀ g i, g ≠ 52 → g ≠ 59 → tA g i = t g i := fun g i h1 h2 => by rw [htA, py_sn h2, py_sn h1]
  have tA59 : tA 59 0 = t 42 0 := by rw [htA, py_se]
  have tA52 : tA 52 0 = t 52 0 + 1 := by rw [htA, py_sn (by decide), py_se]
  have hRWA : pr_RW s tA := b1.congr (fun _ => rfl) (fun _ => rfl) rfl rfl (tAg 50 0 (by omega) (by omega)) (tAg 57 0 (by omega) (by omega)) (fun i => tAg 40 i (by omega) (by omega)) (fun i => tAg 41 i (by omega) (by omega)) (fun i => tAg 42 i (by omega) (by omega))
  have hTHA : ph_TH s tA (ph_E t) := b2.congr (fun _ _ _ => rfl) (fun _ _ hz => hz) (fun g i _ _ _ _ => tAg g i (by omega) (by omega))
  have hMHA : ph_MH tA (-1) := b3.congr (fun g i hg => tAg g i (by omega) (by omega))
  obtain ⟨t0, g1, g2, g3⟩ := ph_gather hRWA hTHA hMHA (e := (t 42 0).toNat) ⟨by omega, by omega⟩
  have ht0 : ∀ g i, g ≠ 45 → g ≠ 46 → g ≠ 47 → g ≠ 52 → g ≠ 59 → g ≠ 61 → t0 g i = t g i := fun g i h1 h2 h3 h4 h5 h6 => (g2 g i h1 h2 h3 h6).trans (tAg g i h4 h5)
  have t059 : t0 59 0 = s 5 0 := by rw [g2 59 0 (by omega) (by omega) (by omega) (by omega), tA59]; omega
  obtain ⟨e, e1, e2, e3, hM0, hCL0, hs6⟩ := ph_start h hn hN hm t059 ht0
  have ht42 : (t 42 0).toNat = e := by omega
  rw [ht42] at g3
  have t040 : t0 40 0 = t 40 0 := ht0 40 0 (by omega) (by omega) (by omega) (by omega) (by omega) (by omega)
  have ps6 : ∀ i, pr_start s 6 i = s 6 i := fun i => by simp [pr_start]
  have hG : ph_G (pr_start s) t0 e 1282 := by
    unfold ph_G ph_Ent at g3 ⊢
    simp only [ps6]
    exact g3
  have h40 := b1.2.2.2.2.1 0 (by omega)
  have He : pr_start s 6 e ≠ 0 := by rw [ps6, hs6]; omega
  have He40 : t0 40 0 = pr_start s 6 e := by rw [ps6, hs6, t040]
  have H6 : ∀ x : Nat, x < 640 → 0 < t0 30 x → pr_start s 6 (t0 31 x).toNat ≠ 0 := fun x hx hl => by
    rw [ht0 30 x (by omega) (by omega) (by omega) (by omega) (by omega) (by omega)] at hl
    rw [ht0 31 x (by omega) (by omega) (by omega) (by omega) (by omega) (by omega), ps6]
    obtain ⟨c, k, hc, hk, p1, p2, p3, p4, p5⟩ := ph_live b2 b3 hx hl
    rw [p2]; simpa using p4
  -- the moves
  obtain ⟨sB, tB, o1, o2, o3, o4, o5, o6, o7⟩ := ph_held 16 0 (pr_start s) t0 hM0 (by simp [pr_start]) hCL0 (fun _ => by simp [pr_start]; omega) rfl (fun q hq => absurd hq (by omega))
  obtain ⟨sC, tC, p1, p2, p3, p4, p5, p6, p7⟩ := ph_refs hG H6 He He40 (fl := 0) (Or.inl rfl) o3 o4 o5
  obtain ⟨sD, tD, q1, q2, q3, q4, q5, q6, q7⟩ := ph_refs hG H6 He He40 (fl := 1) (Or.inr rfl) p3 p4 p5
  have hfirst : pr_start s 6 e = t 40 0 := by rw [ps6]; exact hs6
  rw [hfirst] at p1 q1
  -- all that was to be moved has been moved
  have hreg : ∀ r : Nat, r < 16 → t0 43 r < 0 ∨ tD 31 (t0 43 r).toNat ≠ e := fun r hr => by
    rcases o7 r hr with a | a
    · exact Or.inl a
    · refine Or.inr ?_
      have h1 := (p6.1 _ a).1
      have h2 := (q6.1 _ (by rw [h1]; exact a)).1
      rw [h2, h1]; exact a
  have hout : ∀ x : Nat, x < 640 → 0 < t0 30 x → tD 31 x ≠ e → ∀ i : Nat, (i : Int) < t0 33 x → t0 35 (12 * x + i) < 0 ∨ tD 31 (t0 35 (12 * x + i)).toNat ≠ e := fun x hx hl hne i hi => by
    by_cases e4 : t0 31 x = e
    · exact q5 x hx hl e4 hne (fun c => c) i hi
    · obtain ⟨c, m, r1, r2, r3, r4, r5, r6, r7, r8, r9⟩ := q3.ref hx hl e4 hi
      by_cases e5 : pr_start s 6 (t0 31 x).toNat = pr_start s 6 e
      · exact q7 x hx hl e4 i hi (by omega) ⟨fun _ => rfl, fun _ => e5⟩
      · rcases p7 x hx hl e4 i hi (by omega) ⟨fun a => absurd a e5, fun a => absurd a (by decide)⟩ with a | a
        · exact Or.inl a
        · exact Or.inr (by rw [(q6.1 _ a).1]; exact a)
  -- the end
  have a5 := q3.2.2.2.2.1
  have hRWD := q3.1
  obtain ⟨hTH, hIR, hv⟩ := q3.endTH hout
  have hMH := q3.endMH hreg hout
  have hRW : pr_RW (ph_Sem sD e) (ph_Tem tD e) := ph_leave hRWD a5.2.2.2.2
  have hCe := q3.2.1.1 e e2
  have hE : ph_E (ph_Tem tD e) = ph_E tD := ph_E_congr (fun x => ph_Tem_g 31 x (by omega)) (fun x => ph_Tem_g 32 x (by omega))
  have hcm := py_cnt_compl (P := fun k => decide (tD 31 (tD 39 (16 * e + k)).toNat = e)) (tD 38 e).toNat
  have hmc : ph_mc tD e (tD 38 e).toNat = py_cnt (fun k => !decide (tD 31 (tD 39 (16 * e + k)).toNat = e)) (tD 38 e).toNat := py_cnt_congr (fun k _ => by unfold ph_x; simp)
  have h21 := q3.2.2.2.2.2.2.2.2.2.2.1
  have hfgn : (pm_fgn tD e (tD 38 e).toNat : Int) = sD 3 e - sD 21 0 := by
    rw [hCe.1, h21, hmc]
    unfold pm_fgn
    have := hCe.2.2.1
    omega
  have hfr1 := q3.2.2.2.2.2.2.1.1
  have hfr2 := q3.2.2.2.2.2.2.1.2
  have hsD : sD 13 0 = sD 13 0 := rfl
  have hcD := hRWD.some
  have hcD2 := hRWD.cnt
  have hcar0 := (hRWD.car (i := 0) (by omega)).1
  have hh : ∀ r : Nat, r < 16 → -1 ≤ sD 7 r ∧ sD 7 r < 1280 ∧ pr_pn sD (sD 7 r) = ph_E tD (tD 43 r) := fun r hr => by
    have g43 := q3.f 43 r (by omega)
    have hPV := q3.2.2.1.2.2.2.2.1 r hr
    have := q3.pn hPV (by rw [g43]; exact hreg r hr)
    rw [q3.2.2.2.1 r hr]
    exact ⟨this.2.1, this.2.2, this.1⟩
  have hn9 := hCe.2.2.1
  have hSf : ∀ g i, g ≠ 0 → g ≠ 1 → g ≠ 2 → g ≠ 3 → g ≠ 5 → g ≠ 6 → g ≠ 7 → g ≠ 13 → g ≠ 20 → ph_Sem sD e g i = sD g i := fun g i a b c d f g' i' j k => ph_Sem_g g i ⟨a, b, c, d, f, g', i', j, k⟩
  refine ⟨py_st (py_st (ph_Sem sD e) 15 0 (s 15 0 + 1)) 17 0 (s 17 0 + (sD 3 e - sD 21 0)), ph_Tem tD e, sD 3 e - sD 21 0, fun K hK => ?_, fun K hK => ?_, ⟨?_, ?_, hMH, fun r hr => ?_, ⟨?_, ph_Tem_59⟩, ?_⟩, fun g i hg => ?_, fun g i hg => ?_, ?_, ?_⟩
  · refine pr_startEmptying (by omega) ?_
    unfold eX3_moveHeld
    rw [py_l0]
    have := o1 (fun S5 => (eX3_moveReferredTo S5 (py_o (t 40 0)) (py_o 0) (fun S6 => (eX3_moveReferredTo S6 (py_o (t 40 0)) (1 : Int32) (fun S7 => (eX0_things S7 (S7 20 0) (fun S8 r8 => (eX3_endEmptying S8 (fun S9 => jX3_doStep_67 K (r8 - (S8 21 0)) S9))))))))) ?_
    · rw [t040] at this
      exact this
    · refine p1 _ ?_
      rw [py_l1]
      refine q1 _ ?_
      try simp only [py_O_ap, py_l0, py_l1, py_l2, py_l3, py_l4, py_l5, py_l6, py_l7, py_l8, py_l9, py_l12, py_l16, py_l32, py_l40, py_l100, py_l640, py_l1280, py_neg, py_add, py_sub, py_mul, py_stO]
      rw [a5.1]
      refine pr_things (fun _ _ => ?_) (fun c => absurd c (by omega))
      simp only [Int.toNat_natCast]
      try simp only [py_O_ap, py_l0, py_l1, py_l2, py_l3, py_l4, py_l5, py_l6, py_l7, py_l8, py_l9, py_l12, py_l16, py_l32, py_l40, py_l100, py_l640, py_l1280, py_neg, py_add, py_sub, py_mul, py_stO]
      refine pr_endEmptying ⟨a5.1, e2⟩ (fun r hr => ⟨(hh r hr).1, (hh r hr).2.1⟩) hIR hv (by omega) (by omega) ?_
      unfold jX3_doStep_67
      try simp only [py_O_ap, py_l0, py_l1, py_l2, py_l3, py_l4, py_l5, py_l6, py_l7, py_l8, py_l9, py_l12, py_l16, py_l32, py_l40, py_l100, py_l640, py_l1280, py_neg, py_add, py_sub, py_mul, py_stO]
      have f15 : ph_Sem sD e 15 0 = s 15 0 := by
        rw [hSf 15 0 (by omega) (by omega) (by omega) (by omega) (by omega) (by omega) (by omega) (by omega) (by omega), hfr1 15 0 (by omega)]; simp [pr_start]
      have f17 : ph_Sem sD e 17 0 = s 17 0 := by
        rw [hSf 17 0 (by omega) (by omega) (by omega) (by omega) (by omega) (by omega) (by omega) (by omega) (by omega), hfr1 17 0 (by omega)]; simp [pr_start]
      unfold ph_Sem at f15 f17
      rw [f15, f17]
      unfold ph_Sem at hK
      exact hK
  · rw [← htA]
    refine g1 _ ?_
    rw [py_l0]
    refine o2 K ?_
    obtain ⟨n1, hn1⟩ : ∃ n1, lX5_oneStep_138 K n1 (py_o 2) (py_O tD) := by
      refine ⟨1, ?_⟩
      unfold lX5_oneStep_138
      try simp only [py_O_ap, py_l0, py_l1, py_l2, py_l3, py_l4, py_l5, py_l6, py_l7, py_l8, py_l9, py_l12, py_l16, py_l32, py_l40, py_l100, py_l640, py_l1280, py_neg, py_add, py_sub, py_mul, py_stO]
      refine py_ile (fun _ => ?_) (fun c => absurd c (by omega))
      have h59 : tD 59 0 = e := a5.2.1
      rw [h59]
      have a10 := q3.2.2.2.2.2.2.2.2.2.1
      have a3 := q3.2.2.1
      refine pm_forget e2 hn9 (fun k hk => ?_) (fun k m hkm hm => ?_) ?_
      · obtain ⟨w1, w2, w3, w4⟩ := q3.2.1.2.1 e k e2 hk
        obtain ⟨x1, x2, x3, x4⟩ := a10 k hk
        have hx640 : ph_x tD e k < 640 := by unfold ph_x; omega
        have := a3.2.1 (ph_x tD e k) hx640
        have h58 := a3.1
        obtain ⟨c, k', hc, hk', y1, y2, y3⟩ := a3.2.2.1 (ph_x tD e k) hx640 x1
        unfold ph_x at x1 this y2
        exact ⟨w1, by omega, by omega, by omega⟩
      · have := (q3.inj (k := k) (m := m) (by omega) hm (by omega)).1
        unfold ph_x at this
        intro e9
        rw [e9] at this
        exact this rfl
      · refine py_and (py_and ?_)
        rw [py_nat (by omega)]
        simp only [Int.toNat_zero]
        try simp only [py_O_ap, py_l0, py_l1, py_l2, py_l3, py_l4, py_l5, py_l6, py_l7, py_l8, py_l9, py_l12, py_l16, py_l32, py_l40, py_l100, py_l640, py_l1280, py_neg, py_add, py_sub, py_mul, py_stO]
        have f41 : pm_fg tD e 41 0 = tD 41 0 := by simp [pm_fg]
        have f50 : pm_fg tD e 50 0 = tD 50 0 := by simp [pm_fg]
        have hz0 := hRWD.2.1 0 (by omega)
        have hz1 := hRWD.1
        refine pm_leave (by rw [f41]; exact hz0) (by rw [f50]; omega) ?_
        rw [hfgn]
        exact hK
    obtain ⟨n2, hn2⟩ := q2 K (fun a0 S9 => lX5_oneStep_138 K n1 a0 S9) (by simpa using hn1)
    obtain ⟨n3, hn3⟩ := p2 K (fun a0 S9 => lX5_oneStep_138 K (n1 + 1) a0 S9) (by
      show lX5_oneStep_138 K (n1 + 1) (py_o (0 + 1)) (py_O tC)
      unfold lX5_oneStep_138
      try simp only [py_O_ap, py_l0, py_l1, py_l2, py_l3, py_l4, py_l5, py_l6, py_l7, py_l8, py_l9, py_l12, py_l16, py_l32, py_l40, py_l100, py_l640, py_l1280, py_neg, py_add, py_sub, py_mul, py_stO]
      exact py_ile (fun c => absurd c (by omega)) (fun _ => ⟨n2, hn2⟩))
    refine ⟨n1 + 1 + 1, ?_⟩
    rw [lX5_oneStep_138]
    try simp only [py_O_ap, py_l0, py_l1, py_l2, py_l3, py_l4, py_l5, py_l6, py_l7, py_l8, py_l9, py_l12, py_l16, py_l32, py_l40, py_l100, py_l640, py_l1280, py_neg, py_add, py_sub, py_mul, py_stO]
    exact py_ile (fun c => absurd c (by omega)) (fun _ => ⟨n3, hn3⟩)
  · exact hRW.congr (fun i => by rw [py_sn (by decide), py_sn (by decide)]) (fun i => by rw [py_sn (by decide), py_sn (by decide)]) (by rw [py_sn (by decide), py_sn (by decide)]) (by rw [py_sn (by decide), py_sn (by decide)]) rfl rfl (fun _ => rfl) (fun _ => rfl) (fun _ => rfl)
  · rw [hE]
    exact hTH.congr (fun g i hg => by rw [py_sn (by omega), py_sn (by omega)]) (fun c _ hz => by rwa [py_sn (by decide), py_sn (by decide)] at hz) (fun _ _ _ _ _ _ => rfl)
  · rw [hE, py_sn (by decide), py_sn (by decide), ph_Tem_g 43 r (by omega), ← (hh r hr).2.2]
    have e9 : ∀ v, pr_pn (pr_clr (pr_hm sD 16) e) v = pr_pn sD v := fun v => by simp [pr_pn, pr_clr, pr_hm]
    simp [ph_Sem, py_st, pr_rem, pr_wm, pr_clr, pr_hm, hr]
  · rw [py_sn (by decide), py_sn (by decide)]; simp [ph_Sem, py_st]
  · rw [py_sn (show 15 ≠ 17 by decide), py_se, py_sn (show 16 ≠ 17 by decide), py_sn (show 16 ≠ 15 by decide), py_se, py_sn (show 18 ≠ 17 by decide), py_sn (show 18 ≠ 15 by decide), py_sn (show 19 ≠ 17 by decide), py_sn (show 19 ≠ 15 by decide)]
    rw [hSf 16 0 (by omega) (by omega) (by omega) (by omega) (by omega) (by omega) (by omega) (by omega) (by omega), hSf 18 0 (by omega) (by omega) (by omega) (by omega) (by omega) (by omega) (by omega) (by omega) (by omega), hSf 19 0 (by omega) (by omega) (by omega) (by omega) (by omega) (by omega) (by omega) (by omega) (by omega)]
    rw [ph_Tem_g 52 0 (by omega), ph_Tem_g 53 0 (by omega), ph_Tem_54, ph_Tem_g 55 0 (by omega), ph_Tem_g 56 0 (by omega)]
    rw [hfr1 16 0 (by omega), hfr2 52 0 (by omega), hfr2 53 0 (by omega), hfr2 54 0 (by omega)]
    rw [ht0 53 0 (by omega) (by omega) (by omega) (by omega) (by omega) (by omega), ht0 54 0 (by omega) (by omega) (by omega) (by omega) (by omega) (by omega), g2 52 0 (by omega) (by omega) (by omega) (by omega), tA52]
    have hps : pr_start s 16 0 = s 16 0 := by simp [pr_start]
    have h66 := q3.2.2.2.2.2.1
    refine ⟨by omega, by omega, by omega, h66.1, h66.2⟩
  · rw [py_sn (by omega), py_sn (by omega), hSf g i (by omega) (by omega) (by omega) (by omega) (by omega) (by omega) (by omega) (by omega) (by omega), hfr1 g i (by omega)]
    have : g ≠ 20 := by omega
    have : g ≠ 8 := by omega
    have : g ≠ 21 := by omega
    have : g ≠ 22 := by omega
    simp [pr_start, *]
  · rw [ph_Tem_g g i (by omega), hfr2 g i (by omega), ht0 g i (by omega) (by omega) (by omega) (by omega) (by omega) (by omega)]
  · rw [ph_Tem_g 57 0 (by omega)]
    have h13 := q3.2.2.2.2.2.2.2.2.2.2.2.2.1
    have := ht0 57 0 (by omega) (by omega) (by omega) (by omega) (by omega) (by omega)
    omega
  · have h3 := hCe.1
    have hle := py_cnt_le (fun k => decide (tD 31 (tD 39 (16 * e + k)).toNat = e)) (tD 38 e).toNat
    unfold pm_fgn at hfgn
    omega
