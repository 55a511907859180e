/-! PURE: what stands behind the end of a step -/
theorem py_cnt_compl {P : Nat → Bool} : ∀ n : Nat, py_cnt P n + py_cnt (fun k => !P k) n = n
  | 0 => rfl
  | n + 1 => by
    have := py_cnt_compl (P := P) n
    simp only [py_cnt]
    by_cases hP : P n = true
    · simp [hP]; omega
    · simp [hP]; omega
theorem pm_fgl_01 {t : py_Z} {c : Nat} : ∀ (m y : Nat), pm_fgl t c m y = 0 ∨ pm_fgl t c m y = t 30 y
  | 0, _ => Or.inr rfl
  | m + 1, y => by
    show (if y = (t 39 (16 * c + m)).toNat ∧ t 31 y = c then 0 else pm_fgl t c m y) = 0 ∨ (if y = (t 39 (16 * c + m)).toNat ∧ t 31 y = c then 0 else pm_fgl t c m y) = t 30 y
    split
    · exact Or.inl rfl
    · exact pm_fgl_01 m y
section PHN
variable {s t : py_Z} {E : Int → Int}
/-- a word of a thing that is no reference -/
theorem ph_TH.nonref (h : ph_TH s t E) {c k w : Nat} (hc : c < 40) (hk : (k : Int) < t 38 c) (hw : w < ph_sz t (ph_x t c k)) (hn : w < 2 ∨ 2 + t 33 (ph_x t c k) ≤ (w : Int)) : s 1 (32 * c + ph_pos t c k + w) = 0 := by
  obtain ⟨f1, f2, f3, f4⟩ := h.fit hc hk
  rcases h.2.2 (32 * c + ph_pos t c k + w) (by omega) with e1 | ⟨e1, c', k', i', hc', hk', hi', hp⟩
  · exact e1
  · obtain ⟨g1, g2, g3, g4⟩ := h.fit hc' hk'
    obtain ⟨v1, v2, v3, v4⟩ := h.2.1 c' k' hc' hk'
    have e2 : c = c' := by omega
    subst e2
    have e3 : k = k' := by
      rcases Nat.lt_trichotomy k k' with e3 | e3 | e3
      · have := ph_pos_lt (t := t) (c := c) e3; omega
      · exact e3
      · have := ph_pos_lt (t := t) (c := c) e3; omega
    subst e3
    omega
theorem ph_TH.beyond (h : ph_TH s t E) {c w : Nat} (hc : c < 40) (hw : w < 32) (hu : t 37 c ≤ (w : Int)) : s 1 (32 * c + w) = 0 := by
  rcases h.2.2 (32 * c + w) (by omega) with e1 | ⟨e1, c', k', i', hc', hk', hi', hp⟩
  · exact e1
  · obtain ⟨g1, g2, g3, g4⟩ := h.fit hc' hk'
    obtain ⟨v1, v2, v3, v4⟩ := h.2.1 c' k' hc' hk'
    have e2 : c = c' := by omega
    subst e2
    omega
/-- the references are written anew -/
theorem ph_TH.remap {s' : py_Z} {E' : Int → Int} (h : ph_TH s t E) (F : Int → Int) (s0 : ∀ p : Nat, p < 1280 → s' 0 p = if s 1 p = 1 then F (s 0 p) else s 0 p) (sg : ∀ g i, 1 ≤ g → g ≤ 4 → s' g i = s g i) (s6 : ∀ c : Nat, c < 40 → s' 6 c = 0 → s 6 c = 0) (hF : ∀ c k i : Nat, c < 40 → (k : Int) < t 38 c → (i : Int) < t 33 (ph_x t c k) → F (E (t 35 (12 * ph_x t c k + i))) = E' (t 35 (12 * ph_x t c k + i))) : ph_TH s' t E' := by
  refine ⟨fun c hc => ?_, fun c k hc hk => ?_, fun p hp => by rw [sg 1 p (by omega) (by omega)]; exact h.2.2 p hp⟩
  · obtain ⟨d1, d2, d3, d4, d5, d6, d7, d8⟩ := h.1 c hc
    refine ⟨by rw [sg 3 c (by omega) (by omega)]; exact d1, by rw [sg 2 c (by omega) (by omega)]; exact d2, d3, d4, d5, fun e => d6 (s6 c hc e), fun e => by rw [sg 4 c (by omega) (by omega)]; exact d7 e, fun w hw hu => ?_⟩
    rw [s0 _ (by omega), if_neg (by rw [h.beyond hc hw hu]; omega)]
    exact d8 w hw hu
  · obtain ⟨w1, w2, w3, w4, w5, w6, w7⟩ := h.2.1 c k hc hk
    obtain ⟨f1, f2, f3, f4⟩ := h.fit hc hk
    refine ⟨w1, w2, w3, ?_, ?_, fun i hi => ⟨?_, ?_⟩, fun i hi => ?_⟩
    · have := h.nonref hc hk (w := 0) (by omega) (Or.inl (by omega))
      simp only [Nat.add_zero] at this
      rw [s0 _ (by omega), if_neg (by rw [this]; omega)]; exact w4
    · rw [s0 _ (by omega), if_neg (by rw [h.nonref hc hk (w := 1) (by omega) (Or.inl (by omega))]; omega)]; exact w5
    · rw [s0 _ (by omega), if_pos (w6 i hi).2, (w6 i hi).1]; exact hF c k i hc hk hi
    · rw [sg 1 _ (by omega) (by omega)]; exact (w6 i hi).2
    · have := h.nonref hc hk (w := 2 + (t 33 (ph_x t c k)).toNat + i) (by omega) (Or.inr (by omega))
      rw [show 32 * c + ph_pos t c k + (2 + (t 33 (ph_x t c k)).toNat + i) = 32 * c + ph_pos t c k + 2 + (t 33 (ph_x t c k)).toNat + i by omega] at this
      rw [s0 _ (by omega), if_neg (by rw [this]; omega)]; exact w7 i hi
end PHN
section PHM
variable {s t s0 t0 : py_Z} {e : Nat}
theorem ph_Mid.pn (h : ph_Mid s t s0 t0 e) {y : Int} (hy : ph_PV t y) (ho : y < 0 ∨ t 31 y.toNat ≠ e) : pr_pn s (ph_E t0 y) = ph_E t y ∧ -1 ≤ ph_E t0 y ∧ ph_E t0 y < 1280 := by
  have a5 := h.2.2.2.2.1
  have a9 := h.2.2.2.2.2.2.2.2.1
  have a10 := h.2.2.2.2.2.2.2.2.2.1
  rcases h.E hy with ⟨e1, e2⟩ | ⟨e1, e2, e3, e4, e5, e6⟩
  · rw [e2, e1]
    refine ⟨?_, by omega, by omega⟩
    unfold pr_pn ph_E
    rfl
  · obtain ⟨b1, b2, b3, b4⟩ := a9 y.toNat (by omega) e3
    rw [e4]
    refine ⟨?_, by omega, by omega⟩
    unfold pr_pn
    rw [if_neg (by omega), show (32 * t0 31 y.toNat + t0 32 y.toNat) / 32 = t0 31 y.toNat by omega, a5.1]
    have hE : ph_E t y = 32 * t 31 y.toNat + t 32 y.toNat := by unfold ph_E; rw [if_neg (by omega)]
    rw [hE]
    by_cases e7 : t0 31 y.toNat = e
    · rw [if_pos e7]
      obtain ⟨k, hk, hk2⟩ := b4 e7
      obtain ⟨c1, c2, c3, c4⟩ := a10 k hk
      rw [hk2] at c1 c2 c3 c4
      rw [show (32 * t0 31 y.toNat + t0 32 y.toNat - t0 31 y.toNat * 32).toNat = ph_pos t e k by omega]
      clear b4
      rcases c4 with ⟨c5, c6, c7⟩ | ⟨c5, c6⟩
      · exact absurd c5 (ho.resolve_left (by omega))
      · exact c6
    · rw [if_neg e7]
      obtain ⟨q1, q2⟩ := b3 e7
      omega
end PHM
/-- behind the end of a step all is as between the calls -/
def ph_Sem (s : py_Z) (e : Nat) : py_Z := py_st (pr_rem (pr_wm (pr_clr (pr_hm s 16) e) 1280)) 20 0 (-1)
def ph_Tem (t : py_Z) (e : Nat) : py_Z := pm_end (pm_fg t e)
section PHO
variable {s t s0 t0 : py_Z} {e : Nat}
theorem ph_Tem_g (g i : Nat) (h : g ≠ 30 ∧ g ≠ 37 ∧ g ≠ 38 ∧ g ≠ 40 ∧ g ≠ 41 ∧ g ≠ 42 ∧ g ≠ 50 ∧ g ≠ 54 ∧ g ≠ 59) : ph_Tem t e g i = t g i := by
  obtain ⟨h1, h2, h3, h4, h5, h6, h7, h8, h9⟩ := h
  unfold ph_Tem pm_end
  split <;> simp [pm_rt, py_st, pm_sh, pm_fg, h1, h2, h3, h4, h5, h6, h7, h8, h9]
theorem ph_Tem_30 (i : Nat) : ph_Tem t e 30 i = pm_fgl t e (t 38 e).toNat i := by
  unfold ph_Tem pm_end
  split <;> simp [pm_rt, py_st, pm_sh, pm_fg]
theorem ph_Tem_37 (g i : Nat) (h : g = 37 ∨ g = 38) : ph_Tem t e g i = if i = e then 0 else t g i := by
  unfold ph_Tem pm_end
  rcases h with h | h <;> subst h <;> split <;> simp [pm_rt, py_st, pm_sh, pm_fg]
theorem ph_Tem_54 : ph_Tem t e 54 0 = t 54 0 + pm_fgn t e (t 38 e).toNat := by
  unfold ph_Tem pm_end
  split <;> simp [pm_rt, py_st, pm_sh, pm_fg]
theorem ph_Tem_59 : ph_Tem t e 59 0 = -1 := by
  unfold ph_Tem pm_end
  split <;> simp [pm_rt, py_st, pm_sh, pm_fg]
theorem ph_Sem_g (g i : Nat) (h : g ≠ 0 ∧ g ≠ 1 ∧ g ≠ 2 ∧ g ≠ 3 ∧ g ≠ 5 ∧ g ≠ 6 ∧ g ≠ 7 ∧ g ≠ 13 ∧ g ≠ 20) : ph_Sem s e g i = s g i := by
  obtain ⟨h1, h2, h3, h4, h5, h6, h7, h8, h9⟩ := h
  simp [ph_Sem, py_st, pr_rem, pr_wm, pr_clr, pr_hm, h1, h2, h3, h4, h5, h6, h7, h8, h9]
/-- the row, when the first car leaves -/
theorem ph_leave (hRW : pr_RW s t) (hn : 0 < t 50 0) : pr_RW (ph_Sem s e) (ph_Tem t e) := by
  have hs := hRW.2.1 0 (by omega)
  have h1 := hRW.rv.rem hn (by omega)
  have hS : pr_RV (ph_Sem s e) (pm_sh t) := h1.congrS (fun i => by simp [ph_Sem, py_st, pr_rem, pr_wm, pr_clr, pr_hm]) (fun i => by simp [ph_Sem, py_st, pr_rem, pr_wm, pr_clr, pr_hm]) (by simp [ph_Sem, py_st, pr_rem, pr_wm, pr_clr, pr_hm]) (by simp [ph_Sem, py_st, pr_rem, pr_wm, pr_clr, pr_hm])
  have s50 : pm_sh t 50 0 = t 50 0 := by simp [pm_sh]
  have s41 : ∀ j, pm_sh t 41 j = if j = 0 then t 41 0 - 1 else t 41 j := fun j => by simp [pm_sh]
  have f41 : pm_fg t e 41 0 = t 41 0 := by simp [pm_fg]
  by_cases e1 : t 41 0 = 1
  · have h2 := hS.rt (by omega) (by rw [s41, if_pos rfl]; omega)
    have hT : ∀ g i, g = 40 ∨ g = 41 ∨ g = 42 ∨ g = 50 ∨ g = 57 → ph_Tem t e g i = pm_rt (pm_sh t) g i := fun g i hg => by
      unfold ph_Tem pm_end
      rw [if_pos (by rw [f41]; exact e1)]
      rcases hg with h | h | h | h | h <;> subst h <;> simp [pm_rt, py_st, pm_sh, pm_fg]
    have h3 := h2.congr (t' := ph_Tem t e) (hT 50 0 (by omega)) (hT 57 0 (by omega)) (fun j _ => hT 40 j (by omega)) (fun j _ => hT 41 j (by omega)) (fun j k _ _ => hT 42 _ (by omega))
    refine h3.rw (fun j hj => ?_)
    rw [hT 50 0 (by omega)] at hj
    rw [hT 41 j (by omega)]
    have r50 : pm_rt (pm_sh t) 50 0 = t 50 0 - 1 := by simp [pm_rt, pm_sh]
    rw [r50] at hj
    have r41 : pm_rt (pm_sh t) 41 j = pm_sh t 41 (j + 1) := by simp [pm_rt, s50, hj]
    rw [r41, s41, if_neg (by omega)]
    exact (hRW.2.1 (j + 1) (by omega)).1
  · have hT : ∀ g i, g = 40 ∨ g = 41 ∨ g = 42 ∨ g = 50 ∨ g = 57 → ph_Tem t e g i = pm_sh t g i := fun g i hg => by
      unfold ph_Tem pm_end
      rw [if_neg (by rw [f41]; exact e1)]
      rcases hg with h | h | h | h | h <;> subst h <;> simp [py_st, pm_sh, pm_fg]
    have h3 := hS.congr (t' := ph_Tem t e) (hT 50 0 (by omega)) (hT 57 0 (by omega)) (fun j _ => hT 40 j (by omega)) (fun j _ => hT 41 j (by omega)) (fun j k _ _ => hT 42 _ (by omega))
    refine h3.rw (fun j hj => ?_)
    rw [hT 50 0 (by omega), s50] at hj
    rw [hT 41 j (by omega), s41]
    have := hRW.2.1 j hj
    split <;> omega
theorem ph_Mid.endTH (h : ph_Mid s t s0 t0 e) (hout : ∀ x : Nat, x < 640 → 0 < t0 30 x → t 31 x ≠ e → ∀ i : Nat, (i : Int) < t0 33 x → t0 35 (12 * x + i) < 0 ∨ t 31 (t0 35 (12 * x + i)).toNat ≠ e) :
    ph_TH (ph_Sem s e) (ph_Tem t e) (ph_E t) ∧ pr_IR (pr_clr (pr_hm s 16) e) ∧ (∀ p : Nat, p < 1280 → pr_clr (pr_hm s 16) e 1 p = 1 → -1 ≤ pr_clr (pr_hm s 16) e 0 p ∧ pr_clr (pr_hm s 16) e 0 p < 1280) := by
  have a1 := h.1
  have a2 := h.2.1
  have a3 := h.2.2.1
  have a5 := h.2.2.2.2.1
  have hse := h.six_e
  obtain ⟨sC, hsC⟩ : ∃ sC : py_Z, sC = fun g i => if g = 6 then ph_Sem s e 6 i else pr_clr (pr_hm s 16) e g i := ⟨_, rfl⟩
  have c0 : ∀ q : Nat, sC 0 q = if q / 32 = e then 0 else s 0 q := fun q => by rw [hsC]; simp [pr_clr, pr_hm]
  have c1 : ∀ q : Nat, sC 1 q = if q / 32 = e then 0 else s 1 q := fun q => by rw [hsC]; simp [pr_clr, pr_hm]
  have c6 : ∀ d : Nat, sC 6 d = if d = (s 5 0).toNat then 0 else s 6 d := fun d => by rw [hsC]; simp [ph_Sem, py_st, pr_rem, pr_wm, pr_clr, pr_hm]
  have h50 : s 5 0 = e := by
    have h1 := a1.2.1 0 (by omega)
    have h2 := (a1.2.2.2.1 0 0 (by omega) (by omega)).1
    simp only [Nat.mul_zero, Nat.add_zero, pr_off] at h2
    omega
  have t38 : ∀ d : Nat, ph_Tem t e 38 d = if d = e then 0 else t 38 d := fun d => ph_Tem_37 38 d (Or.inr rfl)
  have hC : ph_TH sC (ph_Tem t e) (ph_E t0) := by
    refine a2.clear a5.2.2.1 c0 c1 (fun d => by rw [hsC]; simp [pr_clr, pr_hm]) (fun d => by rw [hsC]; simp [pr_clr, pr_hm]) (fun d => by rw [hsC]; simp [pr_clr, pr_hm]) (fun d hd hz => ?_) (fun d k hd hde hk => ?_) (fun d => ph_Tem_37 37 d (Or.inl rfl)) t38 (fun g i hg => ph_Tem_g g i (by omega))
    · rw [c6, h50] at hz
      simp only [Int.toNat_natCast] at hz
      by_cases e1 : d = e
      · exact Or.inl e1
      · rw [if_neg e1] at hz; exact Or.inr hz
    · rw [ph_Tem_30]
      refine pm_fgl_other _ ?_
      have := (a3.2.2.2.1 d k hd (by omega) hk).2.1
      omega
  have hvals : ∀ c k i : Nat, c < 40 → (k : Int) < ph_Tem t e 38 c → (i : Int) < ph_Tem t e 33 (ph_x (ph_Tem t e) c k) → ph_x (ph_Tem t e) c k = ph_x t c k ∧ ph_Tem t e 35 (12 * ph_x (ph_Tem t e) c k + i) = t0 35 (12 * ph_x t c k + i) ∧ ph_PV t (t0 35 (12 * ph_x t c k + i)) ∧ (t0 35 (12 * ph_x t c k + i) < 0 ∨ t 31 (t0 35 (12 * ph_x t c k + i)).toNat ≠ e) := fun c k i hc hk hi => by
    have ex : ph_x (ph_Tem t e) c k = ph_x t c k := by unfold ph_x; rw [ph_Tem_g 39 _ (by omega)]
    rw [t38] at hk
    rw [ex, ph_Tem_g 33 _ (by omega)] at hi
    by_cases e1 : c = e
    · rw [if_pos e1] at hk; omega
    · rw [if_neg e1] at hk
      obtain ⟨m1, m2, m3⟩ := a3.2.2.2.1 c k hc (by omega) hk
      obtain ⟨w1, w2, w3, w4, w5, w6, w7⟩ := a2.2.1 c k hc hk
      have hx640 : ph_x t c k < 640 := by unfold ph_x; omega
      have g35 := h.f 35 (12 * ph_x t c k + i) (by omega)
      have g33 := h.f 33 (ph_x t c k) (by omega)
      have hPV := a3.2.2.2.2.2 (ph_x t c k) hx640 m1 i hi
      rw [g35] at hPV
      refine ⟨ex, by rw [ex, ph_Tem_g 35 _ (by omega), g35], hPV, hout _ hx640 (by rw [← h.f 30 _ (Or.inl rfl)]; exact m1) (by omega) i (by omega)⟩
  have hIRc : pr_IR (pr_clr (pr_hm s 16) e) := by
    have := hC.ir
    unfold pr_IR at this ⊢
    rw [hsC] at this
    simpa using this
  refine ⟨?_, hIRc, fun p hp h1 => ?_⟩
  · refine hC.remap (s' := ph_Sem s e) (pr_pn s) (fun p hp => ?_) (fun g i h1 h2 => ?_) (fun c hc hz => ?_) (fun c k i hc hk hi => ?_)
    · have e1 : ph_Sem s e 0 p = pr_wm (pr_clr (pr_hm s 16) e) 1280 0 p := by simp [ph_Sem, py_st, pr_rem]
      have e2 : ∀ v, pr_pn (pr_clr (pr_hm s 16) e) v = pr_pn s v := fun v => by simp [pr_pn, pr_clr, pr_hm]
      have e3 : sC 1 p = pr_clr (pr_hm s 16) e 1 p := by rw [hsC]; simp
      have e4 : sC 0 p = pr_clr (pr_hm s 16) e 0 p := by rw [hsC]; simp
      rw [e1, e3, e4]
      simp only [pr_wm, e2, hp, true_and]
    · rw [hsC]
      have : g ≠ 6 := by omega
      have : g ≠ 0 := by omega
      have : g ≠ 20 := by omega
      have : g ≠ 5 := by omega
      have : g ≠ 13 := by omega
      simp [ph_Sem, py_st, pr_rem, pr_wm, *]
    · rw [hsC]; simpa using hz
    · obtain ⟨v1, v2, v3, v4⟩ := hvals c k i hc hk hi
      rw [v2]
      exact (h.pn v3 v4).1
  · have e3 : sC 1 p = 1 := by rw [hsC]; simpa using h1
    obtain ⟨c, k, i, hc, hk, hi, hp2⟩ := ((hC.2.2 p hp).resolve_left (by omega)).2
    obtain ⟨v1, v2, v3, v4⟩ := hvals c k i hc hk hi
    have e4 : pr_clr (pr_hm s 16) e 0 p = sC 0 p := by rw [hsC]; simp
    obtain ⟨w1, w2, w3, w4, w5, w6, w7⟩ := hC.2.1 c k hc hk
    rw [e4, hp2, (w6 i hi).1, v2]
    exact (h.pn v3 v4).2
theorem ph_Mid.endMH (h : ph_Mid s t s0 t0 e) (hreg : ∀ r : Nat, r < 16 → t0 43 r < 0 ∨ t 31 (t0 43 r).toNat ≠ e) (hout : ∀ x : Nat, x < 640 → 0 < t0 30 x → t 31 x ≠ e → ∀ i : Nat, (i : Int) < t0 33 x → t0 35 (12 * x + i) < 0 ∨ t 31 (t0 35 (12 * x + i)).toNat ≠ e) :
    ph_MH (ph_Tem t e) (-1) := by
  have a3 := h.2.2.1
  have a9 := h.2.2.2.2.2.2.2.2.1
  have a10 := h.2.2.2.2.2.2.2.2.2.1
  have t30 := ph_Tem_30 (t := t) (e := e)
  have t38 : ∀ d : Nat, ph_Tem t e 38 d = if d = e then 0 else t 38 d := fun d => ph_Tem_37 38 d (Or.inr rfl)
  have t31 : ∀ d : Nat, ph_Tem t e 31 d = t 31 d := fun d => ph_Tem_g 31 d (by omega)
  have t32 : ∀ d : Nat, ph_Tem t e 32 d = t 32 d := fun d => ph_Tem_g 32 d (by omega)
  have t33 : ∀ d : Nat, ph_Tem t e 33 d = t 33 d := fun d => ph_Tem_g 33 d (by omega)
  have t34 : ∀ d : Nat, ph_Tem t e 34 d = t 34 d := fun d => ph_Tem_g 34 d (by omega)
  have t35 : ∀ d : Nat, ph_Tem t e 35 d = t 35 d := fun d => ph_Tem_g 35 d (by omega)
  have t39 : ∀ d : Nat, ph_Tem t e 39 d = t 39 d := fun d => ph_Tem_g 39 d (by omega)
  have t43 : ∀ d : Nat, ph_Tem t e 43 d = t 43 d := fun d => ph_Tem_g 43 d (by omega)
  have t58 : ∀ d : Nat, ph_Tem t e 58 d = t 58 d := fun d => ph_Tem_g 58 d (by omega)
  generalize ph_Tem t e = t' at *
  have ex : ∀ c k, ph_x t' c k = ph_x t c k := fun c k => by unfold ph_x; rw [t39]
  have ep : ∀ c k, ph_pos t' c k = ph_pos t c k := fun c k => ph_pos_congr k (fun m _ => ⟨ex c m, by unfold ph_sz; rw [t33, t34]⟩)
  have hkeep : ∀ x : Nat, t 31 x ≠ e → t' 30 x = t 30 x := fun x hx => by rw [t30]; exact pm_fgl_other _ hx
  have hgone : ∀ x : Nat, x < 640 → t 31 x = e → t' 30 x = 0 := fun x hx he => by
    rw [t30]
    by_cases hl : 0 < t 30 x
    · obtain ⟨b1, b2, b3, b4⟩ := a9 x hx hl
      have h0e : t0 31 x = e := by
        by_cases e1 : t0 31 x = e
        · exact e1
        · have := (b3 e1).1; omega
      obtain ⟨k, hk, hk2⟩ := b4 h0e
      exact pm_fgl_gone (t 38 e).toNat (k := k) (by omega) hk2 he
    · have := a3.2.1 x hx
      rcases pm_fgl_01 (t := t) (c := e) (t 38 e).toNat x with e1 | e1
      · exact e1
      · omega
  have hPV : ∀ y : Int, ph_PV t y → (y < 0 ∨ t 31 y.toNat ≠ e) → ph_PV t' y := fun y hy ho => by
    rcases hy with e1 | ⟨e1, e2⟩
    · exact Or.inl e1
    · exact Or.inr ⟨e1, by rw [hkeep _ (ho.resolve_left (by omega))]; exact e2⟩
  refine ⟨by rw [t58]; exact a3.1, fun x hx => ?_, fun x hx hl => ?_, fun c k hc _ hk => ?_, fun r hr => ?_, fun x hx hl i hi => ?_⟩
  · have := a3.2.1 x hx
    rw [t58]
    by_cases e1 : t 31 x = e
    · rw [hgone x hx e1]
      have := a3.1
      exact ⟨by omega, by omega, fun _ => rfl⟩
    · rw [hkeep x e1]; exact this
  · by_cases e1 : t 31 x = e
    · rw [hgone x hx e1] at hl; omega
    · rw [hkeep x e1] at hl
      obtain ⟨c, k, hc, hk, h1, h2, h3⟩ := a3.2.2.1 x hx hl
      refine ⟨c, k, hc, ?_, by rw [ex]; exact h1, by rw [t31]; exact h2, by rw [t32, ep]; exact h3⟩
      rw [t38, if_neg (by omega)]; exact hk
  · rw [t38] at hk
    by_cases e1 : c = e
    · rw [if_pos e1] at hk; omega
    · rw [if_neg e1] at hk
      obtain ⟨g1, g2, g3⟩ := a3.2.2.2.1 c k hc (by omega) hk
      rw [ex, t31, t32, ep, hkeep _ (by omega)]
      exact ⟨g1, g2, g3⟩
  · rw [t43]
    have g43 := h.f 43 r (by omega)
    have := a3.2.2.2.2.1 r hr
    refine hPV _ this ?_
    rw [g43]; exact hreg r hr
  · rw [t33] at hi
    rw [t35]
    by_cases e1 : t 31 x = e
    · rw [hgone x hx e1] at hl; omega
    · rw [hkeep x e1] at hl
      have g35 := h.f 35 (12 * x + i) (by omega)
      have g33 := h.f 33 x (by omega)
      refine hPV _ (a3.2.2.2.2.2 x hx hl i hi) ?_
      rw [g35]
      exact hout x hx (by rw [← h.f 30 _ (Or.inl rfl)]; exact hl) e1 i (by omega)
end PHO
