/-! PURE: a thing is moved, and behind it what it leads to -/
/-- what was elsewhere stays where it is -/
def ph_Mono (t t' : py_Z) (e : Nat) : Prop := (∀ x : Nat, t 31 x ≠ e → t' 31 x = t 31 x ∧ t' 32 x = t 32 x) ∧ t' 50 0 = t 50 0 ∧ ∀ i, t' 40 i = t 40 i
theorem ph_Mono.refl {t : py_Z} {e : Nat} : ph_Mono t t e := ⟨fun _ _ => ⟨rfl, rfl⟩, rfl, fun _ => rfl⟩
theorem ph_Mono.trans {t t1 t2 : py_Z} {e : Nat} (h1 : ph_Mono t t1 e) (h2 : ph_Mono t1 t2 e) : ph_Mono t t2 e := by
  refine ⟨fun x hx => ?_, h2.2.1.trans h1.2.1, fun i => (h2.2.2 i).trans (h1.2.2 i)⟩
  obtain ⟨a, b⟩ := h1.1 x hx
  obtain ⟨c, d⟩ := h2.1 x (by rw [a]; exact hx)
  exact ⟨c.trans a, d.trans b⟩
/-- what has been moved has its references followed, but for some things -/
def ph_CL (t t0 : py_Z) (e : Nat) (X : Nat → Prop) : Prop := ∀ x : Nat, x < 640 → 0 < t0 30 x → t0 31 x = e → t 31 x ≠ e → ¬ X x → ∀ i : Nat, (i : Int) < t0 33 x → t0 35 (12 * x + i) < 0 ∨ t 31 (t0 35 (12 * x + i)).toNat ≠ e
def ph_Q (s t s0 t0 : py_Z) (e m0 k n : Nat) : Prop :=
  ph_Mid s t s0 t0 e ∧ s 21 0 = m0 + n ∧ s 22 0 = m0 + k ∧ k ≤ n ∧
  (∀ i : Nat, i < n → (0 ≤ t 44 i ∧ t 44 i < 640) ∧ 0 < t0 30 (t 44 i).toNat ∧ t0 31 (t 44 i).toNat = e ∧ t 31 (t 44 i).toNat ≠ e ∧ s 9 (m0 + i) = 32 * t 31 (t 44 i).toNat + t 32 (t 44 i).toNat)
theorem ph_MH.congr {t t' : py_Z} {e : Int} (h : ph_MH t e) (ht : ∀ g i, g = 30 ∨ g = 31 ∨ g = 32 ∨ g = 33 ∨ g = 34 ∨ g = 35 ∨ g = 38 ∨ g = 39 ∨ g = 43 ∨ g = 58 → t' g i = t g i) : ph_MH t' e := by
  have t30 : ∀ i, t' 30 i = t 30 i := fun i => ht 30 i (by omega)
  have t31 : ∀ i, t' 31 i = t 31 i := fun i => ht 31 i (by omega)
  have t32 : ∀ i, t' 32 i = t 32 i := fun i => ht 32 i (by omega)
  have t33 : ∀ i, t' 33 i = t 33 i := fun i => ht 33 i (by omega)
  have t34 : ∀ i, t' 34 i = t 34 i := fun i => ht 34 i (by omega)
  have t35 : ∀ i, t' 35 i = t 35 i := fun i => ht 35 i (by omega)
  have t38 : ∀ i, t' 38 i = t 38 i := fun i => ht 38 i (by omega)
  have t43 : ∀ i, t' 43 i = t 43 i := fun i => ht 43 i (by omega)
  have t58 : ∀ i, t' 58 i = t 58 i := fun i => ht 58 i (by omega)
  have ex : ∀ c k, ph_x t' c k = ph_x t c k := fun c k => by unfold ph_x; rw [ht 39 _ (by omega)]
  have ep : ∀ c k, ph_pos t' c k = ph_pos t c k := fun c k => ph_pos_congr k (fun m _ => ⟨ex c m, by unfold ph_sz; rw [t33, t34]⟩)
  unfold ph_MH at h ⊢
  simp only [ph_PV, t30, t31, t32, t33, t35, t38, t43, t58, ex, ep] at h ⊢
  exact h
theorem ph_Mid.congr {s t s' t' s0 t0 : py_Z} {e : Nat} (h : ph_Mid s t s0 t0 e) (hs : ∀ g i, g ≠ 9 → g ≠ 22 → s' g i = s g i) (ht : ∀ g i, g ≠ 44 → t' g i = t g i) : ph_Mid s' t' s0 t0 e := by
  obtain ⟨a1, a2, a3, a4, a5, a6, a7, a8, a9, a10, a11, a12, a13⟩ := h
  have t30 : ∀ i, t' 30 i = t 30 i := fun i => ht 30 i (by omega)
  have t31 : ∀ i, t' 31 i = t 31 i := fun i => ht 31 i (by omega)
  have t32 : ∀ i, t' 32 i = t 32 i := fun i => ht 32 i (by omega)
  have t33 : ∀ i, t' 33 i = t 33 i := fun i => ht 33 i (by omega)
  have t34 : ∀ i, t' 34 i = t 34 i := fun i => ht 34 i (by omega)
  have t37 : ∀ i, t' 37 i = t 37 i := fun i => ht 37 i (by omega)
  have t38 : ∀ i, t' 38 i = t 38 i := fun i => ht 38 i (by omega)
  have t39 : ∀ i, t' 39 i = t 39 i := fun i => ht 39 i (by omega)
  have t43 : ∀ i, t' 43 i = t 43 i := fun i => ht 43 i (by omega)
  have ex : ∀ c k, ph_x t' c k = ph_x t c k := fun c k => by unfold ph_x; rw [ht 39 _ (by omega)]
  have esz : ∀ y, ph_sz t' y = ph_sz t y := fun y => by unfold ph_sz; rw [t33, t34]
  have ep : ∀ c k, ph_pos t' c k = ph_pos t c k := fun c k => ph_pos_congr k (fun m _ => ⟨ex c m, esz _⟩)
  have emc : ∀ m, ph_mc t' e m = ph_mc t e m := fun m => py_cnt_congr (fun k _ => by rw [ex, t31])
  have emw : ∀ m, ph_mw t' e m = ph_mw t e m := by
    intro m
    induction m with
    | zero => rfl
    | succ m ih => simp only [ph_mw]; rw [ih, ex, t31, esz]
  refine ⟨a1.congr (fun i => hs 5 i (by omega) (by omega)) (fun i => hs 6 i (by omega) (by omega)) (hs 13 0 (by omega) (by omega)) (hs 14 0 (by omega) (by omega)) (ht 50 0 (by omega)) (ht 57 0 (by omega)) (fun i => ht 40 i (by omega)) (fun i => ht 41 i (by omega)) (fun i => ht 42 i (by omega)), a2.congr (fun g i hg => hs g i (by omega) (by omega)) (fun c _ hz => by rw [hs 6 c (by omega) (by omega)] at hz; exact hz) (fun g i _ _ _ _ => ht g i (by omega)), a3.congr (fun g i hg => ht g i (by omega)), ?_, ?_, ?_, ⟨?_, ?_⟩, ?_, ?_, ?_, ?_, ?_, ?_, ?_⟩
  · intro r hr; rw [hs 7 r (by omega) (by omega), t43]; exact a4 r hr
  · rw [hs 20 0 (by omega) (by omega), ht 59 0 (by omega), ht 42 0 (by omega), ht 50 0 (by omega)]; exact a5
  · rw [hs 18 0 (by omega) (by omega), hs 19 0 (by omega) (by omega), ht 55 0 (by omega), ht 56 0 (by omega)]; exact a6
  · intro g i hg; rw [hs g i (by omega) (by omega)]; exact a7.1 g i hg
  · intro g i hg; rw [ht g i (by omega)]; exact a7.2 g i hg
  · rw [t38, t37]; exact ⟨a8.1, a8.2.1, fun k hk => by rw [t39]; exact a8.2.2 k hk⟩
  · intro x hx hl
    rw [t30] at hl
    have := a9 x hx hl
    simp only [t31, t32, t38, ex]; exact this
  · intro k hk
    rw [t38] at hk
    have := a10 k hk
    simp only [t30, t31, t32, ex, ep, hs 8 _ (show 8 ≠ 9 by decide) (show 8 ≠ 22 by decide)]; exact this
  · rw [hs 21 0 (by omega) (by omega), t38, emc]; exact a11
  · rw [hs 13 0 (by omega) (by omega), t38, emw]
    rcases a12 with e1 | ⟨f, g1, g2, g3, g4⟩
    · exact Or.inl e1
    · exact Or.inr ⟨f, g1, by rw [hs 6 f (by omega) (by omega)]; exact g2, g3, by rw [t37]; exact g4⟩
  · rw [ht 50 0 (by omega), ht 57 0 (by omega)]; exact a13.1
  · intro c hc; rw [hs 6 c (by omega) (by omega)]; exact a13.2 c hc
section PMA
variable {s t s0 t0 : py_Z} {e : Nat}
theorem ph_Mid.no (h : ph_Mid s t s0 t0 e) {y : Int} (hy : ph_PV t y) (hno : ¬ (0 ≤ y ∧ t 31 y.toNat = e)) {v : Int32} {K : ty_S → Prop} (hK : K (py_O s)) : eX3_moveOne (py_O s) (py_o (ph_E t0 y)) v K := by
  unfold eX3_moveOne
  try simp only [py_O_ap, py_l0, py_l1, py_l2, py_l3, py_l4, py_l5, py_l6, py_l7, py_l8, py_l9, py_l12, py_l16, py_l32, py_l40, py_l100, py_l640, py_l1280, py_neg, py_add, py_sub, py_mul, py_stO]
  refine h.still hy (fun a b => absurd ⟨a, b⟩ hno) (fun _ => ?_)
  exact py_ieq (fun _ => hK) (fun c => absurd rfl c)
theorem ph_Mid.f (h : ph_Mid s t s0 t0 e) (g i : Nat) (hg : g = 30 ∨ (33 ≤ g ∧ g ≤ 36) ∨ g = 43 ∨ (45 ≤ g ∧ g ≤ 48) ∨ (51 ≤ g ∧ g ≤ 54) ∨ 58 ≤ g) : t g i = t0 g i := h.2.2.2.2.2.2.1.2 g i hg
/-- where a live thing lies now -/
theorem ph_Mid.at (h : ph_Mid s t s0 t0 e) {x : Nat} (hx : x < 640) (hl : 0 < t0 30 x) : ∃ c k : Nat, c < 40 ∧ (k : Int) < t 38 c ∧ ph_x t c k = x ∧ t 31 x = c ∧ t 32 x = ph_pos t c k ∧ s 6 c ≠ 0 := by
  obtain ⟨c, k, hc, hk, h1, h2, h3⟩ := h.2.2.1.2.2.1 x hx (by rw [h.f 30 x (Or.inl rfl)]; exact hl)
  refine ⟨c, k, hc, hk, h1, h2, h3, fun e1 => ?_⟩
  have := (h.2.1.1 c hc).2.2.2.2.2.1 e1
  omega
theorem ph_inner (m0 k : Nat) : ∀ (d i n : Nat) (s t : py_Z), ph_Q s t s0 t0 e m0 k n → k < n → (i : Int) + d = t0 33 (t 44 k).toNat →
    ph_CL t t0 e (fun x => ∃ i : Nat, k ≤ i ∧ i < n ∧ (t 44 i).toNat = x) → (∀ a : Nat, a < i → t0 35 (12 * (t 44 k).toNat + a) < 0 ∨ t 31 (t0 35 (12 * (t 44 k).toNat + a)).toNat ≠ e) →
    ∃ (s' t' : py_Z) (n' : Nat),
      (∀ (K : ty_S → Prop) (R : ty_S → Prop), R (py_O (py_st s' 22 0 (s' 22 0 + 1))) → ∃ n9, lX3_moveWithOthers_58 K R n9 (py_o (s 9 (m0 + k))) (py_o (s 9 (m0 + k) + 2 + t0 33 (t 44 k).toNat)) (py_o (s 9 (m0 + k) + 2 + i)) (py_O s)) ∧
      (∀ (K : ty_S → Prop) (R : Int32 → Int32 → ty_S → Prop), R (py_o n') (py_o (k + 1)) (py_O t') → ∃ n9, lX5_moveAll_36 K R n9 (py_o n) (py_o k) (py_o (t 44 k).toNat) (py_o i) (py_O t)) ∧
      ph_Q s' t' s0 t0 e m0 k n' ∧ n ≤ n' ∧ ph_Mono t t' e ∧ (∀ a : Nat, a < n → t' 44 a = t 44 a) ∧
      ph_CL t' t0 e (fun x => ∃ i : Nat, k ≤ i ∧ i < n' ∧ (t' 44 i).toNat = x) ∧ (∀ a : Nat, (a : Int) < t0 33 (t 44 k).toNat → t0 35 (12 * (t 44 k).toNat + a) < 0 ∨ t' 31 (t0 35 (12 * (t 44 k).toNat + a)).toNat ≠ e) := by
  intro d
  induction d with
  | zero =>
    intro i n s t hQ hkn hi hCL hfo
    obtain ⟨hM, q1, q2, q3, q4⟩ := id hQ
    obtain ⟨z1, z2, z3, z4, z5⟩ := q4 k hkn
    obtain ⟨c, m, hc, hm, hm1, hm2, hm3, hm4⟩ := hM.at (x := (t 44 k).toNat) (by omega) z2
    obtain ⟨f1, f2, f3, f4⟩ := hM.2.1.fit hc hm
    obtain ⟨w1, w2, w3, w4⟩ := hM.2.1.2.1 c m hc hm
    rw [hm1] at w2 w3
    have g33 := hM.f 33 (t 44 k).toNat (by omega)
    refine ⟨s, t, n, fun K R hR => ⟨1, ?_⟩, fun K R hR => ⟨1, ?_⟩, hQ, Nat.le_refl _, ph_Mono.refl, fun _ _ => rfl, hCL, fun a ha => hfo a (by omega)⟩
    · unfold lX3_moveWithOthers_58
      try simp only [py_O_ap, py_l0, py_l1, py_l2, py_l3, py_l4, py_l5, py_l6, py_l7, py_l8, py_l9, py_l12, py_l16, py_l32, py_l40, py_l100, py_l640, py_l1280, py_neg, py_add, py_sub, py_mul, py_stO]
      exact py_ile (fun _ => hR) (fun c => absurd c (by omega))
    · unfold lX5_moveAll_36
      try simp only [py_O_ap, py_l0, py_l1, py_l2, py_l3, py_l4, py_l5, py_l6, py_l7, py_l8, py_l9, py_l12, py_l16, py_l32, py_l40, py_l100, py_l640, py_l1280, py_neg, py_add, py_sub, py_mul, py_stO]
      refine py_and ?_
      rw [py_nat (by omega)]
      simp only [Int.toNat_natCast]
      rw [g33]
      exact py_ile (fun _ => hR) (fun c => absurd c (by omega))
  | succ d ih =>
    intro i n s t hQ hkn hi hCL hfo
    obtain ⟨hM, q1, q2, q3, q4⟩ := id hQ
    obtain ⟨z1, z2, z3, z4, z5⟩ := q4 k hkn
    obtain ⟨c, m, hc, hm, hm1, hm2, hm3, hm4⟩ := hM.at (x := (t 44 k).toNat) (by omega) z2
    obtain ⟨f1, f2, f3, f4⟩ := hM.2.1.fit hc hm
    obtain ⟨w1, w2, w3, w4, w5, w6, w7⟩ := hM.2.1.2.1 c m hc hm
    rw [hm1] at w2 w3 w4 w5 w6 w7 f1 f4
    have g33 := hM.f 33 (t 44 k).toNat (by omega)
    have g35 := hM.f 35 (12 * (t 44 k).toNat + i) (by omega)
    have hxl : 0 < t 30 (t 44 k).toNat := by rw [hM.f 30 _ (Or.inl rfl)]; exact z2
    have hPV : ph_PV t (t0 35 (12 * (t 44 k).toNat + i)) := by
      have := hM.2.2.1.2.2.2.2.2 (t 44 k).toNat (by omega) hxl i (by omega)
      rwa [g35] at this
    have hword : s 0 (32 * c + ph_pos t c m + 2 + i) = ph_E t0 (t0 35 (12 * (t 44 k).toNat + i)) := by
      rw [(w6 i (by omega)).1, g35]
    have hfrom : s 9 (m0 + k) = ((32 * c + ph_pos t c m : Nat) : Int) := by rw [z5, hm2, hm3]; omega
    have he1 : (s 9 (m0 + k) + 2 + i).toNat = 32 * c + ph_pos t c m + 2 + i := by omega
    have he2 : ((12 : Int) * (t 44 k).toNat + i).toNat = 12 * (t 44 k).toNat + i := by omega
    have hEb := hM.E hPV
    have h6b := hM.1.six_b hc
    -- what both do up to the move
    have hcls : ∀ (K : ty_S → Prop) (R : ty_S → Prop), (∃ n9, eX3_moveOne (py_O s) (py_o (ph_E t0 (t0 35 (12 * (t 44 k).toNat + i)))) (py_o (s 6 c)) (fun S6 => lX3_moveWithOthers_58 K R n9 (py_o (s 9 (m0 + k))) (py_o (s 9 (m0 + k) + 2 + t0 33 (t 44 k).toNat)) (py_o (s 9 (m0 + k) + 2 + (i + 1 : Nat))) S6)) → ∃ n9, lX3_moveWithOthers_58 K R n9 (py_o (s 9 (m0 + k))) (py_o (s 9 (m0 + k) + 2 + t0 33 (t 44 k).toNat)) (py_o (s 9 (m0 + k) + 2 + i)) (py_O s) := fun K R ⟨n9, hn9⟩ => by
      refine ⟨n9 + 1, ?_⟩
      unfold lX3_moveWithOthers_58
      try simp only [py_O_ap, py_l0, py_l1, py_l2, py_l3, py_l4, py_l5, py_l6, py_l7, py_l8, py_l9, py_l12, py_l16, py_l32, py_l40, py_l100, py_l640, py_l1280, py_neg, py_add, py_sub, py_mul, py_stO]
      refine py_ile (fun c => absurd c (by omega)) (fun _ => ?_)
      refine pr_at (fun _ _ => ?_) (fun c => absurd c (by omega))
      rw [he1, hword]
      refine pr_carOf (fun _ _ => ?_) (fun c => absurd c (by omega))
      rw [show s 9 (m0 + k) / 32 = c by omega]
      refine pr_trainOf (fun _ _ => ?_) (fun c => absurd c (by omega))
      simp only [Int.toNat_natCast]
      rw [show s 9 (m0 + k) + 2 + ((i + 1 : Nat) : Int) = s 9 (m0 + k) + 2 + i + 1 by omega] at hn9
      exact hn9
    by_cases hin : 0 ≤ t0 35 (12 * (t 44 k).toNat + i) ∧ t 31 (t0 35 (12 * (t 44 k).toNat + i)).toNat = e
    · -- it is moved
      obtain ⟨y1, y2, y3, y4⟩ := (hEb.resolve_left (by omega))
      have y5 := y4.1
      obtain ⟨j, kk, hj, hkk, j1, j2, j3, j4, j5⟩ := (hM.1.six hc).resolve_left hm4
      have hyc : t0 35 (12 * (t 44 k).toNat + i) = ((t0 35 (12 * (t 44 k).toNat + i)).toNat : Nat) := by omega
      obtain ⟨s1, t1, p1, p2, p3, p4, p5, p6, p7, p8, p9, p10, p11⟩ := hM.move (y := (t0 35 (12 * (t 44 k).toNat + i)).toNat) (by omega) y3 hin.2 hj
      have hMo : ph_Mono t t1 e := ⟨fun x hx => p5 x (fun e9 => hx (by rw [e9]; exact hin.2)), p11.1, p11.2⟩
      generalize hy : (t0 35 (12 * (t 44 k).toNat + i)).toNat = y at *
      have h44 : ∀ a : Nat, py_st t1 44 n y 44 a = if a = n then (y : Int) else t 44 a := fun a => by rw [py_ss, p10]
      have h31 : ∀ a, py_st t1 44 n y 31 a = t1 31 a := fun a => py_sn (by decide)
      have h32 : ∀ a, py_st t1 44 n y 32 a = t1 32 a := fun a => py_sn (by decide)
      have hyl : 0 < t0 30 y := by rw [← hM.f 30 _ (Or.inl rfl)]; exact y3
      have hy0 : t0 31 y = e := by
        by_cases e9 : t0 31 y = e
        · exact e9
        · have := (hM.2.2.2.2.2.2.2.2.1 y (by omega) y3).2.2.1 e9
          exact absurd (this.1.symm.trans hin.2) e9
      have hmv : ∀ x : Nat, t 31 x ≠ e → t1 31 x ≠ e := fun x hx => by rw [(hMo.1 x hx).1]; exact hx
      have hQ1 : ph_Q s1 (py_st t1 44 n y) s0 t0 e m0 k (n + 1) := by
        refine ⟨p3.congr (fun g i _ _ => rfl) (fun g i hg => py_sn hg), by omega, by omega, by omega, fun a ha => ?_⟩
        rw [h44, h31, h32]
        by_cases e9 : a = n
        · subst e9
          rw [if_pos rfl]
          simp only [Int.toNat_natCast]
          refine ⟨by omega, hyl, hy0, p4, ?_⟩
          rw [p9, if_pos (by omega)]
        · rw [if_neg e9]
          obtain ⟨b1, b2, b3, b4, b5⟩ := q4 a (by omega)
          refine ⟨b1, b2, b3, hmv _ b4, ?_⟩
          rw [p9, if_neg (by omega), (hMo.1 _ b4).1, (hMo.1 _ b4).2]
          exact b5
      have hk44 : py_st t1 44 n y 44 k = t 44 k := by rw [h44, if_neg (by omega)]
      obtain ⟨s', t', n', o1, o2, o3, o4, o5, o6, o7, o8⟩ := ih (i + 1) (n + 1) s1 (py_st t1 44 n y) hQ1 (by omega) (by
        rw [hk44]; omega) (by
        intro x hx hl h0e hme hX a ha
        rw [h31] at hme ⊢
        have hxn : x ≠ y := fun e9 => hX ⟨n, by omega, by omega, by rw [h44, if_pos rfl]; simpa using e9.symm⟩
        have h9 : t 31 x ≠ e := by rw [← (p5 x hxn).1]; exact hme
        rcases hCL x hx hl h0e h9 (fun ⟨b, hb1, hb2, hb3⟩ => hX ⟨b, hb1, by omega, by rw [h44, if_neg (by omega)]; exact hb3⟩) a ha with e10 | e10
        · exact Or.inl e10
        · exact Or.inr (hmv _ e10)) (by
        intro a ha
        rw [hk44, h31]
        by_cases e9 : a = i
        · subst e9
          rw [hy]; exact Or.inr p4
        · rcases hfo a (by omega) with e10 | e10
          · exact Or.inl e10
          · exact Or.inr (hmv _ e10))
      have hMo2 : ph_Mono t (py_st t1 44 n y) e := ⟨fun x hx => by rw [h31, h32]; exact hMo.1 x hx, by rw [py_sn (by decide)]; exact hMo.2.1, fun a => by rw [py_sn (by decide)]; exact hMo.2.2 a⟩
      refine ⟨s', t', n', fun K R hR => hcls K R ?_, fun K R hR => ?_, o3, by omega, hMo2.trans o5, fun a ha => ?_, o7, fun a ha => ?_⟩
      · obtain ⟨n9, hn9⟩ := o1 K R hR
        refine ⟨n9, ?_⟩
        rw [j2, hyc]
        refine p1 _ ?_
        rw [hk44, p9, if_neg (by omega)] at hn9
        exact hn9
      · rw [hk44] at o2
        obtain ⟨n9, hn9⟩ := o2 K R hR
        refine ⟨n9 + 1, ?_⟩
        unfold lX5_moveAll_36
        try simp only [py_O_ap, py_l0, py_l1, py_l2, py_l3, py_l4, py_l5, py_l6, py_l7, py_l8, py_l9, py_l12, py_l16, py_l32, py_l40, py_l100, py_l640, py_l1280, py_neg, py_add, py_sub, py_mul, py_stO]
        refine py_and ?_
        rw [py_nat (by omega), py_nat (by omega), he2]
        simp only [Int.toNat_natCast]
        rw [g33, g35]
        refine py_ile (fun c => absurd c (by omega)) (fun _ => py_and ?_)
        refine hM.inCar hPV (fun _ _ => ?_) (fun a => absurd (by rw [hy]; exact hin) a)
        refine py_ieq (fun c => absurd c (by omega)) (fun _ => py_and ?_)
        try simp only [py_O_ap, py_l0, py_l1, py_l2, py_l3, py_l4, py_l5, py_l6, py_l7, py_l8, py_l9, py_l12, py_l16, py_l32, py_l40, py_l100, py_l640, py_l1280, py_neg, py_add, py_sub, py_mul, py_stO]
        rw [hm2]
        have hj5 := hM.1.2.2.2.2.1
        refine pm_trainOf hM.1 hc (fun j8 hj8 e9 => ?_) (fun e9 => absurd e9 hm4)
        have e10 : j8 = j := hM.1.num hj8 hj (by rw [← e9, j2])
        subst e10
        rw [hyc]
        refine p2 _ ?_
        have hc16 := (hM.2.1.1 e hM.2.2.2.2.1.2.2.1).2.2.1
        have hn16 : (m0 + n : Int) < 16 := by omega
        refine py_and ?_
        rw [py_nat (by omega)]
        simp only [Int.toNat_natCast]
        try simp only [py_O_ap, py_l0, py_l1, py_l2, py_l3, py_l4, py_l5, py_l6, py_l7, py_l8, py_l9, py_l12, py_l16, py_l32, py_l40, py_l100, py_l640, py_l1280, py_neg, py_add, py_sub, py_mul, py_stO]
        exact hn9
      · rw [o6 a (by omega), h44, if_neg (by omega)]
      · have := o8 a (by rw [hk44]; exact ha)
        rwa [hk44] at this
    · -- it is not there any more
      obtain ⟨s', t', n', o1, o2, o3, o4, o5, o6, o7, o8⟩ := ih (i + 1) n s t hQ hkn (by omega) hCL (fun a ha => by
        by_cases e9 : a = i
        · subst e9
          by_cases e10 : t0 35 (12 * (t 44 k).toNat + a) < 0
          · exact Or.inl e10
          · exact Or.inr (fun e11 => hin ⟨by omega, e11⟩)
        · exact hfo a (by omega))
      refine ⟨s', t', n', fun K R hR => hcls K R ?_, fun K R hR => ?_, o3, o4, o5, o6, o7, o8⟩
      · obtain ⟨n9, hn9⟩ := o1 K R hR
        exact ⟨n9, hM.no hPV hin hn9⟩
      · obtain ⟨n9, hn9⟩ := o2 K R hR
        refine ⟨n9 + 1, ?_⟩
        unfold lX5_moveAll_36
        try simp only [py_O_ap, py_l0, py_l1, py_l2, py_l3, py_l4, py_l5, py_l6, py_l7, py_l8, py_l9, py_l12, py_l16, py_l32, py_l40, py_l100, py_l640, py_l1280, py_neg, py_add, py_sub, py_mul, py_stO]
        refine py_and ?_
        rw [py_nat (by omega), py_nat (by omega), he2]
        simp only [Int.toNat_natCast]
        rw [g33, g35]
        refine py_ile (fun c => absurd c (by omega)) (fun _ => py_and ?_)
        refine hM.inCar hPV (fun a b => absurd ⟨a, b⟩ hin) (fun _ => ?_)
        exact py_ieq (fun _ => hn9) (fun c => absurd rfl c)
theorem ph_outer (m0 : Nat) : ∀ (d k n : Nat) (s t : py_Z), ph_Q s t s0 t0 e m0 k n → m0 + k + d = 17 →
    ph_CL t t0 e (fun x => ∃ i : Nat, k ≤ i ∧ i < n ∧ (t 44 i).toNat = x) →
    ∃ (s' t' : py_Z),
      (∀ (K : ty_S → Prop), K (py_O s') → ∃ n9, lX3_moveWithOthers_6 K n9 (py_O s)) ∧
      (∀ (K : ty_S → Prop), K (py_O t') → ∃ n9, lX5_moveAll_18 K n9 (py_o n) (py_o k) (py_O t)) ∧
      ph_Mid s' t' s0 t0 e ∧ s' 22 0 = s' 21 0 ∧ ph_CL t' t0 e (fun _ => False) ∧ ph_Mono t t' e := by
  intro d
  induction d with
  | zero =>
    intro k n s t hQ hd hCL
    obtain ⟨hM, q1, q2, q3, q4⟩ := hQ
    have hc16 := (hM.2.1.1 e hM.2.2.2.2.1.2.2.1).2.2.1
    have h21 := hM.2.2.2.2.2.2.2.2.2.2.1
    have := py_cnt_le (fun k => decide (t 31 (ph_x t e k) ≠ e)) (t 38 e).toNat
    unfold ph_mc at h21
    omega
  | succ d ih =>
    intro k n s t hQ hd hCL
    obtain ⟨hM, q1, q2, q3, q4⟩ := id hQ
    have hc16 := (hM.2.1.1 e hM.2.2.2.2.1.2.2.1).2.2.1
    have h21 := hM.2.2.2.2.2.2.2.2.2.2.1
    have hle := py_cnt_le (fun k => decide (t 31 (ph_x t e k) ≠ e)) (t 38 e).toNat
    unfold ph_mc at h21
    by_cases hkn : k = n
    · refine ⟨s, t, fun K hK => ⟨1, ?_⟩, fun K hK => ⟨1, ?_⟩, hM, by omega, fun x hx hl h0 hme _ => hCL x hx hl h0 hme (fun ⟨i, h1, h2, h3⟩ => absurd h1 (by omega)), ph_Mono.refl⟩
      · unfold lX3_moveWithOthers_6
        try simp only [py_O_ap, py_l0, py_l1, py_l2, py_l3, py_l4, py_l5, py_l6, py_l7, py_l8, py_l9, py_l12, py_l16, py_l32, py_l40, py_l100, py_l640, py_l1280, py_neg, py_add, py_sub, py_mul, py_stO]
        exact py_ile (fun _ => hK) (fun c => absurd c (by omega))
      · unfold lX5_moveAll_18
        try simp only [py_O_ap, py_l0, py_l1, py_l2, py_l3, py_l4, py_l5, py_l6, py_l7, py_l8, py_l9, py_l12, py_l16, py_l32, py_l40, py_l100, py_l640, py_l1280, py_neg, py_add, py_sub, py_mul, py_stO]
        exact py_ile (fun _ => hK) (fun c => absurd c (by omega))
    · obtain ⟨z1, z2, z3, z4, z5⟩ := q4 k (by omega)
      obtain ⟨c, m, hc, hm, hm1, hm2, hm3, hm4⟩ := hM.at (x := (t 44 k).toNat) (by omega) z2
      obtain ⟨f1, f2, f3, f4⟩ := hM.2.1.fit hc hm
      obtain ⟨w1, w2, w3, w4, w5, w6, w7⟩ := hM.2.1.2.1 c m hc hm
      rw [hm1] at w2 w3 w4 w5 w6 w7 f1 f4
      have g33 := hM.f 33 (t 44 k).toNat (by omega)
      have hfrom : s 9 (m0 + k) = ((32 * c + ph_pos t c m : Nat) : Int) := by rw [z5, hm2, hm3]; omega
      obtain ⟨s1, t1, n1, o1, o2, o3, o4, o5, o6, o7, o8⟩ := ph_inner m0 k (t0 33 (t 44 k).toNat).toNat 0 n s t hQ (by omega) (by omega) hCL (fun a ha => absurd ha (by omega))
      obtain ⟨hM1, r1, r2, r3, r4⟩ := o3
      have hQ2 : ph_Q (py_st s1 22 0 (s1 22 0 + 1)) t1 s0 t0 e m0 (k + 1) n1 := by
        refine ⟨hM1.congr (fun g i _ hg => py_sn hg) (fun _ _ _ => rfl), by rw [py_sn (by decide)]; exact r1, by rw [py_se]; omega, by omega, fun i hi => ?_⟩
        rw [py_sn (by decide)]
        exact r4 i hi
      obtain ⟨s', t', u1, u2, u3, u4, u5, u6⟩ := ih (k + 1) n1 _ t1 hQ2 (by omega) (by
        intro x hx hl h0 hme hX a ha
        by_cases e9 : (t1 44 k).toNat = x
        · have := o8 a (by rw [← o6 k (by omega), e9]; exact ha)
          rw [← o6 k (by omega), e9] at this
          exact this
        · refine o7 x hx hl h0 hme (fun ⟨i, h1, h2, h3⟩ => hX ⟨i, ?_, h2, h3⟩) a ha
          have : i ≠ k := fun e10 => e9 (by rw [← e10]; exact h3)
          omega)
      refine ⟨s', t', fun K hK => ?_, fun K hK => ?_, u3, u4, u5, o5.trans u6⟩
      · obtain ⟨n0, hn0⟩ := u1 K hK
        obtain ⟨n9, hn9⟩ := o1 K (fun S9 => lX3_moveWithOthers_6 K n0 S9) hn0
        refine ⟨n0 + 1, ?_⟩
        unfold lX3_moveWithOthers_6
        try simp only [py_O_ap, py_l0, py_l1, py_l2, py_l3, py_l4, py_l5, py_l6, py_l7, py_l8, py_l9, py_l12, py_l16, py_l32, py_l40, py_l100, py_l640, py_l1280, py_neg, py_add, py_sub, py_mul, py_stO]
        refine py_ile (fun c => absurd c (by omega)) (fun _ => py_ile (fun c => absurd c (by omega)) (fun _ => py_and ?_))
        have e9 : (s 22 0).toNat = m0 + k := by omega
        rw [py_nat (by omega), e9]
        rw [hfrom] at hn9 ⊢
        refine pr_references (r := t0 33 (t 44 k).toNat) (n := t 34 (t 44 k).toNat) (by omega) (by omega) ?_ (by omega) (by omega) (by omega) (by omega) ?_
        · rw [show (((32 * c + ph_pos t c m : Nat) : Int) + 1).toNat = 32 * c + ph_pos t c m + 1 by omega, w5, g33]
        · refine ⟨n9, ?_⟩
          try simp only [py_O_ap, py_l0, py_l1, py_l2, py_l3, py_l4, py_l5, py_l6, py_l7, py_l8, py_l9, py_l12, py_l16, py_l32, py_l40, py_l100, py_l640, py_l1280, py_neg, py_add, py_sub, py_mul, py_stO]
          rw [show ((32 * c + ph_pos t c m : Nat) : Int) + 2 + (0 : Nat) = ((32 * c + ph_pos t c m : Nat) : Int) + 2 by omega] at hn9
          exact hn9
      · obtain ⟨n0, hn0⟩ := u2 K hK
        obtain ⟨n9, hn9⟩ := o2 K (fun a0 a1 S9 => lX5_moveAll_18 K n0 a0 a1 S9) hn0
        refine ⟨n0 + 1, ?_⟩
        unfold lX5_moveAll_18
        try simp only [py_O_ap, py_l0, py_l1, py_l2, py_l3, py_l4, py_l5, py_l6, py_l7, py_l8, py_l9, py_l12, py_l16, py_l32, py_l40, py_l100, py_l640, py_l1280, py_neg, py_add, py_sub, py_mul, py_stO]
        refine py_ile (fun c => absurd c (by omega)) (fun _ => py_and ?_)
        rw [py_nat (by omega)]
        simp only [Int.toNat_natCast]
        have e9 : t 44 k = ((t 44 k).toNat : Nat) := by omega
        rw [e9]
        exact ⟨n9, hn9⟩
/-- a thing of the car, and what can be come to from it -/
theorem ph_Mid.moveAll (h : ph_Mid s t s0 t0 e) (h22 : s 22 0 = s 21 0) (hCL : ph_CL t t0 e (fun _ => False)) {y j : Nat} (hy : y < 640) (hl : 0 < t 30 y) (hin : t 31 y = e) (hj : (j : Int) < t 50 0) :
    ∃ s' t' : py_Z, (∀ K : ty_S → Prop, K (py_O s') → eX3_moveWithOthers (py_O s) (py_o (ph_E t0 y)) (py_o (t 40 j)) K) ∧ (∀ K : ty_S → Prop, K (py_O t') → eX5_moveAll (py_O t) (py_o y) (py_o j) K) ∧
      ph_Mid s' t' s0 t0 e ∧ s' 22 0 = s' 21 0 ∧ ph_CL t' t0 e (fun _ => False) ∧ ph_Mono t t' e ∧ t' 31 y ≠ e := by
  have h2 : ph_Mid s (py_st t 44 0 y) s0 t0 e := h.congr (fun _ _ _ _ => rfl) (fun g i hg => py_sn hg)
  obtain ⟨s1, t1, p1, p2, p3, p4, p5, p6, p7, p8, p9, p10, p11⟩ := h2.move (y := y) (j := j) hy (by rw [py_sn (by decide)]; exact hl) (by rw [py_sn (by decide)]; exact hin) (by rw [py_sn (by decide)]; exact hj)
  have hMo : ph_Mono t t1 e := ⟨fun x hx => by
    have := p5 x (fun e9 => hx (by rw [e9]; exact hin))
    rw [py_sn (by decide), py_sn (by decide)] at this
    exact this, by rw [p11.1, py_sn (by decide)], fun i => by rw [p11.2, py_sn (by decide)]⟩
  have h44 : t1 44 0 = y := by rw [p10, py_se]
  have hyl : 0 < t0 30 y := by rw [← h.f 30 _ (Or.inl rfl)]; exact hl
  have hy0 : t0 31 y = e := by
    by_cases e9 : t0 31 y = e
    · exact e9
    · have := (h.2.2.2.2.2.2.2.2.1 y hy hl).2.2.1 e9
      exact absurd (this.1.symm.trans hin) e9
  have h21 : s 21 0 = ((s 21 0).toNat : Nat) := by omega
  have hQ : ph_Q s1 t1 s0 t0 e (s 21 0).toNat 0 1 := by
    refine ⟨p3, by omega, by omega, by omega, fun i hi => ?_⟩
    have : i = 0 := by omega
    subst this
    rw [h44]
    simp only [Int.toNat_natCast]
    refine ⟨by omega, hyl, hy0, p4, ?_⟩
    rw [p9, if_pos (by omega)]
  obtain ⟨s', t', u1, u2, u3, u4, u5, u6⟩ := ph_outer (s 21 0).toNat (17 - (s 21 0).toNat) 0 1 s1 t1 hQ (by omega) (by
    intro x hx hl2 h0 hme hX a ha
    have hxy : x ≠ y := fun e9 => hX ⟨0, by omega, by omega, by rw [h44, e9]; rfl⟩
    have := p5 x hxy
    rw [py_sn (by decide)] at this
    rcases hCL x hx hl2 h0 (by rw [← this.1]; exact hme) (fun c => c) a ha with e10 | e10
    · exact Or.inl e10
    · exact Or.inr (by rw [(hMo.1 _ e10).1]; exact e10))
  refine ⟨s', t', fun K hK => ?_, fun K hK => ?_, u3, u4, u5, hMo.trans u6, by rw [(u6.1 y p4).1]; exact p4⟩
  · unfold eX3_moveWithOthers
    have := p1 (fun S1 => ∃ n9, lX3_moveWithOthers_6 K n9 S1) (u1 K hK)
    rw [py_sn (by decide)] at this
    exact this
  · unfold eX5_moveAll
    try simp only [py_O_ap, py_l0, py_l1, py_l2, py_l3, py_l4, py_l5, py_l6, py_l7, py_l8, py_l9, py_l12, py_l16, py_l32, py_l40, py_l100, py_l640, py_l1280, py_neg, py_add, py_sub, py_mul, py_stO]
    refine py_and ?_
    rw [py_nat (by omega)]
    exact p2 _ (u2 K hK)
end PMA
