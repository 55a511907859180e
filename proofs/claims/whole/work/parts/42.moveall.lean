/-! PURE: a thing is moved, and behind it what it leads to -/
/-- what was elsewhere stays where it is -/
def ph_Mono (t t' : py_Z) (e : Nat) : Prop := (∀ x : Nat, t 31 x ≠ e → t' 31 x = t 31 x ∧ t' 32 x = t 32 x) ∧ t' 50 0 = t 50 0 ∧ ∀ i, t' 40 i = t 40 i
theorem ph_Mono.refl {t : py_Z} {e : Nat} : ph_Mono t t e := ⟨fun _ _ => ⟨rfl, rfl⟩, rfl, fun _ => rfl⟩
theorem ph_Mono.trans {t t1 t2 : py_Z} {e : Nat} (h1 : ph_Mono t t1 e) (h2 : ph_Mono t1 t2 e) : ph_Mono t t2 e := by
  refine ⟨fun x hx => ?_, h2.2.1.trans h1.2.1, fun i => (h2.2.2 i).trans (h1.2.2 i)⟩
  obtain ⟨a, b⟩ := h1.1 x hx
  obtain ⟨c, d⟩ := h2.1 x (by rw [a]; exact hx)
  exact ⟨c.trans a, d.trans b⟩
/-- what has been moved has its references followed, but for some things -/
def ph_CL (t t0 : py_Z) (e : Nat) (X : Nat → Prop) : Prop := ∀ x : Nat, x < 640 → 0 < t0 30 x → t0 31 x = e → t 31 x ≠ e → ¬ X x → ∀ i : Nat, (i : Int) < t0 33 x → t0 35 (12 * x + i) < 0 ∨ t 31 (t0 35 (12 * x + i)).toNat ≠ e
def ph_Q (s t s0 t0 : py_Z) (e m0 k n : Nat) : Prop :=
  ph_Mid s t s0 t0 e ∧ s 21 0 = m0 + n ∧ s 22 0 = m0 + k ∧ k ≤ n ∧
  (∀ i : Nat, i < n → (0 ≤ t 44 i ∧ t 44 i < 640) ∧ 0 < t0 30 (t 44 i).toNat ∧ t0 31 (t 44 i).toNat = e ∧ t 31 (t 44 i).toNat ≠ e ∧ s 9 (m0 + i) = 32 * t 31 (t 44 i).toNat + t 32 (t 44 i).toNat)
section PMA
variable {s t s0 t0 : py_Z} {e : Nat}
theorem ph_Mid.no (h : ph_Mid s t s0 t0 e) {y : Int} (hy : ph_PV t y) (hno : ¬ (0 ≤ y ∧ t 31 y.toNat = e)) {v : Int32} {K : ty_S → Prop} (hK : K (py_O s)) : eX3_moveOne (py_O s) (py_o (ph_E t0 y)) v K := by
  unfold eX3_moveOne
  try simp only [py_O_ap, py_l0, py_l1, py_l2, py_l3, py_l4, py_l5, py_l6, py_l7, py_l8, py_l9, py_l12, py_l16, py_l32, py_l40, py_l100, py_l640, py_l1280, py_neg, py_add, py_sub, py_mul, py_stO]
  refine h.still hy (fun a b => absurd ⟨a, b⟩ hno) (fun _ => ?_)
  exact py_ieq (fun _ => hK) (fun c => absurd rfl c)
theorem ph_Mid.f (h : ph_Mid s t s0 t0 e) (g i : Nat) (hg : g = 30 ∨ (33 ≤ g ∧ g ≤ 36) ∨ g = 43 ∨ (45 ≤ g ∧ g ≤ 48) ∨ (51 ≤ g ∧ g ≤ 54) ∨ 58 ≤ g) : t g i = t0 g i := h.2.2.2.2.2.2.1.2 g i hg
/-- where a live thing lies now -/
theorem ph_Mid.at (h : ph_Mid s t s0 t0 e) {x : Nat} (hx : x < 640) (hl : 0 < t0 30 x) : ∃ c k : Nat, c < 40 ∧ (k : Int) < t 38 c ∧ ph_x t c k = x ∧ t 31 x = c ∧ t 32 x = ph_pos t c k ∧ s 6 c ≠ 0 := by
  obtain ⟨c, k, hc, hk, h1, h2, h3⟩ := h.2.2.1.2.2.1 x hx (by rw [h.f 30 x (Or.inl rfl)]; exact hl)
  refine ⟨c, k, hc, hk, h1, h2, h3, fun e1 => ?_⟩
  have := (h.2.1.1 c hc).2.2.2.2.2.1 e1
  omega
theorem ph_inner (m0 k : Nat) : ∀ (d i n : Nat) (s t : py_Z), ph_Q s t s0 t0 e m0 k n → k < n → (i : Int) + d = t0 33 (t 44 k).toNat →
    ph_CL t t0 e (fun x => ∃ i : Nat, k ≤ i ∧ i < n ∧ (t 44 i).toNat = x) → (∀ a : Nat, a < i → t0 35 (12 * (t 44 k).toNat + a) < 0 ∨ t 31 (t0 35 (12 * (t 44 k).toNat + a)).toNat ≠ e) →
    ∃ (s' t' : py_Z) (n' : Nat),
      (∀ (K : ty_S → Prop) (R : ty_S → Prop), R (py_O (py_st s' 22 0 (s' 22 0 + 1))) → ∃ n9, lX3_moveWithOthers_58 K R n9 (py_o (s 9 (m0 + k))) (py_o (s 9 (m0 + k) + 2 + t0 33 (t 44 k).toNat)) (py_o (s 9 (m0 + k) + 2 + i)) (py_O s)) ∧
      (∀ (K : ty_S → Prop) (R : Int32 → Int32 → ty_S → Prop), R (py_o n') (py_o (k + 1)) (py_O t') → ∃ n9, lX5_moveAll_36 K R n9 (py_o n) (py_o k) (py_o (t 44 k).toNat) (py_o i) (py_O t)) ∧
      ph_Q s' t' s0 t0 e m0 k n' ∧ n ≤ n' ∧ ph_Mono t t' e ∧ (∀ a : Nat, a < n → t' 44 a = t 44 a) ∧
      ph_CL t' t0 e (fun x => ∃ i : Nat, k ≤ i ∧ i < n' ∧ (t' 44 i).toNat = x) ∧ (∀ a : Nat, (a : Int) < t0 33 (t 44 k).toNat → t0 35 (12 * (t 44 k).toNat + a) < 0 ∨ t' 31 (t0 35 (12 * (t 44 k).toNat + a)).toNat ≠ e) := by
  intro d
  induction d with
  | zero =>
    intro i n s t hQ hkn hi hCL hfo
    obtain ⟨hM, q1, q2, q3, q4⟩ := id hQ
    obtain ⟨z1, z2, z3, z4, z5⟩ := q4 k hkn
    obtain ⟨c, m, hc, hm, hm1, hm2, hm3, hm4⟩ := hM.at (x := (t 44 k).toNat) (by omega) z2
    obtain ⟨f1, f2, f3, f4⟩ := hM.2.1.fit hc hm
    obtain ⟨w1, w2, w3, w4⟩ := hM.2.1.2.1 c m hc hm
    rw [hm1] at w2 w3
    have g33 := hM.f 33 (t 44 k).toNat (by omega)
    refine ⟨s, t, n, fun K R hR => ⟨1, ?_⟩, fun K R hR => ⟨1, ?_⟩, hQ, Nat.le_refl _, ph_Mono.refl, fun _ _ => rfl, hCL, fun a ha => hfo a (by omega)⟩
    · unfold lX3_moveWithOthers_58
      try simp only [py_O_ap, py_l0, py_l1, py_l2, py_l3, py_l4, py_l5, py_l6, py_l7, py_l8, py_l9, py_l12, py_l16, py_l32, py_l40, py_l100, py_l640, py_l1280, py_neg, py_add, py_sub, py_mul, py_stO]
      exact py_ile (fun _ => hR) (fun c => absurd c (by omega))
    · unfold lX5_moveAll_36
      try simp only [py_O_ap, py_l0, py_l1, py_l2, py_l3, py_l4, py_l5, py_l6, py_l7, py_l8, py_l9, py_l12, py_l16, py_l32, py_l40, py_l100, py_l640, py_l1280, py_neg, py_add, py_sub, py_mul, py_stO]
      refine py_and ?_
      rw [py_nat (by omega)]
      simp only [Int.toNat_natCast]
      rw [g33]
      exact py_ile (fun _ => hR) (fun c => absurd c (by omega))
  | succ d ih =>
    intro i n s t hQ hkn hi hCL hfo
    obtain ⟨hM, q1, q2, q3, q4⟩ := id hQ
    obtain ⟨z1, z2, z3, z4, z5⟩ := q4 k hkn
    obtain ⟨c, m, hc, hm, hm1, hm2, hm3, hm4⟩ := hM.at (x := (t 44 k).toNat) (by omega) z2
    obtain ⟨f1, f2, f3, f4⟩ := hM.2.1.fit hc hm
    obtain ⟨w1, w2, w3, w4, w5, w6, w7⟩ := hM.2.1.2.1 c m hc hm
    rw [hm1] at w2 w3 w4 w5 w6 w7 f1 f4
    have g33 := hM.f 33 (t 44 k).toNat (by omega)
    have g35 := hM.f 35 (12 * (t 44 k).toNat + i) (by omega)
    have hxl : 0 < t 30 (t 44 k).toNat := by rw [hM.f 30 _ (Or.inl rfl)]; exact z2
    have hPV : ph_PV t (t0 35 (12 * (t 44 k).toNat + i)) := by
      have := hM.2.2.1.2.2.2.2.2 (t 44 k).toNat (by omega) hxl i (by omega)
      rwa [g35] at this
    have hword : s 0 (32 * c + ph_pos t c m + 2 + i) = ph_E t0 (t0 35 (12 * (t 44 k).toNat + i)) := by
      rw [(w6 i (by omega)).1, g35]
    have hfrom : s 9 (m0 + k) = ((32 * c + ph_pos t c m : Nat) : Int) := by rw [z5, hm2, hm3]; omega
    have he1 : (s 9 (m0 + k) + 2 + i).toNat = 32 * c + ph_pos t c m + 2 + i := by omega
    have he2 : ((12 : Int) * (t 44 k).toNat + i).toNat = 12 * (t 44 k).toNat + i := by omega
    have hEb := hM.E hPV
    have h6b := hM.1.six_b hc
    -- what both do up to the move
    have hcls : ∀ (K : ty_S → Prop) (R : ty_S → Prop), (∃ n9, eX3_moveOne (py_O s) (py_o (ph_E t0 (t0 35 (12 * (t 44 k).toNat + i)))) (py_o (s 6 c)) (fun S6 => lX3_moveWithOthers_58 K R n9 (py_o (s 9 (m0 + k))) (py_o (s 9 (m0 + k) + 2 + t0 33 (t 44 k).toNat)) (py_o (s 9 (m0 + k) + 2 + (i + 1 : Nat))) S6)) → ∃ n9, lX3_moveWithOthers_58 K R n9 (py_o (s 9 (m0 + k))) (py_o (s 9 (m0 + k) + 2 + t0 33 (t 44 k).toNat)) (py_o (s 9 (m0 + k) + 2 + i)) (py_O s) := fun K R ⟨n9, hn9⟩ => by
      refine ⟨n9 + 1, ?_⟩
      unfold lX3_moveWithOthers_58
      try simp only [py_O_ap, py_l0, py_l1, py_l2, py_l3, py_l4, py_l5, py_l6, py_l7, py_l8, py_l9, py_l12, py_l16, py_l32, py_l40, py_l100, py_l640, py_l1280, py_neg, py_add, py_sub, py_mul, py_stO]
      refine py_ile (fun c => absurd c (by omega)) (fun _ => ?_)
      refine pr_at (fun _ _ => ?_) (fun c => absurd c (by omega))
      rw [he1, hword]
      refine pr_carOf (fun _ _ => ?_) (fun c => absurd c (by omega))
      rw [show s 9 (m0 + k) / 32 = c by omega]
      refine pr_trainOf (fun _ _ => ?_) (fun c => absurd c (by omega))
      simp only [Int.toNat_natCast]
      rw [show s 9 (m0 + k) + 2 + ((i + 1 : Nat) : Int) = s 9 (m0 + k) + 2 + i + 1 by omega] at hn9
      exact hn9
    by_cases hin : 0 ≤ t0 35 (12 * (t 44 k).toNat + i) ∧ t 31 (t0 35 (12 * (t 44 k).toNat + i)).toNat = e
    · -- it is moved
      obtain ⟨y1, y2, y3, y4⟩ := (hEb.resolve_left (by omega))
      have y5 := y4.1
      obtain ⟨j, kk, hj, hkk, j1, j2, j3, j4, j5⟩ := (hM.1.six hc).resolve_left hm4
      have hyc : t0 35 (12 * (t 44 k).toNat + i) = ((t0 35 (12 * (t 44 k).toNat + i)).toNat : Nat) := by omega
      obtain ⟨s1, t1, p1, p2, p3, p4, p5, p6, p7, p8, p9, p10, p11⟩ := hM.move (y := (t0 35 (12 * (t 44 k).toNat + i)).toNat) (by omega) y3 hin.2 hj
      have hMo : ph_Mono t t1 e := ⟨fun x hx => p5 x (fun e9 => hx (by rw [e9]; exact hin.2)), p11.1, p11.2⟩
      generalize hy : (t0 35 (12 * (t 44 k).toNat + i)).toNat = y at *
      have hQ1 : ph_Q s1 (py_st t1 44 n y) s0 t0 e m0 k (n + 1) := by
        refine ⟨?_, by omega, by omega, by omega, fun a ha => ?_⟩
        · obtain ⟨a1, a2, a3, a4, a5, a6, a7, a8, a9, a10, a11, a12, a13⟩ := p3
          sorry
        · sorry
      obtain ⟨s', t', n', o1, o2, o3, o4, o5, o6, o7, o8⟩ := ih (i + 1) (n + 1) s1 (py_st t1 44 n y) hQ1 (by omega) (by
        rw [py_sj (by omega), p10]; omega) (by sorry) (by sorry)
      refine ⟨s', t', n', fun K R hR => hcls K R ?_, fun K R hR => ?_, o3, by omega, ?_, ?_, o7, ?_⟩
      · sorry
      · sorry
      · sorry
      · sorry
      · sorry
    · -- it is not there any more
      obtain ⟨s', t', n', o1, o2, o3, o4, o5, o6, o7, o8⟩ := ih (i + 1) n s t hQ hkn (by omega) hCL (fun a ha => by
        by_cases e9 : a = i
        · subst e9
          by_cases e10 : t0 35 (12 * (t 44 k).toNat + a) < 0
          · exact Or.inl e10
          · exact Or.inr (fun e11 => hin ⟨by omega, e11⟩)
        · exact hfo a (by omega))
      refine ⟨s', t', n', fun K R hR => hcls K R ?_, fun K R hR => ?_, o3, o4, o5, o6, o7, o8⟩
      · obtain ⟨n9, hn9⟩ := o1 K R hR
        exact ⟨n9, hM.no hPV hin hn9⟩
      · obtain ⟨n9, hn9⟩ := o2 K R hR
        refine ⟨n9 + 1, ?_⟩
        unfold lX5_moveAll_36
        try simp only [py_O_ap, py_l0, py_l1, py_l2, py_l3, py_l4, py_l5, py_l6, py_l7, py_l8, py_l9, py_l12, py_l16, py_l32, py_l40, py_l100, py_l640, py_l1280, py_neg, py_add, py_sub, py_mul, py_stO]
        refine py_and ?_
        rw [py_nat (by omega), py_nat (by omega), he2]
        simp only [Int.toNat_natCast]
        rw [g33, g35]
        refine py_ile (fun c => absurd c (by omega)) (fun _ => py_and ?_)
        refine hM.inCar hPV (fun a b => absurd ⟨a, b⟩ hin) (fun _ => ?_)
        exact py_ieq (fun _ => hn9) (fun c => absurd rfl c)
end PMA
