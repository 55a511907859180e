/-! PURE: reached -/
def ph_V (s t sB tB : py_Z) (nq : Nat) : Prop :=
  (∀ g i, g ≠ 10 → g ≠ 11 → g ≠ 25 → g ≠ 26 → s g i = sB g i) ∧ (∀ g i, g ≠ 44 → g ≠ 48 → g ≠ 60 → t g i = tB g i) ∧ t 60 0 = 0 ∧
  s 25 0 = nq ∧ s 26 0 = sB 26 0 + 1 ∧ nq = py_cnt (fun x => decide (t 48 x ≠ 0)) 640 ∧
  (∀ p : Nat, p < 1280 → 0 ≤ s 10 p ∧ s 10 p ≤ s 26 0) ∧
  (∀ i : Nat, i < nq → ph_PV tB (t 44 i) ∧ 0 ≤ t 44 i ∧ s 11 i = ph_E tB (t 44 i)) ∧
  (∀ x : Nat, x < 640 → (t 48 x = 0 ∨ t 48 x = 1) ∧ (0 < tB 30 x → (s 10 (ph_E tB x).toNat = s 26 0 ↔ t 48 x = 1)))
section PV
variable {sB tB : py_Z} {n : Nat} {m : Int}
theorem ph_placeinj (h : ph_R sB tB n m) {x y : Nat} (hx : x < 640) (hy : y < 640) (hlx : 0 < tB 30 x) (hly : 0 < tB 30 y) (e : ph_E tB x = ph_E tB y) : x = y := by
  obtain ⟨c, k, hc, hk, g1, g2, g3, g4, g5, g6⟩ := ph_live h.2.1 h.2.2.1 hx hlx
  obtain ⟨c', k', hc', hk', g1', g2', g3', g4', g5', g6'⟩ := ph_live h.2.1 h.2.2.1 hy hly
  unfold ph_E at e
  rw [if_neg (by omega), if_neg (by omega)] at e
  simp only [Int.toNat_natCast] at e
  have e1 : c = c' := by omega
  subst e1
  have e2 : ph_pos tB c k = ph_pos tB c k' := by omega
  rcases Nat.lt_trichotomy k k' with e3 | e3 | e3
  · have := ph_pos_lt (t := tB) (c := c) e3; unfold ph_sz at this; omega
  · subst e3; rw [← g1, ← g1']
  · have := ph_pos_lt (t := tB) (c := c) e3; unfold ph_sz at this; omega
theorem ph_visit (h : ph_R sB tB n m) (hn : n < 1000) {s t : py_Z} {nq : Nat} (hV : ph_V s t sB tB nq) {y : Int} (hy : ph_PV tB y) :
    ((y < 0 ∨ t 48 y.toNat ≠ 0) ∧ ∀ K : ty_S → Prop, K (py_O s) → eX2_visit (py_O s) (py_o (ph_E tB y)) K) ∨
    ((0 ≤ y ∧ y < 640) ∧ t 48 y.toNat = 0 ∧ nq < 640 ∧ ∃ s' : py_Z, (∀ K : ty_S → Prop, K (py_O s') → eX2_visit (py_O s) (py_o (ph_E tB y)) K) ∧ ph_V s' (py_st (py_st t 48 y.toNat 1) 44 nq y) sB tB (nq + 1)) := by
  obtain ⟨v1, v2, v3, v4, v5, v6, v7, v8, v9⟩ := id hV
  have hr := h.2.2.2.2.2.2.2.2.2
  rcases hy with e1 | ⟨e1, e2⟩
  · refine Or.inl ⟨Or.inl (by omega), fun K hK => ?_⟩
    subst e1
    unfold eX2_visit
    try simp only [py_O_ap, py_l0, py_l1, py_l2, py_l3, py_l4, py_l5, py_l6, py_l7, py_l8, py_l9, py_l12, py_l16, py_l32, py_l40, py_l100, py_l640, py_l1280, py_neg, py_add, py_sub, py_mul, py_stO]
    refine pr_isPlace (fun c _ => absurd c (by simp [ph_E])) (fun _ => ?_) (by simp [ph_E])
    exact py_ieq (fun _ => hK) (fun c => absurd rfl c)
  · obtain ⟨c, k, hc, hk, g1, g2, g3, g4, g5, g6⟩ := ph_live h.2.1 h.2.2.1 (x := y.toNat) (by omega) e2
    have hE : ph_E tB y = 32 * tB 31 y.toNat + tB 32 y.toNat := by unfold ph_E; rw [if_neg (by omega)]
    have hy2 : ((y.toNat : Nat) : Int) = y := by omega
    obtain ⟨u1, u2⟩ := v9 y.toNat (by omega)
    have u2 := u2 e2
    rw [hy2] at u2
    have hb10 := v7 (ph_E tB y).toNat (by omega)
    by_cases hs : t 48 y.toNat = 0
    · have hne : s 10 (ph_E tB y).toNat ≠ s 26 0 := fun e => by have := u2.mp e; omega
      have hlt : nq < 640 := by
        rw [v6]
        exact py_cnt_lt (k := y.toNat) (by omega) (by simp [hs])
      refine Or.inr ⟨e1, hs, hlt, py_st (py_st (py_st s 10 (ph_E tB y).toNat (s 26 0)) 11 nq (ph_E tB y)) 25 0 (nq + 1), fun K hK => ?_, ?_⟩
      · unfold eX2_visit
        try simp only [py_O_ap, py_l0, py_l1, py_l2, py_l3, py_l4, py_l5, py_l6, py_l7, py_l8, py_l9, py_l12, py_l16, py_l32, py_l40, py_l100, py_l640, py_l1280, py_neg, py_add, py_sub, py_mul, py_stO]
        refine pr_isPlace (fun _ _ => ?_) (fun c => absurd c (by omega))
        refine py_ieq (fun c => absurd c (by omega)) (fun _ => py_and ?_)
        rw [py_nat (by omega)]
        try simp only [py_O_ap, py_l0, py_l1, py_l2, py_l3, py_l4, py_l5, py_l6, py_l7, py_l8, py_l9, py_l12, py_l16, py_l32, py_l40, py_l100, py_l640, py_l1280, py_neg, py_add, py_sub, py_mul, py_stO]
        refine py_ieq (fun c => absurd c hne) (fun _ => ?_)
        rw [v4]
        refine py_ile (fun c => absurd c (by omega)) (fun _ => py_and (py_and ?_))
        rw [py_nat (by omega)]
        simp only [Int.toNat_natCast]
        exact hK
      · refine ⟨fun g i a b c d => by rw [py_sn c, py_sn b, py_sn a]; exact v1 g i a b c d, fun g i a b c => by rw [py_sn a, py_sn b]; exact v2 g i a b c, by rw [py_sn (by decide), py_sn (by decide)]; exact v3, by rw [py_se]; omega, by rw [py_sn (by decide), py_sn (by decide), py_sn (by decide)]; exact v5, ?_, fun p hp => ?_, fun i hi => ?_, fun x hx => ?_⟩
        · rw [v6]
          refine (py_cnt_up (k := y.toNat) (by omega) (by simp [hs]) (by rw [py_sn (by decide), py_se]; decide) (fun j hj hne => by rw [py_sn (by decide), py_sj hne])).symm
        · rw [py_sn (show 10 ≠ 25 by decide), py_sn (show 10 ≠ 11 by decide), py_ss, py_sn (show 26 ≠ 25 by decide), py_sn (show 26 ≠ 11 by decide), py_sn (show 26 ≠ 10 by decide)]
          split
          · omega
          · exact v7 p hp
        · rw [py_sn (show 11 ≠ 25 by decide)]
          by_cases e : i = nq
          · subst e
            rw [py_se, py_se]
            exact ⟨Or.inr ⟨e1, e2⟩, e1.1, rfl⟩
          · rw [py_sj e, py_sj e, py_sn (by decide), py_sn (by decide)]
            exact v8 i (by omega)
        · rw [py_sn (show 48 ≠ 44 by decide), py_ss, py_sn (show 10 ≠ 25 by decide), py_sn (show 10 ≠ 11 by decide), py_ss, py_sn (show 26 ≠ 25 by decide), py_sn (show 26 ≠ 11 by decide), py_sn (show 26 ≠ 10 by decide)]
          obtain ⟨z1, z2⟩ := v9 x hx
          by_cases e : x = y.toNat
          · subst e
            rw [if_pos rfl, hy2, if_pos rfl]
            exact ⟨Or.inr rfl, fun _ => ⟨fun _ => rfl, fun _ => rfl⟩⟩
          · rw [if_neg e]
            refine ⟨z1, fun hl => ?_⟩
            have hne2 : (ph_E tB x).toNat ≠ (ph_E tB y).toNat := fun e9 => by
              obtain ⟨c', k', hc', hk', q1, q2, q3, q4, q5, q6⟩ := ph_live h.2.1 h.2.2.1 hx hl
              have hEx : ph_E tB x = 32 * tB 31 x + tB 32 x := by unfold ph_E; rw [if_neg (by omega)]; simp
              have := ph_placeinj h hx (y := y.toNat) (by omega) hl e2 (by rw [hy2]; omega)
              exact e this
            rw [if_neg hne2]
            exact z2 hl
    · refine Or.inl ⟨Or.inr hs, fun K hK => ?_⟩
      have h1 : t 48 y.toNat = 1 := u1.resolve_left hs
      unfold eX2_visit
      try simp only [py_O_ap, py_l0, py_l1, py_l2, py_l3, py_l4, py_l5, py_l6, py_l7, py_l8, py_l9, py_l12, py_l16, py_l32, py_l40, py_l100, py_l640, py_l1280, py_neg, py_add, py_sub, py_mul, py_stO]
      refine pr_isPlace (fun _ _ => ?_) (fun c => absurd c (by omega))
      refine py_ieq (fun c => absurd c (by omega)) (fun _ => py_and ?_)
      rw [py_nat (by omega)]
      try simp only [py_O_ap, py_l0, py_l1, py_l2, py_l3, py_l4, py_l5, py_l6, py_l7, py_l8, py_l9, py_l12, py_l16, py_l32, py_l40, py_l100, py_l640, py_l1280, py_neg, py_add, py_sub, py_mul, py_stO]
      exact py_ieq (fun _ => hK) (fun c => absurd (u2.mpr h1) c)
/-- the references of one thing -/
theorem ph_reach99 (h : ph_R sB tB n m) (hn : n < 1000) {k x : Nat} (hx : x < 640) (hl : 0 < tB 30 x) : ∀ (f i nq : Nat) (s t : py_Z), (i : Int) + f = tB 33 x → k < nq → t 44 k = x → ph_V s t sB tB nq →
    ∃ (s' t' : py_Z) (nq' : Nat), (∀ (K : ty_S → Int32 → Prop) (R : Int32 → ty_S → Prop), R (py_o (k + 1)) (py_O s') → ∃ n9, lX2_countFrom_99 K R n9 (py_o k) (py_o (ph_E tB x + 2 + tB 33 x)) (py_o (ph_E tB x + 2 + i)) (py_O s)) ∧
      (∀ (K : ty_S → Int32 → Prop) (R : Int32 → Int32 → ty_S → Prop), R (py_o nq') (py_o (k + 1)) (py_O t') → ∃ n9, lX5_reached_89 K R n9 (py_o nq) (py_o k) (py_o i) (py_O t)) ∧ ph_V s' t' sB tB nq' ∧ nq ≤ nq' ∧ (∀ j : Nat, j < nq → t' 44 j = t 44 j) := by
  obtain ⟨c, k0, hc, hk0, g1, g2, g3, g4, g5, g6, g7⟩ := ph_live h.2.1 h.2.2.1 hx hl
  obtain ⟨w1, w2, w3, w4, w5, w6, w7⟩ := h.2.1.2.1 c k0 hc hk0
  obtain ⟨f1, f2, f3, f4⟩ := h.2.1.fit hc hk0
  rw [g1] at w2 w3 w6 f1 f4
  have hE : ph_E tB x = 32 * c + ph_pos tB c k0 := by unfold ph_E; rw [if_neg (by omega)]; simp only [Int.toNat_natCast]; omega
  intro f
  induction f with
  | zero =>
    intro i nq s t hi hk h44 hV
    obtain ⟨v1, v2, v3, v4, v5, v6, v7, v8, v9⟩ := id hV
    have hle := py_cnt_le (fun x => decide (t 48 x ≠ 0)) 640
    have t33 := v2 33 x (by decide) (by decide) (by decide)
    refine ⟨s, t, nq, fun K R hR => ⟨1, ?_⟩, fun K R hR => ⟨1, ?_⟩, hV, Nat.le_refl _, fun _ _ => rfl⟩
    · unfold lX2_countFrom_99
      try simp only [py_O_ap, py_l0, py_l1, py_l2, py_l3, py_l4, py_l5, py_l6, py_l7, py_l8, py_l9, py_l12, py_l16, py_l32, py_l40, py_l100, py_l640, py_l1280, py_neg, py_add, py_sub, py_mul, py_stO]
      exact py_ile (fun _ => hR) (fun c => absurd c (by omega))
    · unfold lX5_reached_89
      try simp only [py_O_ap, py_l0, py_l1, py_l2, py_l3, py_l4, py_l5, py_l6, py_l7, py_l8, py_l9, py_l12, py_l16, py_l32, py_l40, py_l100, py_l640, py_l1280, py_neg, py_add, py_sub, py_mul, py_stO]
      refine py_and ?_
      rw [py_nat (by omega)]
      simp only [Int.toNat_natCast]
      rw [h44]
      refine py_and ?_
      rw [py_nat (by omega)]
      simp only [Int.toNat_natCast]
      exact py_ile (fun _ => hR) (fun c => absurd c (by omega))
  | succ f ih =>
    intro i nq s t hi hk h44 hV
    obtain ⟨v1, v2, v3, v4, v5, v6, v7, v8, v9⟩ := id hV
    have hle := py_cnt_le (fun x => decide (t 48 x ≠ 0)) 640
    have t33 := v2 33 x (by decide) (by decide) (by decide)
    have t35 := v2 35 (12 * x + i) (by decide) (by decide) (by decide)
    have hPV := h.2.2.1.2.2.2.2.2 x hx hl i (by omega)
    have hword : s 0 (32 * c + ph_pos tB c k0 + 2 + i) = ph_E tB (tB 35 (12 * x + i)) := by rw [v1 0 _ (by decide) (by decide) (by decide) (by decide)]; exact (w6 i (by omega)).1
    have e2 : ((12 : Int) * x + i).toNat = 12 * x + i := by omega
    have hcls : ∀ (K : ty_S → Int32 → Prop) (R : Int32 → ty_S → Prop) (n9 : Nat), eX2_visit (py_O s) (py_o (ph_E tB (tB 35 (12 * x + i)))) (fun S3 => lX2_countFrom_99 K R n9 (py_o k) (py_o (ph_E tB x + 2 + tB 33 x)) (py_o (ph_E tB x + 2 + (i + 1 : Nat))) S3) → lX2_countFrom_99 K R (n9 + 1) (py_o k) (py_o (ph_E tB x + 2 + tB 33 x)) (py_o (ph_E tB x + 2 + i)) (py_O s) := fun K R n9 hK => by
      unfold lX2_countFrom_99
      try simp only [py_O_ap, py_l0, py_l1, py_l2, py_l3, py_l4, py_l5, py_l6, py_l7, py_l8, py_l9, py_l12, py_l16, py_l32, py_l40, py_l100, py_l640, py_l1280, py_neg, py_add, py_sub, py_mul, py_stO]
      refine py_ile (fun c => absurd c (by omega)) (fun _ => ?_)
      refine pr_at (fun _ _ => ?_) (fun c => absurd c (by omega))
      rw [show (ph_E tB x + 2 + i).toNat = 32 * c + ph_pos tB c k0 + 2 + i by omega, hword]
      rw [show ph_E tB x + 2 + ((i + 1 : Nat) : Int) = ph_E tB x + 2 + i + 1 by omega] at hK
      exact hK
    have hmod : ∀ (K : ty_S → Int32 → Prop) (R : Int32 → Int32 → ty_S → Prop) (n9 : Nat), (if py_o (tB 35 (12 * x + i)) < py_o 0 then lX5_reached_89 K R n9 (py_o nq) (py_o k) (py_o (i + 1)) (py_O t) else (vp_in (py_o (tB 35 (12 * x + i))) 640 ∧ (if py_o (t 48 (py_o (tB 35 (12 * x + i))).toNatClampNeg) = py_o 0 then (vp_in (py_o (tB 35 (12 * x + i))) 640 ∧ (vp_in (py_o nq) 640 ∧ lX5_reached_89 K R n9 (py_o (nq + 1)) (py_o k) (py_o (i + 1)) (py_O (py_st (py_st t 48 (py_o (tB 35 (12 * x + i))).toNatClampNeg 1) 44 (py_o nq).toNatClampNeg (tB 35 (12 * x + i)))))) else lX5_reached_89 K R n9 (py_o nq) (py_o k) (py_o (i + 1)) (py_O t)))) → lX5_reached_89 K R (n9 + 1) (py_o nq) (py_o k) (py_o i) (py_O t) := fun K R n9 hK => by
      unfold lX5_reached_89
      try simp only [py_O_ap, py_l0, py_l1, py_l2, py_l3, py_l4, py_l5, py_l6, py_l7, py_l8, py_l9, py_l12, py_l16, py_l32, py_l40, py_l100, py_l640, py_l1280, py_neg, py_add, py_sub, py_mul, py_stO]
      refine py_and ?_
      rw [py_nat (by omega)]
      simp only [Int.toNat_natCast]
      rw [h44]
      refine py_and ?_
      rw [py_nat (by omega)]
      simp only [Int.toNat_natCast]
      refine py_ile (fun c => absurd c (by omega)) (fun _ => py_and (py_and ?_))
      rw [py_nat (a := 12 * (x : Int) + i) (by omega), e2, t35]
      exact hK
    rcases ph_visit h hn hV hPV with ⟨z1, z2⟩ | ⟨z1, z2, z3, s1, z4, z5⟩
    · obtain ⟨s', t', nq', o1, o2, o3, o4, o5⟩ := ih (i + 1) nq s t (by omega) hk h44 hV
      refine ⟨s', t', nq', fun K R hR => ?_, fun K R hR => ?_, o3, o4, o5⟩
      · obtain ⟨n9, hn9⟩ := o1 K R hR
        exact ⟨n9 + 1, hcls K R n9 (z2 _ hn9)⟩
      · obtain ⟨n9, hn9⟩ := o2 K R hR
        refine ⟨n9 + 1, hmod K R n9 ?_⟩
        have hyb : -1 ≤ tB 35 (12 * x + i) ∧ tB 35 (12 * x + i) < 640 := by rcases hPV with e | ⟨e, _⟩ <;> omega
        refine py_ilt (fun _ => hn9) (fun e3 => py_and ?_)
        rw [py_nat (by omega)]
        have h48 := (v9 (tB 35 (12 * x + i)).toNat (by omega)).1
        exact py_ieq (fun e4 => absurd e4 (z1.resolve_left (by omega))) (fun _ => hn9)
    · obtain ⟨s', t', nq', o1, o2, o3, o4, o5⟩ := ih (i + 1) (nq + 1) s1 (py_st (py_st t 48 (tB 35 (12 * x + i)).toNat 1) 44 nq (tB 35 (12 * x + i))) (by omega) (by omega) (by rw [py_sj (by omega), py_sn (by decide)]; exact h44) z5
      refine ⟨s', t', nq', fun K R hR => ?_, fun K R hR => ?_, o3, by omega, fun j hj => by rw [o5 j (by omega), py_sj (by omega), py_sn (by decide)]⟩
      · obtain ⟨n9, hn9⟩ := o1 K R hR
        exact ⟨n9 + 1, hcls K R n9 (z4 _ hn9)⟩
      · obtain ⟨n9, hn9⟩ := o2 K R hR
        refine ⟨n9 + 1, hmod K R n9 ?_⟩
        refine py_ilt (fun c => absurd c (by omega)) (fun e3 => py_and ?_)
        rw [py_nat (by omega)]
        refine py_ieq (fun _ => py_and (py_and ?_)) (fun c => absurd z2 c)
        rw [py_nat (by omega)]
        simp only [Int.toNat_natCast]
        try simp only [py_O_ap, py_l0, py_l1, py_l2, py_l3, py_l4, py_l5, py_l6, py_l7, py_l8, py_l9, py_l12, py_l16, py_l32, py_l40, py_l100, py_l640, py_l1280, py_neg, py_add, py_sub, py_mul, py_stO]
        exact hn9
theorem ph_reachQ (h : ph_R sB tB n m) (hn : n < 1000) : ∀ (d k nq : Nat) (s t : py_Z), k + d = 641 → k ≤ nq → ph_V s t sB tB nq →
    ∃ (s' t' : py_Z) (nq' : Nat), (∀ (K : ty_S → Int32 → Prop), K (py_O s') (py_o nq') → ∃ n9, lX2_countFrom_51 K n9 (py_o k) (py_O s)) ∧
      (∀ (K : ty_S → Int32 → Prop), K (py_O t') (py_o nq') → ∃ n9, lX5_reached_82 K n9 (py_o nq) (py_o k) (py_O t)) ∧ ph_V s' t' sB tB nq' := by
  intro d
  induction d with
  | zero =>
    intro k nq s t hd hk hV
    obtain ⟨v1, v2, v3, v4, v5, v6, v7, v8, v9⟩ := id hV
    have hle := py_cnt_le (fun x => decide (t 48 x ≠ 0)) 640
    omega
  | succ d ih =>
    intro k nq s t hd hk hV
    obtain ⟨v1, v2, v3, v4, v5, v6, v7, v8, v9⟩ := id hV
    have hle := py_cnt_le (fun x => decide (t 48 x ≠ 0)) 640
    by_cases e : k = nq
    · refine ⟨s, t, nq, fun K hK => ⟨1, ?_⟩, fun K hK => ⟨1, ?_⟩, hV⟩
      · unfold lX2_countFrom_51
        try simp only [py_O_ap, py_l0, py_l1, py_l2, py_l3, py_l4, py_l5, py_l6, py_l7, py_l8, py_l9, py_l12, py_l16, py_l32, py_l40, py_l100, py_l640, py_l1280, py_neg, py_add, py_sub, py_mul, py_stO]
        rw [v4]
        exact py_ile (fun _ => hK) (fun c => absurd c (by omega))
      · unfold lX5_reached_82
        try simp only [py_O_ap, py_l0, py_l1, py_l2, py_l3, py_l4, py_l5, py_l6, py_l7, py_l8, py_l9, py_l12, py_l16, py_l32, py_l40, py_l100, py_l640, py_l1280, py_neg, py_add, py_sub, py_mul, py_stO]
        exact py_ile (fun _ => hK) (fun c => absurd c (by omega))
    · obtain ⟨q1, q2, q3⟩ := v8 k (by omega)
      obtain ⟨y1, y2⟩ := q1.resolve_left (by omega)
      obtain ⟨x, hx⟩ : ∃ x : Nat, t 44 k = x := ⟨(t 44 k).toNat, by omega⟩
      rw [hx] at y1 y2 q3
      simp only [Int.toNat_natCast] at y2
      obtain ⟨c, k0, hc, hk0, g1, g2, g3, g4, g5, g6, g7⟩ := ph_live h.2.1 h.2.2.1 (x := x) (by omega) y2
      obtain ⟨w1, w2, w3, w4, w5, w6, w7⟩ := h.2.1.2.1 c k0 hc hk0
      rw [g1] at w2 w3 w5
      have hE : ph_E tB x = 32 * c + ph_pos tB c k0 := by unfold ph_E; rw [if_neg (by omega)]; simp only [Int.toNat_natCast]; omega
      obtain ⟨s1, t1, nq1, o1, o2, o3, o4, o5⟩ := ph_reach99 h hn (k := k) (x := x) (by omega) y2 (tB 33 x).toNat 0 nq s t (by omega) (by omega) hx hV
      obtain ⟨s', t', nq', p1, p2, p3⟩ := ih (k + 1) nq1 s1 t1 (by omega) (by omega) o3
      refine ⟨s', t', nq', fun K hK => ?_, fun K hK => ?_, p3⟩
      · obtain ⟨n0, hn0⟩ := p1 K hK
        obtain ⟨n9, hn9⟩ := o1 K (fun a0 S9 => lX2_countFrom_51 K n0 a0 S9) hn0
        refine ⟨n0 + 1, ?_⟩
        unfold lX2_countFrom_51
        try simp only [py_O_ap, py_l0, py_l1, py_l2, py_l3, py_l4, py_l5, py_l6, py_l7, py_l8, py_l9, py_l12, py_l16, py_l32, py_l40, py_l100, py_l640, py_l1280, py_neg, py_add, py_sub, py_mul, py_stO]
        rw [v4]
        refine py_ile (fun c => absurd c (by omega)) (fun _ => py_ile (fun c => absurd c (by omega)) (fun _ => py_and (py_and ?_)))
        rw [py_nat (by omega)]
        simp only [Int.toNat_natCast]
        rw [q3]
        refine pr_references (r := tB 33 x) (n := tB 34 x) (by omega) (by omega) ?_ (by omega) (by omega) (by omega) (by omega) (py_and ?_)
        · rw [show (ph_E tB x + 1).toNat = 32 * c + ph_pos tB c k0 + 1 by omega, v1 0 _ (by decide) (by decide) (by decide) (by decide)]; exact w5
        · refine ⟨n9, ?_⟩
          try simp only [py_O_ap, py_l0, py_l1, py_l2, py_l3, py_l4, py_l5, py_l6, py_l7, py_l8, py_l9, py_l12, py_l16, py_l32, py_l40, py_l100, py_l640, py_l1280, py_neg, py_add, py_sub, py_mul, py_stO]
          rw [q3]
          simpa using hn9
      · obtain ⟨n0, hn0⟩ := p2 K hK
        obtain ⟨n9, hn9⟩ := o2 K (fun a0 a1 S9 => lX5_reached_82 K n0 a0 a1 S9) hn0
        refine ⟨n0 + 1, ?_⟩
        unfold lX5_reached_82
        try simp only [py_O_ap, py_l0, py_l1, py_l2, py_l3, py_l4, py_l5, py_l6, py_l7, py_l8, py_l9, py_l12, py_l16, py_l32, py_l40, py_l100, py_l640, py_l1280, py_neg, py_add, py_sub, py_mul, py_stO]
        exact py_ile (fun c => absurd c (by omega)) (fun _ => ⟨n9, hn9⟩)
theorem ph_reachR (h : ph_R sB tB n m) (hn : n < 1000) : ∀ (d r nq : Nat) (s t : py_Z), r + d = 16 → ph_V s t sB tB nq →
    ∃ (s' t' : py_Z) (nq' : Nat), (∀ (K : ty_S → Int32 → Prop), K (py_O s') (py_o nq') → ∃ n9, lX2_countFrom_24 K n9 (py_o 16) (py_o r) (py_O s)) ∧
      (∀ (K : ty_S → Int32 → Prop), K (py_O t') (py_o nq') → ∃ n9, lX5_reached_31 K n9 (py_o nq) (py_o r) (py_O t)) ∧ ph_V s' t' sB tB nq' := by
  intro d
  induction d with
  | zero =>
    intro r nq s t hr hV
    obtain ⟨s', t', nq', p1, p2, p3⟩ := ph_reachQ h hn 641 0 nq s t rfl (Nat.zero_le _) hV
    refine ⟨s', t', nq', fun K hK => ⟨1, ?_⟩, fun K hK => ⟨1, ?_⟩, p3⟩
    · unfold lX2_countFrom_24
      try simp only [py_O_ap, py_l0, py_l1, py_l2, py_l3, py_l4, py_l5, py_l6, py_l7, py_l8, py_l9, py_l12, py_l16, py_l32, py_l40, py_l100, py_l640, py_l1280, py_neg, py_add, py_sub, py_mul, py_stO]
      exact py_ile (fun _ => p1 K hK) (fun c => absurd c (by omega))
    · unfold lX5_reached_31
      try simp only [py_O_ap, py_l0, py_l1, py_l2, py_l3, py_l4, py_l5, py_l6, py_l7, py_l8, py_l9, py_l12, py_l16, py_l32, py_l40, py_l100, py_l640, py_l1280, py_neg, py_add, py_sub, py_mul, py_stO]
      exact py_ile (fun _ => p2 K hK) (fun c => absurd c (by omega))
  | succ d ih =>
    intro r nq s t hr hV
    obtain ⟨v1, v2, v3, v4, v5, v6, v7, v8, v9⟩ := id hV
    have hle := py_cnt_le (fun x => decide (t 48 x ≠ 0)) 640
    obtain ⟨hPV, hs7⟩ := h.pv (r := r) (by omega)
    have s7 : s 7 r = ph_E tB (tB 43 r) := by rw [v1 7 r (by decide) (by decide) (by decide) (by decide)]; exact hs7
    have t43 := v2 43 r (by decide) (by decide) (by decide)
    have hyb : -1 ≤ tB 43 r ∧ tB 43 r < 640 := by rcases hPV with e | ⟨e, _⟩ <;> omega
    rcases ph_visit h hn hV hPV with ⟨z1, z2⟩ | ⟨z1, z2, z3, s1, z4, z5⟩
    · obtain ⟨s', t', nq', o1, o2, o3⟩ := ih (r + 1) nq s t (by omega) hV
      refine ⟨s', t', nq', fun K hK => ?_, fun K hK => ?_, o3⟩
      · obtain ⟨n9, hn9⟩ := o1 K hK
        refine ⟨n9 + 1, ?_⟩
        unfold lX2_countFrom_24
        try simp only [py_O_ap, py_l0, py_l1, py_l2, py_l3, py_l4, py_l5, py_l6, py_l7, py_l8, py_l9, py_l12, py_l16, py_l32, py_l40, py_l100, py_l640, py_l1280, py_neg, py_add, py_sub, py_mul, py_stO]
        refine py_ile (fun c => absurd c (by omega)) (fun _ => py_and ?_)
        rw [py_nat (by omega)]
        simp only [Int.toNat_natCast]
        rw [s7]
        exact z2 _ hn9
      · obtain ⟨n9, hn9⟩ := o2 K hK
        refine ⟨n9 + 1, ?_⟩
        unfold lX5_reached_31
        try simp only [py_O_ap, py_l0, py_l1, py_l2, py_l3, py_l4, py_l5, py_l6, py_l7, py_l8, py_l9, py_l12, py_l16, py_l32, py_l40, py_l100, py_l640, py_l1280, py_neg, py_add, py_sub, py_mul, py_stO]
        refine py_ile (fun c => absurd c (by omega)) (fun _ => py_and ?_)
        rw [py_nat (by omega)]
        simp only [Int.toNat_natCast]
        rw [t43]
        refine py_ilt (fun _ => hn9) (fun e3 => py_and ?_)
        rw [py_nat (by omega)]
        have h48 := (v9 (tB 43 r).toNat (by omega)).1
        exact py_ieq (fun e4 => absurd e4 (z1.resolve_left (by omega))) (fun _ => hn9)
    · obtain ⟨s', t', nq', o1, o2, o3⟩ := ih (r + 1) (nq + 1) s1 _ (by omega) z5
      refine ⟨s', t', nq', fun K hK => ?_, fun K hK => ?_, o3⟩
      · obtain ⟨n9, hn9⟩ := o1 K hK
        refine ⟨n9 + 1, ?_⟩
        unfold lX2_countFrom_24
        try simp only [py_O_ap, py_l0, py_l1, py_l2, py_l3, py_l4, py_l5, py_l6, py_l7, py_l8, py_l9, py_l12, py_l16, py_l32, py_l40, py_l100, py_l640, py_l1280, py_neg, py_add, py_sub, py_mul, py_stO]
        refine py_ile (fun c => absurd c (by omega)) (fun _ => py_and ?_)
        rw [py_nat (by omega)]
        simp only [Int.toNat_natCast]
        rw [s7]
        exact z4 _ hn9
      · obtain ⟨n9, hn9⟩ := o2 K hK
        refine ⟨n9 + 1, ?_⟩
        unfold lX5_reached_31
        try simp only [py_O_ap, py_l0, py_l1, py_l2, py_l3, py_l4, py_l5, py_l6, py_l7, py_l8, py_l9, py_l12, py_l16, py_l32, py_l40, py_l100, py_l640, py_l1280, py_neg, py_add, py_sub, py_mul, py_stO]
        refine py_ile (fun c => absurd c (by omega)) (fun _ => py_and ?_)
        rw [py_nat (by omega)]
        simp only [Int.toNat_natCast]
        rw [t43]
        refine py_ilt (fun c => absurd c (by omega)) (fun e3 => py_and ?_)
        rw [py_nat (by omega)]
        refine py_ieq (fun _ => py_and (py_and ?_)) (fun c => absurd z2 c)
        rw [py_nat (by omega)]
        simp only [Int.toNat_natCast]
        try simp only [py_O_ap, py_l0, py_l1, py_l2, py_l3, py_l4, py_l5, py_l6, py_l7, py_l8, py_l9, py_l12, py_l16, py_l32, py_l40, py_l100, py_l640, py_l1280, py_neg, py_add, py_sub, py_mul, py_stO]
        exact hn9
theorem ph_callReached (h : ph_R sB tB n m) (hn : n < 500) : ∃ (s' t' : py_Z) (r : Int), (∀ K : ty_S → Int32 → Prop, K (py_O s') (py_o r) → eX4_reached (py_O sB) K) ∧ (∀ K : ty_S → Int32 → Prop, K (py_O t') (py_o r) → eX5_reached (py_O tB) K) ∧ ph_R s' t' (n + 1) (m + 101) := by
  have hr := h.2.2.2.2.2.2.2.2.2
  obtain ⟨t0, ht0⟩ : ∃ t0 : py_Z, t0 = fun g i => if g = 48 ∧ i < 640 then 0 else py_st tB 60 0 0 g i := ⟨_, rfl⟩
  have hclear : ∀ (K : ty_S → Int32 → Prop), (∃ n9, lX5_reached_31 K n9 (py_o 0) (py_o 0) (py_O t0)) → ∀ d x : Nat, x + d = 640 → ∃ n9, lX5_reached_9 K n9 (py_o 0) (py_o x) (py_O (fun g i => if g = 48 ∧ i < x then 0 else py_st tB 60 0 0 g i)) := by
    intro K hK d
    induction d with
    | zero =>
      intro x hx
      refine ⟨1, ?_⟩
      unfold lX5_reached_9
      try simp only [py_O_ap, py_l0, py_l1, py_l2, py_l3, py_l4, py_l5, py_l6, py_l7, py_l8, py_l9, py_l12, py_l16, py_l32, py_l40, py_l100, py_l640, py_l1280, py_neg, py_add, py_sub, py_mul, py_stO]
      refine py_ile (fun _ => ?_) (fun c => absurd c (by omega))
      rw [show x = 640 by omega, ← ht0]
      exact hK
    | succ d ih =>
      intro x hx
      obtain ⟨n9, hn9⟩ := ih (x + 1) (by omega)
      refine ⟨n9 + 1, ?_⟩
      unfold lX5_reached_9
      try simp only [py_O_ap, py_l0, py_l1, py_l2, py_l3, py_l4, py_l5, py_l6, py_l7, py_l8, py_l9, py_l12, py_l16, py_l32, py_l40, py_l100, py_l640, py_l1280, py_neg, py_add, py_sub, py_mul, py_stO]
      refine py_ile (fun c => absurd c (by omega)) (fun _ => py_and ?_)
      rw [py_nat (by omega)]
      have e : (fun (g i : Nat) => if g = 48 ∧ i < x + 1 then (0 : Int) else py_st tB 60 0 0 g i) = py_st (fun g i => if g = 48 ∧ i < x then 0 else py_st tB 60 0 0 g i) 48 (x : Int).toNat 0 := by
        clear hn9 ih hK ht0
        funext g i
        simp only [py_st, Int.toNat_natCast]
        grind
      rw [e] at hn9
      exact hn9
  have h48 : ∀ x : Nat, x < 640 → t0 48 x = 0 := fun x hx => by rw [ht0]; simp [hx]
  have ht0g : ∀ g i, g ≠ 48 → g ≠ 60 → t0 g i = tB g i := fun g i a b => by
    rw [ht0]
    simp only [a, false_and, if_false]
    exact py_sn b
  have hV : ph_V (py_st (py_st sB 26 0 (sB 26 0 + 1)) 25 0 0) t0 sB tB 0 := by
    refine ⟨fun g i a b c d => by rw [py_sn c, py_sn d], fun g i a b c => ht0g g i b c, ?_, by rw [py_se]; rfl, by rw [py_sn (by decide), py_se], ?_, fun p hp => ?_, fun i hi => absurd hi (by omega), fun x hx => ?_⟩
    · rw [ht0]; simp [py_st]
    · exact (py_cnt_none (fun x hx => by rw [h48 x hx]; decide)).symm
    · rw [py_sn (show 10 ≠ 25 by decide), py_sn (show 10 ≠ 26 by decide), py_sn (show 26 ≠ 25 by decide), py_se]
      have := hr.2.2 p hp
      omega
    · rw [h48 x hx]
      refine ⟨Or.inl rfl, fun hl => ?_⟩
      rw [py_sn (show 10 ≠ 25 by decide), py_sn (show 10 ≠ 26 by decide), py_sn (show 26 ≠ 25 by decide), py_se]
      obtain ⟨c, k, hc, hk, g1, g2, g3, g4, g5, g6⟩ := ph_live h.2.1 h.2.2.1 hx hl
      have hE : ph_E tB x = 32 * tB 31 x + tB 32 x := by unfold ph_E; rw [if_neg (by omega)]; simp
      have := hr.2.2 (ph_E tB x).toNat (by omega)
      omega
  obtain ⟨s', t', nq', o1, o2, o3⟩ := ph_reachR h (by omega) 16 0 0 _ t0 rfl hV
  obtain ⟨v1, v2, v3, v4, v5, v6, v7, v8, v9⟩ := o3
  refine ⟨s', t', nq', fun K hK => ?_, fun K hK => ?_, ?_⟩
  · unfold eX4_reached
    unfold eX2_countFrom
    try simp only [py_O_ap, py_l0, py_l1, py_l2, py_l3, py_l4, py_l5, py_l6, py_l7, py_l8, py_l9, py_l12, py_l16, py_l32, py_l40, py_l100, py_l640, py_l1280, py_neg, py_add, py_sub, py_mul, py_stO]
    exact o1 K hK
  · unfold eX5_reached
    try simp only [py_O_ap, py_l0, py_l1, py_l2, py_l3, py_l4, py_l5, py_l6, py_l7, py_l8, py_l9, py_l12, py_l16, py_l32, py_l40, py_l100, py_l640, py_l1280, py_neg, py_add, py_sub, py_mul, py_stO]
    have := hclear K (o2 K hK) 640 0 rfl
    have e : (fun (g i : Nat) => if g = 48 ∧ i < 0 then (0 : Int) else py_st tB 60 0 0 g i) = py_st tB 60 0 0 := by
      funext g i
      rw [if_neg (by omega)]
    rw [e] at this
    exact this
  · obtain ⟨b1, b2, b3, b4, b5, b6, b7, b8, b9, b10⟩ := h
    have es : ∀ g i, g ≠ 10 → g ≠ 11 → g ≠ 25 → g ≠ 26 → s' g i = sB g i := v1
    have et : ∀ g i, g ≠ 44 → g ≠ 48 → g ≠ 60 → t' g i = tB g i := v2
    have hE : ph_E t' = ph_E tB := ph_E_congr (fun x => et 31 x (by decide) (by decide) (by decide)) (fun x => et 32 x (by decide) (by decide) (by decide))
    refine ⟨b1.congr (fun i => es 5 i (by decide) (by decide) (by decide) (by decide)) (fun i => es 6 i (by decide) (by decide) (by decide) (by decide)) (es 13 0 (by decide) (by decide) (by decide) (by decide)) (es 14 0 (by decide) (by decide) (by decide) (by decide)) (et 50 0 (by decide) (by decide) (by decide)) (et 57 0 (by decide) (by decide) (by decide)) (fun i => et 40 i (by decide) (by decide) (by decide)) (fun i => et 41 i (by decide) (by decide) (by decide)) (fun i => et 42 i (by decide) (by decide) (by decide)), ?_, b3.congr (fun g i hg => et g i (by omega) (by omega) (by omega)), fun r hr2 => ?_, ?_, ?_, ?_, ?_, ?_, ?_⟩
    · rw [hE]; exact b2.congr (fun g i hg => es g i (by omega) (by omega) (by omega) (by omega)) (fun c _ hz => by rwa [es 6 c (by decide) (by decide) (by decide) (by decide)] at hz) (fun g i _ _ _ _ => et g i (by omega) (by omega) (by omega))
    · rw [es 7 r (by decide) (by decide) (by decide) (by decide), et 43 r (by decide) (by decide) (by decide), hE]; exact b4 r hr2
    · rw [es 20 0 (by decide) (by decide) (by decide) (by decide), et 59 0 (by decide) (by decide) (by decide)]; exact b5
    · rw [es 15 0 (by decide) (by decide) (by decide) (by decide), es 16 0 (by decide) (by decide) (by decide) (by decide), es 17 0 (by decide) (by decide) (by decide) (by decide), es 18 0 (by decide) (by decide) (by decide) (by decide), es 19 0 (by decide) (by decide) (by decide) (by decide), et 52 0 (by decide) (by decide) (by decide), et 53 0 (by decide) (by decide) (by decide), et 54 0 (by decide) (by decide) (by decide), et 55 0 (by decide) (by decide) (by decide), et 56 0 (by decide) (by decide) (by decide)]; exact b6
    · rw [es 23 0 (by decide) (by decide) (by decide) (by decide), et 51 0 (by decide) (by decide) (by decide)]; exact b7
    · rw [es 24 0 (by decide) (by decide) (by decide) (by decide), et 58 0 (by decide) (by decide) (by decide)]; exact ⟨b8.1, by omega⟩
    · rw [et 57 0 (by decide) (by decide) (by decide)]; omega
    · exact ⟨by omega, by omega, v7⟩
end PV
