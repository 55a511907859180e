/-! PURE: make, whole -/
section PMW
variable {s t : py_Z} {n : Nat} {m : Int}
theorem ph_makeEnd (h : ph_R s t n m) (hn : n < 500) (hm : m < 99000) {a r d : Int} (ha : 0 ≤ a ∧ a < 16) (hr : 0 ≤ r ∧ r ≤ 12) (hd : 0 ≤ d ∧ d ≤ 12) :
    ∃ (s' t' : py_Z) (v : Int), (∀ (K : ty_S → Int32 → Prop) (KX : Nat → ty_S → Prop), K (py_O s') (py_o v) → jX4_make_93 K KX (py_o a) (py_o r) (py_o d) (py_o (2 + r + d)) (py_O s)) ∧ (∀ (K : ty_S → Int32 → Prop), K (py_O t') (py_o v) → jX5_make_111 K (py_o a) (py_o r) (py_o d) (py_o (2 + r + d)) (py_O t)) ∧ ph_R s' t' (n + 1) (m + 1) ∧ t' 60 0 = t 60 0 := by
  have hc0 := h.1.cnt
  by_cases ht : ph_LR s t (2 + r + d) ∨ s 13 0 ≤ 38
  · obtain ⟨c, s1, t1, o1, o2, o3, o4, o5, o6, o7, o8, o9, o10, o11, o12⟩ := ph_newCar h (z := 2 + r + d) (by omega) hm ht
    obtain ⟨s', t', p1, p2, p3, p4⟩ := ph_create h hn ha hr hd hm o1 (by omega) o3 o6 o7 o8 o9 o10 o11 o12
    simp only [py_add, py_stO] at p1
    refine ⟨s', t', t 58 0 + 1, fun K KX hK => ?_, fun K hK => o5 K _ _ _ (p2 K hK), p3, p4⟩
    unfold jX4_make_93
    try simp only [py_O_ap, py_l0, py_l1, py_l2, py_l3, py_l4, py_l5, py_l6, py_l7, py_l8, py_l9, py_l12, py_l16, py_l32, py_l40, py_l100, py_l640, py_l1280, py_neg, py_add, py_sub, py_mul, py_stO]
    refine pr_takesNew h (by omega) (fun _ => ?_) (fun c => absurd ht c)
    refine py_ieq (fun c => absurd c (by omega)) (fun _ => ?_)
    try simp only [py_O_ap, py_l0, py_l1, py_l2, py_l3, py_l4, py_l5, py_l6, py_l7, py_l8, py_l9, py_l12, py_l16, py_l32, py_l40, py_l100, py_l640, py_l1280, py_neg, py_add, py_sub, py_mul, py_stO]
    refine o4 _ ?_
    try simp only [py_O_ap, py_l0, py_l1, py_l2, py_l3, py_l4, py_l5, py_l6, py_l7, py_l8, py_l9, py_l12, py_l16, py_l32, py_l40, py_l100, py_l640, py_l1280, py_neg, py_add, py_sub, py_mul, py_stO]
    exact p1 K hK
  · refine ⟨s, t, -1, fun K KX hK => ?_, fun K hK => ?_, h.mono (by omega) (by omega), rfl⟩
    · unfold jX4_make_93
      try simp only [py_O_ap, py_l0, py_l1, py_l2, py_l3, py_l4, py_l5, py_l6, py_l7, py_l8, py_l9, py_l12, py_l16, py_l32, py_l40, py_l100, py_l640, py_l1280, py_neg, py_add, py_sub, py_mul, py_stO]
      refine pr_takesNew h (by omega) (fun c => absurd c ht) (fun _ => ?_)
      exact py_ieq (fun _ => hK) (fun c => absurd rfl c)
    · unfold jX5_make_111
      try simp only [py_O_ap, py_l0, py_l1, py_l2, py_l3, py_l4, py_l5, py_l6, py_l7, py_l8, py_l9, py_l12, py_l16, py_l32, py_l40, py_l100, py_l640, py_l1280, py_neg, py_add, py_sub, py_mul, py_stO]
      refine pm_lastHasRoom h (by omega) (fun c => absurd (Or.inl c) ht) (fun _ => ?_)
      refine py_ieq (fun _ => ?_) (fun c => absurd rfl c)
      refine pm_freeCars h.1 ?_
      exact py_ile (fun c => absurd (Or.inr (by omega)) ht) (fun _ => hK)
theorem ph_makeLoop (hn : n < 500) {a r d : Int} (ha : 0 ≤ a ∧ a < 16) (hr : 0 ≤ r ∧ r ≤ 12) (hd : 0 ≤ d ∧ d ≤ 12) {b : Int} (hb : 0 ≤ b ∧ b ≤ 40) : ∀ (f k : Nat) (s t : py_Z) (m : Int), (k : Int) + f = b → ph_R s t n m → m + f < 98000 →
    ∃ (s' t' : py_Z) (v : Int), (∀ (K : ty_S → Int32 → Prop) (KX : Nat → ty_S → Prop), K (py_O s') (py_o v) → ∃ n9, lX4_make_50 K KX n9 (py_o a) (py_o r) (py_o d) (py_o (2 + r + d)) (py_o b) (py_o k) (py_O s)) ∧ (∀ (K : ty_S → Int32 → Prop), K (py_O t') (py_o v) → ∃ n9, lX5_make_68 K n9 (py_o a) (py_o r) (py_o d) (py_o (2 + r + d)) (py_o b) (py_o k) (py_O t)) ∧ ph_R s' t' (n + 1) (m + f + 1) ∧ t' 60 0 = t 60 0 := by
  intro f
  induction f with
  | zero =>
    intro k s t m hk h hm
    obtain ⟨s', t', v, o1, o2, o3, o4⟩ := ph_makeEnd h hn (by omega) ha hr hd
    refine ⟨s', t', v, fun K KX hK => ⟨1, ?_⟩, fun K hK => ⟨1, ?_⟩, o3.mono (Nat.le_refl _) (by omega), o4⟩
    · unfold lX4_make_50
      try simp only [py_O_ap, py_l0, py_l1, py_l2, py_l3, py_l4, py_l5, py_l6, py_l7, py_l8, py_l9, py_l12, py_l16, py_l32, py_l40, py_l100, py_l640, py_l1280, py_neg, py_add, py_sub, py_mul, py_stO]
      exact py_ile (fun _ => o1 K KX hK) (fun c => absurd c (by omega))
    · unfold lX5_make_68
      try simp only [py_O_ap, py_l0, py_l1, py_l2, py_l3, py_l4, py_l5, py_l6, py_l7, py_l8, py_l9, py_l12, py_l16, py_l32, py_l40, py_l100, py_l640, py_l1280, py_neg, py_add, py_sub, py_mul, py_stO]
      exact py_ile (fun _ => o2 K hK) (fun c => absurd c (by omega))
  | succ f ih =>
    intro k s t m hk h hm
    have hc0 := h.1.cnt
    by_cases ht : ph_LR s t (2 + r + d) ∨ s 13 0 ≤ 38
    · obtain ⟨s', t', v, o1, o2, o3, o4⟩ := ph_makeEnd h hn (by omega) ha hr hd
      refine ⟨s', t', v, fun K KX hK => ⟨1, ?_⟩, fun K hK => ⟨1, ?_⟩, o3.mono (Nat.le_refl _) (by omega), o4⟩
      · unfold lX4_make_50
        try simp only [py_O_ap, py_l0, py_l1, py_l2, py_l3, py_l4, py_l5, py_l6, py_l7, py_l8, py_l9, py_l12, py_l16, py_l32, py_l40, py_l100, py_l640, py_l1280, py_neg, py_add, py_sub, py_mul, py_stO]
        refine py_ile (fun c => absurd c (by omega)) (fun _ => ?_)
        refine pr_takesNew h (by omega) (fun _ => ?_) (fun c => absurd ht c)
        exact py_ieq (fun c => absurd c (by omega)) (fun _ => o1 K KX hK)
      · unfold lX5_make_68
        try simp only [py_O_ap, py_l0, py_l1, py_l2, py_l3, py_l4, py_l5, py_l6, py_l7, py_l8, py_l9, py_l12, py_l16, py_l32, py_l40, py_l100, py_l640, py_l1280, py_neg, py_add, py_sub, py_mul, py_stO]
        refine py_ile (fun c => absurd c (by omega)) (fun _ => ?_)
        refine pm_lastHasRoom h (by omega) (fun _ => ?_) (fun c => ?_)
        · exact py_ieq (fun c => absurd c (by omega)) (fun _ => o2 K hK)
        · refine py_ieq (fun _ => ?_) (fun c => absurd rfl c)
          refine pm_freeCars h.1 ?_
          exact py_ile (fun _ => o2 K hK) (fun c2 => absurd (ht.resolve_left c) (by omega))
    · have h39 : 39 ≤ s 13 0 := by
        by_cases e : s 13 0 ≤ 38
        · exact absurd (Or.inr e) ht
        · omega
      have hnoLR : ¬ ph_LR s t (2 + r + d) := fun c => ht (Or.inl c)
      by_cases hcan : s 13 0 < 40
      · obtain ⟨s1, t1, r1, p1, p2, p3, p4, p5⟩ := ph_step h (by omega) hcan (by omega)
        obtain ⟨s', t', v, o1, o2, o3, o4⟩ := ih (k + 1) s1 t1 (m + 1) (by omega) p3 (by omega)
        refine ⟨s', t', v, fun K KX hK => ?_, fun K hK => ?_, o3.mono (Nat.le_refl _) (by omega), o4.trans p5⟩
        · obtain ⟨n9, hn9⟩ := o1 K KX hK
          refine ⟨n9 + 1, ?_⟩
          unfold lX4_make_50
          try simp only [py_O_ap, py_l0, py_l1, py_l2, py_l3, py_l4, py_l5, py_l6, py_l7, py_l8, py_l9, py_l12, py_l16, py_l32, py_l40, py_l100, py_l640, py_l1280, py_neg, py_add, py_sub, py_mul, py_stO]
          refine py_ile (fun c => absurd c (by omega)) (fun _ => ?_)
          refine pr_takesNew h (by omega) (fun c => absurd c ht) (fun _ => ?_)
          refine py_ieq (fun _ => ?_) (fun c => absurd rfl c)
          refine pr_canStep hc0 (fun _ _ => ?_) (fun c => absurd c (by omega))
          refine py_ieq (fun c => absurd c (by omega)) (fun _ => ?_)
          exact p1 _ hn9
        · obtain ⟨n9, hn9⟩ := o2 K hK
          refine ⟨n9 + 1, ?_⟩
          unfold lX5_make_68
          try simp only [py_O_ap, py_l0, py_l1, py_l2, py_l3, py_l4, py_l5, py_l6, py_l7, py_l8, py_l9, py_l12, py_l16, py_l32, py_l40, py_l100, py_l640, py_l1280, py_neg, py_add, py_sub, py_mul, py_stO]
          refine py_ile (fun c => absurd c (by omega)) (fun _ => ?_)
          refine pm_lastHasRoom h (by omega) (fun c => absurd c hnoLR) (fun _ => ?_)
          refine py_ieq (fun _ => ?_) (fun c => absurd rfl c)
          refine pm_freeCars h.1 ?_
          refine py_ile (fun c => absurd c (by omega)) (fun _ => ?_)
          refine pm_maySteps h.1 (fun _ _ => ?_) (fun c => absurd c (by omega))
          refine py_ieq (fun c => absurd c (by omega)) (fun _ => ?_)
          exact p2 _ hn9
      · obtain ⟨s', t', v, o1, o2, o3, o4⟩ := ph_makeEnd h hn (by omega) ha hr hd
        refine ⟨s', t', v, fun K KX hK => ⟨1, ?_⟩, fun K hK => ⟨1, ?_⟩, o3.mono (Nat.le_refl _) (by omega), o4⟩
        · unfold lX4_make_50
          try simp only [py_O_ap, py_l0, py_l1, py_l2, py_l3, py_l4, py_l5, py_l6, py_l7, py_l8, py_l9, py_l12, py_l16, py_l32, py_l40, py_l100, py_l640, py_l1280, py_neg, py_add, py_sub, py_mul, py_stO]
          refine py_ile (fun c => absurd c (by omega)) (fun _ => ?_)
          refine pr_takesNew h (by omega) (fun c => absurd c ht) (fun _ => ?_)
          refine py_ieq (fun _ => ?_) (fun c => absurd rfl c)
          refine pr_canStep hc0 (fun _ c => absurd c hcan) (fun _ => ?_)
          exact py_ieq (fun _ => o1 K KX hK) (fun c => absurd rfl c)
        · unfold lX5_make_68
          try simp only [py_O_ap, py_l0, py_l1, py_l2, py_l3, py_l4, py_l5, py_l6, py_l7, py_l8, py_l9, py_l12, py_l16, py_l32, py_l40, py_l100, py_l640, py_l1280, py_neg, py_add, py_sub, py_mul, py_stO]
          refine py_ile (fun c => absurd c (by omega)) (fun _ => ?_)
          refine pm_lastHasRoom h (by omega) (fun c => absurd c hnoLR) (fun _ => ?_)
          refine py_ieq (fun _ => ?_) (fun c => absurd rfl c)
          refine pm_freeCars h.1 ?_
          refine py_ile (fun c => absurd c (by omega)) (fun _ => ?_)
          refine pm_maySteps h.1 (fun _ c => absurd c hcan) (fun _ => ?_)
          exact py_ieq (fun _ => o2 K hK) (fun c => absurd rfl c)
theorem ph_callMake (h : ph_R s t n m) (hn : n < 500) (hm : m < 97000) {a r d : Int} (ra : -2147483648 ≤ a ∧ a < 2147483648) (rr : -2147483648 ≤ r ∧ r < 2147483648) (rd : -2147483648 ≤ d ∧ d < 2147483648) : ph_Out (fun K KX => eX4_make (py_O s) (py_o a) (py_o r) (py_o d) K KX) (fun K => eX5_make (py_O t) (py_o a) (py_o r) (py_o d) K) py_codeM (n + 1) (m + 101) := by
  have hthr : ∀ v : Int, 0 < v → v < 10 → ∀ K : ty_S → Int32 → Prop, K (py_O (py_st t 60 0 v)) (py_o 0) → jX5_make_37 K (py_o a) (py_o r) (py_o d) (py_o v) (py_O t) := fun v h1 h2 K hK => by
    unfold jX5_make_37
    try simp only [py_O_ap, py_l0, py_l1, py_l2, py_l3, py_l4, py_l5, py_l6, py_l7, py_l8, py_l9, py_l12, py_l16, py_l32, py_l40, py_l100, py_l640, py_l1280, py_neg, py_add, py_sub, py_mul, py_stO]
    exact py_ile (fun c => absurd c (by omega)) (fun _ => hK)
  have hc0 := h.1.cnt
  by_cases ha : 0 ≤ a ∧ a < 16
  · by_cases hrd : (0 ≤ r ∧ r ≤ 12) ∧ 0 ≤ d ∧ d ≤ 12
    · have h2 := h.t60 0
      obtain ⟨s', t', v, o1, o2, o3, o4⟩ := ph_makeLoop hn ha hrd.1 hrd.2 (b := s 13 0) hc0 (s 13 0).toNat 0 s (py_st t 60 0 0) m (by omega) h2 (by omega)
      refine ⟨s', t', v, o3.mono (Nat.le_refl _) (by omega), fun K hK => ?_, Or.inl ⟨by rw [o4, py_se], fun K KX hK => ?_⟩⟩
      · have hj : jX5_make_37 K (py_o a) (py_o r) (py_o d) (py_o 0) (py_O t) := by
          unfold jX5_make_37
          try simp only [py_O_ap, py_l0, py_l1, py_l2, py_l3, py_l4, py_l5, py_l6, py_l7, py_l8, py_l9, py_l12, py_l16, py_l32, py_l40, py_l100, py_l640, py_l1280, py_neg, py_add, py_sub, py_mul, py_stO]
          rw [if_pos (Int32.le_refl _)]
          refine pm_freeCars h2.1 ?_
          try simp only [py_O_ap, py_l0, py_l1, py_l2, py_l3, py_l4, py_l5, py_l6, py_l7, py_l8, py_l9, py_l12, py_l16, py_l32, py_l40, py_l100, py_l640, py_l1280, py_neg, py_add, py_sub, py_mul, py_stO]
          rw [show (40 : Int) - (40 - s 13 0) = s 13 0 by omega]
          exact o2 K hK
        unfold eX5_make
        try simp only [py_O_ap, py_l0, py_l1, py_l2, py_l3, py_l4, py_l5, py_l6, py_l7, py_l8, py_l9, py_l12, py_l16, py_l32, py_l40, py_l100, py_l640, py_l1280, py_neg, py_add, py_sub, py_mul, py_stO]
        refine pm_noRegister ra (fun _ _ => ?_) (fun c => absurd ha c)
        refine py_ieq (fun _ => ?_) (fun c => absurd rfl c)
        exact py_ilt (fun c => absurd c (by omega)) (fun _ => py_ilt (fun c => absurd c (by omega)) (fun _ => py_ilt (fun c => absurd c (by omega)) (fun _ => py_ile (fun _ => hj) (fun c => absurd c (by omega)))))
      · unfold eX4_make
        try simp only [py_O_ap, py_l0, py_l1, py_l2, py_l3, py_l4, py_l5, py_l6, py_l7, py_l8, py_l9, py_l12, py_l16, py_l32, py_l40, py_l100, py_l640, py_l1280, py_neg, py_add, py_sub, py_mul, py_stO]
        refine pr_needRegister ra (fun _ _ => ?_) (fun c => absurd ha c)
        refine pr_isAmount (fun _ _ => ?_) (fun c => absurd c (by omega))
        refine py_ieq (fun c => absurd c (by omega)) (fun _ => ?_)
        refine pr_isAmount (fun _ _ => ?_) (fun c => absurd c (by omega))
        refine py_ieq (fun c => absurd c (by omega)) (fun _ => ?_)
        exact o1 K KX hK
    · refine ph_thr h (code := py_codeM) (k := 2) (v := 2) (by omega) rfl (by decide) (fun K KX hK => ?_) (fun K hK => ?_)
      · unfold eX4_make
        try simp only [py_O_ap, py_l0, py_l1, py_l2, py_l3, py_l4, py_l5, py_l6, py_l7, py_l8, py_l9, py_l12, py_l16, py_l32, py_l40, py_l100, py_l640, py_l1280, py_neg, py_add, py_sub, py_mul, py_stO]
        refine pr_needRegister ra (fun _ _ => ?_) (fun c => absurd ha c)
        refine pr_isAmount (fun r1 r2 => ?_) (fun _ => py_ieq (fun _ => hK) (fun c => absurd rfl c))
        refine py_ieq (fun c => absurd c (by omega)) (fun _ => ?_)
        exact pr_isAmount (fun d1 d2 => absurd ⟨⟨r1, r2⟩, d1, d2⟩ hrd) (fun _ => py_ieq (fun _ => hK) (fun c => absurd rfl c))
      · have hj : jX5_make_32 K (py_o a) (py_o r) (py_o d) (py_O t) := hthr 2 (by omega) (by omega) K hK
        unfold eX5_make
        try simp only [py_O_ap, py_l0, py_l1, py_l2, py_l3, py_l4, py_l5, py_l6, py_l7, py_l8, py_l9, py_l12, py_l16, py_l32, py_l40, py_l100, py_l640, py_l1280, py_neg, py_add, py_sub, py_mul, py_stO]
        refine pm_noRegister ra (fun _ _ => ?_) (fun c => absurd ha c)
        refine py_ieq (fun _ => ?_) (fun c => absurd rfl c)
        exact py_ilt (fun _ => hj) (fun r1 => py_ilt (fun _ => hj) (fun r2 => py_ilt (fun _ => hj) (fun d1 => py_ile (fun d2 => absurd ⟨⟨r1, r2⟩, d1, d2⟩ hrd) (fun _ => hj))))
  · refine ph_thr h (code := py_codeM) (k := 0) (v := 1) (by omega) rfl (by decide) (fun K KX hK => ?_) (fun K hK => ?_)
    · unfold eX4_make
      try simp only [py_O_ap, py_l0, py_l1, py_l2, py_l3, py_l4, py_l5, py_l6, py_l7, py_l8, py_l9, py_l12, py_l16, py_l32, py_l40, py_l100, py_l640, py_l1280, py_neg, py_add, py_sub, py_mul, py_stO]
      exact pr_needRegister ra (fun a1 a2 => absurd ⟨a1, a2⟩ ha) (fun _ => hK)
    · unfold eX5_make
      try simp only [py_O_ap, py_l0, py_l1, py_l2, py_l3, py_l4, py_l5, py_l6, py_l7, py_l8, py_l9, py_l12, py_l16, py_l32, py_l40, py_l100, py_l640, py_l1280, py_neg, py_add, py_sub, py_mul, py_stO]
      exact pm_noRegister ra (fun a1 a2 => absurd ⟨a1, a2⟩ ha) (fun _ => py_ieq (fun c => absurd c (by omega)) (fun _ => hthr 1 (by omega) (by omega) K hK))
end PMW
