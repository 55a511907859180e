/-! PURE: the law, case by case -/
theorem pl_cmp (x : Int64) : lg_cmp x x = py_o 0 := by
  unfold lg_cmp
  have h : ¬ x > x := Int64.lt_irrefl
  rw [if_neg h, if_pos rfl]
  rfl
theorem py_n0 : (py_o 0).toNatClampNeg = 0 := rfl
theorem ph_R.out {s t : py_Z} {n : Nat} {m r : Int} (h : ph_R s t n m) : ph_R (py_st s 12 0 r) t n m := h.congr (fun g i _ _ _ h4 _ _ _ => py_sn h4) (fun _ _ _ _ _ _ _ _ _ => rfl)
theorem pl_128 {xs : Nat → Int32} {L : Nat} {R : Int32 → ty_S → ty_S → Prop} {s t : py_Z} {n : Nat} {m : Int} (h : ph_R s t n m) (hn : n < 400) (hm : m < 90000) {i : Nat} (hi : i + 4 ≤ L) (hL : L ≤ 256) (hR : ∀ s' t' : py_Z, ph_R s' t' (n + 1) (m + 101) → R (py_o ((i : Int) + 4)) (py_O s') (py_O t')) : jL_law_128 xs L R (py_o i) (py_O s) (py_O t) := by
  obtain ⟨a, ha, ra⟩ := py_all (xs (i + 1))
  have e1 : (py_o ((i : Int) + 1)).toNatClampNeg = i + 1 := by rw [py_nat (by omega)]; omega
  obtain ⟨s', t', r, o1, o2, o3⟩ := ph_callLength h ra
  unfold jL_law_128 eL_length
  try simp only [py_O_ap, py_l0, py_l1, py_l2, py_l3, py_l4, py_l5, py_l6, py_l7, py_l8, py_l9, py_l12, py_l16, py_l32, py_l40, py_l100, py_l640, py_l1280, py_neg, py_add, py_sub, py_mul, py_stO]
  simp only [e1, ha, py_n0]
  refine py_and ?_
  rcases o3 with ⟨z1, z2⟩ | ⟨k, hk, z1, z3, z2⟩
  · refine z2 _ _ (py_and ?_)
    try simp only [py_O_ap, py_l0, py_l1, py_l2, py_l3, py_l4, py_l5, py_l6, py_l7, py_l8, py_l9, py_l12, py_l16, py_l32, py_l40, py_l100, py_l640, py_l1280, py_neg, py_add, py_sub, py_mul, py_stO]
    refine py_and ?_
    refine o2 _ ?_
    unfold eX5_thrown
    try simp only [py_O_ap, py_l0, py_l1, py_l2, py_l3, py_l4, py_l5, py_l6, py_l7, py_l8, py_l9, py_l12, py_l16, py_l32, py_l40, py_l100, py_l640, py_l1280, py_neg, py_add, py_sub, py_mul, py_stO]
    refine py_ieq (fun _ => ?_) (fun e => absurd z1 e)
    refine py_and ?_
    simp only [py_se, pl_cmp, if_true]
    exact hR _ _ o1.out
  · have hk3 : k = 0 ∨ k = 1 ∨ k = 2 := by omega
    rcases hk3 with e | e | e
    · subst e
      exact absurd z3.1 (by decide)
    · subst e
      exact absurd z3.1 (by decide)
    · subst e
      have z1 : t' 60 0 = 1 := z1
      refine z2 _ _ ?_
      simp only [if_true, if_false, Nat.reduceEqDiff, (show ¬ (1 = 0) by decide), (show ¬ (2 = 0) by decide), (show ¬ (2 = 1) by decide)]
      try simp only [py_O_ap, py_l0, py_l1, py_l2, py_l3, py_l4, py_l5, py_l6, py_l7, py_l8, py_l9, py_l12, py_l16, py_l32, py_l40, py_l100, py_l640, py_l1280, py_neg, py_add, py_sub, py_mul, py_stO]
      refine py_and ?_
      refine o2 _ ?_
      unfold eX5_thrown
      try simp only [py_O_ap, py_l0, py_l1, py_l2, py_l3, py_l4, py_l5, py_l6, py_l7, py_l8, py_l9, py_l12, py_l16, py_l32, py_l40, py_l100, py_l640, py_l1280, py_neg, py_add, py_sub, py_mul, py_stO]
      refine py_ieq (fun _ => ?_) (fun e => absurd z1 e)
      exact py_ieq (fun e => absurd e (by decide)) (fun _ => hR _ _ o1)
theorem pl_184 {xs : Nat → Int32} {L : Nat} {R : Int32 → ty_S → ty_S → Prop} {s t : py_Z} {n : Nat} {m : Int} (h : ph_R s t n m) (hn : n < 400) (hm : m < 90000) {i : Nat} (hi : i + 4 ≤ L) (hL : L ≤ 256) (hR : ∀ s' t' : py_Z, ph_R s' t' (n + 1) (m + 101) → R (py_o ((i : Int) + 4)) (py_O s') (py_O t')) : jL_law_184 xs L R (py_o i) (py_O s) (py_O t) := by
  obtain ⟨a, ha, ra⟩ := py_all (xs (i + 1))
  have e1 : (py_o ((i : Int) + 1)).toNatClampNeg = i + 1 := by rw [py_nat (by omega)]; omega
  obtain ⟨b, hb, rb⟩ := py_all (xs (i + 2))
  have e2 : (py_o ((i : Int) + 2)).toNatClampNeg = i + 2 := by rw [py_nat (by omega)]; omega
  obtain ⟨c, hc, rc⟩ := py_all (xs (i + 3))
  have e3 : (py_o ((i : Int) + 3)).toNatClampNeg = i + 3 := by rw [py_nat (by omega)]; omega
  obtain ⟨s', t', r, o1, o2, o3⟩ := ph_callMake h (by omega) (by omega) ra rb rc
  unfold jL_law_184 eL_make
  try simp only [py_O_ap, py_l0, py_l1, py_l2, py_l3, py_l4, py_l5, py_l6, py_l7, py_l8, py_l9, py_l12, py_l16, py_l32, py_l40, py_l100, py_l640, py_l1280, py_neg, py_add, py_sub, py_mul, py_stO]
  simp only [e1, e2, e3, ha, hb, hc, py_n0]
  refine py_and (py_and (py_and ?_))
  rcases o3 with ⟨z1, z2⟩ | ⟨k, hk, z1, z3, z2⟩
  · refine z2 _ _ (py_and ?_)
    try simp only [py_O_ap, py_l0, py_l1, py_l2, py_l3, py_l4, py_l5, py_l6, py_l7, py_l8, py_l9, py_l12, py_l16, py_l32, py_l40, py_l100, py_l640, py_l1280, py_neg, py_add, py_sub, py_mul, py_stO]
    refine py_and (py_and (py_and ?_))
    refine o2 _ ?_
    unfold eX5_thrown
    try simp only [py_O_ap, py_l0, py_l1, py_l2, py_l3, py_l4, py_l5, py_l6, py_l7, py_l8, py_l9, py_l12, py_l16, py_l32, py_l40, py_l100, py_l640, py_l1280, py_neg, py_add, py_sub, py_mul, py_stO]
    refine py_ieq (fun _ => ?_) (fun e => absurd z1 e)
    refine py_and ?_
    simp only [py_se, pl_cmp, if_true]
    exact hR _ _ o1.out
  · have hk3 : k = 0 ∨ k = 1 ∨ k = 2 := by omega
    rcases hk3 with e | e | e
    · subst e
      have z1 : t' 60 0 = 1 := z1
      refine z2 _ _ ?_
      simp only [if_true, if_false, Nat.reduceEqDiff, (show ¬ (1 = 0) by decide), (show ¬ (2 = 0) by decide), (show ¬ (2 = 1) by decide)]
      try simp only [py_O_ap, py_l0, py_l1, py_l2, py_l3, py_l4, py_l5, py_l6, py_l7, py_l8, py_l9, py_l12, py_l16, py_l32, py_l40, py_l100, py_l640, py_l1280, py_neg, py_add, py_sub, py_mul, py_stO]
      refine py_and (py_and (py_and ?_))
      refine o2 _ ?_
      unfold eX5_thrown
      try simp only [py_O_ap, py_l0, py_l1, py_l2, py_l3, py_l4, py_l5, py_l6, py_l7, py_l8, py_l9, py_l12, py_l16, py_l32, py_l40, py_l100, py_l640, py_l1280, py_neg, py_add, py_sub, py_mul, py_stO]
      refine py_ieq (fun _ => ?_) (fun e => absurd z1 e)
      exact py_ieq (fun e => absurd e (by decide)) (fun _ => hR _ _ o1)
    · subst e
      exact absurd z3.1 (by decide)
    · subst e
      have z1 : t' 60 0 = 2 := z1
      refine z2 _ _ ?_
      simp only [if_true, if_false, Nat.reduceEqDiff, (show ¬ (1 = 0) by decide), (show ¬ (2 = 0) by decide), (show ¬ (2 = 1) by decide)]
      try simp only [py_O_ap, py_l0, py_l1, py_l2, py_l3, py_l4, py_l5, py_l6, py_l7, py_l8, py_l9, py_l12, py_l16, py_l32, py_l40, py_l100, py_l640, py_l1280, py_neg, py_add, py_sub, py_mul, py_stO]
      refine py_and (py_and (py_and ?_))
      refine o2 _ ?_
      unfold eX5_thrown
      try simp only [py_O_ap, py_l0, py_l1, py_l2, py_l3, py_l4, py_l5, py_l6, py_l7, py_l8, py_l9, py_l12, py_l16, py_l32, py_l40, py_l100, py_l640, py_l1280, py_neg, py_add, py_sub, py_mul, py_stO]
      refine py_ieq (fun _ => ?_) (fun e => absurd z1 e)
      exact py_ieq (fun e => absurd e (by decide)) (fun _ => hR _ _ o1)
theorem pl_264 {xs : Nat → Int32} {L : Nat} {R : Int32 → ty_S → ty_S → Prop} {s t : py_Z} {n : Nat} {m : Int} (h : ph_R s t n m) (hn : n < 400) (hm : m < 90000) {i : Nat} (hi : i + 4 ≤ L) (hL : L ≤ 256) (hR : ∀ s' t' : py_Z, ph_R s' t' (n + 1) (m + 101) → R (py_o ((i : Int) + 4)) (py_O s') (py_O t')) : jL_law_264 xs L R (py_o i) (py_O s) (py_O t) := by
  obtain ⟨a, ha, ra⟩ := py_all (xs (i + 1))
  have e1 : (py_o ((i : Int) + 1)).toNatClampNeg = i + 1 := by rw [py_nat (by omega)]; omega
  obtain ⟨b, hb, rb⟩ := py_all (xs (i + 2))
  have e2 : (py_o ((i : Int) + 2)).toNatClampNeg = i + 2 := by rw [py_nat (by omega)]; omega
  obtain ⟨s', t', r, o1, o2, o3⟩ := ph_callCopy h ra rb
  unfold jL_law_264 eL_copy
  try simp only [py_O_ap, py_l0, py_l1, py_l2, py_l3, py_l4, py_l5, py_l6, py_l7, py_l8, py_l9, py_l12, py_l16, py_l32, py_l40, py_l100, py_l640, py_l1280, py_neg, py_add, py_sub, py_mul, py_stO]
  simp only [e1, e2, ha, hb, py_n0]
  refine py_and (py_and ?_)
  rcases o3 with ⟨z1, z2⟩ | ⟨k, hk, z1, z3, z2⟩
  · refine z2 _ _ (py_and ?_)
    try simp only [py_O_ap, py_l0, py_l1, py_l2, py_l3, py_l4, py_l5, py_l6, py_l7, py_l8, py_l9, py_l12, py_l16, py_l32, py_l40, py_l100, py_l640, py_l1280, py_neg, py_add, py_sub, py_mul, py_stO]
    refine py_and (py_and ?_)
    refine o2 _ ?_
    unfold eX5_thrown
    try simp only [py_O_ap, py_l0, py_l1, py_l2, py_l3, py_l4, py_l5, py_l6, py_l7, py_l8, py_l9, py_l12, py_l16, py_l32, py_l40, py_l100, py_l640, py_l1280, py_neg, py_add, py_sub, py_mul, py_stO]
    refine py_ieq (fun _ => ?_) (fun e => absurd z1 e)
    refine py_and ?_
    simp only [py_se, pl_cmp, if_true]
    exact hR _ _ o1.out
  · have hk3 : k = 0 ∨ k = 1 ∨ k = 2 := by omega
    rcases hk3 with e | e | e
    · subst e
      have z1 : t' 60 0 = 1 := z1
      refine z2 _ _ ?_
      simp only [if_true, if_false, Nat.reduceEqDiff, (show ¬ (1 = 0) by decide), (show ¬ (2 = 0) by decide), (show ¬ (2 = 1) by decide)]
      try simp only [py_O_ap, py_l0, py_l1, py_l2, py_l3, py_l4, py_l5, py_l6, py_l7, py_l8, py_l9, py_l12, py_l16, py_l32, py_l40, py_l100, py_l640, py_l1280, py_neg, py_add, py_sub, py_mul, py_stO]
      refine py_and (py_and ?_)
      refine o2 _ ?_
      unfold eX5_thrown
      try simp only [py_O_ap, py_l0, py_l1, py_l2, py_l3, py_l4, py_l5, py_l6, py_l7, py_l8, py_l9, py_l12, py_l16, py_l32, py_l40, py_l100, py_l640, py_l1280, py_neg, py_add, py_sub, py_mul, py_stO]
      refine py_ieq (fun _ => ?_) (fun e => absurd z1 e)
      exact py_ieq (fun e => absurd e (by decide)) (fun _ => hR _ _ o1)
    · subst e
      exact absurd z3.1 (by decide)
    · subst e
      exact absurd z3.1 (by decide)
theorem pl_332 {xs : Nat → Int32} {L : Nat} {R : Int32 → ty_S → ty_S → Prop} {s t : py_Z} {n : Nat} {m : Int} (h : ph_R s t n m) (hn : n < 400) (hm : m < 90000) {i : Nat} (hi : i + 4 ≤ L) (hL : L ≤ 256) (hR : ∀ s' t' : py_Z, ph_R s' t' (n + 1) (m + 101) → R (py_o ((i : Int) + 4)) (py_O s') (py_O t')) : jL_law_332 xs L R (py_o i) (py_O s) (py_O t) := by
  obtain ⟨a, ha, ra⟩ := py_all (xs (i + 1))
  have e1 : (py_o ((i : Int) + 1)).toNatClampNeg = i + 1 := by rw [py_nat (by omega)]; omega
  obtain ⟨s', t', r, o1, o2, o3⟩ := ph_callDrop h ra
  unfold jL_law_332 eL_drop
  try simp only [py_O_ap, py_l0, py_l1, py_l2, py_l3, py_l4, py_l5, py_l6, py_l7, py_l8, py_l9, py_l12, py_l16, py_l32, py_l40, py_l100, py_l640, py_l1280, py_neg, py_add, py_sub, py_mul, py_stO]
  simp only [e1, ha, py_n0]
  refine py_and ?_
  rcases o3 with ⟨z1, z2⟩ | ⟨k, hk, z1, z3, z2⟩
  · refine z2 _ _ (py_and ?_)
    try simp only [py_O_ap, py_l0, py_l1, py_l2, py_l3, py_l4, py_l5, py_l6, py_l7, py_l8, py_l9, py_l12, py_l16, py_l32, py_l40, py_l100, py_l640, py_l1280, py_neg, py_add, py_sub, py_mul, py_stO]
    refine py_and ?_
    refine o2 _ ?_
    unfold eX5_thrown
    try simp only [py_O_ap, py_l0, py_l1, py_l2, py_l3, py_l4, py_l5, py_l6, py_l7, py_l8, py_l9, py_l12, py_l16, py_l32, py_l40, py_l100, py_l640, py_l1280, py_neg, py_add, py_sub, py_mul, py_stO]
    refine py_ieq (fun _ => ?_) (fun e => absurd z1 e)
    refine py_and ?_
    simp only [py_se, pl_cmp, if_true]
    exact hR _ _ o1.out
  · have hk3 : k = 0 ∨ k = 1 ∨ k = 2 := by omega
    rcases hk3 with e | e | e
    · subst e
      have z1 : t' 60 0 = 1 := z1
      refine z2 _ _ ?_
      simp only [if_true, if_false, Nat.reduceEqDiff, (show ¬ (1 = 0) by decide), (show ¬ (2 = 0) by decide), (show ¬ (2 = 1) by decide)]
      try simp only [py_O_ap, py_l0, py_l1, py_l2, py_l3, py_l4, py_l5, py_l6, py_l7, py_l8, py_l9, py_l12, py_l16, py_l32, py_l40, py_l100, py_l640, py_l1280, py_neg, py_add, py_sub, py_mul, py_stO]
      refine py_and ?_
      refine o2 _ ?_
      unfold eX5_thrown
      try simp only [py_O_ap, py_l0, py_l1, py_l2, py_l3, py_l4, py_l5, py_l6, py_l7, py_l8, py_l9, py_l12, py_l16, py_l32, py_l40, py_l100, py_l640, py_l1280, py_neg, py_add, py_sub, py_mul, py_stO]
      refine py_ieq (fun _ => ?_) (fun e => absurd z1 e)
      exact py_ieq (fun e => absurd e (by decide)) (fun _ => hR _ _ o1)
    · subst e
      exact absurd z3.1 (by decide)
    · subst e
      exact absurd z3.1 (by decide)
theorem pl_388 {xs : Nat → Int32} {L : Nat} {R : Int32 → ty_S → ty_S → Prop} {s t : py_Z} {n : Nat} {m : Int} (h : ph_R s t n m) (hn : n < 400) (hm : m < 90000) {i : Nat} (hi : i + 4 ≤ L) (hL : L ≤ 256) (hR : ∀ s' t' : py_Z, ph_R s' t' (n + 1) (m + 101) → R (py_o ((i : Int) + 4)) (py_O s') (py_O t')) : jL_law_388 xs L R (py_o i) (py_O s) (py_O t) := by
  obtain ⟨a, ha, ra⟩ := py_all (xs (i + 1))
  have e1 : (py_o ((i : Int) + 1)).toNatClampNeg = i + 1 := by rw [py_nat (by omega)]; omega
  obtain ⟨b, hb, rb⟩ := py_all (xs (i + 2))
  have e2 : (py_o ((i : Int) + 2)).toNatClampNeg = i + 2 := by rw [py_nat (by omega)]; omega
  obtain ⟨c, hc, rc⟩ := py_all (xs (i + 3))
  have e3 : (py_o ((i : Int) + 3)).toNatClampNeg = i + 3 := by rw [py_nat (by omega)]; omega
  obtain ⟨s', t', r, o1, o2, o3⟩ := ph_callSet h ra rb rc
  unfold jL_law_388 eL_set
  try simp only [py_O_ap, py_l0, py_l1, py_l2, py_l3, py_l4, py_l5, py_l6, py_l7, py_l8, py_l9, py_l12, py_l16, py_l32, py_l40, py_l100, py_l640, py_l1280, py_neg, py_add, py_sub, py_mul, py_stO]
  simp only [e1, e2, e3, ha, hb, hc, py_n0]
  refine py_and (py_and (py_and ?_))
  rcases o3 with ⟨z1, z2⟩ | ⟨k, hk, z1, z3, z2⟩
  · refine z2 _ _ (py_and ?_)
    try simp only [py_O_ap, py_l0, py_l1, py_l2, py_l3, py_l4, py_l5, py_l6, py_l7, py_l8, py_l9, py_l12, py_l16, py_l32, py_l40, py_l100, py_l640, py_l1280, py_neg, py_add, py_sub, py_mul, py_stO]
    refine py_and (py_and (py_and ?_))
    refine o2 _ ?_
    unfold eX5_thrown
    try simp only [py_O_ap, py_l0, py_l1, py_l2, py_l3, py_l4, py_l5, py_l6, py_l7, py_l8, py_l9, py_l12, py_l16, py_l32, py_l40, py_l100, py_l640, py_l1280, py_neg, py_add, py_sub, py_mul, py_stO]
    refine py_ieq (fun _ => ?_) (fun e => absurd z1 e)
    refine py_and ?_
    simp only [py_se, pl_cmp, if_true]
    exact hR _ _ o1.out
  · have hk3 : k = 0 ∨ k = 1 ∨ k = 2 := by omega
    rcases hk3 with e | e | e
    · subst e
      have z1 : t' 60 0 = 1 := z1
      refine z2 _ _ ?_
      simp only [if_true, if_false, Nat.reduceEqDiff, (show ¬ (1 = 0) by decide), (show ¬ (2 = 0) by decide), (show ¬ (2 = 1) by decide)]
      try simp only [py_O_ap, py_l0, py_l1, py_l2, py_l3, py_l4, py_l5, py_l6, py_l7, py_l8, py_l9, py_l12, py_l16, py_l32, py_l40, py_l100, py_l640, py_l1280, py_neg, py_add, py_sub, py_mul, py_stO]
      refine py_and (py_and (py_and ?_))
      refine o2 _ ?_
      unfold eX5_thrown
      try simp only [py_O_ap, py_l0, py_l1, py_l2, py_l3, py_l4, py_l5, py_l6, py_l7, py_l8, py_l9, py_l12, py_l16, py_l32, py_l40, py_l100, py_l640, py_l1280, py_neg, py_add, py_sub, py_mul, py_stO]
      refine py_ieq (fun _ => ?_) (fun e => absurd z1 e)
      exact py_ieq (fun e => absurd e (by decide)) (fun _ => hR _ _ o1)
    · subst e
      have z1 : t' 60 0 = 2 := z1
      refine z2 _ _ ?_
      simp only [if_true, if_false, Nat.reduceEqDiff, (show ¬ (1 = 0) by decide), (show ¬ (2 = 0) by decide), (show ¬ (2 = 1) by decide)]
      try simp only [py_O_ap, py_l0, py_l1, py_l2, py_l3, py_l4, py_l5, py_l6, py_l7, py_l8, py_l9, py_l12, py_l16, py_l32, py_l40, py_l100, py_l640, py_l1280, py_neg, py_add, py_sub, py_mul, py_stO]
      refine py_and (py_and (py_and ?_))
      refine o2 _ ?_
      unfold eX5_thrown
      try simp only [py_O_ap, py_l0, py_l1, py_l2, py_l3, py_l4, py_l5, py_l6, py_l7, py_l8, py_l9, py_l12, py_l16, py_l32, py_l40, py_l100, py_l640, py_l1280, py_neg, py_add, py_sub, py_mul, py_stO]
      refine py_ieq (fun _ => ?_) (fun e => absurd z1 e)
      exact py_ieq (fun e => absurd e (by decide)) (fun _ => hR _ _ o1)
    · subst e
      have z1 : t' 60 0 = 3 := z1
      refine z2 _ _ ?_
      simp only [if_true, if_false, Nat.reduceEqDiff, (show ¬ (1 = 0) by decide), (show ¬ (2 = 0) by decide), (show ¬ (2 = 1) by decide)]
      try simp only [py_O_ap, py_l0, py_l1, py_l2, py_l3, py_l4, py_l5, py_l6, py_l7, py_l8, py_l9, py_l12, py_l16, py_l32, py_l40, py_l100, py_l640, py_l1280, py_neg, py_add, py_sub, py_mul, py_stO]
      refine py_and (py_and (py_and ?_))
      refine o2 _ ?_
      unfold eX5_thrown
      try simp only [py_O_ap, py_l0, py_l1, py_l2, py_l3, py_l4, py_l5, py_l6, py_l7, py_l8, py_l9, py_l12, py_l16, py_l32, py_l40, py_l100, py_l640, py_l1280, py_neg, py_add, py_sub, py_mul, py_stO]
      refine py_ieq (fun _ => ?_) (fun e => absurd z1 e)
      exact py_ieq (fun e => absurd e (by decide)) (fun _ => hR _ _ o1)
theorem pl_468 {xs : Nat → Int32} {L : Nat} {R : Int32 → ty_S → ty_S → Prop} {s t : py_Z} {n : Nat} {m : Int} (h : ph_R s t n m) (hn : n < 400) (hm : m < 90000) {i : Nat} (hi : i + 4 ≤ L) (hL : L ≤ 256) (hR : ∀ s' t' : py_Z, ph_R s' t' (n + 1) (m + 101) → R (py_o ((i : Int) + 4)) (py_O s') (py_O t')) : jL_law_468 xs L R (py_o i) (py_O s) (py_O t) := by
  obtain ⟨a, ha, ra⟩ := py_all (xs (i + 1))
  have e1 : (py_o ((i : Int) + 1)).toNatClampNeg = i + 1 := by rw [py_nat (by omega)]; omega
  obtain ⟨b, hb, rb⟩ := py_all (xs (i + 2))
  have e2 : (py_o ((i : Int) + 2)).toNatClampNeg = i + 2 := by rw [py_nat (by omega)]; omega
  obtain ⟨c, hc, rc⟩ := py_all (xs (i + 3))
  have e3 : (py_o ((i : Int) + 3)).toNatClampNeg = i + 3 := by rw [py_nat (by omega)]; omega
  obtain ⟨s', t', r, o1, o2, o3⟩ := ph_callGet h ra rb rc
  unfold jL_law_468 eL_get
  try simp only [py_O_ap, py_l0, py_l1, py_l2, py_l3, py_l4, py_l5, py_l6, py_l7, py_l8, py_l9, py_l12, py_l16, py_l32, py_l40, py_l100, py_l640, py_l1280, py_neg, py_add, py_sub, py_mul, py_stO]
  simp only [e1, e2, e3, ha, hb, hc, py_n0]
  refine py_and (py_and (py_and ?_))
  rcases o3 with ⟨z1, z2⟩ | ⟨k, hk, z1, z3, z2⟩
  · refine z2 _ _ (py_and ?_)
    try simp only [py_O_ap, py_l0, py_l1, py_l2, py_l3, py_l4, py_l5, py_l6, py_l7, py_l8, py_l9, py_l12, py_l16, py_l32, py_l40, py_l100, py_l640, py_l1280, py_neg, py_add, py_sub, py_mul, py_stO]
    refine py_and (py_and (py_and ?_))
    refine o2 _ ?_
    unfold eX5_thrown
    try simp only [py_O_ap, py_l0, py_l1, py_l2, py_l3, py_l4, py_l5, py_l6, py_l7, py_l8, py_l9, py_l12, py_l16, py_l32, py_l40, py_l100, py_l640, py_l1280, py_neg, py_add, py_sub, py_mul, py_stO]
    refine py_ieq (fun _ => ?_) (fun e => absurd z1 e)
    refine py_and ?_
    simp only [py_se, pl_cmp, if_true]
    exact hR _ _ o1.out
  · have hk3 : k = 0 ∨ k = 1 ∨ k = 2 := by omega
    rcases hk3 with e | e | e
    · subst e
      have z1 : t' 60 0 = 1 := z1
      refine z2 _ _ ?_
      simp only [if_true, if_false, Nat.reduceEqDiff, (show ¬ (1 = 0) by decide), (show ¬ (2 = 0) by decide), (show ¬ (2 = 1) by decide)]
      try simp only [py_O_ap, py_l0, py_l1, py_l2, py_l3, py_l4, py_l5, py_l6, py_l7, py_l8, py_l9, py_l12, py_l16, py_l32, py_l40, py_l100, py_l640, py_l1280, py_neg, py_add, py_sub, py_mul, py_stO]
      refine py_and (py_and (py_and ?_))
      refine o2 _ ?_
      unfold eX5_thrown
      try simp only [py_O_ap, py_l0, py_l1, py_l2, py_l3, py_l4, py_l5, py_l6, py_l7, py_l8, py_l9, py_l12, py_l16, py_l32, py_l40, py_l100, py_l640, py_l1280, py_neg, py_add, py_sub, py_mul, py_stO]
      refine py_ieq (fun _ => ?_) (fun e => absurd z1 e)
      exact py_ieq (fun e => absurd e (by decide)) (fun _ => hR _ _ o1)
    · subst e
      have z1 : t' 60 0 = 2 := z1
      refine z2 _ _ ?_
      simp only [if_true, if_false, Nat.reduceEqDiff, (show ¬ (1 = 0) by decide), (show ¬ (2 = 0) by decide), (show ¬ (2 = 1) by decide)]
      try simp only [py_O_ap, py_l0, py_l1, py_l2, py_l3, py_l4, py_l5, py_l6, py_l7, py_l8, py_l9, py_l12, py_l16, py_l32, py_l40, py_l100, py_l640, py_l1280, py_neg, py_add, py_sub, py_mul, py_stO]
      refine py_and (py_and (py_and ?_))
      refine o2 _ ?_
      unfold eX5_thrown
      try simp only [py_O_ap, py_l0, py_l1, py_l2, py_l3, py_l4, py_l5, py_l6, py_l7, py_l8, py_l9, py_l12, py_l16, py_l32, py_l40, py_l100, py_l640, py_l1280, py_neg, py_add, py_sub, py_mul, py_stO]
      refine py_ieq (fun _ => ?_) (fun e => absurd z1 e)
      exact py_ieq (fun e => absurd e (by decide)) (fun _ => hR _ _ o1)
    · subst e
      have z1 : t' 60 0 = 3 := z1
      refine z2 _ _ ?_
      simp only [if_true, if_false, Nat.reduceEqDiff, (show ¬ (1 = 0) by decide), (show ¬ (2 = 0) by decide), (show ¬ (2 = 1) by decide)]
      try simp only [py_O_ap, py_l0, py_l1, py_l2, py_l3, py_l4, py_l5, py_l6, py_l7, py_l8, py_l9, py_l12, py_l16, py_l32, py_l40, py_l100, py_l640, py_l1280, py_neg, py_add, py_sub, py_mul, py_stO]
      refine py_and (py_and (py_and ?_))
      refine o2 _ ?_
      unfold eX5_thrown
      try simp only [py_O_ap, py_l0, py_l1, py_l2, py_l3, py_l4, py_l5, py_l6, py_l7, py_l8, py_l9, py_l12, py_l16, py_l32, py_l40, py_l100, py_l640, py_l1280, py_neg, py_add, py_sub, py_mul, py_stO]
      refine py_ieq (fun _ => ?_) (fun e => absurd z1 e)
      exact py_ieq (fun e => absurd e (by decide)) (fun _ => hR _ _ o1)
theorem pl_548 {xs : Nat → Int32} {L : Nat} {R : Int32 → ty_S → ty_S → Prop} {s t : py_Z} {n : Nat} {m : Int} (h : ph_R s t n m) (hn : n < 400) (hm : m < 90000) {i : Nat} (hi : i + 4 ≤ L) (hL : L ≤ 256) (hR : ∀ s' t' : py_Z, ph_R s' t' (n + 1) (m + 101) → R (py_o ((i : Int) + 4)) (py_O s') (py_O t')) : jL_law_548 xs L R (py_o i) (py_O s) (py_O t) := by
  obtain ⟨a, ha, ra⟩ := py_all (xs (i + 1))
  have e1 : (py_o ((i : Int) + 1)).toNatClampNeg = i + 1 := by rw [py_nat (by omega)]; omega
  obtain ⟨b, hb, rb⟩ := py_all (xs (i + 2))
  have e2 : (py_o ((i : Int) + 2)).toNatClampNeg = i + 2 := by rw [py_nat (by omega)]; omega
  obtain ⟨c, hc, rc⟩ := py_all (xs (i + 3))
  have e3 : (py_o ((i : Int) + 3)).toNatClampNeg = i + 3 := by rw [py_nat (by omega)]; omega
  obtain ⟨s', t', r, o1, o2, o3⟩ := ph_callPut (v := c) h ra rb
  unfold jL_law_548 eL_put
  try simp only [py_O_ap, py_l0, py_l1, py_l2, py_l3, py_l4, py_l5, py_l6, py_l7, py_l8, py_l9, py_l12, py_l16, py_l32, py_l40, py_l100, py_l640, py_l1280, py_neg, py_add, py_sub, py_mul, py_stO]
  simp only [e1, e2, e3, ha, hb, hc, py_n0]
  refine py_and (py_and (py_and ?_))
  rcases o3 with ⟨z1, z2⟩ | ⟨k, hk, z1, z3, z2⟩
  · refine z2 _ _ (py_and ?_)
    try simp only [py_O_ap, py_l0, py_l1, py_l2, py_l3, py_l4, py_l5, py_l6, py_l7, py_l8, py_l9, py_l12, py_l16, py_l32, py_l40, py_l100, py_l640, py_l1280, py_neg, py_add, py_sub, py_mul, py_stO]
    refine py_and (py_and (py_and ?_))
    refine o2 _ ?_
    unfold eX5_thrown
    try simp only [py_O_ap, py_l0, py_l1, py_l2, py_l3, py_l4, py_l5, py_l6, py_l7, py_l8, py_l9, py_l12, py_l16, py_l32, py_l40, py_l100, py_l640, py_l1280, py_neg, py_add, py_sub, py_mul, py_stO]
    refine py_ieq (fun _ => ?_) (fun e => absurd z1 e)
    refine py_and ?_
    simp only [py_se, pl_cmp, if_true]
    exact hR _ _ o1.out
  · have hk3 : k = 0 ∨ k = 1 ∨ k = 2 := by omega
    rcases hk3 with e | e | e
    · subst e
      have z1 : t' 60 0 = 1 := z1
      refine z2 _ _ ?_
      simp only [if_true, if_false, Nat.reduceEqDiff, (show ¬ (1 = 0) by decide), (show ¬ (2 = 0) by decide), (show ¬ (2 = 1) by decide)]
      try simp only [py_O_ap, py_l0, py_l1, py_l2, py_l3, py_l4, py_l5, py_l6, py_l7, py_l8, py_l9, py_l12, py_l16, py_l32, py_l40, py_l100, py_l640, py_l1280, py_neg, py_add, py_sub, py_mul, py_stO]
      refine py_and (py_and (py_and ?_))
      refine o2 _ ?_
      unfold eX5_thrown
      try simp only [py_O_ap, py_l0, py_l1, py_l2, py_l3, py_l4, py_l5, py_l6, py_l7, py_l8, py_l9, py_l12, py_l16, py_l32, py_l40, py_l100, py_l640, py_l1280, py_neg, py_add, py_sub, py_mul, py_stO]
      refine py_ieq (fun _ => ?_) (fun e => absurd z1 e)
      exact py_ieq (fun e => absurd e (by decide)) (fun _ => hR _ _ o1)
    · subst e
      have z1 : t' 60 0 = 2 := z1
      refine z2 _ _ ?_
      simp only [if_true, if_false, Nat.reduceEqDiff, (show ¬ (1 = 0) by decide), (show ¬ (2 = 0) by decide), (show ¬ (2 = 1) by decide)]
      try simp only [py_O_ap, py_l0, py_l1, py_l2, py_l3, py_l4, py_l5, py_l6, py_l7, py_l8, py_l9, py_l12, py_l16, py_l32, py_l40, py_l100, py_l640, py_l1280, py_neg, py_add, py_sub, py_mul, py_stO]
      refine py_and (py_and (py_and ?_))
      refine o2 _ ?_
      unfold eX5_thrown
      try simp only [py_O_ap, py_l0, py_l1, py_l2, py_l3, py_l4, py_l5, py_l6, py_l7, py_l8, py_l9, py_l12, py_l16, py_l32, py_l40, py_l100, py_l640, py_l1280, py_neg, py_add, py_sub, py_mul, py_stO]
      refine py_ieq (fun _ => ?_) (fun e => absurd z1 e)
      exact py_ieq (fun e => absurd e (by decide)) (fun _ => hR _ _ o1)
    · subst e
      have z1 : t' 60 0 = 3 := z1
      refine z2 _ _ ?_
      simp only [if_true, if_false, Nat.reduceEqDiff, (show ¬ (1 = 0) by decide), (show ¬ (2 = 0) by decide), (show ¬ (2 = 1) by decide)]
      try simp only [py_O_ap, py_l0, py_l1, py_l2, py_l3, py_l4, py_l5, py_l6, py_l7, py_l8, py_l9, py_l12, py_l16, py_l32, py_l40, py_l100, py_l640, py_l1280, py_neg, py_add, py_sub, py_mul, py_stO]
      refine py_and (py_and (py_and ?_))
      refine o2 _ ?_
      unfold eX5_thrown
      try simp only [py_O_ap, py_l0, py_l1, py_l2, py_l3, py_l4, py_l5, py_l6, py_l7, py_l8, py_l9, py_l12, py_l16, py_l32, py_l40, py_l100, py_l640, py_l1280, py_neg, py_add, py_sub, py_mul, py_stO]
      refine py_ieq (fun _ => ?_) (fun e => absurd z1 e)
      exact py_ieq (fun e => absurd e (by decide)) (fun _ => hR _ _ o1)
theorem pl_628 {xs : Nat → Int32} {L : Nat} {R : Int32 → ty_S → ty_S → Prop} {s t : py_Z} {n : Nat} {m : Int} (h : ph_R s t n m) (hn : n < 400) (hm : m < 90000) {i : Nat} (hi : i + 4 ≤ L) (hL : L ≤ 256) (hR : ∀ s' t' : py_Z, ph_R s' t' (n + 1) (m + 101) → R (py_o ((i : Int) + 4)) (py_O s') (py_O t')) : jL_law_628 xs L R (py_o i) (py_O s) (py_O t) := by
  obtain ⟨a, ha, ra⟩ := py_all (xs (i + 1))
  have e1 : (py_o ((i : Int) + 1)).toNatClampNeg = i + 1 := by rw [py_nat (by omega)]; omega
  obtain ⟨b, hb, rb⟩ := py_all (xs (i + 2))
  have e2 : (py_o ((i : Int) + 2)).toNatClampNeg = i + 2 := by rw [py_nat (by omega)]; omega
  obtain ⟨s', t', r, o1, o2, o3⟩ := ph_callNumber h ra rb
  unfold jL_law_628 eL_number
  try simp only [py_O_ap, py_l0, py_l1, py_l2, py_l3, py_l4, py_l5, py_l6, py_l7, py_l8, py_l9, py_l12, py_l16, py_l32, py_l40, py_l100, py_l640, py_l1280, py_neg, py_add, py_sub, py_mul, py_stO]
  simp only [e1, e2, ha, hb, py_n0]
  refine py_and (py_and ?_)
  rcases o3 with ⟨z1, z2⟩ | ⟨k, hk, z1, z3, z2⟩
  · refine z2 _ _ (py_and ?_)
    try simp only [py_O_ap, py_l0, py_l1, py_l2, py_l3, py_l4, py_l5, py_l6, py_l7, py_l8, py_l9, py_l12, py_l16, py_l32, py_l40, py_l100, py_l640, py_l1280, py_neg, py_add, py_sub, py_mul, py_stO]
    refine py_and (py_and ?_)
    refine o2 _ ?_
    unfold eX5_thrown
    try simp only [py_O_ap, py_l0, py_l1, py_l2, py_l3, py_l4, py_l5, py_l6, py_l7, py_l8, py_l9, py_l12, py_l16, py_l32, py_l40, py_l100, py_l640, py_l1280, py_neg, py_add, py_sub, py_mul, py_stO]
    refine py_ieq (fun _ => ?_) (fun e => absurd z1 e)
    refine py_and ?_
    simp only [py_se, pl_cmp, if_true]
    exact hR _ _ o1.out
  · have hk3 : k = 0 ∨ k = 1 ∨ k = 2 := by omega
    rcases hk3 with e | e | e
    · subst e
      have z1 : t' 60 0 = 1 := z1
      refine z2 _ _ ?_
      simp only [if_true, if_false, Nat.reduceEqDiff, (show ¬ (1 = 0) by decide), (show ¬ (2 = 0) by decide), (show ¬ (2 = 1) by decide)]
      try simp only [py_O_ap, py_l0, py_l1, py_l2, py_l3, py_l4, py_l5, py_l6, py_l7, py_l8, py_l9, py_l12, py_l16, py_l32, py_l40, py_l100, py_l640, py_l1280, py_neg, py_add, py_sub, py_mul, py_stO]
      refine py_and (py_and ?_)
      refine o2 _ ?_
      unfold eX5_thrown
      try simp only [py_O_ap, py_l0, py_l1, py_l2, py_l3, py_l4, py_l5, py_l6, py_l7, py_l8, py_l9, py_l12, py_l16, py_l32, py_l40, py_l100, py_l640, py_l1280, py_neg, py_add, py_sub, py_mul, py_stO]
      refine py_ieq (fun _ => ?_) (fun e => absurd z1 e)
      exact py_ieq (fun e => absurd e (by decide)) (fun _ => hR _ _ o1)
    · subst e
      have z1 : t' 60 0 = 2 := z1
      refine z2 _ _ ?_
      simp only [if_true, if_false, Nat.reduceEqDiff, (show ¬ (1 = 0) by decide), (show ¬ (2 = 0) by decide), (show ¬ (2 = 1) by decide)]
      try simp only [py_O_ap, py_l0, py_l1, py_l2, py_l3, py_l4, py_l5, py_l6, py_l7, py_l8, py_l9, py_l12, py_l16, py_l32, py_l40, py_l100, py_l640, py_l1280, py_neg, py_add, py_sub, py_mul, py_stO]
      refine py_and (py_and ?_)
      refine o2 _ ?_
      unfold eX5_thrown
      try simp only [py_O_ap, py_l0, py_l1, py_l2, py_l3, py_l4, py_l5, py_l6, py_l7, py_l8, py_l9, py_l12, py_l16, py_l32, py_l40, py_l100, py_l640, py_l1280, py_neg, py_add, py_sub, py_mul, py_stO]
      refine py_ieq (fun _ => ?_) (fun e => absurd z1 e)
      exact py_ieq (fun e => absurd e (by decide)) (fun _ => hR _ _ o1)
    · subst e
      have z1 : t' 60 0 = 3 := z1
      refine z2 _ _ ?_
      simp only [if_true, if_false, Nat.reduceEqDiff, (show ¬ (1 = 0) by decide), (show ¬ (2 = 0) by decide), (show ¬ (2 = 1) by decide)]
      try simp only [py_O_ap, py_l0, py_l1, py_l2, py_l3, py_l4, py_l5, py_l6, py_l7, py_l8, py_l9, py_l12, py_l16, py_l32, py_l40, py_l100, py_l640, py_l1280, py_neg, py_add, py_sub, py_mul, py_stO]
      refine py_and (py_and ?_)
      refine o2 _ ?_
      unfold eX5_thrown
      try simp only [py_O_ap, py_l0, py_l1, py_l2, py_l3, py_l4, py_l5, py_l6, py_l7, py_l8, py_l9, py_l12, py_l16, py_l32, py_l40, py_l100, py_l640, py_l1280, py_neg, py_add, py_sub, py_mul, py_stO]
      refine py_ieq (fun _ => ?_) (fun e => absurd z1 e)
      exact py_ieq (fun e => absurd e (by decide)) (fun _ => hR _ _ o1)
theorem pl_696 {xs : Nat → Int32} {L : Nat} {R : Int32 → ty_S → ty_S → Prop} {s t : py_Z} {n : Nat} {m : Int} (h : ph_R s t n m) (hn : n < 400) (hm : m < 90000) {i : Nat} (hi : i + 4 ≤ L) (hL : L ≤ 256) (hR : ∀ s' t' : py_Z, ph_R s' t' (n + 1) (m + 101) → R (py_o ((i : Int) + 4)) (py_O s') (py_O t')) : jL_law_696 xs L R (py_o i) (py_O s) (py_O t) := by
  obtain ⟨s', t', r, o1, o2, o3⟩ := ph_callStep h (by omega)
  unfold jL_law_696
  refine o1 _ ?_
  refine o2 _ ?_
  rw [if_pos rfl, py_l4, py_add]
  exact hR _ _ o3
theorem pl_709 {xs : Nat → Int32} {L : Nat} {R : Int32 → ty_S → ty_S → Prop} {s t : py_Z} {n : Nat} {m : Int} (h : ph_R s t n m) (hn : n < 400) (hm : m < 90000) {i : Nat} (hi : i + 4 ≤ L) (hL : L ≤ 256) (hR : ∀ s' t' : py_Z, ph_R s' t' (n + 1) (m + 101) → R (py_o ((i : Int) + 4)) (py_O s') (py_O t')) : jL_law_709 xs L R (py_o i) (py_O s) (py_O t) := by
  obtain ⟨a, ha, ra⟩ := py_all (xs (i + 1))
  have e1 : (py_o ((i : Int) + 1)).toNatClampNeg = i + 1 := by rw [py_nat (by omega)]; omega
  obtain ⟨s', t', r, o1, o2, o3⟩ := ph_callCollect h (by omega) ra
  unfold jL_law_709 eL_collect
  try simp only [py_O_ap, py_l0, py_l1, py_l2, py_l3, py_l4, py_l5, py_l6, py_l7, py_l8, py_l9, py_l12, py_l16, py_l32, py_l40, py_l100, py_l640, py_l1280, py_neg, py_add, py_sub, py_mul, py_stO]
  simp only [e1, ha, py_n0]
  refine py_and ?_
  rcases o3 with ⟨z1, z2⟩ | ⟨k, hk, z1, z3, z2⟩
  · refine z2 _ _ (py_and ?_)
    try simp only [py_O_ap, py_l0, py_l1, py_l2, py_l3, py_l4, py_l5, py_l6, py_l7, py_l8, py_l9, py_l12, py_l16, py_l32, py_l40, py_l100, py_l640, py_l1280, py_neg, py_add, py_sub, py_mul, py_stO]
    refine py_and ?_
    refine o2 _ ?_
    unfold eX5_thrown
    try simp only [py_O_ap, py_l0, py_l1, py_l2, py_l3, py_l4, py_l5, py_l6, py_l7, py_l8, py_l9, py_l12, py_l16, py_l32, py_l40, py_l100, py_l640, py_l1280, py_neg, py_add, py_sub, py_mul, py_stO]
    refine py_ieq (fun _ => ?_) (fun e => absurd z1 e)
    refine py_and ?_
    simp only [py_se, pl_cmp, if_true]
    exact hR _ _ o1.out
  · have hk3 : k = 0 ∨ k = 1 ∨ k = 2 := by omega
    rcases hk3 with e | e | e
    · subst e
      exact absurd z3.1 (by decide)
    · subst e
      exact absurd z3.1 (by decide)
    · subst e
      have z1 : t' 60 0 = 1 := z1
      refine z2 _ _ ?_
      simp only [if_true, if_false, Nat.reduceEqDiff, (show ¬ (1 = 0) by decide), (show ¬ (2 = 0) by decide), (show ¬ (2 = 1) by decide)]
      try simp only [py_O_ap, py_l0, py_l1, py_l2, py_l3, py_l4, py_l5, py_l6, py_l7, py_l8, py_l9, py_l12, py_l16, py_l32, py_l40, py_l100, py_l640, py_l1280, py_neg, py_add, py_sub, py_mul, py_stO]
      refine py_and ?_
      refine o2 _ ?_
      unfold eX5_thrown
      try simp only [py_O_ap, py_l0, py_l1, py_l2, py_l3, py_l4, py_l5, py_l6, py_l7, py_l8, py_l9, py_l12, py_l16, py_l32, py_l40, py_l100, py_l640, py_l1280, py_neg, py_add, py_sub, py_mul, py_stO]
      refine py_ieq (fun _ => ?_) (fun e => absurd z1 e)
      exact py_ieq (fun e => absurd e (by decide)) (fun _ => hR _ _ o1)
theorem pl_765 {xs : Nat → Int32} {L : Nat} {R : Int32 → ty_S → ty_S → Prop} {s t : py_Z} {n : Nat} {m : Int} (h : ph_R s t n m) (hn : n < 400) (hm : m < 90000) {i : Nat} (hi : i + 4 ≤ L) (hL : L ≤ 256) (hR : ∀ s' t' : py_Z, ph_R s' t' (n + 1) (m + 101) → R (py_o ((i : Int) + 4)) (py_O s') (py_O t')) : jL_law_765 xs L R (py_o i) (py_O s) (py_O t) := by
  obtain ⟨a, ha, ra⟩ := py_all (xs (i + 1))
  have e1 : (py_o ((i : Int) + 1)).toNatClampNeg = i + 1 := by rw [py_nat (by omega)]; omega
  obtain ⟨b, hb, rb⟩ := py_all (xs (i + 2))
  have e2 : (py_o ((i : Int) + 2)).toNatClampNeg = i + 2 := by rw [py_nat (by omega)]; omega
  obtain ⟨s', t', r, o1, o2, o3⟩ := ph_callThing h ra rb
  unfold jL_law_765 eL_thing
  try simp only [py_O_ap, py_l0, py_l1, py_l2, py_l3, py_l4, py_l5, py_l6, py_l7, py_l8, py_l9, py_l12, py_l16, py_l32, py_l40, py_l100, py_l640, py_l1280, py_neg, py_add, py_sub, py_mul, py_stO]
  simp only [e1, e2, ha, hb, py_n0]
  refine py_and (py_and ?_)
  rcases o3 with ⟨z1, z2⟩ | ⟨k, hk, z1, z3, z2⟩
  · refine z2 _ _ (py_and ?_)
    try simp only [py_O_ap, py_l0, py_l1, py_l2, py_l3, py_l4, py_l5, py_l6, py_l7, py_l8, py_l9, py_l12, py_l16, py_l32, py_l40, py_l100, py_l640, py_l1280, py_neg, py_add, py_sub, py_mul, py_stO]
    refine py_and (py_and ?_)
    refine o2 _ ?_
    unfold eX5_thrown
    try simp only [py_O_ap, py_l0, py_l1, py_l2, py_l3, py_l4, py_l5, py_l6, py_l7, py_l8, py_l9, py_l12, py_l16, py_l32, py_l40, py_l100, py_l640, py_l1280, py_neg, py_add, py_sub, py_mul, py_stO]
    refine py_ieq (fun _ => ?_) (fun e => absurd z1 e)
    refine py_and ?_
    simp only [py_se, pl_cmp, if_true]
    exact hR _ _ o1.out
  · have hk3 : k = 0 ∨ k = 1 ∨ k = 2 := by omega
    rcases hk3 with e | e | e
    · subst e
      have z1 : t' 60 0 = 1 := z1
      refine z2 _ _ ?_
      simp only [if_true, if_false, Nat.reduceEqDiff, (show ¬ (1 = 0) by decide), (show ¬ (2 = 0) by decide), (show ¬ (2 = 1) by decide)]
      try simp only [py_O_ap, py_l0, py_l1, py_l2, py_l3, py_l4, py_l5, py_l6, py_l7, py_l8, py_l9, py_l12, py_l16, py_l32, py_l40, py_l100, py_l640, py_l1280, py_neg, py_add, py_sub, py_mul, py_stO]
      refine py_and (py_and ?_)
      refine o2 _ ?_
      unfold eX5_thrown
      try simp only [py_O_ap, py_l0, py_l1, py_l2, py_l3, py_l4, py_l5, py_l6, py_l7, py_l8, py_l9, py_l12, py_l16, py_l32, py_l40, py_l100, py_l640, py_l1280, py_neg, py_add, py_sub, py_mul, py_stO]
      refine py_ieq (fun _ => ?_) (fun e => absurd z1 e)
      exact py_ieq (fun e => absurd e (by decide)) (fun _ => hR _ _ o1)
    · subst e
      have z1 : t' 60 0 = 2 := z1
      refine z2 _ _ ?_
      simp only [if_true, if_false, Nat.reduceEqDiff, (show ¬ (1 = 0) by decide), (show ¬ (2 = 0) by decide), (show ¬ (2 = 1) by decide)]
      try simp only [py_O_ap, py_l0, py_l1, py_l2, py_l3, py_l4, py_l5, py_l6, py_l7, py_l8, py_l9, py_l12, py_l16, py_l32, py_l40, py_l100, py_l640, py_l1280, py_neg, py_add, py_sub, py_mul, py_stO]
      refine py_and (py_and ?_)
      refine o2 _ ?_
      unfold eX5_thrown
      try simp only [py_O_ap, py_l0, py_l1, py_l2, py_l3, py_l4, py_l5, py_l6, py_l7, py_l8, py_l9, py_l12, py_l16, py_l32, py_l40, py_l100, py_l640, py_l1280, py_neg, py_add, py_sub, py_mul, py_stO]
      refine py_ieq (fun _ => ?_) (fun e => absurd z1 e)
      exact py_ieq (fun e => absurd e (by decide)) (fun _ => hR _ _ o1)
    · subst e
      exact absurd z3.1 (by decide)
theorem pl_833 {xs : Nat → Int32} {L : Nat} {R : Int32 → ty_S → ty_S → Prop} {s t : py_Z} {n : Nat} {m : Int} (h : ph_R s t n m) (hn : n < 400) (hm : m < 90000) {i : Nat} (hi : i + 4 ≤ L) (hL : L ≤ 256) (hR : ∀ s' t' : py_Z, ph_R s' t' (n + 1) (m + 101) → R (py_o ((i : Int) + 4)) (py_O s') (py_O t')) : jL_law_833 xs L R (py_o i) (py_O s) (py_O t) := by
  obtain ⟨a, ha, ra⟩ := py_all (xs (i + 1))
  have e1 : (py_o ((i : Int) + 1)).toNatClampNeg = i + 1 := by rw [py_nat (by omega)]; omega
  obtain ⟨b, hb, rb⟩ := py_all (xs (i + 2))
  have e2 : (py_o ((i : Int) + 2)).toNatClampNeg = i + 2 := by rw [py_nat (by omega)]; omega
  obtain ⟨s', t', r, o1, o2, o3⟩ := ph_callLabel h ra rb
  unfold jL_law_833 eL_label
  try simp only [py_O_ap, py_l0, py_l1, py_l2, py_l3, py_l4, py_l5, py_l6, py_l7, py_l8, py_l9, py_l12, py_l16, py_l32, py_l40, py_l100, py_l640, py_l1280, py_neg, py_add, py_sub, py_mul, py_stO]
  simp only [e1, e2, ha, hb, py_n0]
  refine py_and (py_and ?_)
  rcases o3 with ⟨z1, z2⟩ | ⟨k, hk, z1, z3, z2⟩
  · refine z2 _ _ (py_and ?_)
    try simp only [py_O_ap, py_l0, py_l1, py_l2, py_l3, py_l4, py_l5, py_l6, py_l7, py_l8, py_l9, py_l12, py_l16, py_l32, py_l40, py_l100, py_l640, py_l1280, py_neg, py_add, py_sub, py_mul, py_stO]
    refine py_and (py_and ?_)
    refine o2 _ ?_
    unfold eX5_thrown
    try simp only [py_O_ap, py_l0, py_l1, py_l2, py_l3, py_l4, py_l5, py_l6, py_l7, py_l8, py_l9, py_l12, py_l16, py_l32, py_l40, py_l100, py_l640, py_l1280, py_neg, py_add, py_sub, py_mul, py_stO]
    refine py_ieq (fun _ => ?_) (fun e => absurd z1 e)
    refine py_and ?_
    simp only [py_se, pl_cmp, if_true]
    exact hR _ _ o1.out
  · have hk3 : k = 0 ∨ k = 1 ∨ k = 2 := by omega
    rcases hk3 with e | e | e
    · subst e
      have z1 : t' 60 0 = 1 := z1
      refine z2 _ _ ?_
      simp only [if_true, if_false, Nat.reduceEqDiff, (show ¬ (1 = 0) by decide), (show ¬ (2 = 0) by decide), (show ¬ (2 = 1) by decide)]
      try simp only [py_O_ap, py_l0, py_l1, py_l2, py_l3, py_l4, py_l5, py_l6, py_l7, py_l8, py_l9, py_l12, py_l16, py_l32, py_l40, py_l100, py_l640, py_l1280, py_neg, py_add, py_sub, py_mul, py_stO]
      refine py_and (py_and ?_)
      refine o2 _ ?_
      unfold eX5_thrown
      try simp only [py_O_ap, py_l0, py_l1, py_l2, py_l3, py_l4, py_l5, py_l6, py_l7, py_l8, py_l9, py_l12, py_l16, py_l32, py_l40, py_l100, py_l640, py_l1280, py_neg, py_add, py_sub, py_mul, py_stO]
      refine py_ieq (fun _ => ?_) (fun e => absurd z1 e)
      exact py_ieq (fun e => absurd e (by decide)) (fun _ => hR _ _ o1)
    · subst e
      have z1 : t' 60 0 = 2 := z1
      refine z2 _ _ ?_
      simp only [if_true, if_false, Nat.reduceEqDiff, (show ¬ (1 = 0) by decide), (show ¬ (2 = 0) by decide), (show ¬ (2 = 1) by decide)]
      try simp only [py_O_ap, py_l0, py_l1, py_l2, py_l3, py_l4, py_l5, py_l6, py_l7, py_l8, py_l9, py_l12, py_l16, py_l32, py_l40, py_l100, py_l640, py_l1280, py_neg, py_add, py_sub, py_mul, py_stO]
      refine py_and (py_and ?_)
      refine o2 _ ?_
      unfold eX5_thrown
      try simp only [py_O_ap, py_l0, py_l1, py_l2, py_l3, py_l4, py_l5, py_l6, py_l7, py_l8, py_l9, py_l12, py_l16, py_l32, py_l40, py_l100, py_l640, py_l1280, py_neg, py_add, py_sub, py_mul, py_stO]
      refine py_ieq (fun _ => ?_) (fun e => absurd z1 e)
      exact py_ieq (fun e => absurd e (by decide)) (fun _ => hR _ _ o1)
    · subst e
      have z1 : t' 60 0 = 3 := z1
      refine z2 _ _ ?_
      simp only [if_true, if_false, Nat.reduceEqDiff, (show ¬ (1 = 0) by decide), (show ¬ (2 = 0) by decide), (show ¬ (2 = 1) by decide)]
      try simp only [py_O_ap, py_l0, py_l1, py_l2, py_l3, py_l4, py_l5, py_l6, py_l7, py_l8, py_l9, py_l12, py_l16, py_l32, py_l40, py_l100, py_l640, py_l1280, py_neg, py_add, py_sub, py_mul, py_stO]
      refine py_and (py_and ?_)
      refine o2 _ ?_
      unfold eX5_thrown
      try simp only [py_O_ap, py_l0, py_l1, py_l2, py_l3, py_l4, py_l5, py_l6, py_l7, py_l8, py_l9, py_l12, py_l16, py_l32, py_l40, py_l100, py_l640, py_l1280, py_neg, py_add, py_sub, py_mul, py_stO]
      refine py_ieq (fun _ => ?_) (fun e => absurd z1 e)
      exact py_ieq (fun e => absurd e (by decide)) (fun _ => hR _ _ o1)
theorem pl_901 {xs : Nat → Int32} {L : Nat} {R : Int32 → ty_S → ty_S → Prop} {s t : py_Z} {n : Nat} {m : Int} (h : ph_R s t n m) (hn : n < 400) (hm : m < 90000) {i : Nat} (hi : i + 4 ≤ L) (hL : L ≤ 256) (hR : ∀ s' t' : py_Z, ph_R s' t' (n + 1) (m + 101) → R (py_o ((i : Int) + 4)) (py_O s') (py_O t')) : jL_law_901 xs L R (py_o i) (py_O s) (py_O t) := by
  obtain ⟨a, ha, ra⟩ := py_all (xs (i + 1))
  have e1 : (py_o ((i : Int) + 1)).toNatClampNeg = i + 1 := by rw [py_nat (by omega)]; omega
  obtain ⟨b, hb, rb⟩ := py_all (xs (i + 2))
  have e2 : (py_o ((i : Int) + 2)).toNatClampNeg = i + 2 := by rw [py_nat (by omega)]; omega
  obtain ⟨s', t', r, o1, o2, o3⟩ := ph_callTrain h ra rb
  unfold jL_law_901 eL_train
  try simp only [py_O_ap, py_l0, py_l1, py_l2, py_l3, py_l4, py_l5, py_l6, py_l7, py_l8, py_l9, py_l12, py_l16, py_l32, py_l40, py_l100, py_l640, py_l1280, py_neg, py_add, py_sub, py_mul, py_stO]
  simp only [e1, e2, ha, hb, py_n0]
  refine py_and (py_and ?_)
  rcases o3 with ⟨z1, z2⟩ | ⟨k, hk, z1, z3, z2⟩
  · refine z2 _ _ (py_and ?_)
    try simp only [py_O_ap, py_l0, py_l1, py_l2, py_l3, py_l4, py_l5, py_l6, py_l7, py_l8, py_l9, py_l12, py_l16, py_l32, py_l40, py_l100, py_l640, py_l1280, py_neg, py_add, py_sub, py_mul, py_stO]
    refine py_and (py_and ?_)
    refine o2 _ ?_
    unfold eX5_thrown
    try simp only [py_O_ap, py_l0, py_l1, py_l2, py_l3, py_l4, py_l5, py_l6, py_l7, py_l8, py_l9, py_l12, py_l16, py_l32, py_l40, py_l100, py_l640, py_l1280, py_neg, py_add, py_sub, py_mul, py_stO]
    refine py_ieq (fun _ => ?_) (fun e => absurd z1 e)
    refine py_and ?_
    simp only [py_se, pl_cmp, if_true]
    exact hR _ _ o1.out
  · have hk3 : k = 0 ∨ k = 1 ∨ k = 2 := by omega
    rcases hk3 with e | e | e
    · subst e
      have z1 : t' 60 0 = 1 := z1
      refine z2 _ _ ?_
      simp only [if_true, if_false, Nat.reduceEqDiff, (show ¬ (1 = 0) by decide), (show ¬ (2 = 0) by decide), (show ¬ (2 = 1) by decide)]
      try simp only [py_O_ap, py_l0, py_l1, py_l2, py_l3, py_l4, py_l5, py_l6, py_l7, py_l8, py_l9, py_l12, py_l16, py_l32, py_l40, py_l100, py_l640, py_l1280, py_neg, py_add, py_sub, py_mul, py_stO]
      refine py_and (py_and ?_)
      refine o2 _ ?_
      unfold eX5_thrown
      try simp only [py_O_ap, py_l0, py_l1, py_l2, py_l3, py_l4, py_l5, py_l6, py_l7, py_l8, py_l9, py_l12, py_l16, py_l32, py_l40, py_l100, py_l640, py_l1280, py_neg, py_add, py_sub, py_mul, py_stO]
      refine py_ieq (fun _ => ?_) (fun e => absurd z1 e)
      exact py_ieq (fun e => absurd e (by decide)) (fun _ => hR _ _ o1)
    · subst e
      exact absurd z3.1 (by decide)
    · subst e
      exact absurd z3.1 (by decide)
theorem pl_969 {xs : Nat → Int32} {L : Nat} {R : Int32 → ty_S → ty_S → Prop} {s t : py_Z} {n : Nat} {m : Int} (h : ph_R s t n m) (hn : n < 400) (hm : m < 90000) {i : Nat} (hi : i + 4 ≤ L) (hL : L ≤ 256) (hR : ∀ s' t' : py_Z, ph_R s' t' (n + 1) (m + 101) → R (py_o ((i : Int) + 4)) (py_O s') (py_O t')) : jL_law_969 xs L R (py_o i) (py_O s) (py_O t) := by
  obtain ⟨a, ha, ra⟩ := py_all (xs (i + 1))
  have e1 : (py_o ((i : Int) + 1)).toNatClampNeg = i + 1 := by rw [py_nat (by omega)]; omega
  obtain ⟨b, hb, rb⟩ := py_all (xs (i + 2))
  have e2 : (py_o ((i : Int) + 2)).toNatClampNeg = i + 2 := by rw [py_nat (by omega)]; omega
  obtain ⟨s', t', r, o1, o2, o3⟩ := ph_callCar h ra rb
  unfold jL_law_969 eL_car
  try simp only [py_O_ap, py_l0, py_l1, py_l2, py_l3, py_l4, py_l5, py_l6, py_l7, py_l8, py_l9, py_l12, py_l16, py_l32, py_l40, py_l100, py_l640, py_l1280, py_neg, py_add, py_sub, py_mul, py_stO]
  simp only [e1, e2, ha, hb, py_n0]
  refine py_and (py_and ?_)
  rcases o3 with ⟨z1, z2⟩ | ⟨k, hk, z1, z3, z2⟩
  · refine z2 _ _ (py_and ?_)
    try simp only [py_O_ap, py_l0, py_l1, py_l2, py_l3, py_l4, py_l5, py_l6, py_l7, py_l8, py_l9, py_l12, py_l16, py_l32, py_l40, py_l100, py_l640, py_l1280, py_neg, py_add, py_sub, py_mul, py_stO]
    refine py_and (py_and ?_)
    refine o2 _ ?_
    unfold eX5_thrown
    try simp only [py_O_ap, py_l0, py_l1, py_l2, py_l3, py_l4, py_l5, py_l6, py_l7, py_l8, py_l9, py_l12, py_l16, py_l32, py_l40, py_l100, py_l640, py_l1280, py_neg, py_add, py_sub, py_mul, py_stO]
    refine py_ieq (fun _ => ?_) (fun e => absurd z1 e)
    refine py_and ?_
    simp only [py_se, pl_cmp, if_true]
    exact hR _ _ o1.out
  · have hk3 : k = 0 ∨ k = 1 ∨ k = 2 := by omega
    rcases hk3 with e | e | e
    · subst e
      have z1 : t' 60 0 = 1 := z1
      refine z2 _ _ ?_
      simp only [if_true, if_false, Nat.reduceEqDiff, (show ¬ (1 = 0) by decide), (show ¬ (2 = 0) by decide), (show ¬ (2 = 1) by decide)]
      try simp only [py_O_ap, py_l0, py_l1, py_l2, py_l3, py_l4, py_l5, py_l6, py_l7, py_l8, py_l9, py_l12, py_l16, py_l32, py_l40, py_l100, py_l640, py_l1280, py_neg, py_add, py_sub, py_mul, py_stO]
      refine py_and (py_and ?_)
      refine o2 _ ?_
      unfold eX5_thrown
      try simp only [py_O_ap, py_l0, py_l1, py_l2, py_l3, py_l4, py_l5, py_l6, py_l7, py_l8, py_l9, py_l12, py_l16, py_l32, py_l40, py_l100, py_l640, py_l1280, py_neg, py_add, py_sub, py_mul, py_stO]
      refine py_ieq (fun _ => ?_) (fun e => absurd z1 e)
      exact py_ieq (fun e => absurd e (by decide)) (fun _ => hR _ _ o1)
    · subst e
      exact absurd z3.1 (by decide)
    · subst e
      exact absurd z3.1 (by decide)
theorem pl_1037 {xs : Nat → Int32} {L : Nat} {R : Int32 → ty_S → ty_S → Prop} {s t : py_Z} {n : Nat} {m : Int} (h : ph_R s t n m) (hn : n < 400) (hm : m < 90000) {i : Nat} (hi : i + 4 ≤ L) (hL : L ≤ 256) (hR : ∀ s' t' : py_Z, ph_R s' t' (n + 1) (m + 101) → R (py_o ((i : Int) + 4)) (py_O s') (py_O t')) : jL_law_1037 xs L R (py_o i) (py_O s) (py_O t) := by
  obtain ⟨a, ha, ra⟩ := py_all (xs (i + 1))
  have e1 : (py_o ((i : Int) + 1)).toNatClampNeg = i + 1 := by rw [py_nat (by omega)]; omega
  obtain ⟨b, hb, rb⟩ := py_all (xs (i + 2))
  have e2 : (py_o ((i : Int) + 2)).toNatClampNeg = i + 2 := by rw [py_nat (by omega)]; omega
  obtain ⟨s', t', r, o1, o2, o3⟩ := ph_callAbout h ra rb
  unfold jL_law_1037 eL_about
  try simp only [py_O_ap, py_l0, py_l1, py_l2, py_l3, py_l4, py_l5, py_l6, py_l7, py_l8, py_l9, py_l12, py_l16, py_l32, py_l40, py_l100, py_l640, py_l1280, py_neg, py_add, py_sub, py_mul, py_stO]
  simp only [e1, e2, ha, hb, py_n0]
  refine py_and (py_and ?_)
  rcases o3 with ⟨z1, z2⟩ | ⟨k, hk, z1, z3, z2⟩
  · refine z2 _ _ (py_and ?_)
    try simp only [py_O_ap, py_l0, py_l1, py_l2, py_l3, py_l4, py_l5, py_l6, py_l7, py_l8, py_l9, py_l12, py_l16, py_l32, py_l40, py_l100, py_l640, py_l1280, py_neg, py_add, py_sub, py_mul, py_stO]
    refine py_and (py_and ?_)
    refine o2 _ ?_
    unfold eX5_thrown
    try simp only [py_O_ap, py_l0, py_l1, py_l2, py_l3, py_l4, py_l5, py_l6, py_l7, py_l8, py_l9, py_l12, py_l16, py_l32, py_l40, py_l100, py_l640, py_l1280, py_neg, py_add, py_sub, py_mul, py_stO]
    refine py_ieq (fun _ => ?_) (fun e => absurd z1 e)
    refine py_and ?_
    simp only [py_se, pl_cmp, if_true]
    exact hR _ _ o1.out
  · have hk3 : k = 0 ∨ k = 1 ∨ k = 2 := by omega
    rcases hk3 with e | e | e
    · subst e
      have z1 : t' 60 0 = 1 := z1
      refine z2 _ _ ?_
      simp only [if_true, if_false, Nat.reduceEqDiff, (show ¬ (1 = 0) by decide), (show ¬ (2 = 0) by decide), (show ¬ (2 = 1) by decide)]
      try simp only [py_O_ap, py_l0, py_l1, py_l2, py_l3, py_l4, py_l5, py_l6, py_l7, py_l8, py_l9, py_l12, py_l16, py_l32, py_l40, py_l100, py_l640, py_l1280, py_neg, py_add, py_sub, py_mul, py_stO]
      refine py_and (py_and ?_)
      refine o2 _ ?_
      unfold eX5_thrown
      try simp only [py_O_ap, py_l0, py_l1, py_l2, py_l3, py_l4, py_l5, py_l6, py_l7, py_l8, py_l9, py_l12, py_l16, py_l32, py_l40, py_l100, py_l640, py_l1280, py_neg, py_add, py_sub, py_mul, py_stO]
      refine py_ieq (fun _ => ?_) (fun e => absurd z1 e)
      exact py_ieq (fun e => absurd e (by decide)) (fun _ => hR _ _ o1)
    · subst e
      exact absurd z3.1 (by decide)
    · subst e
      exact absurd z3.1 (by decide)
theorem pl_1105 {xs : Nat → Int32} {L : Nat} {R : Int32 → ty_S → ty_S → Prop} {s t : py_Z} {n : Nat} {m : Int} (h : ph_R s t n m) (hn : n < 400) (hm : m < 90000) {i : Nat} (hi : i + 4 ≤ L) (hL : L ≤ 256) (hR : ∀ s' t' : py_Z, ph_R s' t' (n + 1) (m + 101) → R (py_o ((i : Int) + 4)) (py_O s') (py_O t')) : jL_law_1105 xs L R (py_o i) (py_O s) (py_O t) := by
  obtain ⟨a, ha, ra⟩ := py_all (xs (i + 1))
  have e1 : (py_o ((i : Int) + 1)).toNatClampNeg = i + 1 := by rw [py_nat (by omega)]; omega
  obtain ⟨b, hb, rb⟩ := py_all (xs (i + 2))
  have e2 : (py_o ((i : Int) + 2)).toNatClampNeg = i + 2 := by rw [py_nat (by omega)]; omega
  obtain ⟨s', t', r, o1, o2, o3⟩ := ph_callRemembered h ra rb
  unfold jL_law_1105 eL_remembered
  try simp only [py_O_ap, py_l0, py_l1, py_l2, py_l3, py_l4, py_l5, py_l6, py_l7, py_l8, py_l9, py_l12, py_l16, py_l32, py_l40, py_l100, py_l640, py_l1280, py_neg, py_add, py_sub, py_mul, py_stO]
  simp only [e1, e2, ha, hb, py_n0]
  refine py_and (py_and ?_)
  rcases o3 with ⟨z1, z2⟩ | ⟨k, hk, z1, z3, z2⟩
  · refine z2 _ _ (py_and ?_)
    try simp only [py_O_ap, py_l0, py_l1, py_l2, py_l3, py_l4, py_l5, py_l6, py_l7, py_l8, py_l9, py_l12, py_l16, py_l32, py_l40, py_l100, py_l640, py_l1280, py_neg, py_add, py_sub, py_mul, py_stO]
    refine py_and (py_and ?_)
    refine o2 _ ?_
    unfold eX5_thrown
    try simp only [py_O_ap, py_l0, py_l1, py_l2, py_l3, py_l4, py_l5, py_l6, py_l7, py_l8, py_l9, py_l12, py_l16, py_l32, py_l40, py_l100, py_l640, py_l1280, py_neg, py_add, py_sub, py_mul, py_stO]
    refine py_ieq (fun _ => ?_) (fun e => absurd z1 e)
    refine py_and ?_
    simp only [py_se, pl_cmp, if_true]
    exact hR _ _ o1.out
  · have hk3 : k = 0 ∨ k = 1 ∨ k = 2 := by omega
    rcases hk3 with e | e | e
    · subst e
      have z1 : t' 60 0 = 1 := z1
      refine z2 _ _ ?_
      simp only [if_true, if_false, Nat.reduceEqDiff, (show ¬ (1 = 0) by decide), (show ¬ (2 = 0) by decide), (show ¬ (2 = 1) by decide)]
      try simp only [py_O_ap, py_l0, py_l1, py_l2, py_l3, py_l4, py_l5, py_l6, py_l7, py_l8, py_l9, py_l12, py_l16, py_l32, py_l40, py_l100, py_l640, py_l1280, py_neg, py_add, py_sub, py_mul, py_stO]
      refine py_and (py_and ?_)
      refine o2 _ ?_
      unfold eX5_thrown
      try simp only [py_O_ap, py_l0, py_l1, py_l2, py_l3, py_l4, py_l5, py_l6, py_l7, py_l8, py_l9, py_l12, py_l16, py_l32, py_l40, py_l100, py_l640, py_l1280, py_neg, py_add, py_sub, py_mul, py_stO]
      refine py_ieq (fun _ => ?_) (fun e => absurd z1 e)
      exact py_ieq (fun e => absurd e (by decide)) (fun _ => hR _ _ o1)
    · subst e
      exact absurd z3.1 (by decide)
    · subst e
      exact absurd z3.1 (by decide)
theorem pl_1173 {xs : Nat → Int32} {L : Nat} {R : Int32 → ty_S → ty_S → Prop} {s t : py_Z} {n : Nat} {m : Int} (h : ph_R s t n m) (hn : n < 400) (hm : m < 90000) {i : Nat} (hi : i + 4 ≤ L) (hL : L ≤ 256) (hR : ∀ s' t' : py_Z, ph_R s' t' (n + 1) (m + 101) → R (py_o ((i : Int) + 4)) (py_O s') (py_O t')) : jL_law_1173 xs L R (py_o i) (py_O s) (py_O t) := by
  obtain ⟨a, ha, ra⟩ := py_all (xs (i + 1))
  have e1 : (py_o ((i : Int) + 1)).toNatClampNeg = i + 1 := by rw [py_nat (by omega)]; omega
  obtain ⟨s', t', r, o1, o2, o3⟩ := ph_callWord h ra
  unfold jL_law_1173 eL_word
  try simp only [py_O_ap, py_l0, py_l1, py_l2, py_l3, py_l4, py_l5, py_l6, py_l7, py_l8, py_l9, py_l12, py_l16, py_l32, py_l40, py_l100, py_l640, py_l1280, py_neg, py_add, py_sub, py_mul, py_stO]
  simp only [e1, ha, py_n0]
  refine py_and ?_
  rcases o3 with ⟨z1, z2⟩ | ⟨k, hk, z1, z3, z2⟩
  · refine z2 _ _ (py_and ?_)
    try simp only [py_O_ap, py_l0, py_l1, py_l2, py_l3, py_l4, py_l5, py_l6, py_l7, py_l8, py_l9, py_l12, py_l16, py_l32, py_l40, py_l100, py_l640, py_l1280, py_neg, py_add, py_sub, py_mul, py_stO]
    refine py_and ?_
    refine o2 _ ?_
    unfold eX5_thrown
    try simp only [py_O_ap, py_l0, py_l1, py_l2, py_l3, py_l4, py_l5, py_l6, py_l7, py_l8, py_l9, py_l12, py_l16, py_l32, py_l40, py_l100, py_l640, py_l1280, py_neg, py_add, py_sub, py_mul, py_stO]
    refine py_ieq (fun _ => ?_) (fun e => absurd z1 e)
    refine py_and ?_
    simp only [py_se, pl_cmp, if_true]
    exact hR _ _ o1.out
  · have hk3 : k = 0 ∨ k = 1 ∨ k = 2 := by omega
    rcases hk3 with e | e | e
    · subst e
      have z1 : t' 60 0 = 1 := z1
      refine z2 _ _ ?_
      simp only [if_true, if_false, Nat.reduceEqDiff, (show ¬ (1 = 0) by decide), (show ¬ (2 = 0) by decide), (show ¬ (2 = 1) by decide)]
      try simp only [py_O_ap, py_l0, py_l1, py_l2, py_l3, py_l4, py_l5, py_l6, py_l7, py_l8, py_l9, py_l12, py_l16, py_l32, py_l40, py_l100, py_l640, py_l1280, py_neg, py_add, py_sub, py_mul, py_stO]
      refine py_and ?_
      refine o2 _ ?_
      unfold eX5_thrown
      try simp only [py_O_ap, py_l0, py_l1, py_l2, py_l3, py_l4, py_l5, py_l6, py_l7, py_l8, py_l9, py_l12, py_l16, py_l32, py_l40, py_l100, py_l640, py_l1280, py_neg, py_add, py_sub, py_mul, py_stO]
      refine py_ieq (fun _ => ?_) (fun e => absurd z1 e)
      exact py_ieq (fun e => absurd e (by decide)) (fun _ => hR _ _ o1)
    · subst e
      exact absurd z3.1 (by decide)
    · subst e
      exact absurd z3.1 (by decide)
theorem pl_1229 {xs : Nat → Int32} {L : Nat} {R : Int32 → ty_S → ty_S → Prop} {s t : py_Z} {n : Nat} {m : Int} (h : ph_R s t n m) (hn : n < 400) (hm : m < 90000) {i : Nat} (hi : i + 4 ≤ L) (hL : L ≤ 256) (hR : ∀ s' t' : py_Z, ph_R s' t' (n + 1) (m + 101) → R (py_o ((i : Int) + 4)) (py_O s') (py_O t')) : jL_law_1229 xs L R (py_o i) (py_O s) (py_O t) := by
  obtain ⟨s', t', r, o1, o2, o3⟩ := ph_callReached h (by omega)
  unfold jL_law_1229
  refine o1 _ ?_
  refine o2 _ ?_
  rw [if_pos rfl, py_l4, py_add]
  exact hR _ _ o3
theorem pl_1242 {xs : Nat → Int32} {L : Nat} {R : Int32 → ty_S → ty_S → Prop} {s t : py_Z} {n : Nat} {m : Int} (h : ph_R s t n m) (hn : n < 400) (hm : m < 90000) {i : Nat} (hi : i + 4 ≤ L) (hL : L ≤ 256) (hR : ∀ s' t' : py_Z, ph_R s' t' (n + 1) (m + 101) → R (py_o ((i : Int) + 4)) (py_O s') (py_O t')) : jL_law_1242 xs L R (py_o i) (py_O s) (py_O t) := by
  obtain ⟨a, ha, ra⟩ := py_all (xs (i + 1))
  have e1 : (py_o ((i : Int) + 1)).toNatClampNeg = i + 1 := by rw [py_nat (by omega)]; omega
  obtain ⟨s', t', r, o1, o2, o3⟩ := ph_callTold h ra
  unfold jL_law_1242 eL_told
  try simp only [py_O_ap, py_l0, py_l1, py_l2, py_l3, py_l4, py_l5, py_l6, py_l7, py_l8, py_l9, py_l12, py_l16, py_l32, py_l40, py_l100, py_l640, py_l1280, py_neg, py_add, py_sub, py_mul, py_stO]
  simp only [e1, ha, py_n0]
  refine py_and ?_
  rcases o3 with ⟨z1, z2⟩ | ⟨k, hk, z1, z3, z2⟩
  · refine z2 _ _ (py_and ?_)
    try simp only [py_O_ap, py_l0, py_l1, py_l2, py_l3, py_l4, py_l5, py_l6, py_l7, py_l8, py_l9, py_l12, py_l16, py_l32, py_l40, py_l100, py_l640, py_l1280, py_neg, py_add, py_sub, py_mul, py_stO]
    refine py_and ?_
    refine o2 _ ?_
    unfold eX5_thrown
    try simp only [py_O_ap, py_l0, py_l1, py_l2, py_l3, py_l4, py_l5, py_l6, py_l7, py_l8, py_l9, py_l12, py_l16, py_l32, py_l40, py_l100, py_l640, py_l1280, py_neg, py_add, py_sub, py_mul, py_stO]
    refine py_ieq (fun _ => ?_) (fun e => absurd z1 e)
    refine py_and ?_
    simp only [py_se, pl_cmp, if_true]
    exact hR _ _ o1.out
  · have hk3 : k = 0 ∨ k = 1 ∨ k = 2 := by omega
    rcases hk3 with e | e | e
    · subst e
      have z1 : t' 60 0 = 1 := z1
      refine z2 _ _ ?_
      simp only [if_true, if_false, Nat.reduceEqDiff, (show ¬ (1 = 0) by decide), (show ¬ (2 = 0) by decide), (show ¬ (2 = 1) by decide)]
      try simp only [py_O_ap, py_l0, py_l1, py_l2, py_l3, py_l4, py_l5, py_l6, py_l7, py_l8, py_l9, py_l12, py_l16, py_l32, py_l40, py_l100, py_l640, py_l1280, py_neg, py_add, py_sub, py_mul, py_stO]
      refine py_and ?_
      refine o2 _ ?_
      unfold eX5_thrown
      try simp only [py_O_ap, py_l0, py_l1, py_l2, py_l3, py_l4, py_l5, py_l6, py_l7, py_l8, py_l9, py_l12, py_l16, py_l32, py_l40, py_l100, py_l640, py_l1280, py_neg, py_add, py_sub, py_mul, py_stO]
      refine py_ieq (fun _ => ?_) (fun e => absurd z1 e)
      exact py_ieq (fun e => absurd e (by decide)) (fun _ => hR _ _ o1)
    · subst e
      exact absurd z3.1 (by decide)
    · subst e
      exact absurd z3.1 (by decide)
theorem pl_ite {c : Prop} [Decidable c] {A B : Prop} (hA : A) (hB : B) : if c then A else B := by split <;> assumption
theorem pl_nat {L : Nat} : Int32.ofNat L = py_o L := by
  apply Int32.toBitVec_inj.mp
  simp [py_o]
theorem pl_law {xs : Nat → Int32} {L : Nat} (hL : L ≤ 256) : ∀ (f n : Nat) (s t : py_Z), n + f = 66 → ph_R s t n (101 * n) → n ≤ 65 → lL_law xs L f (py_o ((4 * n : Nat) : Int)) (py_O s) (py_O t) := by
  intro f
  induction f with
  | zero => intro n s t hf h hn; omega
  | succ f ih =>
    intro n s t hf h hn
    show jL_law_23 xs L (fun a S9 T9 => lL_law xs L f a S9 T9) (py_o ((4 * n : Nat) : Int)) (py_O s) (py_O t)
    unfold jL_law_23
    rw [pl_nat, py_l4, py_sub]
    refine py_ilt (fun _ => True.intro) (fun c => py_and ?_)
    have hi : 4 * n + 4 ≤ L := by omega
    have hR : ∀ s' t' : py_Z, ph_R s' t' (n + 1) (101 * n + 101) → lL_law xs L f (py_o (((4 * n : Nat) : Int) + 4)) (py_O s') (py_O t') := fun s' t' h' => by
      have := ih (n + 1) s' t' (by omega) (h'.mono (Nat.le_refl _) (by omega)) (by omega)
      rw [show ((4 * (n + 1) : Nat) : Int) = ((4 * n : Nat) : Int) + 4 by omega] at this
      exact this
    refine pl_ite (pl_128 (R := fun a S9 T9 => lL_law xs L f a S9 T9) h (by omega) (by omega) hi hL hR) ?_
    refine pl_ite (pl_184 (R := fun a S9 T9 => lL_law xs L f a S9 T9) h (by omega) (by omega) hi hL hR) ?_
    refine pl_ite (pl_264 (R := fun a S9 T9 => lL_law xs L f a S9 T9) h (by omega) (by omega) hi hL hR) ?_
    refine pl_ite (pl_332 (R := fun a S9 T9 => lL_law xs L f a S9 T9) h (by omega) (by omega) hi hL hR) ?_
    refine pl_ite (pl_388 (R := fun a S9 T9 => lL_law xs L f a S9 T9) h (by omega) (by omega) hi hL hR) ?_
    refine pl_ite (pl_468 (R := fun a S9 T9 => lL_law xs L f a S9 T9) h (by omega) (by omega) hi hL hR) ?_
    refine pl_ite (pl_548 (R := fun a S9 T9 => lL_law xs L f a S9 T9) h (by omega) (by omega) hi hL hR) ?_
    refine pl_ite (pl_628 (R := fun a S9 T9 => lL_law xs L f a S9 T9) h (by omega) (by omega) hi hL hR) ?_
    refine pl_ite (pl_696 (R := fun a S9 T9 => lL_law xs L f a S9 T9) h (by omega) (by omega) hi hL hR) ?_
    refine pl_ite (pl_709 (R := fun a S9 T9 => lL_law xs L f a S9 T9) h (by omega) (by omega) hi hL hR) ?_
    refine pl_ite (pl_765 (R := fun a S9 T9 => lL_law xs L f a S9 T9) h (by omega) (by omega) hi hL hR) ?_
    refine pl_ite (pl_833 (R := fun a S9 T9 => lL_law xs L f a S9 T9) h (by omega) (by omega) hi hL hR) ?_
    refine pl_ite (pl_901 (R := fun a S9 T9 => lL_law xs L f a S9 T9) h (by omega) (by omega) hi hL hR) ?_
    refine pl_ite (pl_969 (R := fun a S9 T9 => lL_law xs L f a S9 T9) h (by omega) (by omega) hi hL hR) ?_
    refine pl_ite (pl_1037 (R := fun a S9 T9 => lL_law xs L f a S9 T9) h (by omega) (by omega) hi hL hR) ?_
    refine pl_ite (pl_1105 (R := fun a S9 T9 => lL_law xs L f a S9 T9) h (by omega) (by omega) hi hL hR) ?_
    refine pl_ite (pl_1173 (R := fun a S9 T9 => lL_law xs L f a S9 T9) h (by omega) (by omega) hi hL hR) ?_
    refine pl_ite (pl_1229 (R := fun a S9 T9 => lL_law xs L f a S9 T9) h (by omega) (by omega) hi hL hR) ?_
    refine pl_ite (pl_1242 (R := fun a S9 T9 => lL_law xs L f a S9 T9) h (by omega) (by omega) hi hL hR) ?_
    rw [py_add]
    exact hR s t (h.mono (by omega) (by omega))
/-- the class at first, the reference at first -/
def pl_s0 : py_Z := fun f i => if f = 7 then (if i < 16 then -1 else 0) else if f = 20 then -1 else if f = 23 then 4 else 0
def pl_t0 : py_Z := fun f i => if f = 43 then (if i < 16 then -1 else 0) else if f = 51 then 4 else if f = 59 then -1 else 0
theorem pl_start : ph_R pl_s0 pl_t0 0 0 := by
  have z : ∀ f i, f ≠ 7 → f ≠ 20 → f ≠ 23 → pl_s0 f i = 0 := fun f i a b c => by simp [pl_s0, a, b, c]
  have w : ∀ f i, f ≠ 43 → f ≠ 51 → f ≠ 59 → pl_t0 f i = 0 := fun f i a b c => by simp [pl_t0, a, b, c]
  have w38 : ∀ c, pl_t0 38 c = 0 := fun c => w 38 c (by decide) (by decide) (by decide)
  have w50 : pl_t0 50 0 = 0 := w 50 0 (by decide) (by decide) (by decide)
  refine ⟨⟨by omega, fun j hj => by omega, ?_, fun j k hj hk => by omega, fun j hj => by omega, fun i j _ hj => by omega, ?_, fun c hc h => absurd (z 6 c (by decide) (by decide) (by decide)) h, fun a b _ hb => ?_, ?_⟩, ⟨fun c hc => ?_, fun c k hc hk => ?_, fun p hp => Or.inl (z 1 p (by decide) (by decide) (by decide))⟩, ⟨?_, fun x hx => ?_, fun x hx hl => ?_, fun c k hc _ hk => ?_, fun r hr => ?_, fun x hx hl => ?_⟩, fun r hr => ?_, ?_, ?_, ?_, ?_, ?_, ?_⟩
  · rw [w50, z 13 0 (by decide) (by decide) (by decide)]; exact ⟨rfl, by omega⟩
  · rw [z 14 0 (by decide) (by decide) (by decide), w 57 0 (by decide) (by decide) (by decide)]; omega
  · rw [z 13 0 (by decide) (by decide) (by decide)] at hb; omega
  · rw [z 13 0 (by decide) (by decide) (by decide), py_cnt_none (fun k _ => by rw [z 6 k (by decide) (by decide) (by decide)]; decide)]; rfl
  · refine ⟨by rw [z 3 c (by decide) (by decide) (by decide), w38], by rw [z 2 c (by decide) (by decide) (by decide), w 37 c (by decide) (by decide) (by decide)], by rw [w38]; omega, by rw [w38, w 37 c (by decide) (by decide) (by decide)]; rfl, by rw [w 37 c (by decide) (by decide) (by decide)]; omega, fun _ => w38 c, fun h => by rw [w38] at h; omega, fun q _ _ => z 0 _ (by decide) (by decide) (by decide)⟩
  · rw [w38] at hk; omega
  · rw [w 58 0 (by decide) (by decide) (by decide)]; omega
  · rw [w 30 x (by decide) (by decide) (by decide), w 58 0 (by decide) (by decide) (by decide)]; exact ⟨by omega, by omega, fun _ => rfl⟩
  · rw [w 30 x (by decide) (by decide) (by decide)] at hl; omega
  · rw [w38] at hk; omega
  · exact Or.inl (by simp [pl_t0, hr])
  · rw [w 30 x (by decide) (by decide) (by decide)] at hl; omega
  · have e1 : pl_s0 7 r = -1 := by simp [pl_s0, hr]
    have e2 : pl_t0 43 r = -1 := by simp [pl_t0, hr]
    rw [e1, e2]; rfl
  · exact ⟨by simp [pl_s0], by simp [pl_t0]⟩
  · rw [z 15 0 (by decide) (by decide) (by decide), z 16 0 (by decide) (by decide) (by decide), z 17 0 (by decide) (by decide) (by decide), z 18 0 (by decide) (by decide) (by decide), z 19 0 (by decide) (by decide) (by decide), w 52 0 (by decide) (by decide) (by decide), w 53 0 (by decide) (by decide) (by decide), w 54 0 (by decide) (by decide) (by decide), w 55 0 (by decide) (by decide) (by decide), w 56 0 (by decide) (by decide) (by decide)]
    exact ⟨rfl, rfl, rfl, rfl, rfl⟩
  · have e1 : pl_s0 23 0 = 4 := by simp [pl_s0]
    have e2 : pl_t0 51 0 = 4 := by simp [pl_t0]
    rw [e1, e2]; omega
  · rw [z 24 0 (by decide) (by decide) (by decide), w 58 0 (by decide) (by decide) (by decide)]; exact ⟨rfl, by omega⟩
  · rw [w 57 0 (by decide) (by decide) (by decide)]; omega
  · rw [z 26 0 (by decide) (by decide) (by decide)]
    exact ⟨by omega, by omega, fun p _ => by rw [z 10 p (by decide) (by decide) (by decide)]; omega⟩
/-- the law's loop, over every script -/
theorem pl_main {xs : Nat → Int32} {L : Nat} (hL : L ≤ 256) : lL_law xs L 66 (py_o 0) (py_O pl_s0) (py_O pl_t0) := pl_law hL 66 0 pl_s0 pl_t0 rfl (pl_start.mono (Nat.le_refl _) (by omega)) (by omega)
