/-! PURE: what a car remembers -/
/-- the reference at this place is one that the car remembers -/
def ph_Rm (s t : py_Z) (c p : Nat) : Prop := ∃ d k i j : Nat, d < 40 ∧ (k : Int) < t 38 d ∧ (i : Int) < t 33 (ph_x t d k) ∧ p = 32 * d + ph_pos t d k + 2 + i ∧ 0 ≤ t 35 (12 * ph_x t d k + i) ∧ t 31 (t 35 (12 * ph_x t d k + i)).toNat = c ∧ (j : Int) < s 13 0 ∧ s 5 j = d ∧ ∀ b : Nat, (b : Int) < s 13 0 → s 5 b = c → b < j
noncomputable def ph_rc (s t : py_Z) (c : Nat) : Nat → Nat := fun B => @py_cnt (fun p => @decide (ph_Rm s t c p) (Classical.propDecidable _)) B
theorem ph_rc_y {s t : py_Z} {c B : Nat} (h : ph_Rm s t c B) : ph_rc s t c (B + 1) = ph_rc s t c B + 1 := by
  show py_cnt _ B + _ = py_cnt _ B + 1
  rw [if_pos (@decide_eq_true _ (Classical.propDecidable _) h)]
theorem ph_rc_n {s t : py_Z} {c B : Nat} (h : ¬ ph_Rm s t c B) : ph_rc s t c (B + 1) = ph_rc s t c B := by
  have e : (fun p => @decide (ph_Rm s t c p) (Classical.propDecidable _)) B = false := @decide_eq_false _ (Classical.propDecidable _) h
  show py_cnt _ B + _ = py_cnt _ B
  rw [if_neg (fun e2 => by rw [e] at e2; cases e2)]
  rfl
theorem ph_rc_gap {s t : py_Z} {c B : Nat} : ∀ (d : Nat), (∀ p : Nat, B ≤ p → p < B + d → ¬ ph_Rm s t c p) → ph_rc s t c (B + d) = ph_rc s t c B
  | 0, _ => rfl
  | d + 1, h => by rw [← Nat.add_assoc, ph_rc_n (h _ (by omega) (by omega)), ph_rc_gap d (fun p h1 h2 => h p h1 (by omega))]
theorem ph_rc_to {s t : py_Z} {c B B' : Nat} (hB : B ≤ B') (h : ∀ p : Nat, B ≤ p → p < B' → ¬ ph_Rm s t c p) : ph_rc s t c B' = ph_rc s t c B := by
  have := ph_rc_gap (s := s) (t := t) (c := c) (B := B) (B' - B) (fun p h1 h2 => h p h1 (by omega))
  rwa [show B + (B' - B) = B' by omega] at this
theorem ph_rc_le {s t : py_Z} {c : Nat} (B : Nat) : ph_rc s t c B ≤ B := py_cnt_le _ _
theorem ph_rc_mono {s t : py_Z} {c B : Nat} : ∀ d : Nat, ph_rc s t c B ≤ ph_rc s t c (B + d)
  | 0 => Nat.le_refl _
  | d + 1 => by
    have h1 := ph_rc_mono (s := s) (t := t) (c := c) (B := B) d
    rcases Classical.em (ph_Rm s t c (B + d)) with h | h
    · rw [← Nat.add_assoc, ph_rc_y h]; omega
    · rw [← Nat.add_assoc, ph_rc_n h]; exact h1
theorem ph_rc_lt {s t : py_Z} {c B B' : Nat} (h : ph_Rm s t c B) (hB : B < B') : ph_rc s t c B < ph_rc s t c B' := by
  have := ph_rc_mono (s := s) (t := t) (c := c) (B := B + 1) (B' - (B + 1))
  rw [show B + 1 + (B' - (B + 1)) = B' by omega, ph_rc_y h] at this
  omega
section PRB
variable {s t : py_Z} {n : Nat} {m : Int}
/-- the next one that the class finds -/
theorem pr_nextRemembered (h : ph_R s t n m) {c a : Nat} (hc : c < 40) (ha : a ≤ 1280) : ∃ q : Nat, a ≤ q ∧ q ≤ 1280 ∧ (q = 1280 ∨ ph_Rm s t c q) ∧ (∀ p : Nat, a ≤ p → p < q → ¬ ph_Rm s t c p) ∧ ∀ K : ty_S → Int32 → Prop, K (py_O s) (py_o q) → eX3_nextRemembered (py_O s) (py_o c) (py_o a) K := by
  have hTH := h.2.1
  have hMH := h.2.2.1
  -- where the car stands
  obtain ⟨ix, hix1, hix2, hix3⟩ : ∃ ix : Int, (-1 ≤ ix ∧ ix < 40) ∧ (∀ K : ty_S → Int32 → Prop, K (py_O s) (py_o ix) → eX1_indexOf (py_O s) (py_o c) K) ∧ (∀ j : Nat, (j : Int) < s 13 0 → (ix < j ↔ ∀ b : Nat, (b : Int) < s 13 0 → s 5 b = c → b < j)) := by
    have hc0 := h.1.cnt
    by_cases e : ∃ i : Nat, (i : Int) < s 13 0 ∧ s 5 i = c
    · obtain ⟨i, hi, e1⟩ := e
      refine ⟨i, by omega, fun K hK => pr_indexOf h.1 (by omega) (fun i' hi' e2 => ?_) (fun hno => absurd e1 (hno i hi)), fun j hj => ⟨fun h1 b hb e2 => ?_, fun h1 => ?_⟩⟩
      · have : i' = i := h.1.inj hi' hi (by omega)
        rw [this]; exact hK
      · have : b = i := h.1.inj hb hi (by omega)
        omega
      · have := h1 i hi e1; omega
    · refine ⟨-1, by omega, fun K hK => pr_indexOf h.1 (by omega) (fun i' hi' e2 => absurd ⟨i', hi', e2⟩ e) (fun _ => hK), fun j hj => ⟨fun _ b hb e2 => absurd ⟨b, hb, e2⟩ e, fun _ => by omega⟩⟩
  -- one reference: taken, or passed
  have hone : ∀ r : Nat, r < 1280 → s 1 r = 1 → ∀ (K : ty_S → Int32 → Prop) (n9 : Nat), (ph_Rm s t c r → K (py_O s) (py_o r)) → (¬ ph_Rm s t c r → eX0_nextReference (py_O s) (py_o (r + 1 : Nat)) (fun S5 r5 => lX3_nextRemembered_19 K n9 (py_o c) (py_o ix) r5 S5)) → lX3_nextRemembered_19 K (n9 + 1) (py_o c) (py_o ix) (py_o r) (py_O s) := fun r hr hs1 K n9 hy hn => by
    obtain ⟨d, k, i, hd, hk, hi, hrp⟩ := ((hTH.2.2 r hr).resolve_left (by omega)).2
    obtain ⟨f1, f2, f3, f4⟩ := hTH.fit hd hk
    obtain ⟨w1, w2, w3, w4, w5, w6, w7⟩ := hTH.2.1 d k hd hk
    obtain ⟨m1, m2, m3⟩ := hMH.2.2.2.1 d k hd (by omega) hk
    have hx640 : ph_x t d k < 640 := by unfold ph_x; omega
    have hPV := hMH.2.2.2.2.2 (ph_x t d k) hx640 m1 i hi
    have hword : s 0 r = ph_E t (t 35 (12 * ph_x t d k + i)) := by rw [hrp, (w6 i hi).1]
    have h6d : s 6 d ≠ 0 := fun e1 => by have := (hTH.1 d hd).2.2.2.2.2.1 e1; omega
    obtain ⟨j, hj, hjd⟩ := h.1.2.2.2.2.2.2.2.1 d hd h6d
    have hc0 := h.1.cnt
    have huniq : ph_Rm s t c r → 0 ≤ t 35 (12 * ph_x t d k + i) ∧ t 31 (t 35 (12 * ph_x t d k + i)).toNat = c ∧ ix < j := fun ⟨d', k', i', j', z1, z2, z3, z4, z5, z6, z7, z8, z9⟩ => by
      obtain ⟨q1, q2, q3⟩ := hTH.refinj z1 z2 z3 hd hk hi (by omega)
      subst q1; subst q2; subst q3
      have : j' = j := h.1.inj z7 hj (by omega)
      subst this
      exact ⟨z5, z6, (hix3 j' hj).mpr z9⟩
    have hmk : 0 ≤ t 35 (12 * ph_x t d k + i) → t 31 (t 35 (12 * ph_x t d k + i)).toNat = c → ix < j → ph_Rm s t c r := fun a1 a2 a3 => ⟨d, k, i, j, hd, hk, hi, hrp, a1, a2, hj, hjd, (hix3 j hj).mp a3⟩
    have hpass : ¬ ph_Rm s t c r → jX3_nextRemembered_62 K (fun a0 a1 a2 S9 => lX3_nextRemembered_19 K n9 a0 a1 a2 S9) (py_o c) (py_o ix) (py_o r) (py_O s) := fun hno => by
      unfold jX3_nextRemembered_62
      try simp only [py_O_ap, py_l0, py_l1, py_l2, py_l3, py_l4, py_l5, py_l6, py_l7, py_l8, py_l9, py_l12, py_l16, py_l32, py_l40, py_l100, py_l640, py_l1280, py_neg, py_add, py_sub, py_mul, py_stO]
      exact hn hno
    have hE : (t 35 (12 * ph_x t d k + i) < 0 ∧ ph_E t (t 35 (12 * ph_x t d k + i)) = -1) ∨ (0 ≤ t 35 (12 * ph_x t d k + i) ∧ (0 ≤ t 31 (t 35 (12 * ph_x t d k + i)).toNat ∧ t 31 (t 35 (12 * ph_x t d k + i)).toNat < 40) ∧ 0 ≤ ph_E t (t 35 (12 * ph_x t d k + i)) ∧ ph_E t (t 35 (12 * ph_x t d k + i)) < 1280 ∧ ph_E t (t 35 (12 * ph_x t d k + i)) / 32 = t 31 (t 35 (12 * ph_x t d k + i)).toNat) := by
      rcases hPV with e1 | ⟨e1, e2⟩
      · exact Or.inl ⟨by omega, by rw [e1]; rfl⟩
      · obtain ⟨c', k', hc', hk', g1, g2, g3, g4, g5, g6⟩ := ph_live hTH hMH (x := (t 35 (12 * ph_x t d k + i)).toNat) (by omega) e2
        have : ph_E t (t 35 (12 * ph_x t d k + i)) = 32 * t 31 (t 35 (12 * ph_x t d k + i)).toNat + t 32 (t 35 (12 * ph_x t d k + i)).toNat := by unfold ph_E; rw [if_neg (by omega)]
        exact Or.inr ⟨e1.1, by omega, by omega, by omega, by omega⟩
    unfold lX3_nextRemembered_19
    try simp only [py_O_ap, py_l0, py_l1, py_l2, py_l3, py_l4, py_l5, py_l6, py_l7, py_l8, py_l9, py_l12, py_l16, py_l32, py_l40, py_l100, py_l640, py_l1280, py_neg, py_add, py_sub, py_mul, py_stO]
    refine py_ile (fun c => absurd c (by omega)) (fun _ => ?_)
    refine pr_at (fun _ _ => ?_) (fun c => absurd c (by omega))
    simp only [Int.toNat_natCast]
    rw [hword]
    rcases hE with ⟨e1, e2⟩ | ⟨e1, e2, e3, e4, e5⟩
    · rw [e2]
      refine pr_carOf (fun c _ => absurd c (by omega)) (fun _ => ?_)
      exact py_ieq (fun c => absurd c (by omega)) (fun _ => hpass (fun hw => by have := (huniq hw).1; omega))
    · refine pr_carOf (fun _ _ => ?_) (fun c => absurd c (by omega))
      rw [e5]
      refine py_ieq (fun e6 => ?_) (fun e6 => hpass (fun hw => e6 (huniq hw).2.1))
      refine pr_carOf (fun _ _ => ?_) (fun c => absurd c (by omega))
      rw [show (r : Int) / 32 = d by omega]
      refine pr_indexOf h.1 (by omega) (fun j' hj' e7 => ?_) (fun hno => absurd hjd (hno j hj))
      have e8 : j' = j := h.1.inj hj' hj (by omega)
      subst e8
      exact py_ile (fun e9 => hpass (fun hw => by have := (huniq hw).2.2; omega)) (fun e9 => hy (hmk e1 e6 e9))
  have key : ∀ d r : Nat, 1280 - r ≤ d → r ≤ 1280 → (r = 1280 ∨ s 1 r = 1) → ∃ q : Nat, r ≤ q ∧ q ≤ 1280 ∧ (q = 1280 ∨ ph_Rm s t c q) ∧ (∀ p : Nat, r ≤ p → p < q → ¬ ph_Rm s t c p) ∧ ∀ K : ty_S → Int32 → Prop, K (py_O s) (py_o q) → ∃ n9, lX3_nextRemembered_19 K n9 (py_o c) (py_o ix) (py_o r) (py_O s) := by
    intro d
    have hend : ∀ r : Nat, r = 1280 → ∃ q : Nat, r ≤ q ∧ q ≤ 1280 ∧ (q = 1280 ∨ ph_Rm s t c q) ∧ (∀ p : Nat, r ≤ p → p < q → ¬ ph_Rm s t c p) ∧ ∀ K : ty_S → Int32 → Prop, K (py_O s) (py_o q) → ∃ n9, lX3_nextRemembered_19 K n9 (py_o c) (py_o ix) (py_o r) (py_O s) := fun r e1 => by
      subst e1
      refine ⟨1280, by omega, by omega, Or.inl rfl, fun p h1 h2 => absurd h2 (by omega), fun K hK => ⟨1, ?_⟩⟩
      unfold lX3_nextRemembered_19
      try simp only [py_O_ap, py_l0, py_l1, py_l2, py_l3, py_l4, py_l5, py_l6, py_l7, py_l8, py_l9, py_l12, py_l16, py_l32, py_l40, py_l100, py_l640, py_l1280, py_neg, py_add, py_sub, py_mul, py_stO]
      exact py_ile (fun _ => hK) (fun c => absurd c (by omega))
    induction d with
    | zero => intro r hd hr _; exact hend r (by omega)
    | succ d ih =>
      intro r hd hr hr1
      by_cases e1 : r = 1280
      · exact hend r e1
      · have hs1 := hr1.resolve_left e1
        rcases Classical.em (ph_Rm s t c r) with hw | hw
        · exact ⟨r, by omega, by omega, Or.inr hw, fun p h1 h2 => absurd h2 (by omega), fun K hK => ⟨1, hone r (by omega) hs1 K 0 (fun _ => hK) (fun hno => absurd hw hno)⟩⟩
        · obtain ⟨r', b1, b2, b3, b4, b5⟩ := pr_nextEx hTH.ir (a := r + 1) (by omega)
          obtain ⟨q, q1, q2, q3, q4, q5⟩ := ih r' (by omega) b2 b3
          refine ⟨q, by omega, q2, q3, fun p h1 h2 hp => ?_, fun K hK => ?_⟩
          · by_cases e2 : p = r
            · rw [e2] at hp; exact hw hp
            · by_cases e3 : p < r'
              · have h4 := b4 p (by omega) e3
                obtain ⟨d', k', i', j', z1, z2, z3, z4, z5⟩ := hp
                have h5 := ((hTH.2.1 d' k' z1 z2).2.2.2.2.2.1 i' z3).2
                rw [← z4] at h5
                omega
              · exact q4 p (by omega) h2 hp
          · obtain ⟨n9, hn9⟩ := q5 K hK
            exact ⟨n9 + 1, hone r (by omega) hs1 K n9 (fun hw2 => absurd hw2 hw) (fun _ => b5 _ hn9)⟩
  obtain ⟨r', b1, b2, b3, b4, b5⟩ := pr_nextEx hTH.ir (a := a) ha
  obtain ⟨q, q1, q2, q3, q4, q5⟩ := key 1280 r' (by omega) b2 b3
  refine ⟨q, by omega, q2, q3, fun p h1 h2 hp => ?_, fun K hK => ?_⟩
  · by_cases e3 : p < r'
    · have h4 := b4 p h1 e3
      obtain ⟨d', k', i', j', z1, z2, z3, z4, z5⟩ := hp
      have h5 := ((hTH.2.1 d' k' z1 z2).2.2.2.2.2.1 i' z3).2
      rw [← z4] at h5
      omega
    · exact q4 p (by omega) h2 hp
  · unfold eX3_nextRemembered
    refine hix2 _ ?_
    exact b5 _ (q5 K hK)
theorem pr_countRemembered (h : ph_R s t n m) {c : Nat} (hc : c < 40) {K : ty_S → Int32 → Prop} (hK : K (py_O s) (py_o (ph_rc s t c 1280))) : eX3_countRemembered (py_O s) (py_o c) K := by
  have key : ∀ d q : Nat, 1280 - q ≤ d → q ≤ 1280 → (q = 1280 ∨ ph_Rm s t c q) → ∃ n9, lX3_countRemembered_9 K n9 (py_o c) (py_o (ph_rc s t c q)) (py_o q) (py_O s) := by
    intro d
    have hend : ∃ n9, lX3_countRemembered_9 K n9 (py_o c) (py_o (ph_rc s t c 1280)) (py_o (1280 : Nat)) (py_O s) := by
      refine ⟨1, ?_⟩
      unfold lX3_countRemembered_9
      try simp only [py_O_ap, py_l0, py_l1, py_l2, py_l3, py_l4, py_l5, py_l6, py_l7, py_l8, py_l9, py_l12, py_l16, py_l32, py_l40, py_l100, py_l640, py_l1280, py_neg, py_add, py_sub, py_mul, py_stO]
      exact py_ile (fun _ => hK) (fun c => absurd c (by omega))
    induction d with
    | zero => intro q hd hq _; rw [show q = 1280 by omega]; exact hend
    | succ d ih =>
      intro q hd hq hq1
      by_cases e1 : q = 1280
      · rw [e1]; exact hend
      · obtain ⟨q', b1, b2, b3, b4, b5⟩ := pr_nextRemembered h hc (a := q + 1) (by omega)
        obtain ⟨n9, hn9⟩ := ih q' (by omega) b2 b3
        rw [ph_rc_to b1 b4, ph_rc_y (hq1.resolve_left e1)] at hn9
        refine ⟨n9 + 1, ?_⟩
        unfold lX3_countRemembered_9
        try simp only [py_O_ap, py_l0, py_l1, py_l2, py_l3, py_l4, py_l5, py_l6, py_l7, py_l8, py_l9, py_l12, py_l16, py_l32, py_l40, py_l100, py_l640, py_l1280, py_neg, py_add, py_sub, py_mul, py_stO]
        refine py_ile (fun c => absurd c (by omega)) (fun _ => ?_)
        exact b5 _ hn9
  obtain ⟨q', b1, b2, b3, b4, b5⟩ := pr_nextRemembered h hc (a := 0) (by omega)
  obtain ⟨n9, hn9⟩ := key 1280 q' (by omega) b2 b3
  rw [ph_rc_to b1 b4] at hn9
  unfold eX3_countRemembered
  rw [py_l0]
  exact b5 _ ⟨n9, hn9⟩
/-- the k-th one, or none -/
theorem pr_remembered (h : ph_R s t n m) {c : Nat} (hc : c < 40) {k : Int} (hk : 0 ≤ k ∧ k < 1280) {K : ty_S → Int32 → Prop} {KX : Nat → ty_S → Prop} (h1 : ∀ p : Nat, p < 1280 → ph_Rm s t c p → (ph_rc s t c p : Int) = k → K (py_O s) (py_o p)) (h0 : (ph_rc s t c 1280 : Int) ≤ k → K (py_O s) (py_o (-1))) : eX4_remembered (py_O s) (py_o c) (py_o k) K KX := by
  have key : ∀ d q i : Nat, 1280 - q ≤ d → q ≤ 1280 → (q = 1280 ∨ ph_Rm s t c q) → (q < 1280 → (i : Int) = ph_rc s t c q) → (q = 1280 → (ph_rc s t c 1280 : Int) ≤ i) → (i : Int) ≤ k → ∃ n9, lX4_remembered_30 K KX n9 (py_o c) (py_o k) (py_o q) (py_o i) (py_O s) := by
    intro d
    induction d with
    | zero =>
      intro q i hd hq _ _ hi2 hik
      have e1 : q = 1280 := by omega
      have := hi2 e1
      have hj : jX4_remembered_61 K KX (py_o q) (py_O s) := by
        unfold jX4_remembered_61
        try simp only [py_O_ap, py_l0, py_l1, py_l2, py_l3, py_l4, py_l5, py_l6, py_l7, py_l8, py_l9, py_l12, py_l16, py_l32, py_l40, py_l100, py_l640, py_l1280, py_neg, py_add, py_sub, py_mul, py_stO]
        exact py_ile (fun _ => h0 (by omega)) (fun c => absurd c (by omega))
      refine ⟨1, ?_⟩
      unfold lX4_remembered_30
      try simp only [py_O_ap, py_l0, py_l1, py_l2, py_l3, py_l4, py_l5, py_l6, py_l7, py_l8, py_l9, py_l12, py_l16, py_l32, py_l40, py_l100, py_l640, py_l1280, py_neg, py_add, py_sub, py_mul, py_stO]
      exact py_ile (fun _ => hj) (fun _ => py_ile (fun _ => hj) (fun c => absurd c (by omega)))
    | succ d ih =>
      intro q i hd hq hq1 hi1 hi2 hik
      by_cases e1 : q = 1280
      · exact ih q i (by omega) hq hq1 hi1 hi2 hik
      · have hw := hq1.resolve_left e1
        have hi := hi1 (by omega)
        by_cases e2 : (i : Int) = k
        · have hj : jX4_remembered_61 K KX (py_o q) (py_O s) := by
            unfold jX4_remembered_61
            try simp only [py_O_ap, py_l0, py_l1, py_l2, py_l3, py_l4, py_l5, py_l6, py_l7, py_l8, py_l9, py_l12, py_l16, py_l32, py_l40, py_l100, py_l640, py_l1280, py_neg, py_add, py_sub, py_mul, py_stO]
            exact py_ile (fun c => absurd c (by omega)) (fun _ => h1 q (by omega) hw (by omega))
          refine ⟨1, ?_⟩
          unfold lX4_remembered_30
          try simp only [py_O_ap, py_l0, py_l1, py_l2, py_l3, py_l4, py_l5, py_l6, py_l7, py_l8, py_l9, py_l12, py_l16, py_l32, py_l40, py_l100, py_l640, py_l1280, py_neg, py_add, py_sub, py_mul, py_stO]
          exact py_ile (fun _ => hj) (fun c => absurd c (by omega))
        · obtain ⟨q', b1, b2, b3, b4, b5⟩ := pr_nextRemembered h hc (a := q + 1) (by omega)
          have hrc := ph_rc_to b1 b4
          rw [ph_rc_y hw] at hrc
          obtain ⟨n9, hn9⟩ := ih q' (i + 1) (by omega) b2 b3 (fun _ => by omega) (fun e3 => by rw [← e3, hrc]; omega) (by omega)
          refine ⟨n9 + 1, ?_⟩
          unfold lX4_remembered_30
          try simp only [py_O_ap, py_l0, py_l1, py_l2, py_l3, py_l4, py_l5, py_l6, py_l7, py_l8, py_l9, py_l12, py_l16, py_l32, py_l40, py_l100, py_l640, py_l1280, py_neg, py_add, py_sub, py_mul, py_stO]
          refine py_ile (fun c => absurd c (by omega)) (fun _ => py_ile (fun c => absurd c (by omega)) (fun _ => ?_))
          exact b5 _ hn9
  obtain ⟨q', b1, b2, b3, b4, b5⟩ := pr_nextRemembered h hc (a := 0) (by omega)
  have hrc := ph_rc_to b1 b4
  have hz : ph_rc s t c 0 = 0 := rfl
  obtain ⟨n9, hn9⟩ := key 1280 q' 0 (by omega) b2 b3 (fun _ => by omega) (fun e => by rw [← e, hrc]; omega) (by omega)
  unfold eX4_remembered
  try simp only [py_O_ap, py_l0, py_l1, py_l2, py_l3, py_l4, py_l5, py_l6, py_l7, py_l8, py_l9, py_l12, py_l16, py_l32, py_l40, py_l100, py_l640, py_l1280, py_neg, py_add, py_sub, py_mul, py_stO]
  unfold eX4_needCar
  try simp only [py_O_ap, py_l0, py_l1, py_l2, py_l3, py_l4, py_l5, py_l6, py_l7, py_l8, py_l9, py_l12, py_l16, py_l32, py_l40, py_l100, py_l640, py_l1280, py_neg, py_add, py_sub, py_mul, py_stO]
  refine pr_isCar (fun _ _ => ?_) (fun c => absurd c (by omega))
  refine py_ieq (fun c => absurd c (by omega)) (fun _ => ?_)
  refine py_ilt (fun c => absurd c (by omega)) (fun _ => py_ilt (fun _ => ?_) (fun c => absurd c (by omega)))
  exact b5 _ ⟨n9, hn9⟩
end PRB
