/-! PURE: what a car remembers, as the reference counts it -/
def ph_OK (s t : py_Z) (c : Nat) (z : Int) (B : Nat) : Prop := ∀ p : Nat, p < B → ph_Rm s t c p → (ph_rc s t c p : Int) ≠ z
theorem ph_OK.to {s t : py_Z} {c B B' : Nat} {z : Int} (h : ph_OK s t c z B) (hno : ∀ p : Nat, B ≤ p → p < B' → ¬ ph_Rm s t c p) : ph_OK s t c z B' := fun p hp hw => by
  by_cases e : p < B
  · exact h p e hw
  · exact absurd hw (hno p (by omega) hp)
theorem ph_OK.one {s t : py_Z} {c B : Nat} {z : Int} (h : ph_OK s t c z B) (hno : ph_Rm s t c B → (ph_rc s t c B : Int) ≠ z) : ph_OK s t c z (B + 1) := fun p hp hw => by
  by_cases e : p < B
  · exact h p e hw
  · have : p = B := by omega
    subst this
    exact hno hw
theorem ph_rc_ivt {s t : py_Z} {c k : Nat} : ∀ B : Nat, k < ph_rc s t c B → ∃ p : Nat, p < B ∧ ph_Rm s t c p ∧ ph_rc s t c p = k
  | 0, h => absurd h (by show ¬ k < 0; omega)
  | B + 1, h => by
    rcases Classical.em (ph_Rm s t c B) with hw | hw
    · by_cases e : ph_rc s t c B = k
      · exact ⟨B, by omega, hw, e⟩
      · rw [ph_rc_y hw] at h
        obtain ⟨p, h1, h2, h3⟩ := ph_rc_ivt (s := s) (t := t) (c := c) (k := k) B (by omega)
        exact ⟨p, by omega, h2, h3⟩
    · rw [ph_rc_n hw] at h
      obtain ⟨p, h1, h2, h3⟩ := ph_rc_ivt B h
      exact ⟨p, by omega, h2, h3⟩
section PRD
variable {s t : py_Z} {n : Nat} {m : Int}
/-- references of one thing -/
theorem pm_rem100 (h : ph_R s t n m) {c d k : Nat} (hc : c < 40) (hd : d < 40) (hk : (k : Int) < t 38 d) {z : Int} (rz : -2147483648 ≤ z ∧ z < 2147483648) {K : ty_S → Int32 → Prop} {R20 : Int32 → Int32 → Int32 → Int32 → Int32 → ty_S → Prop} {R65 : Int32 → Int32 → Int32 → Int32 → Int32 → Int32 → Int32 → ty_S → Prop} {e4 : Int32} {j : Nat} (hj : (j : Int) < s 13 0 ∧ s 5 j = d) (hb : ∀ b : Nat, (b : Int) < s 13 0 → s 5 b = c → b < j)
    (h1 : ∀ p : Nat, p < 1280 → ph_Rm s t c p → (ph_rc s t c p : Int) = z → K (py_O t) (py_o p))
    (hR : ph_OK s t c z (32 * d + ph_pos t d k + 2 + (t 33 (ph_x t d k)).toNat) → R65 (py_o c) (py_o z) (py_o (ph_rc s t c (32 * d + ph_pos t d k + 2 + (t 33 (ph_x t d k)).toNat))) e4 (py_o d) (py_o 1) (py_o (k + 1)) (py_O t)) :
    ∀ f i : Nat, (i : Int) + f = t 33 (ph_x t d k) → ph_OK s t c z (32 * d + ph_pos t d k + 2 + i) → ∃ n9, lX5_remembers_100 K R20 R65 n9 (py_o c) (py_o z) (py_o (ph_rc s t c (32 * d + ph_pos t d k + 2 + i))) e4 (py_o d) (py_o 1) (py_o k) (py_o (ph_x t d k)) (py_o i) (py_O t) := by
  have hTH := h.2.1
  have hMH := h.2.2.1
  obtain ⟨f1, f2, f3, f4⟩ := hTH.fit hd hk
  obtain ⟨w1, w2, w3, w4, w5, w6, w7⟩ := hTH.2.1 d k hd hk
  obtain ⟨m1, m2, m3⟩ := hMH.2.2.2.1 d k hd (by omega) hk
  have hx640 : ph_x t d k < 640 := by unfold ph_x; omega
  have hc0 := h.1.cnt
  intro f
  induction f with
  | zero =>
    intro i hi hOK
    refine ⟨1, ?_⟩
    rw [show (t 33 (ph_x t d k)).toNat = i by omega] at hR
    have hR := hR hOK
    unfold lX5_remembers_100
    try simp only [py_O_ap, py_l0, py_l1, py_l2, py_l3, py_l4, py_l5, py_l6, py_l7, py_l8, py_l9, py_l12, py_l16, py_l32, py_l40, py_l100, py_l640, py_l1280, py_neg, py_add, py_sub, py_mul, py_stO]
    refine py_and ?_
    rw [py_nat (by omega)]
    simp only [Int.toNat_natCast]
    exact py_ile (fun _ => hR) (fun c => absurd c (by omega))
  | succ f ih =>
    intro i hi hOK
    have hPV := hMH.2.2.2.2.2 (ph_x t d k) hx640 m1 i (by omega)
    have e2 : ((12 : Int) * ph_x t d k + i).toNat = 12 * ph_x t d k + i := by omega
    have hle := ph_rc_le (s := s) (t := t) (c := c) (32 * d + ph_pos t d k + 2 + i)
    have hrm : ph_Rm s t c (32 * d + ph_pos t d k + 2 + i) ↔ 0 ≤ t 35 (12 * ph_x t d k + i) ∧ t 31 (t 35 (12 * ph_x t d k + i)).toNat = c := by
      constructor
      · intro ⟨d', k', i', j', z1, z2, z3, z4, z5, z6, z7, z8, z9⟩
        obtain ⟨q1, q2, q3⟩ := hTH.refinj z1 z2 z3 hd hk (i' := i) (by omega) (by omega)
        subst q1; subst q2; subst q3
        exact ⟨z5, z6⟩
      · intro ⟨a1, a2⟩
        exact ⟨d, k, i, j, hd, hk, by omega, rfl, a1, a2, hj.1, hj.2, hb⟩
    have hnext : (ph_Rm s t c (32 * d + ph_pos t d k + 2 + i) → (ph_rc s t c (32 * d + ph_pos t d k + 2 + i) : Int) ≠ z) → ∃ n9, lX5_remembers_100 K R20 R65 n9 (py_o c) (py_o z) (py_o (ph_rc s t c (32 * d + ph_pos t d k + 2 + i + 1))) e4 (py_o d) (py_o 1) (py_o k) (py_o (ph_x t d k)) (py_o (i + 1)) (py_O t) := fun hno => ih (i + 1) (by omega) (hOK.one hno)
    have hbody : ∀ n9 : Nat, (ph_Rm s t c (32 * d + ph_pos t d k + 2 + i) → (ph_rc s t c (32 * d + ph_pos t d k + 2 + i) : Int) ≠ z → lX5_remembers_100 K R20 R65 n9 (py_o c) (py_o z) (py_o (ph_rc s t c (32 * d + ph_pos t d k + 2 + i) + 1)) e4 (py_o d) (py_o 1) (py_o k) (py_o (ph_x t d k)) (py_o (i + 1)) (py_O t)) → (¬ ph_Rm s t c (32 * d + ph_pos t d k + 2 + i) → lX5_remembers_100 K R20 R65 n9 (py_o c) (py_o z) (py_o (ph_rc s t c (32 * d + ph_pos t d k + 2 + i))) e4 (py_o d) (py_o 1) (py_o k) (py_o (ph_x t d k)) (py_o (i + 1)) (py_O t)) → lX5_remembers_100 K R20 R65 (n9 + 1) (py_o c) (py_o z) (py_o (ph_rc s t c (32 * d + ph_pos t d k + 2 + i))) e4 (py_o d) (py_o 1) (py_o k) (py_o (ph_x t d k)) (py_o i) (py_O t) := fun n9 hyy hnn => by
      rw [lX5_remembers_100]
      try simp only [py_O_ap, py_l0, py_l1, py_l2, py_l3, py_l4, py_l5, py_l6, py_l7, py_l8, py_l9, py_l12, py_l16, py_l32, py_l40, py_l100, py_l640, py_l1280, py_neg, py_add, py_sub, py_mul, py_stO]
      refine py_and ?_
      rw [py_nat (by omega), py_nat (by omega), e2]
      simp only [Int.toNat_natCast]
      refine py_ile (fun c => absurd c (by omega)) (fun _ => py_and ?_)
      rcases Classical.em (ph_Rm s t c (32 * d + ph_pos t d k + 2 + i)) with hw | hw
      · obtain ⟨a1, a2⟩ := hrm.mp hw
        have hy := hPV.resolve_left (by omega)
        refine py_ilt (fun c => absurd c (by omega)) (fun _ => py_and ?_)
        rw [py_nat (by omega), a2]
        refine py_ieq (fun _ => ?_) (fun c => absurd rfl c)
        refine py_ieq (fun e3 => ?_) (fun e3 => hyy hw e3)
        unfold eX5_referencePlace
        try simp only [py_O_ap, py_l0, py_l1, py_l2, py_l3, py_l4, py_l5, py_l6, py_l7, py_l8, py_l9, py_l12, py_l16, py_l32, py_l40, py_l100, py_l640, py_l1280, py_neg, py_add, py_sub, py_mul, py_stO]
        refine pm_place hx640 ?_
        try simp only [py_O_ap, py_l0, py_l1, py_l2, py_l3, py_l4, py_l5, py_l6, py_l7, py_l8, py_l9, py_l12, py_l16, py_l32, py_l40, py_l100, py_l640, py_l1280, py_neg, py_add, py_sub, py_mul, py_stO]
        rw [m2, m3, show (32 * (d : Int) + ph_pos t d k + 2 + i) = ((32 * d + ph_pos t d k + 2 + i : Nat) : Int) by omega]
        exact h1 _ (by omega) hw e3
      · rcases hPV with e3 | ⟨e3, e4⟩
        · rw [e3]
          exact py_ilt (fun _ => hnn hw) (fun c => absurd c (by omega))
        · refine py_ilt (fun c => absurd c (by omega)) (fun _ => py_and ?_)
          rw [py_nat (by omega)]
          obtain ⟨c', k', hc', hk', g1, g2, g3, g4⟩ := ph_live hTH hMH (x := (t 35 (12 * ph_x t d k + i)).toNat) (by omega) e4
          exact py_ieq (fun e5 => absurd (hrm.mpr ⟨e3.1, e5⟩) hw) (fun _ => hnn hw)
    rcases Classical.em (ph_Rm s t c (32 * d + ph_pos t d k + 2 + i)) with hw | hw
    · by_cases e3 : (ph_rc s t c (32 * d + ph_pos t d k + 2 + i) : Int) = z
      · exact ⟨1, hbody 0 (fun _ h9 => absurd e3 h9) (fun h9 => absurd hw h9)⟩
      · obtain ⟨n9, hn9⟩ := hnext (fun _ => e3)
        rw [ph_rc_y hw] at hn9
        exact ⟨n9 + 1, hbody n9 (fun _ _ => hn9) (fun h9 => absurd hw h9)⟩
    · obtain ⟨n9, hn9⟩ := hnext (fun h9 => absurd h9 hw)
      rw [ph_rc_n hw] at hn9
      exact ⟨n9 + 1, hbody n9 (fun h9 => absurd h9 hw) (fun _ => hn9)⟩
theorem pm_rem65 (h : ph_R s t n m) {c d : Nat} (hc : c < 40) (hd : d < 40) {z : Int} (rz : -2147483648 ≤ z ∧ z < 2147483648) {K : ty_S → Int32 → Prop} {R20 : Int32 → Int32 → Int32 → Int32 → Int32 → ty_S → Prop} {e4 : Int32} {j : Nat} (hj : (j : Int) < s 13 0 ∧ s 5 j = d) (hb : ∀ b : Nat, (b : Int) < s 13 0 → s 5 b = c → b < j)
    (h1 : ∀ p : Nat, p < 1280 → ph_Rm s t c p → (ph_rc s t c p : Int) = z → K (py_O t) (py_o p))
    (hR : ph_OK s t c z (32 * (d + 1)) → R20 (py_o c) (py_o z) (py_o (ph_rc s t c (32 * (d + 1)))) e4 (py_o (d + 1)) (py_O t)) :
    ∀ f k : Nat, (k : Int) + f = t 38 d → ph_OK s t c z (32 * d + ph_pos t d k) → ∃ n9, lX5_remembers_65 K R20 n9 (py_o c) (py_o z) (py_o (ph_rc s t c (32 * d + ph_pos t d k))) e4 (py_o d) (py_o 1) (py_o k) (py_O t) := by
  have hTH := h.2.1
  have hMH := h.2.2.1
  have hC := hTH.1 d hd
  have h38 := hC.2.2.1
  have h37 := hC.2.2.2.1
  have h32 := hC.2.2.2.2.1
  intro f
  induction f with
  | zero =>
    intro k hk hOK
    have hnoR : ∀ p : Nat, 32 * d + ph_pos t d k ≤ p → p < 32 * (d + 1) → ¬ ph_Rm s t c p := fun p h1 h2 ⟨d', k', i', j', z1, z2, z3, z4, z5⟩ => by
      obtain ⟨f1, f2, f3, f4⟩ := hTH.fit z1 z2
      obtain ⟨w1, w2, w3, w4⟩ := hTH.2.1 d' k' z1 z2
      have e1 : d' = d := by omega
      subst e1
      have := ph_pos_lt (t := t) (c := d') (k := k') (m := k) (by omega)
      omega
    have hgap : ph_rc s t c (32 * (d + 1)) = ph_rc s t c (32 * d + ph_pos t d k) := by
      refine ph_rc_to ?_ hnoR
      rw [show (t 38 d).toNat = k by omega] at h37; omega
    have hR := hR (hOK.to hnoR)
    rw [hgap] at hR
    refine ⟨1, ?_⟩
    unfold lX5_remembers_65
    try simp only [py_O_ap, py_l0, py_l1, py_l2, py_l3, py_l4, py_l5, py_l6, py_l7, py_l8, py_l9, py_l12, py_l16, py_l32, py_l40, py_l100, py_l640, py_l1280, py_neg, py_add, py_sub, py_mul, py_stO]
    refine py_ieq (fun c => absurd c (by omega)) (fun _ => py_and ?_)
    rw [py_nat (by omega)]
    simp only [Int.toNat_natCast]
    exact py_ile (fun _ => hR) (fun c => absurd c (by omega))
  | succ f ih =>
    intro k hk hOK
    have hkd : (k : Int) < t 38 d := by omega
    obtain ⟨f1, f2, f3, f4⟩ := hTH.fit hd hkd
    obtain ⟨w1, w2, w3, w4⟩ := hTH.2.1 d k hd hkd
    have hpe : ph_pos t d (k + 1) = ph_pos t d k + ph_sz t (ph_x t d k) := rfl
    obtain ⟨n0, hn0⟩ : ∃ n0, ph_OK s t c z (32 * d + ph_pos t d (k + 1)) → lX5_remembers_65 K R20 n0 (py_o c) (py_o z) (py_o (ph_rc s t c (32 * d + ph_pos t d (k + 1)))) e4 (py_o d) (py_o 1) (py_o (k + 1)) (py_O t) := by
      rcases Classical.em (ph_OK s t c z (32 * d + ph_pos t d (k + 1))) with h9 | h9
      · obtain ⟨n0, hn0⟩ := ih (k + 1) (by omega) h9
        exact ⟨n0, fun _ => hn0⟩
      · exact ⟨0, fun h8 => absurd h8 h9⟩
    -- no reference between the last one and the next thing
    have hno2 : ∀ p : Nat, 32 * d + ph_pos t d k + 2 + (t 33 (ph_x t d k)).toNat ≤ p → p < 32 * d + ph_pos t d (k + 1) → ¬ ph_Rm s t c p := by
      refine (fun p h1 h2 ⟨d', k', i', j', z1, z2, z3, z4, z5⟩ => ?_)
      obtain ⟨g1, g2, g3, g4⟩ := hTH.fit z1 z2
      obtain ⟨v1, v2, v3, v4⟩ := hTH.2.1 d' k' z1 z2
      have e1 : d' = d := by omega
      subst e1
      rcases Nat.lt_trichotomy k' k with e2 | e2 | e2
      · have := ph_pos_lt (t := t) (c := d') e2; omega
      · subst e2; omega
      · have := ph_pos_lt (t := t) (c := d') e2; omega
    have hgap2 : ph_rc s t c (32 * d + ph_pos t d (k + 1)) = ph_rc s t c (32 * d + ph_pos t d k + 2 + (t 33 (ph_x t d k)).toNat) := ph_rc_to (by omega) hno2
    have hno1 : ∀ p : Nat, 32 * d + ph_pos t d k ≤ p → p < 32 * d + ph_pos t d k + 2 + 0 → ¬ ph_Rm s t c p := by
      refine (fun p h1 h2 ⟨d', k', i', j', z1, z2, z3, z4, z5⟩ => ?_)
      obtain ⟨g1, g2, g3, g4⟩ := hTH.fit z1 z2
      obtain ⟨v1, v2, v3, v4⟩ := hTH.2.1 d' k' z1 z2
      have e1 : d' = d := by omega
      subst e1
      rcases Nat.lt_trichotomy k' k with e2 | e2 | e2
      · have := ph_pos_lt (t := t) (c := d') e2; omega
      · subst e2; omega
      · have := ph_pos_lt (t := t) (c := d') e2; omega
    have hgap1 : ph_rc s t c (32 * d + ph_pos t d k + 2 + 0) = ph_rc s t c (32 * d + ph_pos t d k) := ph_rc_to (by omega) hno1
    rw [hgap2] at hn0
    obtain ⟨n9, hn9⟩ := pm_rem100 h hc hd hkd rz (K := K) (R20 := R20) (R65 := fun a0 a1 a2 a3 a4 a5 a6 S9 => lX5_remembers_65 K R20 n0 a0 a1 a2 a3 a4 a5 a6 S9) (e4 := e4) hj hb h1 (fun h9 => hn0 (h9.to hno2)) (t 33 (ph_x t d k)).toNat 0 (by omega) (hOK.to hno1)
    rw [hgap1] at hn9
    refine ⟨n0 + 1, ?_⟩
    rw [lX5_remembers_65]
    try simp only [py_O_ap, py_l0, py_l1, py_l2, py_l3, py_l4, py_l5, py_l6, py_l7, py_l8, py_l9, py_l12, py_l16, py_l32, py_l40, py_l100, py_l640, py_l1280, py_neg, py_add, py_sub, py_mul, py_stO]
    refine py_ieq (fun c => absurd c (by omega)) (fun _ => py_and ?_)
    rw [py_nat (by omega)]
    simp only [Int.toNat_natCast]
    refine py_ile (fun c => absurd c (by omega)) (fun _ => py_and ?_)
    rw [py_nat (by omega), show ((16 : Int) * d + k).toNat = 16 * d + k by omega]
    have e39 : t 39 (16 * d + k) = ((ph_x t d k : Nat) : Int) := by unfold ph_x; omega
    rw [e39]
    exact ⟨n9, hn9⟩
theorem pm_remembers (h : ph_R s t n m) {c : Nat} (hc : c < 40) {z : Int} (rz : -2147483648 ≤ z ∧ z < 2147483648) {K : ty_S → Int32 → Prop} (h1 : ∀ p : Nat, p < 1280 → ph_Rm s t c p → (ph_rc s t c p : Int) = z → K (py_O t) (py_o p)) (h0 : ph_OK s t c z 1280 → K (py_O t) (py_o (-1 - ph_rc s t c 1280))) : eX5_remembers (py_O t) (py_o c) (py_o z) K := by
  have hTH := h.2.1
  have hMH := h.2.2.1
  have h50 := h.1.1
  have hc0 := h.1.cnt
  by_cases h6 : s 6 c = 0
  · -- a free car remembers nothing
    have hno9 : ∀ p : Nat, 0 ≤ p → p < 1280 → ¬ ph_Rm s t c p := (fun p _ _ ⟨d', k', i', j', z1, z2, z3, z4, z5, z6, z7⟩ => by
        obtain ⟨m1, m2, m3⟩ := hMH.2.2.2.1 d' k' z1 (by omega) z2
        obtain ⟨w1, w2⟩ := hTH.2.1 d' k' z1 z2
        have hx640 : ph_x t d' k' < 640 := by unfold ph_x; omega
        have hPV := (hMH.2.2.2.2.2 (ph_x t d' k') hx640 m1 i' z3).resolve_left (by omega)
        obtain ⟨c', k2, hc', hk', g1, g2, g3, g4, g5⟩ := ph_live hTH hMH (x := (t 35 (12 * ph_x t d' k' + i')).toNat) (by omega) hPV.2
        have : c' = c := by omega
        subst this
        exact g4 h6)
    have hz : ph_rc s t c 1280 = 0 := by
      have : ph_rc s t c 1280 = ph_rc s t c 0 := ph_rc_to (by omega) hno9
      rw [this]; rfl
    have h0 := h0 (fun p hp hw => absurd hw (hno9 p (by omega) hp))
    rw [hz] at h0
    unfold eX5_remembers
    try simp only [py_O_ap, py_l0, py_l1, py_l2, py_l3, py_l4, py_l5, py_l6, py_l7, py_l8, py_l9, py_l12, py_l16, py_l32, py_l40, py_l100, py_l640, py_l1280, py_neg, py_add, py_sub, py_mul, py_stO]
    refine pm_trainOf h.1 hc (fun j hj e1 => ?_) (fun _ => ?_)
    · have := h.1.2.2.2.2.1 j hj; omega
    · refine py_ilt (fun _ => ⟨1, ?_⟩) (fun c => absurd c (by omega))
      unfold lX5_remembers_20
      try simp only [py_O_ap, py_l0, py_l1, py_l2, py_l3, py_l4, py_l5, py_l6, py_l7, py_l8, py_l9, py_l12, py_l16, py_l32, py_l40, py_l100, py_l640, py_l1280, py_neg, py_add, py_sub, py_mul, py_stO]
      refine py_ile (fun c => absurd c (by omega)) (fun _ => ?_)
      rw [if_pos True.intro]
      exact h0
  · obtain ⟨jt, kt, hjt, hkt, t1, t2, t3, t4, t5⟩ := (h.1.six hc).resolve_left h6
    have key : ∀ f d : Nat, d + f = 40 → ph_OK s t c z (32 * d) → ∃ n9, lX5_remembers_20 K n9 (py_o c) (py_o z) (py_o (ph_rc s t c (32 * d))) (py_o 1) (py_o d) (py_O t) := by
      intro f
      induction f with
      | zero =>
        intro d hd hOK
        refine ⟨1, ?_⟩
        unfold lX5_remembers_20
        try simp only [py_O_ap, py_l0, py_l1, py_l2, py_l3, py_l4, py_l5, py_l6, py_l7, py_l8, py_l9, py_l12, py_l16, py_l32, py_l40, py_l100, py_l640, py_l1280, py_neg, py_add, py_sub, py_mul, py_stO]
        refine py_ile (fun _ => ?_) (fun c => absurd c (by omega))
        rw [show 32 * d = 1280 by omega] at hOK ⊢
        exact h0 hOK
      | succ f ih =>
        intro d hd hOK
        have hd40 : d < 40 := by omega
        obtain ⟨n0, hn0⟩ : ∃ n0, ph_OK s t c z (32 * (d + 1)) → lX5_remembers_20 K n0 (py_o c) (py_o z) (py_o (ph_rc s t c (32 * (d + 1)))) (py_o 1) (py_o (d + 1)) (py_O t) := by
          rcases Classical.em (ph_OK s t c z (32 * (d + 1))) with h9 | h9
          · obtain ⟨n0, hn0⟩ := ih (d + 1) (by omega) h9
            exact ⟨n0, fun _ => hn0⟩
          · exact ⟨0, fun h8 => absurd h8 h9⟩
        -- when nothing of this car counts
        have hskip : (∀ p : Nat, 32 * d ≤ p → p < 32 * (d + 1) → ¬ ph_Rm s t c p) → lX5_remembers_20 K n0 (py_o c) (py_o z) (py_o (ph_rc s t c (32 * d))) (py_o 1) (py_o (d + 1)) (py_O t) := fun hno => by
          have hn1 := hn0 (hOK.to hno)
          rw [ph_rc_to (show 32 * d ≤ 32 * (d + 1) by omega) hno] at hn1
          exact hn1
        have h65 : (∀ p : Nat, 32 * d ≤ p → p < 32 * (d + 1) → ¬ ph_Rm s t c p) → ∃ n9, lX5_remembers_65 K (fun a0 a1 a2 a3 a4 S9 => lX5_remembers_20 K n0 a0 a1 a2 a3 a4 S9) n9 (py_o c) (py_o z) (py_o (ph_rc s t c (32 * d))) (py_o 1) (py_o d) (py_o 0) (py_o 0) (py_O t) := fun hno => by
          refine ⟨1, ?_⟩
          unfold lX5_remembers_65
          try simp only [py_O_ap, py_l0, py_l1, py_l2, py_l3, py_l4, py_l5, py_l6, py_l7, py_l8, py_l9, py_l12, py_l16, py_l32, py_l40, py_l100, py_l640, py_l1280, py_neg, py_add, py_sub, py_mul, py_stO]
          rw [if_pos True.intro]
          exact hskip hno
        have hrmd : ∀ p : Nat, 32 * d ≤ p → p < 32 * (d + 1) → ph_Rm s t c p → s 6 d ≠ 0 ∧ ∀ b j : Nat, (b : Int) < s 13 0 → s 5 b = c → (j : Int) < s 13 0 → s 5 j = d → b < j := fun p p1 p2 ⟨d', k', i', j', z1, z2, z3, z4, z5, z6, z7, z8, z9⟩ => by
          obtain ⟨g1, g2, g3, g4⟩ := hTH.fit z1 z2
          obtain ⟨v1, v2, v3, v4⟩ := hTH.2.1 d' k' z1 z2
          have e1 : d' = d := by omega
          subst e1
          refine ⟨fun e2 => by have := (hTH.1 d' z1).2.2.2.2.2.1 e2; omega, fun b j hb hbc hj hjd => ?_⟩
          have : j = j' := h.1.inj hj z7 (by omega)
          subst this
          exact z9 b hb hbc
        refine ⟨n0 + 1, ?_⟩
        unfold lX5_remembers_20
        try simp only [py_O_ap, py_l0, py_l1, py_l2, py_l3, py_l4, py_l5, py_l6, py_l7, py_l8, py_l9, py_l12, py_l16, py_l32, py_l40, py_l100, py_l640, py_l1280, py_neg, py_add, py_sub, py_mul, py_stO]
        refine py_ile (fun c => absurd c (by omega)) (fun _ => ?_)
        refine py_ieq (fun c => absurd c (by omega)) (fun _ => ?_)
        by_cases h6d : s 6 d = 0
        · refine pm_trainOf h.1 hd40 (fun j hj e1 => ?_) (fun _ => ?_)
          · have := h.1.2.2.2.2.1 j hj; omega
          · exact py_ilt (fun _ => h65 (fun p p1 p2 hw => (hrmd p p1 p2 hw).1 h6d)) (fun c => absurd c (by omega))
        · obtain ⟨jd, kd, hjd, hkd, u1, u2, u3, u4, u5⟩ := (h.1.six hd40).resolve_left h6d
          refine pm_trainOf h.1 hd40 (fun j hj e1 => ?_) (fun e1 => absurd e1 h6d)
          refine py_ilt (fun c => absurd c (by omega)) (fun _ => ?_)
          have l1 := h.1.lt hjd hkd
          have l2 := h.1.lt hjt hkt
          rw [show (d : Int) = t 42 (40 * jd + kd) from u1.symm]
          refine pm_rank h.1 hjd hkd ?_
          rw [show (c : Int) = t 42 (40 * jt + kt) from t1.symm]
          refine pm_rank h.1 hjt hkt ?_
          rw [u1, t1]
          refine py_ile (fun e2 => h65 (fun p p1 p2 hw => ?_)) (fun e2 => ?_)
          · have := (hrmd p p1 p2 hw).2 (pr_off t jt + kt) (pr_off t jd + kd) l2 t5 l1 u5
            omega
          · obtain ⟨n9, hn9⟩ := pm_rem65 h hc hd40 rz (K := K) (R20 := fun a0 a1 a2 a3 a4 S9 => lX5_remembers_20 K n0 a0 a1 a2 a3 a4 S9) (e4 := py_o 1) (j := pr_off t jd + kd) ⟨l1, u5⟩ (fun b hb hbc => by
              have : b = pr_off t jt + kt := h.1.inj hb l2 (by omega)
              omega) h1 hn0 (t 38 d).toNat 0 (by have := (hTH.1 d hd40).2.2.1; omega) hOK
            exact ⟨n9, hn9⟩
    unfold eX5_remembers
    try simp only [py_O_ap, py_l0, py_l1, py_l2, py_l3, py_l4, py_l5, py_l6, py_l7, py_l8, py_l9, py_l12, py_l16, py_l32, py_l40, py_l100, py_l640, py_l1280, py_neg, py_add, py_sub, py_mul, py_stO]
    refine pm_trainOf h.1 hc (fun j hj e1 => ?_) (fun e1 => absurd e1 h6)
    refine py_ilt (fun c => absurd c (by omega)) (fun _ => ?_)
    exact key 40 0 rfl (fun p hp => absurd hp (by omega))
theorem ph_callRemembered (h : ph_R s t n m) {a k : Int} (ra : -2147483648 ≤ a ∧ a < 2147483648) (rk : -2147483648 ≤ k ∧ k < 2147483648) : ph_Out (fun K KX => eX4_remembered (py_O s) (py_o a) (py_o k) K KX) (fun K => eX5_remembered (py_O t) (py_o a) (py_o k) K) py_code0 (n + 1) (m + 101) := by
  have h2 := h.t60 0
  by_cases ha : 0 ≤ a ∧ a < 40
  · obtain ⟨c, hca⟩ : ∃ c : Nat, a = c := ⟨a.toNat, by omega⟩
    subst hca
    have hc : c < 40 := by omega
    obtain ⟨u, hu⟩ : ∃ u, u = py_st t 60 0 0 := ⟨_, rfl⟩
    have hu60 : u 60 0 = 0 := by rw [hu, py_se]
    rw [← hu] at h2
    have hle := ph_rc_le (s := s) (t := u) (c := c) 1280
    have hmod : ∀ K : ty_S → Int32 → Prop, jX5_remembered_16 K (py_o c) (py_o k) (py_o 0) (py_O t) → eX5_remembered (py_O t) (py_o c) (py_o k) K := fun K hK => by
      unfold eX5_remembered
      try simp only [py_O_ap, py_l0, py_l1, py_l2, py_l3, py_l4, py_l5, py_l6, py_l7, py_l8, py_l9, py_l12, py_l16, py_l32, py_l40, py_l100, py_l640, py_l1280, py_neg, py_add, py_sub, py_mul, py_stO]
      exact py_ilt (fun c => absurd c (by omega)) (fun _ => py_ilt (fun _ => hK) (fun c => absurd c (by omega)))
    have hnone : ∀ K : ty_S → Int32 → Prop, K (py_O u) (py_o (-1)) → jX5_remembered_30 K (py_O u) := fun K hK => by
      unfold jX5_remembered_30
      try simp only [py_O_ap, py_l0, py_l1, py_l2, py_l3, py_l4, py_l5, py_l6, py_l7, py_l8, py_l9, py_l12, py_l16, py_l32, py_l40, py_l100, py_l640, py_l1280, py_neg, py_add, py_sub, py_mul, py_stO]
      exact py_ile (fun _ => hK) (fun c => absurd c (by omega))
    by_cases hk : 0 ≤ k ∧ k < 1280
    · by_cases hex : ∃ p : Nat, p < 1280 ∧ ph_Rm s u c p ∧ (ph_rc s u c p : Int) = k
      · obtain ⟨p, hp, hw, hkp⟩ := hex
        have huniq : ∀ q : Nat, ph_Rm s u c q → (ph_rc s u c q : Int) = k → q = p := fun q hq hqk => by
          rcases Nat.lt_trichotomy q p with e | e | e
          · have := ph_rc_lt hq e; omega
          · exact e
          · have := ph_rc_lt hw e; omega
        have hlt := ph_rc_lt hw hp
        refine ph_ret h (r := p) (fun K KX hK => pr_remembered h2 hc hk (fun q _ hq hqk => by rw [huniq q hq hqk]; exact hK) (fun c => absurd c (by omega))) (fun K hK => hmod K ?_)
        unfold jX5_remembered_16
        try simp only [py_O_ap, py_l0, py_l1, py_l2, py_l3, py_l4, py_l5, py_l6, py_l7, py_l8, py_l9, py_l12, py_l16, py_l32, py_l40, py_l100, py_l640, py_l1280, py_neg, py_add, py_sub, py_mul, py_stO]
        rw [← hu] at hK ⊢
        refine py_ilt (fun c => absurd c (by omega)) (fun _ => py_ile (fun _ => ?_) (fun c => absurd c (by omega)))
        refine pm_remembers h2 hc rk (fun q hq1 hq hqk => ?_) (fun hOK => absurd hkp (hOK p hp hw))
        rw [huniq q hq hqk]
        exact py_ile (fun _ => hK) (fun c => absurd c (by omega))
      · have hge : (ph_rc s u c 1280 : Int) ≤ k := by
          by_cases e : (ph_rc s u c 1280 : Int) ≤ k
          · exact e
          · obtain ⟨p, p1, p2, p3⟩ := ph_rc_ivt (s := s) (t := u) (c := c) (k := k.toNat) 1280 (by omega)
            exact absurd ⟨p, p1, p2, by omega⟩ hex
        refine ph_ret h (r := -1) (fun K KX hK => pr_remembered h2 hc hk (fun q hq1 hq hqk => absurd ⟨q, hq1, hq, hqk⟩ hex) (fun _ => hK)) (fun K hK => hmod K ?_)
        unfold jX5_remembered_16
        try simp only [py_O_ap, py_l0, py_l1, py_l2, py_l3, py_l4, py_l5, py_l6, py_l7, py_l8, py_l9, py_l12, py_l16, py_l32, py_l40, py_l100, py_l640, py_l1280, py_neg, py_add, py_sub, py_mul, py_stO]
        rw [← hu] at hK ⊢
        refine py_ilt (fun c => absurd c (by omega)) (fun _ => py_ile (fun _ => ?_) (fun c => absurd c (by omega)))
        refine pm_remembers h2 hc rk (fun q hq1 hq hqk => absurd ⟨q, hq1, hq, hqk⟩ hex) (fun _ => ?_)
        exact py_ile (fun c => absurd c (by omega)) (fun _ => hK)
    · refine ph_ret h (r := -1) (fun K KX hK => ?_) (fun K hK => hmod K ?_)
      · unfold eX4_remembered
        try simp only [py_O_ap, py_l0, py_l1, py_l2, py_l3, py_l4, py_l5, py_l6, py_l7, py_l8, py_l9, py_l12, py_l16, py_l32, py_l40, py_l100, py_l640, py_l1280, py_neg, py_add, py_sub, py_mul, py_stO]
        unfold eX4_needCar
        try simp only [py_O_ap, py_l0, py_l1, py_l2, py_l3, py_l4, py_l5, py_l6, py_l7, py_l8, py_l9, py_l12, py_l16, py_l32, py_l40, py_l100, py_l640, py_l1280, py_neg, py_add, py_sub, py_mul, py_stO]
        refine pr_isCar (fun _ _ => ?_) (fun c => absurd c (by omega))
        refine py_ieq (fun c => absurd c (by omega)) (fun _ => ?_)
        exact py_ilt (fun _ => hK) (fun a1 => py_ilt (fun a2 => absurd ⟨a1, a2⟩ hk) (fun _ => hK))
      · unfold jX5_remembered_16
        try simp only [py_O_ap, py_l0, py_l1, py_l2, py_l3, py_l4, py_l5, py_l6, py_l7, py_l8, py_l9, py_l12, py_l16, py_l32, py_l40, py_l100, py_l640, py_l1280, py_neg, py_add, py_sub, py_mul, py_stO]
        rw [← hu] at hK ⊢
        refine py_ilt (fun c => absurd c (by omega)) (fun _ => py_ile (fun a1 => ?_) (fun _ => hnone K hK))
        refine pm_remembers h2 hc rk (fun q hq1 hq hqk => ?_) (fun _ => ?_)
        · have := ph_rc_le (s := s) (t := u) (c := c) q
          omega
        · exact py_ile (fun c => absurd c (by omega)) (fun _ => hK)
  · refine ph_thr h (k := 0) (v := 1) (by omega) rfl (by decide) (fun K KX hK => ?_) (fun K hK => ?_)
    · unfold eX4_remembered
      try simp only [py_O_ap, py_l0, py_l1, py_l2, py_l3, py_l4, py_l5, py_l6, py_l7, py_l8, py_l9, py_l12, py_l16, py_l32, py_l40, py_l100, py_l640, py_l1280, py_neg, py_add, py_sub, py_mul, py_stO]
      unfold eX4_needCar
      try simp only [py_O_ap, py_l0, py_l1, py_l2, py_l3, py_l4, py_l5, py_l6, py_l7, py_l8, py_l9, py_l12, py_l16, py_l32, py_l40, py_l100, py_l640, py_l1280, py_neg, py_add, py_sub, py_mul, py_stO]
      exact pr_isCar (fun a1 a2 => absurd ⟨a1, a2⟩ ha) (fun _ => py_ieq (fun _ => hK) (fun c => absurd rfl c))
    · have hj : jX5_remembered_11 K (py_o a) (py_o k) (py_O t) := by
        unfold jX5_remembered_11 jX5_remembered_16
        try simp only [py_O_ap, py_l0, py_l1, py_l2, py_l3, py_l4, py_l5, py_l6, py_l7, py_l8, py_l9, py_l12, py_l16, py_l32, py_l40, py_l100, py_l640, py_l1280, py_neg, py_add, py_sub, py_mul, py_stO]
        refine py_ilt (fun _ => ?_) (fun c => absurd c (by omega))
        unfold jX5_remembered_30
        try simp only [py_O_ap, py_l0, py_l1, py_l2, py_l3, py_l4, py_l5, py_l6, py_l7, py_l8, py_l9, py_l12, py_l16, py_l32, py_l40, py_l100, py_l640, py_l1280, py_neg, py_add, py_sub, py_mul, py_stO]
        rw [py_se]
        exact py_ile (fun c => absurd c (by omega)) (fun _ => hK)
      unfold eX5_remembered
      try simp only [py_O_ap, py_l0, py_l1, py_l2, py_l3, py_l4, py_l5, py_l6, py_l7, py_l8, py_l9, py_l12, py_l16, py_l32, py_l40, py_l100, py_l640, py_l1280, py_neg, py_add, py_sub, py_mul, py_stO]
      exact py_ilt (fun _ => hj) (fun a1 => py_ilt (fun a2 => absurd ⟨a1, a2⟩ ha) (fun _ => hj))
/-- about -/
theorem ph_callAbout (h : ph_R s t n m) {a w : Int} (ra : -2147483648 ≤ a ∧ a < 2147483648) (rw' : -2147483648 ≤ w ∧ w < 2147483648) : ph_Out (fun K KX => eX4_about (py_O s) (py_o a) (py_o w) K KX) (fun K => eX5_about (py_O t) (py_o a) (py_o w) K) py_code0 (n + 1) (m + 101) := by
  have h2 := h.t60 0
  by_cases haw : (0 ≤ a ∧ a < 40) ∧ 0 ≤ w ∧ w ≤ 4
  · obtain ⟨c, hca⟩ : ∃ c : Nat, a = c := ⟨a.toNat, by omega⟩
    subst hca
    have hc : c < 40 := by omega
    obtain ⟨e1, e2, e3, e4, e5, e6, e7, e8⟩ := h.2.1.1 c hc
    obtain ⟨u, hu⟩ : ∃ u, u = py_st t 60 0 0 := ⟨_, rfl⟩
    have ug : ∀ g i, g ≠ 60 → u g i = t g i := fun g i hg => by rw [hu]; exact py_sn hg
    rw [← hu] at h2
    have hle := ph_rc_le (s := s) (t := u) (c := c) 1280
    have h6b := h.1.six_b hc
    -- the last thing
    have hlast : 0 < t 38 c → (0 ≤ s 4 c ∧ s 4 c < 1280) ∧ (0 ≤ t 39 (16 * c + (t 38 c).toNat - 1) ∧ t 39 (16 * c + (t 38 c).toNat - 1) < 640) ∧ s 0 (s 4 c).toNat = t 30 (t 39 (16 * c + (t 38 c).toNat - 1)).toNat := fun h9 => by
      obtain ⟨w1, w2, w3, w4, w5⟩ := h.2.1.2.1 c ((t 38 c).toNat - 1) hc (by omega)
      obtain ⟨f1, f2, f3, f4⟩ := h.2.1.fit (c := c) (k := (t 38 c).toNat - 1) hc (by omega)
      have h4 := e7 h9
      rw [show 16 * c + ((t 38 c).toNat - 1) = 16 * c + (t 38 c).toNat - 1 by omega] at w1
      refine ⟨by unfold ph_sz at f1; omega, w1, ?_⟩
      rw [h4, show (32 * (c : Int) + ph_pos t c ((t 38 c).toNat - 1)).toNat = 32 * c + ph_pos t c ((t 38 c).toNat - 1) by omega, w4]
      unfold ph_x
      rw [show 16 * c + ((t 38 c).toNat - 1) = 16 * c + (t 38 c).toNat - 1 by omega]
    obtain ⟨r, hr⟩ : ∃ r : Int, r = (if w = 0 then s 6 c else if w = 1 then 32 - t 37 c else if w = 2 then t 38 c else if w = 3 then (ph_rc s u c 1280 : Nat) else if t 38 c = 0 then 0 else t 30 (t 39 (16 * c + (t 38 c).toNat - 1)).toNat) := ⟨_, rfl⟩
    refine ph_ret h (r := r) (fun K KX hK => ?_) (fun K hK => ?_)
    · unfold eX4_about
      try simp only [py_O_ap, py_l0, py_l1, py_l2, py_l3, py_l4, py_l5, py_l6, py_l7, py_l8, py_l9, py_l12, py_l16, py_l32, py_l40, py_l100, py_l640, py_l1280, py_neg, py_add, py_sub, py_mul, py_stO]
      unfold eX4_needCar
      try simp only [py_O_ap, py_l0, py_l1, py_l2, py_l3, py_l4, py_l5, py_l6, py_l7, py_l8, py_l9, py_l12, py_l16, py_l32, py_l40, py_l100, py_l640, py_l1280, py_neg, py_add, py_sub, py_mul, py_stO]
      refine pr_isCar (fun _ _ => ?_) (fun c => absurd c (by omega))
      refine py_ieq (fun c => absurd c (by omega)) (fun _ => ?_)
      refine pr_needWhat rw' (by omega) (fun _ _ => ?_) (fun c => absurd haw.2 c)
      refine py_ieq (fun z1 => ?_) (fun z1 => ?_)
      · rw [hr, if_pos z1] at hK
        refine pr_trainOf (fun _ _ => ?_) (fun c => absurd c (by omega))
        simpa only [Int.toNat_natCast] using hK
      · rw [if_neg z1] at hr
        refine py_ieq (fun z2 => ?_) (fun z2 => ?_)
        · rw [hr, if_pos z2, ← e2] at hK
          refine pr_room (fun _ _ => ?_) (fun c => absurd c (by omega))
          simpa only [Int.toNat_natCast] using hK
        · rw [if_neg z2] at hr
          refine py_ieq (fun z3 => ?_) (fun z3 => ?_)
          · rw [hr, if_pos z3, ← e1] at hK
            refine pr_things (fun _ _ => ?_) (fun c => absurd c (by omega))
            simpa only [Int.toNat_natCast] using hK
          · rw [if_neg z3] at hr
            refine py_ieq (fun z4 => ?_) (fun z4 => ?_)
            · rw [hr, if_pos z4] at hK
              exact pr_countRemembered h2 hc hK
            · rw [if_neg z4] at hr
              refine pr_lastLabel (by omega) (by omega) (by simp only [Int.toNat_natCast]; omega) (fun z5 => ?_) (fun z5 => ?_)
              · simp only [Int.toNat_natCast] at z5
                rw [hr, if_pos (by omega)] at hK; exact hK
              · simp only [Int.toNat_natCast] at z5 ⊢
                obtain ⟨l1, l2, l3⟩ := hlast (by omega)
                rw [hr, if_neg (by omega), ← l3] at hK
                exact ⟨l1, hK⟩
    · have hj : jX5_about_25 K (py_o c) (py_o w) (py_o 0) (py_O t) := by
        unfold jX5_about_25
        try simp only [py_O_ap, py_l0, py_l1, py_l2, py_l3, py_l4, py_l5, py_l6, py_l7, py_l8, py_l9, py_l12, py_l16, py_l32, py_l40, py_l100, py_l640, py_l1280, py_neg, py_add, py_sub, py_mul, py_stO]
        rw [if_pos (Int32.le_refl _)]
        rw [← hu] at hK ⊢
        have hh : ∀ x : Int, (w = 0 → K (py_O u) (py_o (if 0 ≤ x then u 40 x.toNat else 0))) → (-1 ≤ x ∧ x < 41) → (if py_o w = py_o 0 then (if py_o 0 ≤ py_o x then (vp_in (py_o x) 41 ∧ K (py_O u) (py_O u 40 (py_o x).toNatClampNeg)) else K (py_O u) (py_o 0)) else (if py_o w = py_o 1 then (vp_in (py_o c) 40 ∧ K (py_O u) (py_o 32 - py_O u 37 (py_o c).toNatClampNeg)) else (if py_o w = py_o 2 then (vp_in (py_o c) 40 ∧ K (py_O u) (py_O u 38 (py_o c).toNatClampNeg)) else (if py_o w = py_o 3 then (eX5_remembers (py_O u) (py_o c) (py_o (-1)) (fun S2 r2 => K S2 (py_o (-1) - r2))) else (vp_in (py_o c) 40 ∧ (if (py_O u 38 (py_o c).toNatClampNeg) = py_o 0 then K (py_O u) (py_o 0) else (vp_in (py_o c) 40 ∧ (vp_in ((py_o (16 * (c : Int)) + py_O u 38 (py_o c).toNatClampNeg) - py_o 1) 640 ∧ (vp_in (py_O u 39 ((py_o (16 * (c : Int)) + py_O u 38 (py_o c).toNatClampNeg) - py_o 1).toNatClampNeg) 640 ∧ K (py_O u) (py_O u 30 (py_O u 39 ((py_o (16 * (c : Int)) + py_O u 38 (py_o c).toNatClampNeg) - py_o 1).toNatClampNeg).toNatClampNeg)))))))))) := fun x hx hxb => by
          refine py_ieq (fun z1 => ?_) (fun z1 => ?_)
          · have hx := hx z1
            refine py_ile (fun z2 => py_and ?_) (fun z2 => ?_)
            · rw [if_pos z2] at hx
              rw [py_nat (by omega)]; exact hx
            · rw [if_neg (by omega)] at hx; exact hx
          · rw [if_neg z1] at hr
            refine py_ieq (fun z2 => py_and ?_) (fun z2 => ?_)
            · rw [hr, if_pos z2] at hK
              rw [py_nat (by omega)]
              try simp only [py_O_ap, py_l0, py_l1, py_l2, py_l3, py_l4, py_l5, py_l6, py_l7, py_l8, py_l9, py_l12, py_l16, py_l32, py_l40, py_l100, py_l640, py_l1280, py_neg, py_add, py_sub, py_mul, py_stO]
              simp only [Int.toNat_natCast]
              rw [ug 37 c (by decide)]; exact hK
            · rw [if_neg z2] at hr
              refine py_ieq (fun z3 => py_and ?_) (fun z3 => ?_)
              · rw [hr, if_pos z3] at hK
                rw [py_nat (by omega)]
                try simp only [py_O_ap, py_l0, py_l1, py_l2, py_l3, py_l4, py_l5, py_l6, py_l7, py_l8, py_l9, py_l12, py_l16, py_l32, py_l40, py_l100, py_l640, py_l1280, py_neg, py_add, py_sub, py_mul, py_stO]
                simp only [Int.toNat_natCast]
                rw [ug 38 c (by decide)]; exact hK
              · rw [if_neg z3] at hr
                refine py_ieq (fun z4 => ?_) (fun z4 => py_and ?_)
                · rw [hr, if_pos z4] at hK
                  refine pm_remembers h2 hc (by omega) (fun p hp hw9 hpk => absurd hpk (by omega)) (fun _ => ?_)
                  try simp only [py_O_ap, py_l0, py_l1, py_l2, py_l3, py_l4, py_l5, py_l6, py_l7, py_l8, py_l9, py_l12, py_l16, py_l32, py_l40, py_l100, py_l640, py_l1280, py_neg, py_add, py_sub, py_mul, py_stO]
                  rw [show (-1 : Int) - (-1 - (ph_rc s u c 1280 : Nat)) = (ph_rc s u c 1280 : Nat) by omega]
                  exact hK
                · rw [if_neg z4] at hr
                  rw [py_nat (by omega)]
                  try simp only [py_O_ap, py_l0, py_l1, py_l2, py_l3, py_l4, py_l5, py_l6, py_l7, py_l8, py_l9, py_l12, py_l16, py_l32, py_l40, py_l100, py_l640, py_l1280, py_neg, py_add, py_sub, py_mul, py_stO]
                  simp only [Int.toNat_natCast, ug 38 c (show 38 ≠ 60 by decide)]
                  refine py_ieq (fun z5 => ?_) (fun z5 => py_and (py_and ?_))
                  · rw [hr, if_pos z5] at hK; exact hK
                  · obtain ⟨l1, l2, l3⟩ := hlast (by omega)
                    rw [hr, if_neg z5] at hK
                    rw [py_nat (by omega), show ((16 : Int) * c + t 38 c - 1).toNat = 16 * c + (t 38 c).toNat - 1 by omega, ug 39 _ (by decide)]
                    refine py_and ?_
                    rw [py_nat (by omega), ug 30 _ (by decide)]
                    exact hK
        refine pm_trainOf h2.1 hc (fun j hj e9 => hh j (fun z1 => ?_) (by have := h2.1.1; omega)) (fun e9 => hh (-1) (fun z1 => ?_) (by omega))
        · rw [if_pos (by omega)]
          simp only [Int.toNat_natCast]
          rw [← e9]
          rw [hr, if_pos z1] at hK; exact hK
        · rw [if_neg (by omega)]
          rw [hr, if_pos z1, e9] at hK; exact hK
      unfold eX5_about
      try simp only [py_O_ap, py_l0, py_l1, py_l2, py_l3, py_l4, py_l5, py_l6, py_l7, py_l8, py_l9, py_l12, py_l16, py_l32, py_l40, py_l100, py_l640, py_l1280, py_neg, py_add, py_sub, py_mul, py_stO]
      exact py_ilt (fun c => absurd c (by omega)) (fun _ => py_ile (fun c => absurd c (by omega)) (fun _ => py_ilt (fun c => absurd c (by omega)) (fun _ => py_ile (fun _ => hj) (fun c => absurd c (by omega)))))
  · refine ph_thr h (k := 0) (v := 1) (by omega) rfl (by decide) (fun K KX hK => ?_) (fun K hK => ?_)
    · unfold eX4_about
      try simp only [py_O_ap, py_l0, py_l1, py_l2, py_l3, py_l4, py_l5, py_l6, py_l7, py_l8, py_l9, py_l12, py_l16, py_l32, py_l40, py_l100, py_l640, py_l1280, py_neg, py_add, py_sub, py_mul, py_stO]
      unfold eX4_needCar
      try simp only [py_O_ap, py_l0, py_l1, py_l2, py_l3, py_l4, py_l5, py_l6, py_l7, py_l8, py_l9, py_l12, py_l16, py_l32, py_l40, py_l100, py_l640, py_l1280, py_neg, py_add, py_sub, py_mul, py_stO]
      refine pr_isCar (fun a1 a2 => ?_) (fun _ => py_ieq (fun _ => hK) (fun c => absurd rfl c))
      refine py_ieq (fun c => absurd c (by omega)) (fun _ => ?_)
      exact pr_needWhat rw' (by omega) (fun b1 b2 => absurd ⟨⟨a1, a2⟩, b1, b2⟩ haw) (fun _ => hK)
    · have hj : jX5_about_20 K (py_o a) (py_o w) (py_O t) := by
        unfold jX5_about_20 jX5_about_25
        try simp only [py_O_ap, py_l0, py_l1, py_l2, py_l3, py_l4, py_l5, py_l6, py_l7, py_l8, py_l9, py_l12, py_l16, py_l32, py_l40, py_l100, py_l640, py_l1280, py_neg, py_add, py_sub, py_mul, py_stO]
        exact py_ile (fun c => absurd c (by omega)) (fun _ => hK)
      unfold eX5_about
      try simp only [py_O_ap, py_l0, py_l1, py_l2, py_l3, py_l4, py_l5, py_l6, py_l7, py_l8, py_l9, py_l12, py_l16, py_l32, py_l40, py_l100, py_l640, py_l1280, py_neg, py_add, py_sub, py_mul, py_stO]
      exact py_ilt (fun _ => hj) (fun a1 => py_ile (fun _ => hj) (fun a2 => py_ilt (fun _ => hj) (fun b1 => py_ile (fun b2 => absurd ⟨⟨a1, a2⟩, b1, b2⟩ haw) (fun _ => hj))))
end PRD
