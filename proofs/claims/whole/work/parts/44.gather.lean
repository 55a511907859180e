/-! PURE: the references from elsewhere, as the reference lists them -/
def ph_gp (t : py_Z) (k : Nat) : Int := 32 * t 31 (t 45 k).toNat + t 32 (t 45 k).toNat + 2 + t 46 k
def ph_Ent (s t : py_Z) (e k : Nat) : Prop :=
  (0 ≤ t 45 k ∧ t 45 k < 640) ∧ 0 < t 30 (t 45 k).toNat ∧ t 31 (t 45 k).toNat ≠ e ∧ (0 ≤ t 46 k ∧ t 46 k < t 33 (t 45 k).toNat) ∧
  (0 ≤ t 35 (12 * (t 45 k).toNat + (t 46 k).toNat) ∧ t 31 (t 35 (12 * (t 45 k).toNat + (t 46 k).toNat)).toNat = e) ∧ t 47 k = (if s 6 (t 31 (t 45 k).toNat).toNat = t 40 0 then 1 else 0)
def ph_G (s t : py_Z) (e : Nat) (B : Int) : Prop :=
  0 ≤ t 61 0 ∧ (∀ k : Nat, (k : Int) < t 61 0 → ph_Ent s t e k ∧ ph_gp t k < B) ∧ (∀ a b : Nat, a < b → (b : Int) < t 61 0 → ph_gp t a < ph_gp t b) ∧
  (∀ x : Nat, x < 640 → 0 < t 30 x → t 31 x ≠ e → ∀ i : Nat, (i : Int) < t 33 x → 0 ≤ t 35 (12 * x + i) → t 31 (t 35 (12 * x + i)).toNat = e → 32 * t 31 x + t 32 x + 2 + i < B → ∃ k : Nat, (k : Int) < t 61 0 ∧ t 45 k = x ∧ t 46 k = i)
def ph_Same (t u : py_Z) : Prop := ∀ g i, g ≠ 45 → g ≠ 46 → g ≠ 47 → g ≠ 61 → u g i = t g i
section PHG
variable {s t u : py_Z} {E : Int → Int} {e : Nat}
theorem ph_G.up {B B' : Int} (h : ph_G s u e B) (hB : B ≤ B') (hno : ∀ x i : Nat, x < 640 → 0 < u 30 x → u 31 x ≠ e → (i : Int) < u 33 x → 0 ≤ u 35 (12 * x + i) → u 31 (u 35 (12 * x + i)).toNat = e → B ≤ 32 * u 31 x + u 32 x + 2 + i → 32 * u 31 x + u 32 x + 2 + i < B' → False) : ph_G s u e B' := by
  refine ⟨h.1, fun k hk => ⟨(h.2.1 k hk).1, by have := (h.2.1 k hk).2; omega⟩, h.2.2.1, fun x hx hl hne i hi h1 h2 h3 => ?_⟩
  by_cases e1 : 32 * u 31 x + u 32 x + 2 + i < B
  · exact h.2.2.2 x hx hl hne i hi h1 h2 e1
  · exact (hno x i hx hl hne hi h1 h2 (by omega) h3).elim
theorem ph_G.cnt {B : Int} (h : ph_G s u e B) (h0 : ∀ x : Nat, x < 640 → 0 < u 30 x → 0 ≤ u 31 x ∧ 0 ≤ u 32 x) (hB : 0 ≤ B) : u 61 0 ≤ B := by
  have key : ∀ k : Nat, (k : Int) < u 61 0 → (k : Int) ≤ ph_gp u k := by
    intro k
    induction k with
    | zero =>
      intro hk
      obtain ⟨⟨a1, a2, a3, a4, a5⟩, a6⟩ := h.2.1 0 hk
      have := h0 (u 45 0).toNat (by omega) a2
      unfold ph_gp
      omega
    | succ k ih =>
      intro hk
      have := ih (by omega)
      have := h.2.2.1 k (k + 1) (by omega) hk
      omega
  by_cases e1 : u 61 0 = 0
  · omega
  · have h1 := h.1
    have h2 := key (u 61 0 - 1).toNat (by omega)
    have h3 := (h.2.1 (u 61 0 - 1).toNat (by omega)).2
    omega
/-- one reference -/
theorem ph_gi (hRW : pr_RW s t) (hTH : ph_TH s t E) (hMH : ph_MH t (-1)) (he : t 59 0 = e ∧ e < 40) {c k tr : Nat} (hc : c < 40) (hce : c ≠ e) (hk : (k : Int) < t 38 c) (htr : (tr : Int) < t 50 0 ∧ s 6 c = t 40 tr) :
    ∀ (d i : Nat) (u : py_Z), (i : Int) + d = t 33 (ph_x t c k) → ph_Same t u → ph_G s u e (32 * c + ph_pos t c k + 2 + i) →
    ∃ u' : py_Z, (∀ (K : ty_S → Prop) (R7 : Int32 → ty_S → Prop) (R21 : Int32 → Int32 → Int32 → ty_S → Prop), R21 (py_o c) (py_o tr) (py_o (k + 1)) (py_O u') → ∃ n9, lX5_gather_59 K R7 R21 n9 (py_o c) (py_o tr) (py_o k) (py_o (ph_x t c k)) (py_o i) (py_O u)) ∧
      ph_Same t u' ∧ ph_G s u' e (32 * c + ph_pos t c k + 2 + t 33 (ph_x t c k)) := by
  obtain ⟨w1, w2, w3, w4, w5, w6, w7⟩ := hTH.2.1 c k hc hk
  obtain ⟨f1, f2, f3, f4⟩ := hTH.fit hc hk
  obtain ⟨m1, m2, m3⟩ := hMH.2.2.2.1 c k hc (by omega) hk
  have hx640 : ph_x t c k < 640 := by unfold ph_x; omega
  generalize hx : ph_x t c k = x at *
  have h0 := hRW.1
  intro d
  induction d with
  | zero =>
    intro i u hi hS hG
    have s33 := hS 33 x (by omega) (by omega) (by omega) (by omega)
    refine ⟨u, fun K R7 R21 hR => ⟨1, ?_⟩, hS, by rw [show t 33 x = (i : Int) by omega]; exact hG⟩
    unfold lX5_gather_59
    try simp only [py_O_ap, py_l0, py_l1, py_l2, py_l3, py_l4, py_l5, py_l6, py_l7, py_l8, py_l9, py_l12, py_l16, py_l32, py_l40, py_l100, py_l640, py_l1280, py_neg, py_add, py_sub, py_mul, py_stO]
    refine py_and ?_
    rw [py_nat (by omega)]
    simp only [Int.toNat_natCast]
    exact py_ile (fun _ => hR) (fun c => absurd c (by omega))
  | succ d ih =>
    intro i u hi hS hG
    have s33 := hS 33 x (by omega) (by omega) (by omega) (by omega)
    have s35 := hS 35 (12 * x + i) (by omega) (by omega) (by omega) (by omega)
    have hPV := hMH.2.2.2.2.2 x hx640 m1 i (by omega)
    have e2 : ((12 : Int) * x + i).toNat = 12 * x + i := by omega
    -- places are of one reference alone
    have huniq : ∀ x' i' : Nat, x' < 640 → 0 < t 30 x' → (i' : Int) < t 33 x' → 32 * t 31 x' + t 32 x' + 2 + i' = 32 * c + ph_pos t c k + 2 + i → x' = x ∧ i' = i := fun x' i' hx' hl' hi' hp => by
      obtain ⟨c', k', g1, g2, g3, g4, g5⟩ := hMH.2.2.1 x' hx' hl'
      have := hTH.refinj g1 g2 (i := i') (by rw [g3]; exact hi') hc hk (i' := i) (by rw [hx]; omega) (by omega)
      obtain ⟨q1, q2, q3⟩ := this
      subst q1; subst q2
      exact ⟨by rw [← g3, ← hx], q3⟩
    have hinC : ∀ (K : ty_S → Int32 → Prop), (0 ≤ t 35 (12 * x + i) ∧ t 31 (t 35 (12 * x + i)).toNat = e → K (py_O u) (py_o 1)) → (¬ (0 ≤ t 35 (12 * x + i) ∧ t 31 (t 35 (12 * x + i)).toNat = e) → K (py_O u) (py_o 0)) → eX5_isInCar (py_O u) (py_o (t 35 (12 * x + i))) K := fun K h1 h2 => by
      have s30 : ∀ z, u 30 z = t 30 z := fun z => hS 30 z (by omega) (by omega) (by omega) (by omega)
      have s31 : ∀ z, u 31 z = t 31 z := fun z => hS 31 z (by omega) (by omega) (by omega) (by omega)
      have s59 : u 59 0 = t 59 0 := hS 59 0 (by omega) (by omega) (by omega) (by omega)
      refine pm_isInCar ?_ (fun z hz => by rw [s30]; have := hMH.2.1 z hz; have := hMH.1; omega) (fun z hz hl => ?_) (by omega) (fun a b c => h1 ⟨a, by rw [s31, s59] at c; omega⟩) (fun a => h2 (fun b => a ⟨b.1, ?_, by rw [s31, s59]; omega⟩))
      · rcases hPV with a | ⟨a, b⟩ <;> omega
      · rw [s30] at hl
        rw [s31]
        obtain ⟨c', k', g1, g2, g3, g4, g5⟩ := hMH.2.2.1 z hz hl
        omega
      · rw [s30]
        rcases hPV with a | ⟨a, b⟩
        · omega
        · exact b
    have hlive : ∀ z : Nat, z < 640 → 0 < u 30 z → 0 ≤ u 31 z ∧ 0 ≤ u 32 z := fun z hz hl => by
      rw [hS 30 z (by omega) (by omega) (by omega) (by omega)] at hl
      rw [hS 31 z (by omega) (by omega) (by omega) (by omega), hS 32 z (by omega) (by omega) (by omega) (by omega)]
      obtain ⟨c', k', g1, g2, g3, g4, g5⟩ := hMH.2.2.1 z hz hl
      omega
    have hN := hG.cnt hlive (by omega)
    have hN0 := hG.1
    have hbound : u 61 0 < 1280 := by omega
    by_cases hin : 0 ≤ t 35 (12 * x + i) ∧ t 31 (t 35 (12 * x + i)).toNat = e
    · -- it is listed
      generalize hfl : (if s 6 c = t 40 0 then (1 : Int) else 0) = fl
      obtain ⟨v, hv⟩ : ∃ v, v = py_st (py_st (py_st (py_st u 45 (u 61 0).toNat x) 46 (u 61 0).toNat i) 47 (u 61 0).toNat fl) 61 0 (u 61 0 + 1) := ⟨_, rfl⟩
      have v45 : ∀ a : Nat, v 45 a = if a = (u 61 0).toNat then (x : Int) else u 45 a := fun a => by rw [hv]; simp [py_st]
      have v46 : ∀ a : Nat, v 46 a = if a = (u 61 0).toNat then (i : Int) else u 46 a := fun a => by rw [hv]; simp [py_st]
      have v47 : ∀ a : Nat, v 47 a = if a = (u 61 0).toNat then fl else u 47 a := fun a => by rw [hv]; simp [py_st]
      have v61 : v 61 0 = u 61 0 + 1 := by rw [hv]; simp [py_st]
      have vg : ∀ g a, g ≠ 45 → g ≠ 46 → g ≠ 47 → g ≠ 61 → v g a = u g a := fun g a h1 h2 h3 h4 => by rw [hv]; simp [py_st, h1, h2, h3, h4]
      have hSv : ph_Same t v := fun g a h1 h2 h3 h4 => (vg g a h1 h2 h3 h4).trans (hS g a h1 h2 h3 h4)
      have v30 : ∀ z, v 30 z = t 30 z := fun z => hSv 30 z (by omega) (by omega) (by omega) (by omega)
      have v31 : ∀ z, v 31 z = t 31 z := fun z => hSv 31 z (by omega) (by omega) (by omega) (by omega)
      have v32 : ∀ z, v 32 z = t 32 z := fun z => hSv 32 z (by omega) (by omega) (by omega) (by omega)
      have v33 : ∀ z, v 33 z = t 33 z := fun z => hSv 33 z (by omega) (by omega) (by omega) (by omega)
      have v35 : ∀ z, v 35 z = t 35 z := fun z => hSv 35 z (by omega) (by omega) (by omega) (by omega)
      have v40 : v 40 0 = t 40 0 := hSv 40 0 (by omega) (by omega) (by omega) (by omega)
      have u30 : ∀ z, u 30 z = t 30 z := fun z => hS 30 z (by omega) (by omega) (by omega) (by omega)
      have u31 : ∀ z, u 31 z = t 31 z := fun z => hS 31 z (by omega) (by omega) (by omega) (by omega)
      have u32 : ∀ z, u 32 z = t 32 z := fun z => hS 32 z (by omega) (by omega) (by omega) (by omega)
      have u33 : ∀ z, u 33 z = t 33 z := fun z => hS 33 z (by omega) (by omega) (by omega) (by omega)
      have u35 : ∀ z, u 35 z = t 35 z := fun z => hS 35 z (by omega) (by omega) (by omega) (by omega)
      have u40 : u 40 0 = t 40 0 := hS 40 0 (by omega) (by omega) (by omega) (by omega)
      have hold : ∀ a : Nat, (a : Int) < u 61 0 → v 45 a = u 45 a ∧ v 46 a = u 46 a ∧ v 47 a = u 47 a := fun a ha => by
        rw [v45, v46, v47, if_neg (by omega), if_neg (by omega), if_neg (by omega)]; exact ⟨rfl, rfl, rfl⟩
      have hgpo : ∀ a : Nat, (a : Int) < u 61 0 → ph_gp v a = ph_gp u a := fun a ha => by
        unfold ph_gp
        rw [(hold a ha).1, (hold a ha).2.1, v31, v32, u31, u32]
      have hgpn : ph_gp v (u 61 0).toNat = 32 * c + ph_pos t c k + 2 + i := by
        unfold ph_gp
        rw [v45, v46, if_pos rfl, if_pos rfl, v31, v32]
        simp only [Int.toNat_natCast]
        omega
      have hG2 : ph_G s v e (32 * c + ph_pos t c k + 2 + (i + 1 : Nat)) := by
        refine ⟨by omega, fun a ha => ?_, fun a b hab hb => ?_, fun x' hx' hl' hne' i' hi' h1 h2 h3 => ?_⟩
        · by_cases e9 : a = (u 61 0).toNat
          · subst e9
            refine ⟨?_, by rw [hgpn]; omega⟩
            unfold ph_Ent
            rw [v45, v46, v47, if_pos rfl, if_pos rfl, if_pos rfl]
            simp only [Int.toNat_natCast, v30, v31, v33, v35, v40]
            refine ⟨by omega, m1, by omega, by omega, hin, ?_⟩
            rw [m2]
            simp only [Int.toNat_natCast]
            exact hfl.symm
          · obtain ⟨a1, a2⟩ := hG.2.1 a (by omega)
            rw [hgpo a (by omega)]
            refine ⟨?_, by omega⟩
            unfold ph_Ent at a1 ⊢
            rw [(hold a (by omega)).1, (hold a (by omega)).2.1, (hold a (by omega)).2.2]
            simp only [v30, v31, v33, v35, v40]
            simp only [u30, u31, u33, u35, u40] at a1
            exact a1
        · by_cases e9 : b = (u 61 0).toNat
          · subst e9
            rw [hgpn, hgpo a (by omega)]
            have := (hG.2.1 a (by omega)).2
            omega
          · rw [hgpo a (by omega), hgpo b (by omega)]
            exact hG.2.2.1 a b hab (by omega)
        · rw [v30] at hl'
          rw [v31] at hne'
          rw [v33] at hi'
          rw [v35] at h1 h2
          rw [v31] at h2
          rw [v31, v32] at h3
          by_cases e9 : 32 * t 31 x' + t 32 x' + 2 + i' < 32 * c + ph_pos t c k + 2 + i
          · obtain ⟨a, b1, b2, b3⟩ := hG.2.2.2 x' hx' (by rw [u30]; exact hl') (by rw [u31]; exact hne') i' (by rw [u33]; exact hi') (by rw [u35]; exact h1) (by rw [u35, u31]; exact h2) (by rw [u31, u32]; exact e9)
            exact ⟨a, by omega, by rw [(hold a b1).1]; exact b2, by rw [(hold a b1).2.1]; exact b3⟩
          · obtain ⟨b1, b2⟩ := huniq x' i' hx' hl' hi' (by omega)
            exact ⟨(u 61 0).toNat, by omega, by rw [v45, if_pos rfl, b1], by rw [v46, if_pos rfl, b2]⟩
      obtain ⟨u', o1, o2, o3⟩ := ih (i + 1) v (by omega) hSv hG2
      refine ⟨u', fun K R7 R21 hR => ?_, o2, o3⟩
      obtain ⟨n9, hn9⟩ := o1 K R7 R21 hR
      refine ⟨n9 + 1, ?_⟩
      unfold lX5_gather_59
      try simp only [py_O_ap, py_l0, py_l1, py_l2, py_l3, py_l4, py_l5, py_l6, py_l7, py_l8, py_l9, py_l12, py_l16, py_l32, py_l40, py_l100, py_l640, py_l1280, py_neg, py_add, py_sub, py_mul, py_stO]
      refine py_and ?_
      rw [py_nat (by omega), py_nat (by omega), e2]
      simp only [Int.toNat_natCast]
      refine py_ile (fun c => absurd c (by omega)) (fun _ => py_and ?_)
      rw [s35]
      refine hinC _ (fun _ => ?_) (fun c => absurd hin c)
      refine py_ieq (fun c => absurd c (by omega)) (fun _ => py_and (py_and ?_))
      try simp only [py_O_ap, py_l0, py_l1, py_l2, py_l3, py_l4, py_l5, py_l6, py_l7, py_l8, py_l9, py_l12, py_l16, py_l32, py_l40, py_l100, py_l640, py_l1280, py_neg, py_add, py_sub, py_mul, py_stO]
      rw [py_nat (by omega)]
      try simp only [py_O_ap, py_l0, py_l1, py_l2, py_l3, py_l4, py_l5, py_l6, py_l7, py_l8, py_l9, py_l12, py_l16, py_l32, py_l40, py_l100, py_l640, py_l1280, py_neg, py_add, py_sub, py_mul, py_stO]
      have h6 := hRW.six_b hc
      rw [hv] at hn9
      refine py_ieq (fun c9 => py_and ?_) (fun c9 => py_and ?_)
      · have e10 : tr = 0 := by omega
        have : fl = 1 := by rw [← hfl, htr.2, e10, if_pos rfl]
        rw [this] at hn9
        exact hn9
      · have : fl = 0 := by
          rw [← hfl, htr.2, if_neg]
          have h8 := hRW.2.2.2.2.2.1 0 tr (by omega) htr.1
          omega
        rw [this] at hn9
        exact hn9
    · -- it is not
      obtain ⟨u', o1, o2, o3⟩ := ih (i + 1) u (by omega) hS (hG.up (by omega) (fun x' i' hx' hl' hne' hi' g1 g2 h1 h2 => by
        rw [hS 30 x' (by omega) (by omega) (by omega) (by omega)] at hl'
        rw [hS 33 x' (by omega) (by omega) (by omega) (by omega)] at hi'
        rw [hS 31 x' (by omega) (by omega) (by omega) (by omega), hS 32 x' (by omega) (by omega) (by omega) (by omega)] at h1 h2
        rw [hS 35 _ (by omega) (by omega) (by omega) (by omega)] at g1 g2
        rw [hS 31 _ (by omega) (by omega) (by omega) (by omega)] at g2
        obtain ⟨b1, b2⟩ := huniq x' i' hx' hl' hi' (by omega)
        subst b1; subst b2
        exact hin ⟨g1, g2⟩))
      refine ⟨u', fun K R7 R21 hR => ?_, o2, o3⟩
      obtain ⟨n9, hn9⟩ := o1 K R7 R21 hR
      refine ⟨n9 + 1, ?_⟩
      unfold lX5_gather_59
      try simp only [py_O_ap, py_l0, py_l1, py_l2, py_l3, py_l4, py_l5, py_l6, py_l7, py_l8, py_l9, py_l12, py_l16, py_l32, py_l40, py_l100, py_l640, py_l1280, py_neg, py_add, py_sub, py_mul, py_stO]
      refine py_and ?_
      rw [py_nat (by omega), py_nat (by omega), e2]
      simp only [Int.toNat_natCast]
      refine py_ile (fun c => absurd c (by omega)) (fun _ => py_and ?_)
      rw [s35]
      refine hinC _ (fun a => absurd a hin) (fun _ => ?_)
      exact py_ieq (fun _ => hn9) (fun c => absurd rfl c)
theorem ph_gk (hRW : pr_RW s t) (hTH : ph_TH s t E) (hMH : ph_MH t (-1)) (he : t 59 0 = e ∧ e < 40) {c tr : Nat} (hc : c < 40) (hce : c ≠ e) (htr : 0 < t 38 c → (tr : Int) < t 50 0 ∧ s 6 c = t 40 tr) :
    ∀ (d k : Nat) (u : py_Z), (k : Int) + d = t 38 c → ph_Same t u → ph_G s u e (32 * c + ph_pos t c k + 2) →
    ∃ u' : py_Z, (∀ (K : ty_S → Prop) (R7 : Int32 → ty_S → Prop), R7 (py_o (c + 1)) (py_O u') → ∃ n9, lX5_gather_21 K R7 n9 (py_o c) (py_o tr) (py_o k) (py_O u)) ∧
      ph_Same t u' ∧ ph_G s u' e (32 * c + ph_pos t c (t 38 c).toNat + 2) := by
  have hC := hTH.1 c hc
  have hC3 := hC.2.2.1
  intro d
  induction d with
  | zero =>
    intro k u hk hS hG
    have s38 := hS 38 c (by omega) (by omega) (by omega) (by omega)
    refine ⟨u, fun K R7 hR => ⟨1, ?_⟩, hS, by rw [show (t 38 c).toNat = k by omega]; exact hG⟩
    unfold lX5_gather_21
    try simp only [py_O_ap, py_l0, py_l1, py_l2, py_l3, py_l4, py_l5, py_l6, py_l7, py_l8, py_l9, py_l12, py_l16, py_l32, py_l40, py_l100, py_l640, py_l1280, py_neg, py_add, py_sub, py_mul, py_stO]
    refine py_and ?_
    rw [py_nat (by omega)]
    simp only [Int.toNat_natCast]
    exact py_ile (fun _ => hR) (fun c => absurd c (by omega))
  | succ d ih =>
    intro k u hk hS hG
    have s38 := hS 38 c (by omega) (by omega) (by omega) (by omega)
    have s39 := hS 39 (16 * c + k) (by omega) (by omega) (by omega) (by omega)
    have s59 := hS 59 0 (by omega) (by omega) (by omega) (by omega)
    have hkc : (k : Int) < t 38 c := by omega
    obtain ⟨w1, w2, w3, w4, w5, w6, w7⟩ := hTH.2.1 c k hc hkc
    obtain ⟨f1, f2, f3, f4⟩ := hTH.fit hc hkc
    have hpe : ph_pos t c (k + 1) = ph_pos t c k + ph_sz t (ph_x t c k) := rfl
    have ht := htr (by omega)
    have h0 := hRW.1
    obtain ⟨u1, o1, o2, o3⟩ := ph_gi hRW hTH hMH he hc hce hkc ht (t 33 (ph_x t c k)).toNat 0 u (by omega) hS (by
      rw [show (32 * (c : Int) + ph_pos t c k + 2 + (0 : Nat)) = 32 * c + ph_pos t c k + 2 by omega]; exact hG)
    obtain ⟨u', p1, p2, p3⟩ := ih (k + 1) u1 (by omega) o2 (o3.up (by omega) (fun x' i' hx' hl' hne' hi' g1 g2 h1 h2 => by
      rw [o2 30 x' (by omega) (by omega) (by omega) (by omega)] at hl'
      rw [o2 33 x' (by omega) (by omega) (by omega) (by omega)] at hi'
      rw [o2 31 x' (by omega) (by omega) (by omega) (by omega), o2 32 x' (by omega) (by omega) (by omega) (by omega)] at h1 h2
      obtain ⟨c', k', q1, q2, q3, q4, q5⟩ := hMH.2.2.1 x' hx' hl'
      obtain ⟨r1, r2, r3, r4⟩ := hTH.fit q1 q2
      rw [q3] at r1 r4
      obtain ⟨v1, v2, v3, v4⟩ := hTH.2.1 c' k' q1 q2
      rw [q3] at v2 v3
      have e1 : c' = c := by omega
      subst e1
      rcases Nat.lt_trichotomy k' k with e2 | e2 | e2
      · have := ph_pos_lt (t := t) (c := c') e2
        rw [q3] at this
        omega
      · subst e2; rw [q3] at h1; omega
      · have := ph_pos_lt (t := t) (c := c') e2
        omega))
    refine ⟨u', fun K R7 hR => ?_, p2, p3⟩
    obtain ⟨n0, hn0⟩ := p1 K R7 hR
    obtain ⟨n9, hn9⟩ := o1 K R7 (fun a0 a1 a2 S9 => lX5_gather_21 K R7 n0 a0 a1 a2 S9) hn0
    refine ⟨n0 + 1, ?_⟩
    unfold lX5_gather_21
    try simp only [py_O_ap, py_l0, py_l1, py_l2, py_l3, py_l4, py_l5, py_l6, py_l7, py_l8, py_l9, py_l12, py_l16, py_l32, py_l40, py_l100, py_l640, py_l1280, py_neg, py_add, py_sub, py_mul, py_stO]
    refine py_and ?_
    rw [py_nat (by omega)]
    simp only [Int.toNat_natCast]
    refine py_ile (fun c => absurd c (by omega)) (fun _ => ?_)
    refine py_ilt (fun c => absurd c (by omega)) (fun _ => ?_)
    refine py_ieq (fun c => absurd c (by omega)) (fun _ => py_and ?_)
    rw [py_nat (by omega), show ((16 : Int) * c + k).toNat = 16 * c + k by omega, s39]
    have e3 : t 39 (16 * c + k) = (ph_x t c k : Nat) := by unfold ph_x; omega
    rw [e3]
    exact ⟨n9, hn9⟩
theorem ph_gc (hRW : pr_RW s t) (hTH : ph_TH s t E) (hMH : ph_MH t (-1)) (he : t 59 0 = e ∧ e < 40) :
    ∀ (d c : Nat) (u : py_Z), c + d = 40 → ph_Same t u → ph_G s u e (32 * c + 2) →
    ∃ u' : py_Z, (∀ (K : ty_S → Prop), K (py_O u') → ∃ n9, lX5_gather_7 K n9 (py_o c) (py_O u)) ∧ ph_Same t u' ∧ ph_G s u' e 1282 := by
  intro d
  induction d with
  | zero =>
    intro c u hc hS hG
    refine ⟨u, fun K hK => ⟨1, ?_⟩, hS, by rw [show (32 * (c : Int) + 2) = 1282 by omega] at hG; exact hG⟩
    unfold lX5_gather_7
    try simp only [py_O_ap, py_l0, py_l1, py_l2, py_l3, py_l4, py_l5, py_l6, py_l7, py_l8, py_l9, py_l12, py_l16, py_l32, py_l40, py_l100, py_l640, py_l1280, py_neg, py_add, py_sub, py_mul, py_stO]
    exact py_ile (fun _ => hK) (fun c => absurd c (by omega))
  | succ d ih =>
    intro c u hcd hS hG
    have hc : c < 40 := by omega
    have hC := hTH.1 c hc
    have hC3 := hC.2.2.1
    have s38 := hS 38 c (by omega) (by omega) (by omega) (by omega)
    have s59 := hS 59 0 (by omega) (by omega) (by omega) (by omega)
    have hRWu : pr_RW s u := hRW.congr (fun _ => rfl) (fun _ => rfl) rfl rfl (hS 50 0 (by omega) (by omega) (by omega) (by omega)) (hS 57 0 (by omega) (by omega) (by omega) (by omega)) (fun i => hS 40 i (by omega) (by omega) (by omega) (by omega)) (fun i => hS 41 i (by omega) (by omega) (by omega) (by omega)) (fun i => hS 42 i (by omega) (by omega) (by omega) (by omega))
    have s50 := hS 50 0 (by omega) (by omega) (by omega) (by omega)
    -- what lies behind the car's last reference
    have hgap : ∀ u1 : py_Z, ph_Same t u1 → ∀ B : Int, (B = 32 * c + ph_pos t c (t 38 c).toNat + 2 ∨ (B = 32 * c + 2 ∧ c = e)) → ph_G s u1 e B → ph_G s u1 e (32 * (c + 1 : Nat) + 2) := fun u1 o2 B hB hG1 => by
      have h32 := hC.2.2.2.1
      have h33 := hC.2.2.2.2.1
      refine hG1.up (by omega) (fun x' i' hx' hl' hne' hi' g1 g2 h1 h2 => ?_)
      rw [o2 30 x' (by omega) (by omega) (by omega) (by omega)] at hl'
      rw [o2 33 x' (by omega) (by omega) (by omega) (by omega)] at hi'
      rw [o2 31 x' (by omega) (by omega) (by omega) (by omega)] at hne'
      rw [o2 31 x' (by omega) (by omega) (by omega) (by omega), o2 32 x' (by omega) (by omega) (by omega) (by omega)] at h1 h2
      obtain ⟨c', k', q1, q2, q3, q4, q5⟩ := hMH.2.2.1 x' hx' hl'
      obtain ⟨r1, r2, r3, r4⟩ := hTH.fit q1 q2
      rw [q3] at r1 r4
      obtain ⟨v1, v2, v3, v4⟩ := hTH.2.1 c' k' q1 q2
      rw [q3] at v2 v3
      have e1 : c' = c := by omega
      subst e1
      rcases hB with hB | ⟨hB, hB2⟩
      · have := ph_pos_lt (t := t) (c := c') (k := k') (m := (t 38 c').toNat) (by omega)
        rw [q3] at this
        omega
      · subst hB2; omega
    by_cases hskip : t 38 c = 0 ∨ c = e
    · have hG2 : ph_G s u e (32 * (c + 1 : Nat) + 2) := by
        rcases hskip with e1 | e1
        · refine hgap u hS _ (Or.inl ?_) hG
          rw [e1]; simp [ph_pos]
        · exact hgap u hS _ (Or.inr ⟨rfl, e1⟩) hG
      obtain ⟨u', p1, p2, p3⟩ := ih (c + 1) u (by omega) hS hG2
      refine ⟨u', fun K hK => ?_, p2, p3⟩
      obtain ⟨n9, hn9⟩ := p1 K hK
      refine ⟨n9 + 1, ?_⟩
      unfold lX5_gather_7
      try simp only [py_O_ap, py_l0, py_l1, py_l2, py_l3, py_l4, py_l5, py_l6, py_l7, py_l8, py_l9, py_l12, py_l16, py_l32, py_l40, py_l100, py_l640, py_l1280, py_neg, py_add, py_sub, py_mul, py_stO]
      refine py_ile (fun c => absurd c (by omega)) (fun _ => ?_)
      have hb : ∀ tr : Int, (-1 ≤ tr ∧ tr < 100) → ∃ n8, lX5_gather_21 K (fun a0 S9 => lX5_gather_7 K n9 a0 S9) n8 (py_o c) (py_o tr) (py_o 0) (py_O u) := fun tr htr => by
        refine ⟨1, ?_⟩
        unfold lX5_gather_21
        try simp only [py_O_ap, py_l0, py_l1, py_l2, py_l3, py_l4, py_l5, py_l6, py_l7, py_l8, py_l9, py_l12, py_l16, py_l32, py_l40, py_l100, py_l640, py_l1280, py_neg, py_add, py_sub, py_mul, py_stO]
        refine py_and ?_
        rw [py_nat (by omega)]
        simp only [Int.toNat_natCast]
        refine py_ile (fun _ => hn9) (fun c1 => ?_)
        refine py_ilt (fun _ => hn9) (fun _ => ?_)
        exact py_ieq (fun _ => hn9) (fun c2 => absurd c2 (by omega))
      exact pm_trainOf hRWu hc (fun j hj _ => hb j (by have := hRW.1; omega)) (fun _ => hb (-1) (by omega))
    · have h38 : 0 < t 38 c := by omega
      have h6 : s 6 c ≠ 0 := fun e1 => by have := hC.2.2.2.2.2.1 e1; omega
      obtain ⟨j, kk, hj, hkk, j1, j2, j3, j4, j5⟩ := (hRW.six hc).resolve_left h6
      obtain ⟨u1, o1, o2, o3⟩ := ph_gk hRW hTH hMH he (tr := j) hc (by omega) (fun _ => ⟨hj, j2⟩) (t 38 c).toNat 0 u (by omega) hS (by simpa [ph_pos] using hG)
      obtain ⟨u', p1, p2, p3⟩ := ih (c + 1) u1 (by omega) o2 (hgap u1 o2 _ (Or.inl rfl) o3)
      refine ⟨u', fun K hK => ?_, p2, p3⟩
      obtain ⟨n0, hn0⟩ := p1 K hK
      obtain ⟨n9, hn9⟩ := o1 K (fun a0 S9 => lX5_gather_7 K n0 a0 S9) hn0
      refine ⟨n0 + 1, ?_⟩
      unfold lX5_gather_7
      try simp only [py_O_ap, py_l0, py_l1, py_l2, py_l3, py_l4, py_l5, py_l6, py_l7, py_l8, py_l9, py_l12, py_l16, py_l32, py_l40, py_l100, py_l640, py_l1280, py_neg, py_add, py_sub, py_mul, py_stO]
      refine py_ile (fun c => absurd c (by omega)) (fun _ => ?_)
      refine pm_trainOf hRWu hc (fun j8 hj8 e9 => ?_) (fun e9 => absurd e9 h6)
      rw [hS 40 j8 (by omega) (by omega) (by omega) (by omega)] at e9
      have e10 : j8 = j := hRW.num (by omega) hj (by rw [← e9, j2])
      subst e10
      exact ⟨n9, hn9⟩
theorem ph_gather (hRW : pr_RW s t) (hTH : ph_TH s t E) (hMH : ph_MH t (-1)) (he : t 59 0 = e ∧ e < 40) : ∃ u : py_Z, (∀ (K : ty_S → Prop), K (py_O u) → eX5_gather (py_O t) K) ∧ ph_Same t u ∧ ph_G s u e 1282 := by
  obtain ⟨u, o1, o2, o3⟩ := ph_gc hRW hTH hMH he 40 0 (py_st t 61 0 0) rfl (fun g i _ _ _ h => py_sn h) (by
    refine ⟨by rw [py_se]; omega, fun k hk => by rw [py_se] at hk; omega, fun a b _ hb => by rw [py_se] at hb; omega, fun x hx hl hne i hi h1 h2 h3 => ?_⟩
    rw [py_sn (by decide)] at hl
    rw [py_sn (by decide), py_sn (by decide)] at h3
    obtain ⟨c', k', q1, q2, q3, q4, q5⟩ := hMH.2.2.1 x hx hl
    omega)
  refine ⟨u, fun K hK => ?_, o2, o3⟩
  unfold eX5_gather
  try simp only [py_O_ap, py_l0, py_l1, py_l2, py_l3, py_l4, py_l5, py_l6, py_l7, py_l8, py_l9, py_l12, py_l16, py_l32, py_l40, py_l100, py_l640, py_l1280, py_neg, py_add, py_sub, py_mul, py_stO]
  exact o1 K hK
end PHG
