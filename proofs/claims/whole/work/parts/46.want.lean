/-! PURE: between the calls; whether the first train is referred to -/
def ph_R (s t : py_Z) (n : Nat) (m : Int) : Prop :=
  pr_RW s t ∧ ph_TH s t (ph_E t) ∧ ph_MH t (-1) ∧ (∀ r : Nat, r < 16 → s 7 r = ph_E t (t 43 r)) ∧ (s 20 0 = -1 ∧ t 59 0 = -1) ∧
  (s 15 0 = t 52 0 ∧ s 16 0 = t 53 0 ∧ s 17 0 = t 54 0 ∧ s 18 0 = t 55 0 ∧ s 19 0 = t 56 0) ∧
  (s 23 0 = t 51 0 ∧ 1 ≤ t 51 0 ∧ t 51 0 ≤ 40) ∧ (s 24 0 = t 58 0 ∧ t 58 0 ≤ n) ∧ t 57 0 ≤ m ∧
  (0 ≤ s 26 0 ∧ s 26 0 ≤ n ∧ ∀ p : Nat, p < 1280 → 0 ≤ s 10 p ∧ s 10 p ≤ s 26 0)
def ph_W0 (s t : py_Z) (r : Nat) : Prop := 0 ≤ t 43 r ∧ s 6 (t 31 (t 43 r).toNat).toNat = t 40 0
def ph_W1 (s t : py_Z) (x i : Nat) : Prop := x < 640 ∧ 0 < t 30 x ∧ (i : Int) < t 33 x ∧ s 6 (t 31 x).toNat ≠ t 40 0 ∧ 0 ≤ t 35 (12 * x + i) ∧ s 6 (t 31 (t 35 (12 * x + i)).toNat).toNat = t 40 0
section PHW
variable {s t : py_Z} {K : ty_S → Int32 → Prop}
theorem ph_live {E0 : Int → Int} (hTH : ph_TH s t E0) (hMH : ph_MH t (-1)) {x : Nat} (hx : x < 640) (hl : 0 < t 30 x) : ∃ c k : Nat, c < 40 ∧ (k : Int) < t 38 c ∧ ph_x t c k = x ∧ t 31 x = c ∧ t 32 x = ph_pos t c k ∧ s 6 c ≠ 0 ∧ (0 ≤ t 32 x ∧ t 32 x < 31) ∧ (0 ≤ t 33 x ∧ t 33 x ≤ 12) ∧ (0 ≤ t 34 x ∧ t 34 x ≤ 12) := by
  obtain ⟨c, k, hc, hk, h1, h2, h3⟩ := hMH.2.2.1 x hx hl
  obtain ⟨f1, f2, f3, f4⟩ := hTH.fit hc hk
  obtain ⟨w1, w2, w3, w4⟩ := hTH.2.1 c k hc hk
  rw [h1] at w2 w3 f1 f4
  exact ⟨c, k, hc, hk, h1, h2, h3, fun e1 => by have := (hTH.1 c hc).2.2.2.2.2.1 e1; omega, by omega, w2, w3⟩
/-- a pointer's code: its car's train -/
theorem ph_carTrain {E0 : Int → Int} (hRW : pr_RW s t) (hTH : ph_TH s t E0) (hMH : ph_MH t (-1)) {y : Int} (hy : ph_PV t y) {K : ty_S → Int32 → Prop} (h1 : 0 ≤ y → K (py_O s) (py_o (s 6 (t 31 y.toNat).toNat))) (h0 : y < 0 → K (py_O s) (py_o 0)) : eX4_carOf (py_O s) (py_o (ph_E t y)) (fun S3 r3 => eX1_trainOf S3 r3 K) := by
  rcases hy with e1 | ⟨e1, e2⟩
  · subst e1
    refine pr_carOf (fun c _ => absurd c (by simp [ph_E])) (fun _ => ?_) (by simp [ph_E])
    exact pr_trainOf (fun c => absurd c (by omega)) (fun _ => h0 (by omega))
  · obtain ⟨c, k, hc, hk, g1, g2, g3, g4, g5, g6, g7⟩ := ph_live hTH hMH (x := y.toNat) (by omega) e2
    have e3 : ph_E t y = 32 * t 31 y.toNat + t 32 y.toNat := by unfold ph_E; rw [if_neg (by omega)]
    rw [e3]
    refine pr_carOf (fun _ _ => ?_) (fun c => absurd c (by omega))
    rw [show (32 * t 31 y.toNat + t 32 y.toNat) / 32 = t 31 y.toNat by omega]
    exact pr_trainOf (fun _ _ => h1 e1.1) (fun c => absurd c (by omega))
theorem pr_isReferredTo (hRW : pr_RW s t) (hTH : ph_TH s t (ph_E t)) (hMH : ph_MH t (-1)) (hH : ∀ r : Nat, r < 16 → s 7 r = ph_E t (t 43 r)) (hn : 0 < t 50 0) (hT : (∃ r : Nat, r < 16 ∧ ph_W0 s t r) ∨ (∃ x i : Nat, ph_W1 s t x i) → K (py_O s) (py_o 1)) (hF : (∀ r : Nat, r < 16 → ¬ ph_W0 s t r) → (∀ x i : Nat, ¬ ph_W1 s t x i) → K (py_O s) (py_o 0)) : eX3_isReferredTo (py_O s) (py_o (t 40 0)) K := by
  have hf := hRW.2.2.2.2.1 0 (by omega)
  have hm57 := hRW.2.2.2.2.2.2.1
  have h6b : ∀ x : Nat, x < 640 → 0 < t 30 x → 0 ≤ s 6 (t 31 x).toNat ∧ s 6 (t 31 x).toNat ≤ 100000 := fun x hx hl => by
    obtain ⟨c, k, hc, hk, g1, g2, g3, g4⟩ := ph_live hTH hMH hx hl
    rw [g2]; simp only [Int.toNat_natCast]; exact hRW.six_b hc
  -- the references, from a place on
  have key2 : (∀ r : Nat, r < 16 → ¬ ph_W0 s t r) → ∀ d r : Nat, 1280 - r ≤ d → r ≤ 1280 → (r = 1280 ∨ s 1 r = 1) → (∀ x i : Nat, ph_W1 s t x i → (r : Int) ≤ 32 * t 31 x + t 32 x + 2 + i) → ∃ n9, lX3_isReferredTo_45 K n9 (py_o (t 40 0)) (py_o r) (py_O s) := by
    intro hW0 d
    have hend : ∀ r : Nat, r = 1280 → (∀ x i : Nat, ph_W1 s t x i → (r : Int) ≤ 32 * t 31 x + t 32 x + 2 + i) → ∃ n9, lX3_isReferredTo_45 K n9 (py_o (t 40 0)) (py_o r) (py_O s) := fun r e1 hno => by
      subst e1
      refine ⟨1, ?_⟩
      unfold lX3_isReferredTo_45
      try simp only [py_O_ap, py_l0, py_l1, py_l2, py_l3, py_l4, py_l5, py_l6, py_l7, py_l8, py_l9, py_l12, py_l16, py_l32, py_l40, py_l100, py_l640, py_l1280, py_neg, py_add, py_sub, py_mul, py_stO]
      refine py_ile (fun _ => hF hW0 (fun x i hw => ?_)) (fun c => absurd c (by omega))
      have h9 := hno x i hw
      obtain ⟨c, k, hc, hk, g1, g2, g3, g4⟩ := ph_live hTH hMH hw.1 hw.2.1
      obtain ⟨f1, f2, f3, f4⟩ := hTH.fit hc hk
      obtain ⟨w1, w2, w3, w4⟩ := hTH.2.1 c k hc hk
      have := hw.2.2.1
      rw [g1] at w2 w3 f1 f4
      omega
    induction d with
    | zero => intro r hd hr hr1 hno; exact hend r (by omega) hno
    | succ d ih =>
      intro r hd hr hr1 hno
      by_cases e1 : r = 1280
      · exact hend r e1 hno
      · obtain ⟨c, m, i, hc, hm, hi, hrp⟩ := ((hTH.2.2 r (by omega)).resolve_left (by omega)).2
        obtain ⟨f1, f2, f3, f4⟩ := hTH.fit hc hm
        obtain ⟨w1, w2, w3, w4, w5, w6, w7⟩ := hTH.2.1 c m hc hm
        obtain ⟨m1, m2, m3⟩ := hMH.2.2.2.1 c m hc (by omega) hm
        have hx640 : ph_x t c m < 640 := by unfold ph_x; omega
        have hPV := hMH.2.2.2.2.2 (ph_x t c m) hx640 m1 i hi
        have hword : s 0 r = ph_E t (t 35 (12 * ph_x t c m + i)) := by rw [hrp, (w6 i hi).1]
        have hgp : 32 * t 31 (ph_x t c m) + t 32 (ph_x t c m) + 2 + i = r := by omega
        have h6c := hRW.six_b hc
        obtain ⟨r', b1, b2, b3, b4, b5⟩ := pr_nextEx hTH.ir (a := r + 1) (by omega)
        have hEb : -1 ≤ ph_E t (t 35 (12 * ph_x t c m + i)) ∧ ph_E t (t 35 (12 * ph_x t c m + i)) < 1280 := by
          rcases hPV with e2 | ⟨e2, e3⟩
          · rw [e2]; simp [ph_E]
          · obtain ⟨c', k', hc', hk', g1, g2, g3, g4, g5, g6⟩ := ph_live hTH hMH (x := (t 35 (12 * ph_x t c m + i)).toNat) (by omega) e3
            unfold ph_E; rw [if_neg (by omega)]; omega
        have hbase : ∀ n : Nat, (0 ≤ t 35 (12 * ph_x t c m + i) → s 6 (t 31 (t 35 (12 * ph_x t c m + i)).toNat).toNat = t 40 0 → s 6 c ≠ t 40 0 → K (py_O s) (py_o 1)) → (¬ (0 ≤ t 35 (12 * ph_x t c m + i) ∧ s 6 (t 31 (t 35 (12 * ph_x t c m + i)).toNat).toNat = t 40 0 ∧ s 6 c ≠ t 40 0) → lX3_isReferredTo_45 K n (py_o (t 40 0)) (py_o r') (py_O s)) → lX3_isReferredTo_45 K (n + 1) (py_o (t 40 0)) (py_o r) (py_O s) := fun n hy hn => by
          unfold lX3_isReferredTo_45
          try simp only [py_O_ap, py_l0, py_l1, py_l2, py_l3, py_l4, py_l5, py_l6, py_l7, py_l8, py_l9, py_l12, py_l16, py_l32, py_l40, py_l100, py_l640, py_l1280, py_neg, py_add, py_sub, py_mul, py_stO]
          refine py_ile (fun c => absurd c (by omega)) (fun _ => ?_)
          refine pr_at (fun _ _ => ?_) (fun c => absurd c (by omega))
          simp only [Int.toNat_natCast]
          rw [hword]
          refine ph_carTrain hRW hTH hMH hPV (fun e2 => ?_) (fun e2 => ?_)
          · have h6y : 0 ≤ s 6 (t 31 (t 35 (12 * ph_x t c m + i)).toNat).toNat ∧ s 6 (t 31 (t 35 (12 * ph_x t c m + i)).toNat).toNat ≤ 100000 := by
              rcases hPV with e3 | ⟨e3, e4⟩
              · omega
              · exact h6b _ (by omega) e4
            refine py_ieq (fun e3 => ?_) (fun e3 => ?_)
            · refine pr_carOf (fun _ _ => ?_) (fun c => absurd c (by omega))
              rw [show (r : Int) / 32 = c by omega]
              refine pr_trainOf (fun _ _ => ?_) (fun c => absurd c (by omega))
              simp only [Int.toNat_natCast]
              refine py_ieq (fun e4 => ?_) (fun e4 => hy e2 e3 e4)
              unfold jX3_isReferredTo_91
              try simp only [py_O_ap, py_l0, py_l1, py_l2, py_l3, py_l4, py_l5, py_l6, py_l7, py_l8, py_l9, py_l12, py_l16, py_l32, py_l40, py_l100, py_l640, py_l1280, py_neg, py_add, py_sub, py_mul, py_stO]
              exact b5 _ (hn (fun c => c.2.2 e4))
            · unfold jX3_isReferredTo_91
              try simp only [py_O_ap, py_l0, py_l1, py_l2, py_l3, py_l4, py_l5, py_l6, py_l7, py_l8, py_l9, py_l12, py_l16, py_l32, py_l40, py_l100, py_l640, py_l1280, py_neg, py_add, py_sub, py_mul, py_stO]
              exact b5 _ (hn (fun c => e3 c.2.1))
          · refine py_ieq (fun e3 => absurd e3 (by omega)) (fun e3 => ?_)
            unfold jX3_isReferredTo_91
            try simp only [py_O_ap, py_l0, py_l1, py_l2, py_l3, py_l4, py_l5, py_l6, py_l7, py_l8, py_l9, py_l12, py_l16, py_l32, py_l40, py_l100, py_l640, py_l1280, py_neg, py_add, py_sub, py_mul, py_stO]
            exact b5 _ (hn (fun c => by omega))
        have hcs : s 6 (t 31 (ph_x t c m)).toNat = s 6 c := by rw [m2]; simp
        by_cases hw : 0 ≤ t 35 (12 * ph_x t c m + i) ∧ s 6 (t 31 (t 35 (12 * ph_x t c m + i)).toNat).toNat = t 40 0 ∧ s 6 c ≠ t 40 0
        · exact ⟨1, hbase 0 (fun _ _ _ => hT (Or.inr ⟨ph_x t c m, i, hx640, m1, hi, by rw [hcs]; exact hw.2.2, hw.1, hw.2.1⟩)) (fun c => absurd hw c)⟩
        · obtain ⟨n9, hn9⟩ := ih r' (by omega) b2 b3 (fun x' i' hw' => by
            have h8 := hno x' i' hw'
            obtain ⟨c', k', hc', hk', g1, g2, g3, g4, g5, g6, g7⟩ := ph_live hTH hMH hw'.1 hw'.2.1
            obtain ⟨v1, v2, v3, v4, v5, v6, v7⟩ := hTH.2.1 c' k' hc' hk'
            obtain ⟨k1, k2, k3, k4⟩ := hTH.fit hc' hk'
            rw [g1] at v6 k1 k4
            have h7 := (v6 i' hw'.2.2.1).2
            have hi' := hw'.2.2.1
            by_cases e2 : 32 * c' + ph_pos t c' k' + 2 + i' = r
            · obtain ⟨q1, q2, q3⟩ := hTH.refinj hc' hk' (i := i') (by rw [g1]; exact hi') hc hm hi (by omega)
              subst q1; subst q2; subst q3
              rw [g1] at hw hcs
              exact absurd ⟨hw'.2.2.2.2.1, hw'.2.2.2.2.2, by rw [← hcs]; exact hw'.2.2.2.1⟩ hw
            · by_cases e3 : r' ≤ 32 * c' + ph_pos t c' k' + 2 + i'
              · omega
              · have := b4 (32 * c' + ph_pos t c' k' + 2 + i') (by omega) (by omega)
                omega)
          exact ⟨n9 + 1, hbase n9 (fun a b c => absurd ⟨a, b, c⟩ hw) (fun _ => hn9)⟩
  have key1 : ∀ d r : Nat, r + d = 16 → (∀ q : Nat, q < r → ¬ ph_W0 s t q) → ∃ n9, lX3_isReferredTo_2 K n9 (py_o (t 40 0)) (py_o r) (py_O s) := by
    intro d
    induction d with
    | zero =>
      intro r hr hq
      obtain ⟨r', b1, b2, b3, b4, b5⟩ := pr_nextEx hTH.ir (a := 0) (by omega)
      refine ⟨1, ?_⟩
      unfold lX3_isReferredTo_2
      try simp only [py_O_ap, py_l0, py_l1, py_l2, py_l3, py_l4, py_l5, py_l6, py_l7, py_l8, py_l9, py_l12, py_l16, py_l32, py_l40, py_l100, py_l640, py_l1280, py_neg, py_add, py_sub, py_mul, py_stO]
      refine py_ile (fun _ => ?_) (fun c => absurd c (by omega))
      refine b5 _ (key2 (fun q hq2 => hq q (by omega)) 1280 r' (by omega) b2 b3 (fun x' i' hw' => ?_))
      obtain ⟨c', k', hc', hk', g1, g2, g3, g4, g5, g6, g7⟩ := ph_live hTH hMH hw'.1 hw'.2.1
      obtain ⟨v1, v2, v3, v4, v5, v6, v7⟩ := hTH.2.1 c' k' hc' hk'
      obtain ⟨k1, k2, k3, k4⟩ := hTH.fit hc' hk'
      rw [g1] at v6 k1 k4
      have hi' := hw'.2.2.1
      have h7 := (v6 i' hi').2
      by_cases e3 : r' ≤ 32 * c' + ph_pos t c' k' + 2 + i'
      · omega
      · have := b4 (32 * c' + ph_pos t c' k' + 2 + i') (by omega) (by omega)
        omega
    | succ d ih =>
      intro r hr hq
      have hPV := hMH.2.2.2.2.1 r (by omega)
      by_cases hw : ph_W0 s t r
      · refine ⟨1, ?_⟩
        unfold lX3_isReferredTo_2
        try simp only [py_O_ap, py_l0, py_l1, py_l2, py_l3, py_l4, py_l5, py_l6, py_l7, py_l8, py_l9, py_l12, py_l16, py_l32, py_l40, py_l100, py_l640, py_l1280, py_neg, py_add, py_sub, py_mul, py_stO]
        refine py_ile (fun c => absurd c (by omega)) (fun _ => py_and ?_)
        rw [py_nat (by omega)]
        simp only [Int.toNat_natCast]
        rw [hH r (by omega)]
        refine ph_carTrain hRW hTH hMH hPV (fun e2 => ?_) (fun e2 => absurd hw.1 (by omega))
        rw [hw.2]
        exact py_ieq (fun _ => hT (Or.inl ⟨r, by omega, hw⟩)) (fun c => absurd rfl c)
      · obtain ⟨n9, hn9⟩ := ih (r + 1) (by omega) (fun q hq2 => by
          by_cases e1 : q = r
          · rw [e1]; exact hw
          · exact hq q (by omega))
        refine ⟨n9 + 1, ?_⟩
        unfold lX3_isReferredTo_2
        try simp only [py_O_ap, py_l0, py_l1, py_l2, py_l3, py_l4, py_l5, py_l6, py_l7, py_l8, py_l9, py_l12, py_l16, py_l32, py_l40, py_l100, py_l640, py_l1280, py_neg, py_add, py_sub, py_mul, py_stO]
        refine py_ile (fun c => absurd c (by omega)) (fun _ => py_and ?_)
        rw [py_nat (by omega)]
        simp only [Int.toNat_natCast]
        rw [hH r (by omega)]
        refine ph_carTrain hRW hTH hMH hPV (fun e2 => ?_) (fun e2 => ?_)
        · have h6y : 0 ≤ s 6 (t 31 (t 43 r).toNat).toNat ∧ s 6 (t 31 (t 43 r).toNat).toNat ≤ 100000 := by
            rcases hPV with e3 | ⟨e3, e4⟩
            · omega
            · exact h6b _ (by omega) e4
          exact py_ieq (fun e3 => absurd ⟨e2, e3⟩ hw) (fun _ => hn9)
        · exact py_ieq (fun e3 => absurd e3 (by omega)) (fun _ => hn9)
  unfold eX3_isReferredTo
  rw [py_l0]
  exact key1 16 0 rfl (fun q hq => absurd hq (by omega))
theorem pm_isWanted (hRW : pr_RW s t) (hTH : ph_TH s t (ph_E t)) (hMH : ph_MH t (-1)) (hn : 0 < t 50 0) (hT : (∃ r : Nat, r < 16 ∧ ph_W0 s t r) ∨ (∃ x i : Nat, ph_W1 s t x i) → K (py_O t) (py_o 1)) (hF : (∀ r : Nat, r < 16 → ¬ ph_W0 s t r) → (∀ x i : Nat, ¬ ph_W1 s t x i) → K (py_O t) (py_o 0)) : eX5_isWanted (py_O t) K := by
  have h0 := hRW.1
  -- the train of a thing's car: the first, or not
  have htr : ∀ x : Nat, x < 640 → 0 < t 30 x → ∀ K : ty_S → Int32 → Prop, (s 6 (t 31 x).toNat = t 40 0 → K (py_O t) (py_o 0)) → (s 6 (t 31 x).toNat ≠ t 40 0 → ∀ j : Nat, 0 < j → j < 40 → K (py_O t) (py_o j)) → eX5_trainOf (py_O t) (py_o (t 31 x)) K := fun x hx hl K h1 h2 => by
    obtain ⟨c, k, hc, hk, g1, g2, g3, g4, g5⟩ := ph_live hTH hMH hx hl
    rw [g2] at h1 h2 ⊢
    simp only [Int.toNat_natCast] at h1 h2
    refine pm_trainOf hRW hc (fun j hj e1 => ?_) (fun e1 => absurd e1 g4)
    by_cases e2 : j = 0
    · subst e2; exact h1 e1
    · refine h2 (fun e3 => e2 (hRW.num hj (by omega) (by rw [← e1, e3]))) j (by omega) (by omega)
  have hin : ∀ x : Nat, x < 640 → ∀ R : Int32 → ty_S → Prop, (0 < t 30 x → s 6 (t 31 x).toNat ≠ t 40 0) → 0 < t 30 x → ((∀ i : Nat, ¬ ph_W1 s t x i) → R (py_o (x + 1)) (py_O t)) → ∀ d i : Nat, (i : Int) + d = t 33 x → (∀ a : Nat, a < i → ¬ ph_W1 s t x a) → ∃ n9, lX5_isWanted_82 K R n9 (py_o x) (py_o 1) (py_o i) (py_O t) := by
    intro x hx R hout hl hR d
    have hout := hout hl
    obtain ⟨c, k, hc, hk, g1, g2, g3, g4, g5, g6, g7⟩ := ph_live hTH hMH hx hl
    induction d with
    | zero =>
      intro i hi hno
      refine ⟨1, ?_⟩
      unfold lX5_isWanted_82
      try simp only [py_O_ap, py_l0, py_l1, py_l2, py_l3, py_l4, py_l5, py_l6, py_l7, py_l8, py_l9, py_l12, py_l16, py_l32, py_l40, py_l100, py_l640, py_l1280, py_neg, py_add, py_sub, py_mul, py_stO]
      refine py_ieq (fun c => absurd c (by omega)) (fun _ => py_and ?_)
      rw [py_nat (by omega)]
      simp only [Int.toNat_natCast]
      refine py_ile (fun _ => hR (fun a ha => ?_)) (fun c => absurd c (by omega))
      by_cases e1 : a < i
      · exact hno a e1 ha
      · have := ha.2.2.1; omega
    | succ d ih =>
      intro i hi hno
      have hPV := hMH.2.2.2.2.2 x hx hl i (by omega)
      have e2 : ((12 : Int) * x + i).toNat = 12 * x + i := by omega
      by_cases hw : ph_W1 s t x i
      · refine ⟨1, ?_⟩
        obtain ⟨q1, q2, q3, q4, q5, q6⟩ := id hw
        have hPV2 := hPV.resolve_left (by omega)
        unfold lX5_isWanted_82
        try simp only [py_O_ap, py_l0, py_l1, py_l2, py_l3, py_l4, py_l5, py_l6, py_l7, py_l8, py_l9, py_l12, py_l16, py_l32, py_l40, py_l100, py_l640, py_l1280, py_neg, py_add, py_sub, py_mul, py_stO]
        refine py_ieq (fun c => absurd c (by omega)) (fun _ => py_and ?_)
        rw [py_nat (by omega), py_nat (by omega), e2]
        simp only [Int.toNat_natCast]
        refine py_ile (fun c => absurd c (by omega)) (fun _ => py_and ?_)
        refine py_ilt (fun c => absurd c (by omega)) (fun _ => py_and ?_)
        rw [py_nat (by omega)]
        refine htr _ (by omega) hPV2.2 _ (fun _ => ?_) (fun e3 => absurd q6 e3)
        exact py_ieq (fun _ => hT (Or.inr ⟨x, i, hw⟩)) (fun c => absurd rfl c)
      · obtain ⟨n9, hn9⟩ := ih (i + 1) (by omega) (fun a ha => by
          by_cases e1 : a = i
          · rw [e1]; exact hw
          · exact hno a (by omega))
        refine ⟨n9 + 1, ?_⟩
        unfold lX5_isWanted_82
        try simp only [py_O_ap, py_l0, py_l1, py_l2, py_l3, py_l4, py_l5, py_l6, py_l7, py_l8, py_l9, py_l12, py_l16, py_l32, py_l40, py_l100, py_l640, py_l1280, py_neg, py_add, py_sub, py_mul, py_stO]
        refine py_ieq (fun c => absurd c (by omega)) (fun _ => py_and ?_)
        rw [py_nat (by omega), py_nat (by omega), e2]
        simp only [Int.toNat_natCast]
        refine py_ile (fun c => absurd c (by omega)) (fun _ => py_and ?_)
        rcases hPV with e1 | ⟨e1, e3⟩
        · rw [e1]
          exact py_ilt (fun _ => hn9) (fun c => absurd c (by omega))
        · refine py_ilt (fun c => absurd c (by omega)) (fun _ => py_and ?_)
          rw [py_nat (by omega)]
          refine htr _ (by omega) e3 _ (fun e4 => absurd ⟨hx, hl, by omega, hout, e1.1, e4⟩ hw) (fun _ j hj1 hj2 => ?_)
          exact py_ieq (fun c => absurd c (by omega)) (fun _ => hn9)
  have key2 : (∀ r : Nat, r < 16 → ¬ ph_W0 s t r) → ∀ d x : Nat, x + d = 640 → (∀ y i : Nat, y < x → ¬ ph_W1 s t y i) → ∃ n9, lX5_isWanted_45 K n9 (py_o x) (py_O t) := by
    intro hW0 d
    induction d with
    | zero =>
      intro x hx hno
      refine ⟨1, ?_⟩
      unfold lX5_isWanted_45
      try simp only [py_O_ap, py_l0, py_l1, py_l2, py_l3, py_l4, py_l5, py_l6, py_l7, py_l8, py_l9, py_l12, py_l16, py_l32, py_l40, py_l100, py_l640, py_l1280, py_neg, py_add, py_sub, py_mul, py_stO]
      refine py_ile (fun _ => hF hW0 (fun y i hw => ?_)) (fun c => absurd c (by omega))
      exact hno y i (by have := hw.1; omega) hw
    | succ d ih =>
      intro x hx hno
      have hlx := hMH.2.1 x (by omega)
      have h58 := hMH.1
      have hskip : (∀ i : Nat, ¬ ph_W1 s t x i) → ∃ n0, lX5_isWanted_45 K n0 (py_o (x + 1)) (py_O t) := fun hx2 => ih (x + 1) (by omega) (fun y i hy => by
        by_cases e1 : y = x
        · rw [e1]; exact hx2 i
        · exact hno y i (by omega))
      by_cases hl : 0 < t 30 x
      · by_cases ho : s 6 (t 31 x).toNat = t 40 0
        · obtain ⟨n0, hn0⟩ := hskip (fun i hw => hw.2.2.2.1 ho)
          refine ⟨n0 + 1, ?_⟩
          unfold lX5_isWanted_45
          try simp only [py_O_ap, py_l0, py_l1, py_l2, py_l3, py_l4, py_l5, py_l6, py_l7, py_l8, py_l9, py_l12, py_l16, py_l32, py_l40, py_l100, py_l640, py_l1280, py_neg, py_add, py_sub, py_mul, py_stO]
          refine py_ile (fun c => absurd c (by omega)) (fun _ => py_and ?_)
          rw [py_nat (by omega)]
          simp only [Int.toNat_natCast]
          refine py_ile (fun c => absurd c (by omega)) (fun _ => py_and ?_)
          refine htr x (by omega) hl _ (fun _ => ?_) (fun c => absurd ho c)
          refine py_ile (fun _ => ⟨1, ?_⟩) (fun c => absurd c (by omega))
          unfold lX5_isWanted_82
          try simp only [py_O_ap, py_l0, py_l1, py_l2, py_l3, py_l4, py_l5, py_l6, py_l7, py_l8, py_l9, py_l12, py_l16, py_l32, py_l40, py_l100, py_l640, py_l1280, py_neg, py_add, py_sub, py_mul, py_stO]
          rw [if_pos True.intro]
          exact hn0
        · by_cases hw : ∃ i : Nat, ph_W1 s t x i
          · obtain ⟨n9, hn9⟩ := hin x (by omega) (fun a0 S9 => lX5_isWanted_45 K 0 a0 S9) (fun _ => ho) hl (fun hno2 => by
              obtain ⟨i, hw⟩ := hw
              exact absurd hw (hno2 i)) (t 33 x).toNat 0 (by
              obtain ⟨c, k, hc, hk, g1, g2, g3, g4, g5, g6, g7⟩ := ph_live hTH hMH (x := x) (by omega) hl
              omega) (fun a ha => absurd ha (by omega))
            refine ⟨1, ?_⟩
            unfold lX5_isWanted_45
            try simp only [py_O_ap, py_l0, py_l1, py_l2, py_l3, py_l4, py_l5, py_l6, py_l7, py_l8, py_l9, py_l12, py_l16, py_l32, py_l40, py_l100, py_l640, py_l1280, py_neg, py_add, py_sub, py_mul, py_stO]
            refine py_ile (fun c => absurd c (by omega)) (fun _ => py_and ?_)
            rw [py_nat (by omega)]
            simp only [Int.toNat_natCast]
            refine py_ile (fun c => absurd c (by omega)) (fun _ => py_and ?_)
            refine htr x (by omega) hl _ (fun c => absurd c ho) (fun _ j hj1 hj2 => ?_)
            exact py_ile (fun c => absurd c (by omega)) (fun _ => ⟨n9, hn9⟩)
          · obtain ⟨n0, hn0⟩ := hskip (fun i hw2 => hw ⟨i, hw2⟩)
            obtain ⟨n9, hn9⟩ := hin x (by omega) (fun a0 S9 => lX5_isWanted_45 K n0 a0 S9) (fun _ => ho) hl (fun _ => hn0) (t 33 x).toNat 0 (by
              obtain ⟨c, k, hc, hk, g1, g2, g3, g4, g5, g6, g7⟩ := ph_live hTH hMH (x := x) (by omega) hl
              omega) (fun a ha => absurd ha (by omega))
            refine ⟨n0 + 1, ?_⟩
            unfold lX5_isWanted_45
            try simp only [py_O_ap, py_l0, py_l1, py_l2, py_l3, py_l4, py_l5, py_l6, py_l7, py_l8, py_l9, py_l12, py_l16, py_l32, py_l40, py_l100, py_l640, py_l1280, py_neg, py_add, py_sub, py_mul, py_stO]
            refine py_ile (fun c => absurd c (by omega)) (fun _ => py_and ?_)
            rw [py_nat (by omega)]
            simp only [Int.toNat_natCast]
            refine py_ile (fun c => absurd c (by omega)) (fun _ => py_and ?_)
            refine htr x (by omega) hl _ (fun c => absurd c ho) (fun _ j hj1 hj2 => ?_)
            exact py_ile (fun c => absurd c (by omega)) (fun _ => ⟨n9, hn9⟩)
      · obtain ⟨n0, hn0⟩ := hskip (fun i hw => hl hw.2.1)
        refine ⟨n0 + 1, ?_⟩
        unfold lX5_isWanted_45
        try simp only [py_O_ap, py_l0, py_l1, py_l2, py_l3, py_l4, py_l5, py_l6, py_l7, py_l8, py_l9, py_l12, py_l16, py_l32, py_l40, py_l100, py_l640, py_l1280, py_neg, py_add, py_sub, py_mul, py_stO]
        refine py_ile (fun c => absurd c (by omega)) (fun _ => py_and ?_)
        rw [py_nat (by omega)]
        simp only [Int.toNat_natCast]
        refine py_ile (fun _ => ⟨1, ?_⟩) (fun c => absurd c (by omega))
        unfold lX5_isWanted_82
        try simp only [py_O_ap, py_l0, py_l1, py_l2, py_l3, py_l4, py_l5, py_l6, py_l7, py_l8, py_l9, py_l12, py_l16, py_l32, py_l40, py_l100, py_l640, py_l1280, py_neg, py_add, py_sub, py_mul, py_stO]
        rw [if_pos True.intro]
        exact hn0
  have key1 : ∀ d r : Nat, r + d = 16 → (∀ q : Nat, q < r → ¬ ph_W0 s t q) → ∃ n9, lX5_isWanted_2 K n9 (py_o r) (py_O t) := by
    intro d
    induction d with
    | zero =>
      intro r hr hq
      refine ⟨1, ?_⟩
      unfold lX5_isWanted_2
      try simp only [py_O_ap, py_l0, py_l1, py_l2, py_l3, py_l4, py_l5, py_l6, py_l7, py_l8, py_l9, py_l12, py_l16, py_l32, py_l40, py_l100, py_l640, py_l1280, py_neg, py_add, py_sub, py_mul, py_stO]
      exact py_ile (fun _ => key2 (fun q hq2 => hq q (by omega)) 640 0 rfl (fun y i hy => absurd hy (by omega))) (fun c => absurd c (by omega))
    | succ d ih =>
      intro r hr hq
      have hPV := hMH.2.2.2.2.1 r (by omega)
      by_cases hw : ph_W0 s t r
      · have hPV2 := hPV.resolve_left (by have := hw.1; omega)
        refine ⟨1, ?_⟩
        unfold lX5_isWanted_2
        try simp only [py_O_ap, py_l0, py_l1, py_l2, py_l3, py_l4, py_l5, py_l6, py_l7, py_l8, py_l9, py_l12, py_l16, py_l32, py_l40, py_l100, py_l640, py_l1280, py_neg, py_add, py_sub, py_mul, py_stO]
        refine py_ile (fun c => absurd c (by omega)) (fun _ => py_and ?_)
        rw [py_nat (by omega)]
        simp only [Int.toNat_natCast]
        refine py_ilt (fun c => absurd c (by omega)) (fun _ => py_and (py_and ?_))
        rw [py_nat (by omega)]
        refine htr _ (by omega) hPV2.2 _ (fun _ => ?_) (fun e3 => absurd hw.2 e3)
        exact py_ieq (fun _ => hT (Or.inl ⟨r, by omega, hw⟩)) (fun c => absurd rfl c)
      · obtain ⟨n9, hn9⟩ := ih (r + 1) (by omega) (fun q hq2 => by
          by_cases e1 : q = r
          · rw [e1]; exact hw
          · exact hq q (by omega))
        refine ⟨n9 + 1, ?_⟩
        unfold lX5_isWanted_2
        try simp only [py_O_ap, py_l0, py_l1, py_l2, py_l3, py_l4, py_l5, py_l6, py_l7, py_l8, py_l9, py_l12, py_l16, py_l32, py_l40, py_l100, py_l640, py_l1280, py_neg, py_add, py_sub, py_mul, py_stO]
        refine py_ile (fun c => absurd c (by omega)) (fun _ => py_and ?_)
        rw [py_nat (by omega)]
        simp only [Int.toNat_natCast]
        rcases hPV with e1 | ⟨e1, e3⟩
        · rw [e1]
          exact py_ilt (fun _ => hn9) (fun c => absurd c (by omega))
        · refine py_ilt (fun c => absurd c (by omega)) (fun _ => py_and (py_and ?_))
          rw [py_nat (by omega)]
          refine htr _ (by omega) e3 _ (fun e4 => absurd ⟨e1.1, e4⟩ hw) (fun _ j hj1 hj2 => ?_)
          exact py_ieq (fun c => absurd c (by omega)) (fun _ => hn9)
  unfold eX5_isWanted
  rw [py_l0]
  exact key1 16 0 rfl (fun q hq => absurd hq (by omega))
end PHW
