/-! PURE: the calls that read and write a thing -/
section PC3
variable {s t : py_Z} {n : Nat} {m : Int}
theorem ph_TH.offinj {E : Int → Int} (h : ph_TH s t E) {c k w c' k' w' : Nat} (hc : c < 40) (hk : (k : Int) < t 38 c) (hw : w < ph_sz t (ph_x t c k)) (hc' : c' < 40) (hk' : (k' : Int) < t 38 c') (hw' : w' < ph_sz t (ph_x t c' k')) (e : 32 * c + ph_pos t c k + w = 32 * c' + ph_pos t c' k' + w') : c = c' ∧ k = k' ∧ w = w' := by
  obtain ⟨f1, f2, f3, f4⟩ := h.fit hc hk
  obtain ⟨g1, g2, g3, g4⟩ := h.fit hc' hk'
  have e1 : c = c' := by omega
  subst e1
  have e2 : k = k' := by
    rcases Nat.lt_trichotomy k k' with e2 | e2 | e2
    · have := ph_pos_lt (t := t) (c := c) e2; omega
    · exact e2
    · have := ph_pos_lt (t := t) (c := c) e2; omega
  subst e2
  exact ⟨rfl, rfl, by omega⟩
theorem ph_MH.xinj (hMH : ph_MH t (-1)) {c k c' k' : Nat} (hc : c < 40) (hk : (k : Int) < t 38 c) (hc' : c' < 40) (hk' : (k' : Int) < t 38 c') (e : ph_x t c' k' = ph_x t c k) : c' = c ∧ k' = k := by
  obtain ⟨a1, a2, a3⟩ := hMH.2.2.2.1 c k hc (by omega) hk
  obtain ⟨b1, b2, b3⟩ := hMH.2.2.2.1 c' k' hc' (by omega) hk'
  rw [e] at b1 b2 b3
  have e1 : c' = c := by omega
  subst e1
  refine ⟨rfl, ?_⟩
  rcases Nat.lt_trichotomy k k' with e2 | e2 | e2
  · have := ph_pos_lt (t := t) (c := c') e2; unfold ph_sz at this; omega
  · exact e2.symm
  · have := ph_pos_lt (t := t) (c := c') e2; unfold ph_sz at this; omega
/-- one reference, or one number, of a thing is written -/
theorem ph_R.setWord (h : ph_R s t n m) {c k i g : Nat} {y v : Int} (hc : c < 40) (hk : (k : Int) < t 38 c) (hg : (g = 35 ∧ (i : Int) < t 33 (ph_x t c k) ∧ ph_PV t y ∧ v = ph_E t y) ∨ (g = 36 ∧ (i : Int) < t 34 (ph_x t c k) ∧ v = y)) : ph_R (py_st s 0 (if g = 35 then 32 * c + ph_pos t c k + 2 + i else 32 * c + ph_pos t c k + 2 + (t 33 (ph_x t c k)).toNat + i) v) (py_st t g (12 * ph_x t c k + i) y) n m := by
  obtain ⟨b1, b2, b3, b4, b5, b6, b7, b8, b9, b10⟩ := h
  obtain ⟨w1, w2, w3, w4, w5, w6, w7⟩ := b2.2.1 c k hc hk
  obtain ⟨f1, f2, f3, f4⟩ := b2.fit hc hk
  generalize hP : (if g = 35 then 32 * c + ph_pos t c k + 2 + i else 32 * c + ph_pos t c k + 2 + (t 33 (ph_x t c k)).toNat + i) = P
  have hoff : ∃ o : Nat, P = 32 * c + ph_pos t c k + o ∧ 2 ≤ o ∧ o < ph_sz t (ph_x t c k) ∧ (g = 35 → o = 2 + i) ∧ (g = 36 → o = 2 + (t 33 (ph_x t c k)).toNat + i) := by
    rcases hg with ⟨e1, e2, e3, e4⟩ | ⟨e1, e2, e3⟩
    · rw [if_pos e1] at hP
      exact ⟨2 + i, by omega, by omega, by omega, fun _ => rfl, fun e => by omega⟩
    · rw [if_neg (by omega)] at hP
      exact ⟨2 + (t 33 (ph_x t c k)).toNat + i, by omega, by omega, by omega, fun e => by omega, fun _ => rfl⟩
  obtain ⟨o, o1, o2, o3, o4, o5⟩ := hoff
  have hi12 : i < 12 := by omega
  have e : ∀ g' j, g' ≠ g → py_st t g (12 * ph_x t c k + i) y g' j = t g' j := fun g' j h1 => py_sn h1
  have eo : ∀ g' j, (g' = 30 ∨ g' = 31 ∨ g' = 32 ∨ g' = 33 ∨ g' = 34 ∨ (37 ≤ g')) → py_st t g (12 * ph_x t c k + i) y g' j = t g' j := fun g' j h1 => e g' j (by omega)
  have es : ∀ g' j, g' ≠ 0 → py_st s 0 P v g' j = s g' j := fun g' j h1 => py_sn h1
  have hE : ph_E (py_st t g (12 * ph_x t c k + i) y) = ph_E t := ph_E_congr (fun x => eo 31 x (by omega)) (fun x => eo 32 x (by omega))
  have e35 : ∀ x j : Nat, j < 12 → (x ≠ ph_x t c k ∨ j ≠ i ∨ g ≠ 35) → py_st t g (12 * ph_x t c k + i) y 35 (12 * x + j) = t 35 (12 * x + j) := fun x j hj hne => by
    by_cases h1 : g = 35
    · subst h1; exact py_sj (by omega)
    · exact e 35 _ (by omega)
  have e36 : ∀ x j : Nat, j < 12 → (x ≠ ph_x t c k ∨ j ≠ i ∨ g ≠ 36) → py_st t g (12 * ph_x t c k + i) y 36 (12 * x + j) = t 36 (12 * x + j) := fun x j hj hne => by
    by_cases h1 : g = 36
    · subst h1; exact py_sj (by omega)
    · exact e 36 _ (by omega)
  have ev : py_st t g (12 * ph_x t c k + i) y g (12 * ph_x t c k + i) = y := py_se
  have hPV : ∀ z : Int, ph_PV t z → ph_PV (py_st t g (12 * ph_x t c k + i) y) z := fun z hz => by
    unfold ph_PV at hz ⊢
    rw [eo 30 _ (by omega)]; exact hz
  generalize py_st t g (12 * ph_x t c k + i) y = t' at *
  have s0P : py_st s 0 P v 0 P = v := py_se
  have s0n : ∀ q, q ≠ P → py_st s 0 P v 0 q = s 0 q := fun q hq => py_sj hq
  generalize py_st s 0 P v = s' at *
  have ex : ∀ c k, ph_x t' c k = ph_x t c k := fun c k => by unfold ph_x; rw [eo 39 _ (by omega)]
  have ep : ∀ c k, ph_pos t' c k = ph_pos t c k := fun c k => ph_pos_congr k (fun m _ => ⟨ex c m, by unfold ph_sz; rw [eo 33 _ (by omega), eo 34 _ (by omega)]⟩)
  refine ⟨b1.congr (fun i => es 5 i (by decide)) (fun i => es 6 i (by decide)) (es 13 0 (by decide)) (es 14 0 (by decide)) (eo 50 0 (by omega)) (eo 57 0 (by omega)) (fun i => eo 40 i (by omega)) (fun i => eo 41 i (by omega)) (fun i => eo 42 i (by omega)), ?_, ?_, fun q hq => ?_, ?_, ?_, ?_, ?_, ?_, ?_⟩
  · rw [hE]
    refine ⟨fun d hd => ?_, fun d l hd hl => ?_, fun p hp => ?_⟩
    · obtain ⟨d1, d2, d3, d4, d5, d6, d7, d8⟩ := b2.1 d hd
      refine ⟨by rw [es 3 d (by decide), eo 38 d (by omega)]; exact d1, by rw [es 2 d (by decide), eo 37 d (by omega)]; exact d2, by rw [eo 38 d (by omega)]; exact d3, by rw [eo 37 d (by omega), eo 38 d (by omega), ep]; exact d4, by rw [eo 37 d (by omega)]; exact d5, by rw [es 6 d (by decide), eo 38 d (by omega)]; exact d6, by rw [eo 38 d (by omega), es 4 d (by decide), ep]; exact d7, fun w hw hu => ?_⟩
      rw [eo 37 d (by omega)] at hu
      rw [s0n _ (fun e9 => by
        by_cases e10 : d = c
        · subst e10; omega
        · omega)]
      exact d8 w hw hu
    · rw [eo 38 d (by omega)] at hl
      obtain ⟨v1, v2, v3, v4, v5, v6, v7⟩ := b2.2.1 d l hd hl
      obtain ⟨k1, k2, k3, k4⟩ := b2.fit hd hl
      have hother : ∀ w : Nat, w < ph_sz t (ph_x t d l) → (d ≠ c ∨ l ≠ k ∨ w ≠ o) → s' 0 (32 * d + ph_pos t d l + w) = s 0 (32 * d + ph_pos t d l + w) := fun w hw hne => s0n _ (fun e9 => by
        rw [o1] at e9
        obtain ⟨q1, q2, q3⟩ := b2.offinj hd hl hw hc hk o3 e9
        omega)
      unfold ph_W
      simp only [ex, ep]
      rw [eo 39 _ (by omega), eo 33 _ (by omega), eo 34 _ (by omega), eo 30 _ (by omega)]
      refine ⟨v1, v2, v3, ?_, ?_, fun j hj => ⟨?_, ?_⟩, fun j hj => ?_⟩
      · have := hother 0 (by omega) (by omega)
        simp only [Nat.add_zero] at this
        rw [this]; exact v4
      · rw [hother 1 (by omega) (by omega)]; exact v5
      · by_cases e9 : d = c ∧ l = k ∧ j = i ∧ g = 35
        · obtain ⟨q1, q2, q3, q4⟩ := e9
          subst q1; subst q2; subst q3; subst q4
          rw [ev, show 32 * d + ph_pos t d l + 2 + j = P by rw [o1, o4 rfl]; omega, s0P]
          rcases hg with ⟨z1, z2, z3, z4⟩ | ⟨z1, z2, z3⟩
          · exact z4
          · omega
        · have h1 : ph_x t d l ≠ ph_x t c k ∨ j ≠ i ∨ g ≠ 35 := by
            by_cases e10 : ph_x t d l = ph_x t c k
            · obtain ⟨q1, q2⟩ := b3.xinj hc hk hd hl e10
              omega
            · exact Or.inl e10
          rw [e35 _ j (by omega) h1, show 32 * d + ph_pos t d l + 2 + j = 32 * d + ph_pos t d l + (2 + j) by omega, hother (2 + j) (by omega) (by
            by_cases e11 : d = c ∧ l = k
            · obtain ⟨q1, q2⟩ := e11
              subst q1; subst q2
              rcases hg with ⟨z1, z2, z3, z4⟩ | ⟨z1, z2, z3⟩
              · have := o4 z1; omega
              · have := o5 z1; omega
            · omega)]
          rw [show 32 * d + ph_pos t d l + (2 + j) = 32 * d + ph_pos t d l + 2 + j by omega]
          exact (v6 j hj).1
      · rw [es 1 _ (by decide)]; exact (v6 j hj).2
      · by_cases e9 : d = c ∧ l = k ∧ j = i ∧ g = 36
        · obtain ⟨q1, q2, q3, q4⟩ := e9
          subst q1; subst q2; subst q3; subst q4
          rw [ev, show 32 * d + ph_pos t d l + 2 + (t 33 (ph_x t d l)).toNat + j = P by rw [o1, o5 rfl]; omega, s0P]
          rcases hg with ⟨z1, z2, z3, z4⟩ | ⟨z1, z2, z3⟩
          · omega
          · exact z3
        · have h1 : ph_x t d l ≠ ph_x t c k ∨ j ≠ i ∨ g ≠ 36 := by
            by_cases e10 : ph_x t d l = ph_x t c k
            · obtain ⟨q1, q2⟩ := b3.xinj hc hk hd hl e10
              omega
            · exact Or.inl e10
          rw [e36 _ j (by omega) h1, show 32 * d + ph_pos t d l + 2 + (t 33 (ph_x t d l)).toNat + j = 32 * d + ph_pos t d l + (2 + (t 33 (ph_x t d l)).toNat + j) by omega, hother (2 + (t 33 (ph_x t d l)).toNat + j) (by omega) (by
            by_cases e11 : d = c ∧ l = k
            · obtain ⟨q1, q2⟩ := e11
              subst q1; subst q2
              rcases hg with ⟨z1, z2, z3, z4⟩ | ⟨z1, z2, z3⟩
              · have := o4 z1; omega
              · have := o5 z1; omega
            · omega)]
          rw [show 32 * d + ph_pos t d l + (2 + (t 33 (ph_x t d l)).toNat + j) = 32 * d + ph_pos t d l + 2 + (t 33 (ph_x t d l)).toNat + j by omega]
          exact v7 j hj
    · have := b2.2.2 p hp
      rw [es 1 p (by decide)]
      simp only [ex, ep, eo 38 _ (show (38 = 30 ∨ 38 = 31 ∨ 38 = 32 ∨ 38 = 33 ∨ 38 = 34 ∨ 37 ≤ 38) by omega), eo 33 _ (show (33 = 30 ∨ 33 = 31 ∨ 33 = 32 ∨ 33 = 33 ∨ 33 = 34 ∨ 37 ≤ 33) by omega)]
      exact this
  · refine ⟨by rw [eo 58 0 (by omega)]; exact b3.1, fun x hx => by rw [eo 30 x (by omega), eo 58 0 (by omega)]; exact b3.2.1 x hx, fun x hx hl => ?_, fun d l hd he hl => ?_, fun r hr => by rw [eo 43 r (by omega)]; exact hPV _ (b3.2.2.2.2.1 r hr), fun x hx hl j hj => ?_⟩
    · rw [eo 30 x (by omega)] at hl
      obtain ⟨d, l, hd, hl2, g1, g2, g3⟩ := b3.2.2.1 x hx hl
      exact ⟨d, l, hd, by rw [eo 38 d (by omega)]; exact hl2, by rw [ex]; exact g1, by rw [eo 31 x (by omega)]; exact g2, by rw [eo 32 x (by omega), ep]; exact g3⟩
    · rw [eo 38 d (by omega)] at hl
      rw [ex, ep, eo 30 _ (by omega), eo 31 _ (by omega), eo 32 _ (by omega)]
      exact b3.2.2.2.1 d l hd he hl
    · rw [eo 30 x (by omega)] at hl
      rw [eo 33 x (by omega)] at hj
      obtain ⟨c', k', hc', hk', g1, g2, g3, g4, g5, g6, g7⟩ := ph_live b2 b3 hx hl
      by_cases e9 : x = ph_x t c k ∧ j = i ∧ g = 35
      · obtain ⟨q1, q2, q3⟩ := e9
        subst q1; subst q2; subst q3
        rw [ev]
        rcases hg with ⟨z1, z2, z3, z4⟩ | ⟨z1, z2, z3⟩
        · exact hPV _ z3
        · omega
      · rw [e35 x j (by omega) (by omega)]
        exact hPV _ (b3.2.2.2.2.2 x hx hl j hj)
  · rw [hE, es 7 q (by decide), eo 43 q (by omega)]; exact b4 q hq
  · rw [es 20 0 (by decide), eo 59 0 (by omega)]; exact b5
  · rw [es 15 0 (by decide), es 16 0 (by decide), es 17 0 (by decide), es 18 0 (by decide), es 19 0 (by decide), eo 52 0 (by omega), eo 53 0 (by omega), eo 54 0 (by omega), eo 55 0 (by omega), eo 56 0 (by omega)]; exact b6
  · rw [es 23 0 (by decide), eo 51 0 (by omega)]; exact b7
  · rw [es 24 0 (by decide), eo 58 0 (by omega)]; exact b8
  · rw [eo 57 0 (by omega)]; exact b9
  · rw [es 26 0 (by decide)]; exact ⟨b10.1, b10.2.1, fun p hp => by rw [es 10 p (by decide)]; exact b10.2.2 p hp⟩
end PC3
