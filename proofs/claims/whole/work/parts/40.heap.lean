/-! PURE: what lies in the cars, on both sides -/
def ph_x (t : py_Z) (c k : Nat) : Nat := (t 39 (16 * c + k)).toNat
def ph_sz (t : py_Z) (x : Nat) : Nat := 2 + (t 33 x).toNat + (t 34 x).toNat
def ph_pos (t : py_Z) (c : Nat) : Nat → Nat
  | 0 => 0
  | k + 1 => ph_pos t c k + ph_sz t (ph_x t c k)
/-- the same words in a car -/
def ph_W (s t : py_Z) (E : Int → Int) (c k : Nat) : Prop :=
  (0 ≤ t 39 (16 * c + k) ∧ t 39 (16 * c + k) < 640) ∧ (0 ≤ t 33 (ph_x t c k) ∧ t 33 (ph_x t c k) ≤ 12) ∧ (0 ≤ t 34 (ph_x t c k) ∧ t 34 (ph_x t c k) ≤ 12) ∧
  s 0 (32 * c + ph_pos t c k) = t 30 (ph_x t c k) ∧ s 0 (32 * c + ph_pos t c k + 1) = t 33 (ph_x t c k) + 16 * t 34 (ph_x t c k) ∧
  (∀ i : Nat, (i : Int) < t 33 (ph_x t c k) → s 0 (32 * c + ph_pos t c k + 2 + i) = E (t 35 (12 * ph_x t c k + i)) ∧ s 1 (32 * c + ph_pos t c k + 2 + i) = 1) ∧
  (∀ i : Nat, (i : Int) < t 34 (ph_x t c k) → s 0 (32 * c + ph_pos t c k + 2 + (t 33 (ph_x t c k)).toNat + i) = t 36 (12 * ph_x t c k + i))
/-- the amounts of a car -/
def ph_C (s t : py_Z) (c : Nat) : Prop :=
  s 3 c = t 38 c ∧ s 2 c = t 37 c ∧ (0 ≤ t 38 c ∧ t 38 c ≤ 16) ∧ t 37 c = ph_pos t c (t 38 c).toNat ∧ t 37 c ≤ 32 ∧ (s 6 c = 0 → t 38 c = 0) ∧
  (0 < t 38 c → s 4 c = 32 * c + ph_pos t c ((t 38 c).toNat - 1)) ∧ (∀ w : Nat, w < 32 → t 37 c ≤ (w : Int) → s 0 (32 * c + w) = 0)
def ph_TH (s t : py_Z) (E : Int → Int) : Prop :=
  (∀ c : Nat, c < 40 → ph_C s t c) ∧
  (∀ c k : Nat, c < 40 → (k : Int) < t 38 c → ph_W s t E c k) ∧
  (∀ p : Nat, p < 1280 → s 1 p = 0 ∨ (s 1 p = 1 ∧ ∃ c k i : Nat, c < 40 ∧ (k : Int) < t 38 c ∧ (i : Int) < t 33 (ph_x t c k) ∧ p = 32 * c + ph_pos t c k + 2 + i))
theorem ph_pos_mono {t : py_Z} {c : Nat} : ∀ (d k : Nat), ph_pos t c k ≤ ph_pos t c (k + d)
  | 0, k => Nat.le_refl _
  | d + 1, k => by
    have := ph_pos_mono (t := t) (c := c) d k
    show ph_pos t c k ≤ ph_pos t c (k + d) + _
    omega
theorem ph_pos_le {t : py_Z} {c k m : Nat} (h : k ≤ m) : ph_pos t c k ≤ ph_pos t c m := by
  have := ph_pos_mono (t := t) (c := c) (m - k) k
  rwa [show k + (m - k) = m by omega] at this
theorem ph_pos_lt {t : py_Z} {c k m : Nat} (h : k < m) : ph_pos t c k + ph_sz t (ph_x t c k) ≤ ph_pos t c m := ph_pos_le (t := t) (c := c) (show k + 1 ≤ m from h)
theorem ph_pos_two {t : py_Z} {c : Nat} : ∀ (k : Nat), 2 * k ≤ ph_pos t c k
  | 0 => Nat.le_refl _
  | k + 1 => by
    have := ph_pos_two (t := t) (c := c) k
    show 2 * (k + 1) ≤ ph_pos t c k + ph_sz t (ph_x t c k)
    unfold ph_sz; omega
theorem ph_pos_dec {t : py_Z} {c : Nat} : ∀ (n w : Nat), w < ph_pos t c n → ∃ k : Nat, k < n ∧ ph_pos t c k ≤ w ∧ w < ph_pos t c k + ph_sz t (ph_x t c k)
  | 0, w, h => absurd h (by simp [ph_pos])
  | n + 1, w, h => by
    by_cases e : w < ph_pos t c n
    · obtain ⟨k, h1, h2⟩ := ph_pos_dec n w e
      exact ⟨k, by omega, h2⟩
    · exact ⟨n, by omega, by omega, h⟩
theorem ph_pos_congr {t t' : py_Z} {c : Nat} : ∀ (n : Nat), (∀ k : Nat, k < n → ph_x t' c k = ph_x t c k ∧ ph_sz t' (ph_x t c k) = ph_sz t (ph_x t c k)) → ph_pos t' c n = ph_pos t c n
  | 0, _ => rfl
  | n + 1, h => by
    show ph_pos t' c n + ph_sz t' (ph_x t' c n) = ph_pos t c n + ph_sz t (ph_x t c n)
    rw [ph_pos_congr n (fun k hk => h k (by omega)), (h n (by omega)).1, (h n (by omega)).2]
section PH
variable {s t : py_Z} {E : Int → Int}
/-- where a thing lies ends within its car -/
theorem ph_TH.fit (h : ph_TH s t E) {c k : Nat} (hc : c < 40) (hk : (k : Int) < t 38 c) : ph_pos t c k + ph_sz t (ph_x t c k) ≤ (t 37 c).toNat ∧ (t 37 c).toNat ≤ 32 ∧ 0 ≤ t 37 c ∧ (ph_sz t (ph_x t c k) : Int) = 2 + t 33 (ph_x t c k) + t 34 (ph_x t c k) := by
  obtain ⟨h1, h2, h3, h4, h5, h6, h7⟩ := h.1 c hc
  obtain ⟨w1, w2, w3, w4⟩ := h.2.1 c k hc hk
  have := ph_pos_lt (t := t) (c := c) (k := k) (m := (t 38 c).toNat) (by omega)
  unfold ph_sz at *
  omega
theorem ph_TH.ir (h : ph_TH s t E) : pr_IR s := by
  refine ⟨fun p hp => ?_, fun c hc => ?_⟩
  · rcases h.2.2 p hp with e | ⟨e, c, k, i, hc, hk, hi, hp2⟩
    · exact ⟨Or.inl e, fun e2 => absurd e e2⟩
    · refine ⟨Or.inr e, fun _ => ?_⟩
      obtain ⟨f1, f2, f3, f4⟩ := h.fit hc hk
      obtain ⟨w1, w2, w3, w4⟩ := h.2.1 c k hc hk
      have e1 : p / 32 = c := by omega
      rw [e1, (h.1 c hc).2.1]
      omega
  · obtain ⟨h1, h2, h3, h4, h5, h6⟩ := h.1 c hc
    omega
/-- a reference's place tells it -/
theorem ph_TH.refinj (h : ph_TH s t E) {c k i c' k' i' : Nat} (hc : c < 40) (hk : (k : Int) < t 38 c) (hi : (i : Int) < t 33 (ph_x t c k)) (hc' : c' < 40) (hk' : (k' : Int) < t 38 c') (hi' : (i' : Int) < t 33 (ph_x t c' k')) (e : 32 * c + ph_pos t c k + 2 + i = 32 * c' + ph_pos t c' k' + 2 + i') : c = c' ∧ k = k' ∧ i = i' := by
  obtain ⟨f1, f2, f3, f4⟩ := h.fit hc hk
  obtain ⟨g1, g2, g3, g4⟩ := h.fit hc' hk'
  obtain ⟨w1, w2, w3, w4⟩ := h.2.1 c k hc hk
  obtain ⟨v1, v2, v3, v4⟩ := h.2.1 c' k' hc' hk'
  have e1 : c = c' := by omega
  subst e1
  have e2 : k = k' := by
    rcases Nat.lt_trichotomy k k' with e2 | e2 | e2
    · have := ph_pos_lt (t := t) (c := c) e2; omega
    · exact e2
    · have := ph_pos_lt (t := t) (c := c) e2; omega
  subst e2
  exact ⟨rfl, rfl, by omega⟩
/-- the pointers' code may change where no pointer is -/
theorem ph_TH.code {E' : Int → Int} (h : ph_TH s t E) (hE : ∀ c k i : Nat, c < 40 → (k : Int) < t 38 c → (i : Int) < t 33 (ph_x t c k) → E' (t 35 (12 * ph_x t c k + i)) = E (t 35 (12 * ph_x t c k + i))) : ph_TH s t E' := by
  refine ⟨h.1, fun c k hc hk => ?_, h.2.2⟩
  obtain ⟨w1, w2, w3, w4, w5, w6, w7⟩ := h.2.1 c k hc hk
  exact ⟨w1, w2, w3, w4, w5, fun i hi => ⟨by rw [hE c k i hc hk hi]; exact (w6 i hi).1, (w6 i hi).2⟩, w7⟩
/-- only these fields count -/
theorem ph_TH.congr {s' t' : py_Z} (h : ph_TH s t E) (hs : ∀ g i, g ≤ 4 → s' g i = s g i) (h6 : ∀ c : Nat, c < 40 → s' 6 c = 0 → s 6 c = 0) (ht : ∀ g i, 30 ≤ g → g ≤ 39 → g ≠ 31 → g ≠ 32 → t' g i = t g i) : ph_TH s' t' E := by
  have ex : ∀ c k, ph_x t' c k = ph_x t c k := fun c k => by unfold ph_x; rw [ht 39 _ (by omega) (by omega) (by omega) (by omega)]
  have ep : ∀ c k, ph_pos t' c k = ph_pos t c k := fun c k => ph_pos_congr k (fun m _ => ⟨ex c m, by unfold ph_sz; rw [ht 33 _ (by omega) (by omega) (by omega) (by omega), ht 34 _ (by omega) (by omega) (by omega) (by omega)]⟩)
  have t30 : ∀ i, t' 30 i = t 30 i := fun i => ht 30 i (by omega) (by omega) (by omega) (by omega)
  have t33 : ∀ i, t' 33 i = t 33 i := fun i => ht 33 i (by omega) (by omega) (by omega) (by omega)
  have t34 : ∀ i, t' 34 i = t 34 i := fun i => ht 34 i (by omega) (by omega) (by omega) (by omega)
  have t35 : ∀ i, t' 35 i = t 35 i := fun i => ht 35 i (by omega) (by omega) (by omega) (by omega)
  have t36 : ∀ i, t' 36 i = t 36 i := fun i => ht 36 i (by omega) (by omega) (by omega) (by omega)
  have t37 : ∀ i, t' 37 i = t 37 i := fun i => ht 37 i (by omega) (by omega) (by omega) (by omega)
  have t38 : ∀ i, t' 38 i = t 38 i := fun i => ht 38 i (by omega) (by omega) (by omega) (by omega)
  have t39 : ∀ i, t' 39 i = t 39 i := fun i => ht 39 i (by omega) (by omega) (by omega) (by omega)
  have s0 : ∀ i, s' 0 i = s 0 i := fun i => hs 0 i (by omega)
  have s1 : ∀ i, s' 1 i = s 1 i := fun i => hs 1 i (by omega)
  have s2 : ∀ i, s' 2 i = s 2 i := fun i => hs 2 i (by omega)
  have s3 : ∀ i, s' 3 i = s 3 i := fun i => hs 3 i (by omega)
  have s4 : ∀ i, s' 4 i = s 4 i := fun i => hs 4 i (by omega)
  refine ⟨fun c hc => ?_, fun c k hc hk => ?_, fun p hp => ?_⟩
  · have := h.1 c hc
    unfold ph_C at this ⊢
    simp only [s0, s2, s3, s4, t37, t38, ep]
    exact ⟨this.1, this.2.1, this.2.2.1, this.2.2.2.1, this.2.2.2.2.1, fun e => this.2.2.2.2.2.1 (h6 c hc e), this.2.2.2.2.2.2⟩
  · rw [t38] at hk
    have := h.2.1 c k hc hk
    unfold ph_W at this ⊢
    simp only [s0, s1, t30, t33, t34, t35, t36, t39, ep, ex]
    exact this
  · have := h.2.2 p hp
    simp only [s1, t33, t38, ep, ex]
    exact this
/-- a thing is laid behind the last one of a car -/
theorem ph_TH.lay {s' : py_Z} (h : ph_TH s t E) {x c : Nat} (hx : x < 640) (hc : c < 40) (hr : 0 ≤ t 33 x ∧ t 33 x ≤ 12) (hn : 0 ≤ t 34 x ∧ t 34 x ≤ 12) (hfit : t 37 c + (2 + t 33 x + t 34 x) ≤ 32)
    (s0 : ∀ q : Nat, ¬ (32 * (c : Int) + t 37 c ≤ q ∧ (q : Int) < 32 * c + t 37 c + (2 + t 33 x + t 34 x)) → s' 0 q = s 0 q)
    (s1 : ∀ q : Nat, s' 1 q = if 32 * (c : Int) + t 37 c + 2 ≤ q ∧ (q : Int) < 32 * c + t 37 c + 2 + t 33 x then 1 else s 1 q)
    (s2 : ∀ d : Nat, s' 2 d = if d = c then t 37 c + (2 + t 33 x + t 34 x) else s 2 d)
    (s3 : ∀ d : Nat, s' 3 d = if d = c then t 38 c + 1 else s 3 d)
    (s4 : ∀ d : Nat, s' 4 d = if d = c then 32 * (c : Int) + t 37 c else s 4 d)
    (s6 : ∀ d : Nat, d < 40 → s' 6 d = 0 → d ≠ c ∧ s 6 d = 0)
    (w0 : s' 0 (32 * c + (t 37 c).toNat) = t 30 x) (w1 : s' 0 (32 * c + (t 37 c).toNat + 1) = t 33 x + 16 * t 34 x)
    (w2 : ∀ i : Nat, (i : Int) < t 33 x → s' 0 (32 * c + (t 37 c).toNat + 2 + i) = E (t 35 (12 * x + i)))
    (w3 : ∀ i : Nat, (i : Int) < t 34 x → s' 0 (32 * c + (t 37 c).toNat + 2 + (t 33 x).toNat + i) = t 36 (12 * x + i)) : ph_TH s' (pm_lay t x c) E := by
  obtain ⟨c1, c2, c3, c4, c5, c6, c7, c8⟩ := h.1 c hc
  have htwo := ph_pos_two (t := t) (c := c) (t 38 c).toNat
  have hcnt : t 38 c ≤ 15 := by omega
  have t30 : ∀ i, pm_lay t x c 30 i = t 30 i := fun i => by simp [pm_lay]
  have t33 : ∀ i, pm_lay t x c 33 i = t 33 i := fun i => by simp [pm_lay]
  have t34 : ∀ i, pm_lay t x c 34 i = t 34 i := fun i => by simp [pm_lay]
  have t35 : ∀ i, pm_lay t x c 35 i = t 35 i := fun i => by simp [pm_lay]
  have t36 : ∀ i, pm_lay t x c 36 i = t 36 i := fun i => by simp [pm_lay]
  have t37 : ∀ i, pm_lay t x c 37 i = if i = c then t 37 c + (2 + t 33 x + t 34 x) else t 37 i := fun i => by simp [pm_lay]
  have t38 : ∀ i, pm_lay t x c 38 i = if i = c then t 38 c + 1 else t 38 i := fun i => by simp [pm_lay]
  have t39 : ∀ i, pm_lay t x c 39 i = if i = 16 * c + (t 38 c).toNat then (x : Int) else t 39 i := fun i => by simp [pm_lay]
  generalize pm_lay t x c = t' at *
  have esz : ∀ y, ph_sz t' y = ph_sz t y := fun y => by unfold ph_sz; rw [t33, t34]
  have ex : ∀ d k : Nat, d < 40 → (k : Int) < t 38 d → ph_x t' d k = ph_x t d k := fun d k hd hk => by
    unfold ph_x
    have := (h.1 d hd).2.2.1
    rw [t39, if_neg]
    intro e
    have e2 : d = c := by omega
    subst e2
    omega
  have exn : ph_x t' c (t 38 c).toNat = x := by
    unfold ph_x
    rw [t39, if_pos rfl]; rfl
  have ep : ∀ d k : Nat, d < 40 → (k : Int) ≤ t 38 d → ph_pos t' d k = ph_pos t d k := fun d k hd hk => ph_pos_congr k (fun m hm => ⟨ex d m hd (by omega), esz _⟩)
  have epn : ph_pos t' c ((t 38 c).toNat + 1) = (t 37 c).toNat + (2 + (t 33 x).toNat + (t 34 x).toNat) := by
    show ph_pos t' c (t 38 c).toNat + ph_sz t' (ph_x t' c (t 38 c).toNat) = _
    rw [ep c _ hc (by omega), exn, esz]
    unfold ph_sz
    omega
  refine ⟨fun d hd => ?_, fun d k hd hk => ?_, fun p hp => ?_⟩
  · by_cases e : d = c
    · subst e
      refine ⟨by rw [s3, t38, if_pos rfl, if_pos rfl], by rw [s2, t37, if_pos rfl, if_pos rfl], by rw [t38, if_pos rfl]; omega, ?_, by rw [t37, if_pos rfl]; exact hfit, fun e2 => absurd rfl (s6 d hd e2).1, fun _ => ?_, fun w hw hw2 => ?_⟩
      · rw [t37, if_pos rfl, t38, if_pos rfl, show (t 38 d + 1).toNat = (t 38 d).toNat + 1 by omega, epn]
        omega
      · rw [s4, if_pos rfl, t38, if_pos rfl, show (t 38 d + 1).toNat - 1 = (t 38 d).toNat by omega, ep d _ hd (by omega)]
        omega
      · rw [t37, if_pos rfl] at hw2
        rw [s0 _ (by omega)]
        exact c8 w hw (by omega)
    · obtain ⟨d1, d2, d3, d4, d5, d6, d7, d8⟩ := h.1 d hd
      refine ⟨by rw [s3, t38, if_neg e, if_neg e]; exact d1, by rw [s2, t37, if_neg e, if_neg e]; exact d2, by rw [t38, if_neg e]; exact d3, ?_, by rw [t37, if_neg e]; exact d5, fun e2 => by rw [t38, if_neg e]; exact d6 (s6 d hd e2).2, fun e2 => ?_, fun w hw hw2 => ?_⟩
      · rw [t37, if_neg e, t38, if_neg e, ep d _ hd (by omega)]; exact d4
      · rw [t38, if_neg e] at e2
        rw [s4, if_neg e, t38, if_neg e, ep d _ hd (by omega)]; exact d7 e2
      · rw [t37, if_neg e] at hw2
        rw [s0 _ (by omega)]
        exact d8 w hw hw2
  · by_cases e : d = c ∧ k = (t 38 c).toNat
    · obtain ⟨e1, e2⟩ := e
      subst e1; subst e2
      have e3 : ph_pos t' d (t 38 d).toNat = (t 37 d).toNat := by rw [ep d _ hd (by omega)]; omega
      unfold ph_W
      simp only [exn, e3, t30, t33, t34, t35, t36]
      refine ⟨by rw [t39, if_pos rfl]; omega, hr, hn, w0, w1, fun i hi => ⟨w2 i hi, ?_⟩, w3⟩
      rw [s1, if_pos (by omega)]
    · have hk2 : (k : Int) < t 38 d := by
        rw [t38] at hk
        by_cases e1 : d = c
        · subst e1; rw [if_pos rfl] at hk; omega
        · rwa [if_neg e1] at hk
      obtain ⟨w1, w2, w3, w4, w5, w6, w7⟩ := h.2.1 d k hd hk2
      obtain ⟨f1, f2, f3, f4⟩ := h.fit hd hk2
      have hout : ∀ q : Nat, 32 * d + ph_pos t d k ≤ q → q < 32 * d + ph_pos t d k + ph_sz t (ph_x t d k) → ¬ (32 * (c : Int) + t 37 c ≤ q ∧ (q : Int) < 32 * c + t 37 c + (2 + t 33 x + t 34 x)) := fun q h1 h2 => by
        by_cases e1 : d = c
        · subst e1; omega
        · omega
      unfold ph_W
      simp only [ex d k hd hk2, ep d k hd (by omega), t30, t33, t34, t35, t36]
      refine ⟨?_, w2, w3, ?_, ?_, fun i hi => ⟨?_, ?_⟩, fun i hi => ?_⟩
      · rw [t39, if_neg]
        · exact w1
        · intro e1
          have := (h.1 d hd).2.2.1
          have e2 : d = c := by omega
          exact e ⟨e2, by omega⟩
      · rw [s0 _ (hout _ (by omega) (by omega))]; exact w4
      · rw [s0 _ (hout _ (by omega) (by omega))]; exact w5
      · rw [s0 _ (hout _ (by omega) (by omega))]; exact (w6 i hi).1
      · rw [s1]
        split
        · rfl
        · exact (w6 i hi).2
      · rw [s0 _ (hout _ (by omega) (by omega))]; exact w7 i hi
  · rw [s1]
    by_cases e : 32 * (c : Int) + t 37 c + 2 ≤ p ∧ (p : Int) < 32 * c + t 37 c + 2 + t 33 x
    · rw [if_pos e]
      refine Or.inr ⟨rfl, c, (t 38 c).toNat, p - (32 * c + (t 37 c).toNat + 2), hc, by rw [t38, if_pos rfl]; omega, ?_, ?_⟩
      · rw [exn, t33]; omega
      · rw [ep c _ hc (by omega)]; omega
    · rw [if_neg e]
      rcases h.2.2 p hp with e1 | ⟨e1, d, k, i, hd, hk, hi, hp2⟩
      · exact Or.inl e1
      · refine Or.inr ⟨e1, d, k, i, hd, ?_, by rw [ex d k hd hk, t33]; exact hi, by rw [ep d k hd (by omega)]; exact hp2⟩
        rw [t38]
        split
        · rename_i e2; subst e2; omega
        · exact hk
/-- a car is cleared -/
theorem ph_TH.clear {s' t' : py_Z} (h : ph_TH s t E) {c : Nat} (hc : c < 40)
    (s0 : ∀ q : Nat, s' 0 q = if q / 32 = c then 0 else s 0 q) (s1 : ∀ q : Nat, s' 1 q = if q / 32 = c then 0 else s 1 q)
    (s2 : ∀ d : Nat, s' 2 d = if d = c then 0 else s 2 d) (s3 : ∀ d : Nat, s' 3 d = if d = c then 0 else s 3 d) (s4 : ∀ d : Nat, s' 4 d = s 4 d)
    (s6 : ∀ d : Nat, d < 40 → s' 6 d = 0 → d = c ∨ s 6 d = 0)
    (t30 : ∀ d k : Nat, d < 40 → d ≠ c → (k : Int) < t 38 d → t' 30 (ph_x t d k) = t 30 (ph_x t d k))
    (t37 : ∀ d : Nat, t' 37 d = if d = c then 0 else t 37 d) (t38 : ∀ d : Nat, t' 38 d = if d = c then 0 else t 38 d)
    (ht : ∀ g i, g = 33 ∨ g = 34 ∨ g = 35 ∨ g = 36 ∨ g = 39 → t' g i = t g i) : ph_TH s' t' E := by
  have ex : ∀ c k, ph_x t' c k = ph_x t c k := fun c k => by unfold ph_x; rw [ht 39 _ (by omega)]
  have esz : ∀ y, ph_sz t' y = ph_sz t y := fun y => by unfold ph_sz; rw [ht 33 _ (by omega), ht 34 _ (by omega)]
  have ep : ∀ c k, ph_pos t' c k = ph_pos t c k := fun c k => ph_pos_congr k (fun m _ => ⟨ex c m, esz _⟩)
  have t33 : ∀ i, t' 33 i = t 33 i := fun i => ht 33 i (by omega)
  have t34 : ∀ i, t' 34 i = t 34 i := fun i => ht 34 i (by omega)
  have t35 : ∀ i, t' 35 i = t 35 i := fun i => ht 35 i (by omega)
  have t36 : ∀ i, t' 36 i = t 36 i := fun i => ht 36 i (by omega)
  have t39 : ∀ i, t' 39 i = t 39 i := fun i => ht 39 i (by omega)
  refine ⟨fun d hd => ?_, fun d k hd hk => ?_, fun p hp => ?_⟩
  · by_cases e : d = c
    · subst e
      refine ⟨by rw [s3, t38, if_pos rfl, if_pos rfl], by rw [s2, t37, if_pos rfl, if_pos rfl], by rw [t38, if_pos rfl]; omega, by rw [t37, t38, if_pos rfl, if_pos rfl]; rfl, by rw [t37, if_pos rfl]; omega, fun _ => by rw [t38, if_pos rfl], fun e2 => by rw [t38, if_pos rfl] at e2; omega, fun w hw _ => ?_⟩
      rw [s0, if_pos (by omega)]
    · obtain ⟨d1, d2, d3, d4, d5, d6, d7, d8⟩ := h.1 d hd
      refine ⟨by rw [s3, t38, if_neg e, if_neg e]; exact d1, by rw [s2, t37, if_neg e, if_neg e]; exact d2, by rw [t38, if_neg e]; exact d3, by rw [t37, t38, if_neg e, if_neg e, ep]; exact d4, by rw [t37, if_neg e]; exact d5, fun e2 => by rw [t38, if_neg e]; exact d6 ((s6 d hd e2).resolve_left e), fun e2 => ?_, fun w hw hw2 => ?_⟩
      · rw [t38, if_neg e] at e2
        rw [s4, t38, if_neg e, ep]; exact d7 e2
      · rw [t37, if_neg e] at hw2
        rw [s0, if_neg (by omega)]
        exact d8 w hw hw2
  · rw [t38] at hk
    by_cases e : d = c
    · rw [if_pos e] at hk; omega
    · rw [if_neg e] at hk
      obtain ⟨w1, w2, w3, w4, w5, w6, w7⟩ := h.2.1 d k hd hk
      obtain ⟨f1, f2, f3, f4⟩ := h.fit hd hk
      unfold ph_W
      simp only [ex, ep, t33, t34, t35, t36, t39, t30 d k hd e hk]
      refine ⟨w1, w2, w3, ?_, ?_, fun i hi => ⟨?_, ?_⟩, fun i hi => ?_⟩
      · rw [s0, if_neg (by omega)]; exact w4
      · rw [s0, if_neg (by omega)]; exact w5
      · rw [s0, if_neg (by omega)]; exact (w6 i hi).1
      · rw [s1, if_neg (by omega)]; exact (w6 i hi).2
      · rw [s0, if_neg (by omega)]; exact w7 i hi
  · rw [s1]
    by_cases e : p / 32 = c
    · rw [if_pos e]; exact Or.inl rfl
    · rw [if_neg e]
      rcases h.2.2 p hp with e1 | ⟨e1, d, k, i, hd, hk, hi, hp2⟩
      · exact Or.inl e1
      · obtain ⟨f1, f2, f3, f4⟩ := h.fit hd hk
        obtain ⟨w1, w2, w3, w4⟩ := h.2.1 d k hd hk
        refine Or.inr ⟨e1, d, k, i, hd, ?_, by rw [ex, t33]; exact hi, by rw [ep]; exact hp2⟩
        rw [t38, if_neg]
        · exact hk
        · intro e2; omega
end PH
