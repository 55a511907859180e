/-! PURE: what is referred to from elsewhere is moved -/
theorem pr_nextEx {s : py_Z} (hI : pr_IR s) {a : Nat} (ha : a ≤ 1280) : ∃ r : Nat, a ≤ r ∧ r ≤ 1280 ∧ (r = 1280 ∨ s 1 r = 1) ∧ (∀ p : Nat, a ≤ p → p < r → s 1 p = 0) ∧ ∀ K : ty_S → Int32 → Prop, K (py_O s) (py_o r) → eX0_nextReference (py_O s) (py_o a) K := by
  by_cases h : ∃ q : Nat, a ≤ q ∧ q < 1280 ∧ s 1 q = 1
  · obtain ⟨q, hq⟩ := h
    obtain ⟨r, h1, ⟨h2, h3, h4⟩, h5⟩ := py_least (P := fun q => a ≤ q ∧ q < 1280 ∧ s 1 q = 1) (fun _ => Classical.em _) hq
    refine ⟨r, h2, by omega, Or.inr h4, fun p hp1 hp2 => ?_, fun K hK => pr_next hI ha (fun q' g1 g2 g3 g4 => ?_) (fun g => by rw [g r h2 h3] at h4; omega)⟩
    · rcases (hI.1 p (by omega)).1 with e1 | e1
      · exact e1
      · exact absurd ⟨hp1, by omega, e1⟩ (h5 p hp2)
    · have : q' = r := by
        rcases Nat.lt_trichotomy q' r with e1 | e1 | e1
        · exact absurd ⟨g1, g2, g3⟩ (h5 q' e1)
        · exact e1
        · have := g4 r h2 e1; omega
      rw [this]; exact hK
  · have hz : ∀ p : Nat, a ≤ p → p < 1280 → s 1 p = 0 := fun p h1 h2 => by
      rcases (hI.1 p h2).1 with e1 | e1
      · exact e1
      · exact absurd ⟨p, h1, h2, e1⟩ h
    exact ⟨1280, ha, Nat.le_refl _, Or.inl rfl, hz, fun K hK => pr_next hI ha (fun q g1 g2 g3 _ => absurd ⟨q, g1, g2, g3⟩ h) (fun _ => hK)⟩
def ph_Done (s0 t0 t : py_Z) (e : Nat) (fl B : Int) : Prop :=
  ∀ x : Nat, x < 640 → 0 < t0 30 x → t0 31 x ≠ e → ∀ i : Nat, (i : Int) < t0 33 x → 32 * t0 31 x + t0 32 x + 2 + i < B → (s0 6 (t0 31 x).toNat = s0 6 e ↔ fl = 1) → t0 35 (12 * x + i) < 0 ∨ t 31 (t0 35 (12 * x + i)).toNat ≠ e
def ph_Idx (t0 : py_Z) (k : Nat) (B : Int) : Prop := (k : Int) ≤ t0 61 0 ∧ (∀ a : Nat, a < k → ph_gp t0 a < B) ∧ (∀ a : Nat, k ≤ a → (a : Int) < t0 61 0 → B ≤ ph_gp t0 a)
/-! what the class does at one reference -/
theorem pr_mrt_car {s : py_Z} {first fl : Int} {r e n : Nat} {K : ty_S → Prop} (hr : r < 1280) (hre : r / 32 = e) (h20 : s 20 0 = e) (hK : eX0_nextReference (py_O s) (py_o (r + 1 : Nat)) (fun S4 r4 => lX3_moveReferredTo_9 K n (py_o first) (py_o fl) r4 S4)) : lX3_moveReferredTo_9 K (n + 1) (py_o first) (py_o fl) (py_o r) (py_O s) := by
  unfold lX3_moveReferredTo_9
  try simp only [py_O_ap, py_l0, py_l1, py_l2, py_l3, py_l4, py_l5, py_l6, py_l7, py_l8, py_l9, py_l12, py_l16, py_l32, py_l40, py_l100, py_l640, py_l1280, py_neg, py_add, py_sub, py_mul, py_stO]
  refine py_ile (fun c => absurd c (by omega)) (fun _ => ?_)
  refine pr_carOf (fun _ _ => ?_) (fun c => absurd c (by omega))
  refine pr_trainOf (fun _ _ => ?_) (fun c => absurd c (by omega))
  try simp only [py_O_ap, py_l0, py_l1, py_l2, py_l3, py_l4, py_l5, py_l6, py_l7, py_l8, py_l9, py_l12, py_l16, py_l32, py_l40, py_l100, py_l640, py_l1280, py_neg, py_add, py_sub, py_mul, py_stO]
  refine py_ieq (fun _ => ?_) (fun c9 => absurd (by omega) c9)
  unfold jX3_moveReferredTo_71
  try simp only [py_O_ap, py_l0, py_l1, py_l2, py_l3, py_l4, py_l5, py_l6, py_l7, py_l8, py_l9, py_l12, py_l16, py_l32, py_l40, py_l100, py_l640, py_l1280, py_neg, py_add, py_sub, py_mul, py_stO]
  exact hK
theorem pr_mrt_match {s : py_Z} {first fl v : Int} {r c n : Nat} {K : ty_S → Prop} (hr : r < 1280) (hrc : r / 32 = c) (h20 : s 20 0 ≠ c) (h20b : -1 ≤ s 20 0 ∧ s 20 0 < 40) (h6 : 0 ≤ s 6 c ∧ s 6 c ≤ 100000) (hf : 0 ≤ first ∧ first ≤ 100000) (hfl : fl = 0 ∨ fl = 1) (hw : s 0 r = v) (hm : s 6 c = first ↔ fl = 1) (hK : eX3_moveWithOthers (py_O s) (py_o v) (py_o (s 6 c)) (fun S6 => eX0_nextReference S6 (py_o (r + 1 : Nat)) (fun S4 r4 => lX3_moveReferredTo_9 K n (py_o first) (py_o fl) r4 S4))) : lX3_moveReferredTo_9 K (n + 1) (py_o first) (py_o fl) (py_o r) (py_O s) := by
  have hK2 : ∀ w : Int, w = fl → jX3_moveReferredTo_53 K (fun a0 a1 a2 S9 => lX3_moveReferredTo_9 K n a0 a1 a2 S9) (py_o first) (py_o fl) (py_o r) (py_o (s 6 c)) (py_o w) (py_O s) := fun w hw2 => by
    unfold jX3_moveReferredTo_53
    try simp only [py_O_ap, py_l0, py_l1, py_l2, py_l3, py_l4, py_l5, py_l6, py_l7, py_l8, py_l9, py_l12, py_l16, py_l32, py_l40, py_l100, py_l640, py_l1280, py_neg, py_add, py_sub, py_mul, py_stO]
    refine py_ieq (fun _ => ?_) (fun c => absurd hw2 c)
    refine pr_at (fun _ _ => ?_) (fun c => absurd c (by omega))
    simp only [Int.toNat_natCast]
    rw [hw]
    unfold jX3_moveReferredTo_71
    try simp only [py_O_ap, py_l0, py_l1, py_l2, py_l3, py_l4, py_l5, py_l6, py_l7, py_l8, py_l9, py_l12, py_l16, py_l32, py_l40, py_l100, py_l640, py_l1280, py_neg, py_add, py_sub, py_mul, py_stO]
    exact hK
  unfold lX3_moveReferredTo_9
  try simp only [py_O_ap, py_l0, py_l1, py_l2, py_l3, py_l4, py_l5, py_l6, py_l7, py_l8, py_l9, py_l12, py_l16, py_l32, py_l40, py_l100, py_l640, py_l1280, py_neg, py_add, py_sub, py_mul, py_stO]
  refine py_ile (fun c => absurd c (by omega)) (fun _ => ?_)
  refine pr_carOf (fun _ _ => ?_) (fun c => absurd c (by omega))
  rw [show (r : Int) / 32 = c by omega]
  refine pr_trainOf (fun _ _ => ?_) (fun c => absurd c (by omega))
  simp only [Int.toNat_natCast]
  try simp only [py_O_ap, py_l0, py_l1, py_l2, py_l3, py_l4, py_l5, py_l6, py_l7, py_l8, py_l9, py_l12, py_l16, py_l32, py_l40, py_l100, py_l640, py_l1280, py_neg, py_add, py_sub, py_mul, py_stO]
  refine py_ieq (fun c => absurd c.symm h20) (fun _ => ?_)
  refine py_ieq (fun e1 => hK2 1 (hm.mp e1).symm) (fun e1 => hK2 0 ?_)
  rcases hfl with e2 | e2
  · exact e2.symm
  · exact absurd (hm.mpr e2) e1
theorem pr_mrt_no {s : py_Z} {first fl : Int} {r c n : Nat} {K : ty_S → Prop} (hr : r < 1280) (hrc : r / 32 = c) (h20 : s 20 0 ≠ c) (h20b : -1 ≤ s 20 0 ∧ s 20 0 < 40) (h6 : 0 ≤ s 6 c ∧ s 6 c ≤ 100000) (hf : 0 ≤ first ∧ first ≤ 100000) (hfl : fl = 0 ∨ fl = 1) (hm : ¬ (s 6 c = first ↔ fl = 1)) (hK : eX0_nextReference (py_O s) (py_o (r + 1 : Nat)) (fun S4 r4 => lX3_moveReferredTo_9 K n (py_o first) (py_o fl) r4 S4)) : lX3_moveReferredTo_9 K (n + 1) (py_o first) (py_o fl) (py_o r) (py_O s) := by
  have hK2 : ∀ v : Int, v ≠ fl → (v = 0 ∨ v = 1) → jX3_moveReferredTo_53 K (fun a0 a1 a2 S9 => lX3_moveReferredTo_9 K n a0 a1 a2 S9) (py_o first) (py_o fl) (py_o r) (py_o (s 6 c)) (py_o v) (py_O s) := fun v hv hv2 => by
    unfold jX3_moveReferredTo_53
    try simp only [py_O_ap, py_l0, py_l1, py_l2, py_l3, py_l4, py_l5, py_l6, py_l7, py_l8, py_l9, py_l12, py_l16, py_l32, py_l40, py_l100, py_l640, py_l1280, py_neg, py_add, py_sub, py_mul, py_stO]
    refine py_ieq (fun c => absurd c hv) (fun _ => ?_)
    unfold jX3_moveReferredTo_71
    try simp only [py_O_ap, py_l0, py_l1, py_l2, py_l3, py_l4, py_l5, py_l6, py_l7, py_l8, py_l9, py_l12, py_l16, py_l32, py_l40, py_l100, py_l640, py_l1280, py_neg, py_add, py_sub, py_mul, py_stO]
    exact hK
  unfold lX3_moveReferredTo_9
  try simp only [py_O_ap, py_l0, py_l1, py_l2, py_l3, py_l4, py_l5, py_l6, py_l7, py_l8, py_l9, py_l12, py_l16, py_l32, py_l40, py_l100, py_l640, py_l1280, py_neg, py_add, py_sub, py_mul, py_stO]
  refine py_ile (fun c => absurd c (by omega)) (fun _ => ?_)
  refine pr_carOf (fun _ _ => ?_) (fun c => absurd c (by omega))
  rw [show (r : Int) / 32 = c by omega]
  refine pr_trainOf (fun _ _ => ?_) (fun c => absurd c (by omega))
  simp only [Int.toNat_natCast]
  try simp only [py_O_ap, py_l0, py_l1, py_l2, py_l3, py_l4, py_l5, py_l6, py_l7, py_l8, py_l9, py_l12, py_l16, py_l32, py_l40, py_l100, py_l640, py_l1280, py_neg, py_add, py_sub, py_mul, py_stO]
  refine py_ieq (fun c => absurd c.symm h20) (fun _ => ?_)
  refine py_ieq (fun e1 => hK2 1 (fun e2 => hm ⟨fun _ => e2.symm, fun _ => e1⟩) (Or.inr rfl)) (fun e1 => hK2 0 (fun e2 => hm ⟨fun e3 => absurd e3 e1, fun e3 => by omega⟩) (Or.inl rfl))
/-- what the reference does at one entry -/
theorem pm_entry {t : py_Z} {fl y b : Int} {k x i n : Nat} {K : ty_S → Int32 → Prop} {R : Int32 → ty_S → Prop} (hk : (k : Int) < t 61 0) (hk2 : k < 1280) (h61 : t 61 0 ≤ 1282) (hx : x < 640) (hi : i < 12) (h45 : t 45 k = x) (h46 : t 46 k = i) (h47 : t 47 k = b) (h35 : t 35 (12 * x + i) = y) (hfl : fl = 0 ∨ fl = 1) (hK : jX5_oneStep_196 K R (fun a0 a1 S9 => lX5_oneStep_145 K R n a0 a1 S9) (py_o fl) (py_o k) (py_o x) (py_o y) (py_o fl) (py_o b) (py_O t)) : lX5_oneStep_145 K R (n + 1) (py_o fl) (py_o k) (py_O t) := by
  unfold lX5_oneStep_145
  try simp only [py_O_ap, py_l0, py_l1, py_l2, py_l3, py_l4, py_l5, py_l6, py_l7, py_l8, py_l9, py_l12, py_l16, py_l32, py_l40, py_l100, py_l640, py_l1280, py_neg, py_add, py_sub, py_mul, py_stO]
  refine py_ile (fun c => absurd c (by omega)) (fun _ => py_and (py_and ?_))
  rw [py_nat (by omega)]
  simp only [Int.toNat_natCast]
  rw [h45, h46, h47]
  refine py_and (py_and ?_)
  rw [py_nat (by omega), show ((12 : Int) * x + i).toNat = 12 * x + i by omega, h35]
  rcases hfl with e1 | e1
  · subst e1
    exact py_ieq (fun c => absurd c (by omega)) (fun _ => hK)
  · subst e1
    exact py_ieq (fun _ => hK) (fun c => absurd rfl c)
section PHR
variable {s t s0 t0 : py_Z} {e : Nat}
/-- a reference of a thing that was elsewhere is where it was -/
theorem ph_Mid.ref (h : ph_Mid s t s0 t0 e) {x i : Nat} (hx : x < 640) (hl : 0 < t0 30 x) (hne : t0 31 x ≠ e) (hi : (i : Int) < t0 33 x) : ∃ c m : Nat, c < 40 ∧ c ≠ e ∧ (m : Int) < t 38 c ∧ ph_x t c m = x ∧ t0 31 x = c ∧ t0 32 x = ph_pos t c m ∧ 32 * t0 31 x + t0 32 x + 2 + i = ((32 * c + ph_pos t c m + 2 + i : Nat) : Int) ∧ 32 * c + ph_pos t c m + 2 + i < 1280 ∧ s 1 (32 * c + ph_pos t c m + 2 + i) = 1 := by
  obtain ⟨c, m, hc, hm, h1, h2, h3, h4⟩ := h.at hx hl
  have a2 := h.2.1
  have a9 := h.2.2.2.2.2.2.2.2.1
  have hl2 : 0 < t 30 x := by rw [h.f 30 x (Or.inl rfl)]; exact hl
  obtain ⟨b1, b2, b3, b4⟩ := a9 x hx hl2
  obtain ⟨c1, c2⟩ := b3 hne
  obtain ⟨f1, f2, f3, f4⟩ := a2.fit hc hm
  obtain ⟨w1, w2, w3, w4, w5, w6, w7⟩ := a2.2.1 c m hc hm
  rw [h1] at w2 w3 w6 f1 f4
  have g33 := h.f 33 x (by omega)
  exact ⟨c, m, hc, by omega, hm, h1, by omega, by omega, by omega, by omega, (w6 i (by omega)).2⟩
theorem ph_Mid.ent (h : ph_Mid s t s0 t0 e) (hG : ph_G s0 t0 e 1282) {a : Nat} (ha : (a : Int) < t0 61 0) : ∃ p : Nat, ph_gp t0 a = p ∧ p < 1280 ∧ s 1 p = 1 ∧ p / 32 ≠ e := by
  obtain ⟨⟨a1, a2, a3, a4, a5, a6⟩, -⟩ := hG.2.1 a ha
  obtain ⟨c, m, hc, hce, hm, h1, h2, h3, h4, h5, h6⟩ := h.ref (x := (t0 45 a).toNat) (i := (t0 46 a).toNat) (by omega) a2 a3 (by omega)
  obtain ⟨f1, f2, f3, f4⟩ := h.2.1.fit hc hm
  obtain ⟨w1, w2, w3, w4⟩ := h.2.1.2.1 c m hc hm
  have g33 := h.f 33 (t0 45 a).toNat (by omega)
  rw [h1] at w2 w3 f1 f4
  refine ⟨_, ?_, h5, h6, ?_⟩
  · unfold ph_gp
    omega
  · omega
/-- who has a reference at this place -/
theorem ph_Mid.uniq (hM : ph_Mid s t s0 t0 e) {c m i r : Nat} (hc : c < 40) (hm : (m : Int) < t 38 c) (hi : (i : Int) < t 33 (ph_x t c m)) (hrp : r = 32 * c + ph_pos t c m + 2 + i) {x' i' : Nat} (hx' : x' < 640) (hl' : 0 < t0 30 x') (hne' : t0 31 x' ≠ e) (hi' : (i' : Int) < t0 33 x') (hp : 32 * t0 31 x' + t0 32 x' + 2 + i' = r) : x' = ph_x t c m ∧ i' = i ∧ c ≠ e ∧ t0 31 x' = c := by
  obtain ⟨c', m', q1, q2, q3, q4, q5, q6, q7, q8, q9⟩ := hM.ref hx' hl' hne' hi'
  have g33' := hM.f 33 x' (by omega)
  obtain ⟨v1, v2, v3⟩ := hM.2.1.refinj q1 q3 (i := i') (by rw [q4, g33']; exact hi') hc hm hi (by omega)
  subst v1; subst v2
  exact ⟨q4.symm, v3, q2, q5⟩
theorem ph_Mid.entk (hM : ph_Mid s t s0 t0 e) (hG : ph_G s0 t0 e 1282) {c m i r : Nat} (hc : c < 40) (hm : (m : Int) < t 38 c) (hi : (i : Int) < t 33 (ph_x t c m)) (hrp : r = 32 * c + ph_pos t c m + 2 + i) {a : Nat} (ha : (a : Int) < t0 61 0) (hp : ph_gp t0 a = r) : t0 45 a = ph_x t c m ∧ t0 46 a = i ∧ c ≠ e ∧ t0 31 (ph_x t c m) = c := by
  obtain ⟨⟨b1, b2, b3, b4, b5, b6⟩, -⟩ := hG.2.1 a ha
  unfold ph_gp at hp
  obtain ⟨v1, v2, v3, v4⟩ := hM.uniq hc hm hi hrp (x' := (t0 45 a).toNat) (i' := (t0 46 a).toNat) (by omega) b2 b3 (by omega) (by omega)
  rw [v1] at v4
  exact ⟨by omega, by omega, v3, v4⟩
theorem ph_Mid.nk (hM : ph_Mid s t s0 t0 e) (hG : ph_G s0 t0 e 1282) : t0 61 0 ≤ 1282 ∧ ∀ k : Nat, (k : Int) < t0 61 0 → k < 1280 := by
  have a9 := hM.2.2.2.2.2.2.2.2.1
  refine ⟨hG.cnt (fun x hx hl => by
    have := a9 x hx (by rw [hM.f 30 x (Or.inl rfl)]; exact hl)
    omega) (by decide), fun k hk => ?_⟩
  have hmon : ∀ a : Nat, (a : Int) < t0 61 0 → (a : Int) ≤ ph_gp t0 a := by
    intro a
    induction a with
    | zero =>
      intro ha
      obtain ⟨p2, y1, -⟩ := hM.ent hG ha
      omega
    | succ a ih =>
      intro ha
      have := ih (by omega)
      have := hG.2.2.1 a (a + 1) (by omega) ha
      omega
  obtain ⟨pp, z1, z2, z3, z4⟩ := hM.ent hG hk
  have := hmon k hk
  omega
theorem ph_idx0 {k r : Nat} (hIdx : ph_Idx t0 k r) (hno : ∀ a : Nat, k ≤ a → (a : Int) < t0 61 0 → ph_gp t0 a ≠ r) : ph_Idx t0 k (r + 1) :=
  ⟨hIdx.1, fun a ha => by have := hIdx.2.1 a ha; omega, fun a h1 h2 => by have := hIdx.2.2 a h1 h2; have := hno a h1 h2; omega⟩
theorem ph_idx1 (hG : ph_G s0 t0 e 1282) {k r : Nat} (hIdx : ph_Idx t0 k r) (hk : (k : Int) < t0 61 0) (hp : ph_gp t0 k = r) : ph_Idx t0 (k + 1) (r + 1) :=
  ⟨by omega, fun a ha => by
    by_cases e1 : a = k
    · rw [e1, hp]; omega
    · have := hIdx.2.1 a (by omega); omega, fun a h1 h2 => by
    have := hG.2.2.1 k a (by omega) h2; omega⟩
/-- a thing that was elsewhere: its reference is looked at -/
theorem ph_oneC (hG : ph_G s0 t0 e 1282) (H6 : ∀ x : Nat, x < 640 → 0 < t0 30 x → s0 6 (t0 31 x).toNat ≠ 0) (He : s0 6 e ≠ 0) {fl : Int} (hfl : fl = 0 ∨ fl = 1) {r k c m i : Nat} (hM : ph_Mid s t s0 t0 e) (h22 : s 22 0 = s 21 0) (hCL : ph_CL t t0 e (fun _ => False)) (hIdx : ph_Idx t0 k r) (hDone : ph_Done s0 t0 t e fl r) (He40 : t0 40 0 = s0 6 e)
    (hc : c < 40) (hm : (m : Int) < t 38 c) (hi : (i : Int) < t 33 (ph_x t c m)) (hrp : r = 32 * c + ph_pos t c m + 2 + i) (hr : r < 1280) (hce : c ≠ e) (hx0 : t0 31 (ph_x t c m) ≠ e)
    (hmatch : (s 6 c = s0 6 e ↔ fl = 1) → ∀ (K : ty_S → Prop) (n : Nat), eX3_moveWithOthers (py_O s) (py_o (ph_E t0 (t0 35 (12 * ph_x t c m + i)))) (py_o (s 6 c)) (fun S6 => eX0_nextReference S6 (py_o (r + 1 : Nat)) (fun S4 r4 => lX3_moveReferredTo_9 K n (py_o (s0 6 e)) (py_o fl) r4 S4)) → lX3_moveReferredTo_9 K (n + 1) (py_o (s0 6 e)) (py_o fl) (py_o r) (py_O s))
    (hnomatch : ¬ (s 6 c = s0 6 e ↔ fl = 1) → ∀ (K : ty_S → Prop) (n : Nat), eX0_nextReference (py_O s) (py_o (r + 1 : Nat)) (fun S4 r4 => lX3_moveReferredTo_9 K n (py_o (s0 6 e)) (py_o fl) r4 S4) → lX3_moveReferredTo_9 K (n + 1) (py_o (s0 6 e)) (py_o fl) (py_o r) (py_O s))
    (hnoop : ¬ (0 ≤ t0 35 (12 * ph_x t c m + i) ∧ t 31 (t0 35 (12 * ph_x t c m + i)).toNat = e) → ∀ (K : ty_S → Prop) (n : Nat), eX0_nextReference (py_O s) (py_o (r + 1 : Nat)) (fun S4 r4 => lX3_moveReferredTo_9 K n (py_o (s0 6 e)) (py_o fl) r4 S4) → lX3_moveReferredTo_9 K (n + 1) (py_o (s0 6 e)) (py_o fl) (py_o r) (py_O s)) :
    ∃ (s1 t1 : py_Z) (k1 : Nat),
      (∀ (K : ty_S → Prop) (n : Nat), eX0_nextReference (py_O s1) (py_o (r + 1 : Nat)) (fun S4 r4 => lX3_moveReferredTo_9 K n (py_o (s0 6 e)) (py_o fl) r4 S4) → lX3_moveReferredTo_9 K (n + 1) (py_o (s0 6 e)) (py_o fl) (py_o r) (py_O s)) ∧
      (∀ (K : ty_S → Int32 → Prop) (R : Int32 → ty_S → Prop), (∃ n9, lX5_oneStep_145 K R n9 (py_o fl) (py_o k1) (py_O t1)) → ∃ n9, lX5_oneStep_145 K R n9 (py_o fl) (py_o k) (py_O t)) ∧
      ph_Mid s1 t1 s0 t0 e ∧ s1 22 0 = s1 21 0 ∧ ph_CL t1 t0 e (fun _ => False) ∧ ph_Mono t t1 e ∧ ph_Idx t0 k1 (r + 1) ∧ ph_Done s0 t0 t1 e fl (r + 1) := by
  have a1 := hM.1
  have a9 := hM.2.2.2.2.2.2.2.2.1
  have hx640 : ph_x t c m < 640 := by have := (hM.2.1.2.1 c m hc hm).1; unfold ph_x; omega
  have g33 := hM.f 33 (ph_x t c m) (by omega)
  have g35 := hM.f 35 (12 * ph_x t c m + i) (by omega)
  have g30 := hM.f 30 (ph_x t c m) (by omega)
  obtain ⟨m1, m2, m3⟩ := hM.2.2.1.2.2.2.1 c m hc (by omega) hm
  have hl0 : 0 < t0 30 (ph_x t c m) := by rw [← g30]; exact m1
  have hPV : ph_PV t (t0 35 (12 * ph_x t c m + i)) := by
    have := hM.2.2.1.2.2.2.2.2 (ph_x t c m) hx640 m1 i hi
    rwa [g35] at this
  have hback := (a9 (ph_x t c m) hx640 m1).2.2.1 hx0
  have hx0c : t0 31 (ph_x t c m) = c := by omega
  have hgp : 32 * t0 31 (ph_x t c m) + t0 32 (ph_x t c m) + 2 + i = r := by omega
  have hs06 : s 6 c = s0 6 c := hM.2.2.2.2.2.2.2.2.2.2.2.2.2 c (by have := H6 (ph_x t c m) hx640 hl0; rw [hx0c] at this; simpa using this)
  have h6c : s 6 c ≠ 0 := fun e1 => by have := (hM.2.1.1 c hc).2.2.2.2.2.1 e1; omega
  have hi12 : i < 12 := by have := (hM.2.1.2.1 c m hc hm).2.1; omega
  obtain ⟨hN1, hN2⟩ := hM.nk hG
  have f61 := hM.f 61 0 (by omega)
  have hdone1 : ∀ t1 : py_Z, ph_Mono t t1 e → ((s 6 c = s0 6 e ↔ fl = 1) → t0 35 (12 * ph_x t c m + i) < 0 ∨ t1 31 (t0 35 (12 * ph_x t c m + i)).toNat ≠ e) → ph_Done s0 t0 t1 e fl (r + 1) := fun t1 hMo hat x' hx' hl' hne' i' hi' hlt hfl' => by
    by_cases e1 : 32 * t0 31 x' + t0 32 x' + 2 + i' < r
    · rcases hDone x' hx' hl' hne' i' hi' e1 hfl' with e2 | e2
      · exact Or.inl e2
      · exact Or.inr (by rw [(hMo.1 _ e2).1]; exact e2)
    · obtain ⟨v1, v2, v3, v4⟩ := hM.uniq hc hm hi hrp hx' hl' hne' hi' (by omega)
      rw [v4] at hfl'
      simp only [Int.toNat_natCast] at hfl'
      subst v1; subst v2
      exact hat (by rw [hs06]; exact hfl')
  have hent : (k : Int) < t0 61 0 → ph_gp t0 k = r → ∀ (K : ty_S → Int32 → Prop) (R : Int32 → ty_S → Prop) (n : Nat), jX5_oneStep_196 K R (fun a0 a1 S9 => lX5_oneStep_145 K R n a0 a1 S9) (py_o fl) (py_o k) (py_o (ph_x t c m)) (py_o (t0 35 (12 * ph_x t c m + i))) (py_o fl) (py_o (if s 6 c = s0 6 e then 1 else 0)) (py_O t) → lX5_oneStep_145 K R (n + 1) (py_o fl) (py_o k) (py_O t) := fun hk hp K R n hK => by
    obtain ⟨v1, v2, v3, v4⟩ := hM.entk hG hc hm hi hrp hk hp
    have b6 := (hG.2.1 k hk).1.2.2.2.2.2
    have e47 : t0 47 k = (if s 6 c = s0 6 e then 1 else 0) := by
      have e9 : s0 6 (t0 31 (t0 45 k).toNat).toNat = s 6 c := by
        rw [v1]
        simp only [Int.toNat_natCast]
        rw [hx0c]
        simp only [Int.toNat_natCast]
        exact hs06.symm
      rw [b6]
      simp only [e9, He40]
    exact pm_entry (by rw [f61]; exact hk) (hN2 k hk) (by rw [f61]; exact hN1) hx640 hi12 (by rw [hM.f 45 k (by omega)]; exact v1) (by rw [hM.f 46 k (by omega)]; exact v2) (by rw [hM.f 47 k (by omega)]; exact e47) g35 hfl hK
  by_cases hin : 0 ≤ t0 35 (12 * ph_x t c m + i) ∧ t 31 (t0 35 (12 * ph_x t c m + i)).toNat = e
  · obtain ⟨y1, y2, y3, y4, y5, y6⟩ := (hM.E hPV).resolve_left (by omega)
    have hyc : t0 35 (12 * ph_x t c m + i) = ((t0 35 (12 * ph_x t c m + i)).toNat : Nat) := by omega
    have hy0 : t0 31 (t0 35 (12 * ph_x t c m + i)).toNat = e := by
      by_cases e1 : t0 31 (t0 35 (12 * ph_x t c m + i)).toNat = e
      · exact e1
      · have := ((a9 _ (by omega) y3).2.2.1 e1).1
        exact absurd (this.symm.trans hin.2) e1
    obtain ⟨a, g1, g2, g3⟩ := hG.2.2.2 (ph_x t c m) hx640 hl0 hx0 i (by omega) hin.1 hy0 (by omega)
    have hga : ph_gp t0 a = r := by
      unfold ph_gp
      rw [g2, g3]
      simp only [Int.toNat_natCast]
      exact hgp
    have hak : a = k := by
      rcases Nat.lt_trichotomy a k with e1 | e1 | e1
      · have := hIdx.2.1 a e1; omega
      · exact e1
      · have := hIdx.2.2 k (Nat.le_refl _) (by omega)
        have := hG.2.2.1 k a e1 g1
        omega
    subst hak
    by_cases hmt : (s 6 c = s0 6 e ↔ fl = 1)
    · obtain ⟨j, kk, hj, hkk, j1, j2, j3, j4, j5⟩ := (a1.six hc).resolve_left h6c
      obtain ⟨s1, t1, u1, u2, u3, u4, u5, u6, u7⟩ := hM.moveAll h22 hCL (y := (t0 35 (12 * ph_x t c m + i)).toNat) (j := j) (by omega) y3 hin.2 hj
      have hse := hM.six_e
      have hs6e := hM.2.2.2.2.2.2.2.2.2.2.2.2.2 e He
      have hp50 := hM.2.2.2.2.1.2.2.2.2
      refine ⟨s1, t1, a + 1, fun K n hK => hmatch hmt K n ?_, fun K R ⟨n9, hn9⟩ => ⟨n9 + 1, hent g1 hga K R n9 ?_⟩, u3, u4, u5, u6, ph_idx1 hG hIdx g1 hga, hdone1 t1 u6 (fun _ => Or.inr u7)⟩
      · rw [j2, hyc]
        exact u1 _ hK
      · have hj0 : fl = 1 → j = 0 := fun e1 => by
          have e2 := hmt.mpr e1
          exact a1.num hj (by omega) (by rw [← j2, e2]; omega)
        have hb : (if s 6 c = s0 6 e then (1 : Int) else 0) = fl := by
          by_cases e2 : s 6 c = s0 6 e
          · rw [if_pos e2]; exact (hmt.mp e2).symm
          · rw [if_neg e2]
            rcases hfl with e3 | e3
            · exact e3.symm
            · exact absurd (hmt.mpr e3) e2
        rw [hb]
        unfold jX5_oneStep_196
        try simp only [py_O_ap, py_l0, py_l1, py_l2, py_l3, py_l4, py_l5, py_l6, py_l7, py_l8, py_l9, py_l12, py_l16, py_l32, py_l40, py_l100, py_l640, py_l1280, py_neg, py_add, py_sub, py_mul, py_stO]
        rw [if_pos True.intro]
        refine hM.inCar hPV (fun _ _ => ?_) (fun e1 => absurd hin e1)
        refine py_ieq (fun e1 => absurd e1 (by decide)) (fun _ => ?_) (by decide) (by decide)
        refine py_ieq (fun e1 => ?_) (fun e1 => py_and ?_)
        · rw [hyc]
          have := u2 (fun S8 => lX5_oneStep_145 K R n9 (py_o fl) (py_o ((a + 1 : Nat) : Int)) S8) hn9
          rw [hj0 e1] at this
          exact this
        · rw [py_nat (by omega)]
          simp only [Int.toNat_natCast]
          try simp only [py_O_ap, py_l0, py_l1, py_l2, py_l3, py_l4, py_l5, py_l6, py_l7, py_l8, py_l9, py_l12, py_l16, py_l32, py_l40, py_l100, py_l640, py_l1280, py_neg, py_add, py_sub, py_mul, py_stO]
          rw [m2]
          refine pm_trainOf a1 hc (fun j8 hj8 e9 => ?_) (fun e9 => absurd e9 h6c)
          have e10 : j8 = j := a1.num hj8 hj (by rw [← e9, j2])
          subst e10
          rw [hyc]
          exact u2 _ hn9
    · refine ⟨s, t, a + 1, hnomatch hmt, fun K R ⟨n9, hn9⟩ => ⟨n9 + 1, hent g1 hga K R n9 ?_⟩, hM, h22, hCL, ph_Mono.refl, ph_idx1 hG hIdx g1 hga, hdone1 t ph_Mono.refl (fun e1 => absurd e1 hmt)⟩
      unfold jX5_oneStep_196
      try simp only [py_O_ap, py_l0, py_l1, py_l2, py_l3, py_l4, py_l5, py_l6, py_l7, py_l8, py_l9, py_l12, py_l16, py_l32, py_l40, py_l100, py_l640, py_l1280, py_neg, py_add, py_sub, py_mul, py_stO]
      refine py_ieq (fun e1 => absurd ?_ hmt) (fun _ => hn9) (by split <;> decide)
      by_cases e2 : s 6 c = s0 6 e
      · rw [if_pos e2] at e1; exact ⟨fun _ => e1.symm, fun _ => e2⟩
      · rw [if_neg e2] at e1; exact ⟨fun e3 => absurd e3 e2, fun e3 => by omega⟩
  · have hd1 : ph_Done s0 t0 t e fl (r + 1) := hdone1 t ph_Mono.refl (fun _ => by omega)
    by_cases hek : (k : Int) < t0 61 0 ∧ ph_gp t0 k = r
    · refine ⟨s, t, k + 1, hnoop hin, fun K R ⟨n9, hn9⟩ => ⟨n9 + 1, hent hek.1 hek.2 K R n9 ?_⟩, hM, h22, hCL, ph_Mono.refl, ph_idx1 hG hIdx hek.1 hek.2, hd1⟩
      unfold jX5_oneStep_196
      try simp only [py_O_ap, py_l0, py_l1, py_l2, py_l3, py_l4, py_l5, py_l6, py_l7, py_l8, py_l9, py_l12, py_l16, py_l32, py_l40, py_l100, py_l640, py_l1280, py_neg, py_add, py_sub, py_mul, py_stO]
      refine py_ieq (fun _ => ?_) (fun _ => hn9) (by split <;> decide)
      refine hM.inCar hPV (fun a b => absurd ⟨a, b⟩ hin) (fun _ => ?_)
      exact py_ieq (fun _ => hn9) (fun c => absurd rfl c)
    · refine ⟨s, t, k, hnoop hin, fun K R hR => hR, hM, h22, hCL, ph_Mono.refl, ph_idx0 hIdx (fun a h1 h2 hp => ?_), hd1⟩
      by_cases e1 : a = k
      · subst e1; exact hek ⟨h2, hp⟩
      · have := hIdx.2.2 k (Nat.le_refl _) (by omega)
        have := hG.2.2.1 k a (by omega) h2
        omega
/-- one reference is looked at -/
theorem ph_one (hG : ph_G s0 t0 e 1282) (H6 : ∀ x : Nat, x < 640 → 0 < t0 30 x → s0 6 (t0 31 x).toNat ≠ 0) (He : s0 6 e ≠ 0) (He40 : t0 40 0 = s0 6 e) {fl : Int} (hfl : fl = 0 ∨ fl = 1) {r k : Nat} (hr : r < 1280) (hM : ph_Mid s t s0 t0 e) (h22 : s 22 0 = s 21 0) (hCL : ph_CL t t0 e (fun _ => False)) (hIdx : ph_Idx t0 k r) (hDone : ph_Done s0 t0 t e fl r) (hs1 : s 1 r = 1) :
    ∃ (s1 t1 : py_Z) (k1 : Nat),
      (∀ (K : ty_S → Prop) (n : Nat), eX0_nextReference (py_O s1) (py_o (r + 1 : Nat)) (fun S4 r4 => lX3_moveReferredTo_9 K n (py_o (s0 6 e)) (py_o fl) r4 S4) → lX3_moveReferredTo_9 K (n + 1) (py_o (s0 6 e)) (py_o fl) (py_o r) (py_O s)) ∧
      (∀ (K : ty_S → Int32 → Prop) (R : Int32 → ty_S → Prop), (∃ n9, lX5_oneStep_145 K R n9 (py_o fl) (py_o k1) (py_O t1)) → ∃ n9, lX5_oneStep_145 K R n9 (py_o fl) (py_o k) (py_O t)) ∧
      ph_Mid s1 t1 s0 t0 e ∧ s1 22 0 = s1 21 0 ∧ ph_CL t1 t0 e (fun _ => False) ∧ ph_Mono t t1 e ∧ ph_Idx t0 k1 (r + 1) ∧ ph_Done s0 t0 t1 e fl (r + 1) := by
  have a1 := hM.1
  have a2 := hM.2.1
  have a5 := hM.2.2.2.2.1
  have hse := hM.six_e
  have hs6e := hM.2.2.2.2.2.2.2.2.2.2.2.2.2 e He
  obtain ⟨c, m, i, hc, hm, hi, hrp⟩ := ((a2.2.2 r hr).resolve_left (by omega)).2
  obtain ⟨f1, f2, f3, f4⟩ := a2.fit hc hm
  obtain ⟨w1, w2, w3, w4, w5, w6, w7⟩ := a2.2.1 c m hc hm
  have hx640 : ph_x t c m < 640 := by unfold ph_x; omega
  have hrc : r / 32 = c := by omega
  have h6b := a1.six_b hc
  have h6eb := a1.six_b a5.2.2.1
  have g30 := hM.f 30 (ph_x t c m) (by omega)
  have g33 := hM.f 33 (ph_x t c m) (by omega)
  have g35 := hM.f 35 (12 * ph_x t c m + i) (by omega)
  by_cases hce : c = e
  · subst hce
    refine ⟨s, t, k, fun K n hK => pr_mrt_car hr hrc a5.1 hK, fun K R hR => hR, hM, h22, hCL, ph_Mono.refl, ph_idx0 hIdx (fun a _ h2 hp => (hM.entk hG hc hm hi hrp h2 hp).2.2.1 rfl), fun x' hx' hl' hne' i' hi' hlt hfl' => ?_⟩
    by_cases e1 : 32 * t0 31 x' + t0 32 x' + 2 + i' < r
    · exact hDone x' hx' hl' hne' i' hi' e1 hfl'
    · exact absurd rfl (hM.uniq hc hm hi hrp hx' hl' hne' hi' (by omega)).2.2.1
  · have hword : s 0 r = ph_E t0 (t0 35 (12 * ph_x t c m + i)) := by rw [hrp, (w6 i hi).1, g35]
    obtain ⟨m1, m2, m3⟩ := hM.2.2.1.2.2.2.1 c m hc (by omega) hm
    have hl0 : 0 < t0 30 (ph_x t c m) := by rw [← g30]; exact m1
    have hPV : ph_PV t (t0 35 (12 * ph_x t c m + i)) := by
      have := hM.2.2.1.2.2.2.2.2 (ph_x t c m) hx640 m1 i hi
      rwa [g35] at this
    have hmatch : (s 6 c = s0 6 e ↔ fl = 1) → ∀ (K : ty_S → Prop) (n : Nat), eX3_moveWithOthers (py_O s) (py_o (ph_E t0 (t0 35 (12 * ph_x t c m + i)))) (py_o (s 6 c)) (fun S6 => eX0_nextReference S6 (py_o (r + 1 : Nat)) (fun S4 r4 => lX3_moveReferredTo_9 K n (py_o (s0 6 e)) (py_o fl) r4 S4)) → lX3_moveReferredTo_9 K (n + 1) (py_o (s0 6 e)) (py_o fl) (py_o r) (py_O s) := fun hmt K n hK => pr_mrt_match hr hrc (by omega) (by omega) h6b (by omega) hfl hword hmt hK
    have hnomatch : ¬ (s 6 c = s0 6 e ↔ fl = 1) → ∀ (K : ty_S → Prop) (n : Nat), eX0_nextReference (py_O s) (py_o (r + 1 : Nat)) (fun S4 r4 => lX3_moveReferredTo_9 K n (py_o (s0 6 e)) (py_o fl) r4 S4) → lX3_moveReferredTo_9 K (n + 1) (py_o (s0 6 e)) (py_o fl) (py_o r) (py_O s) := fun hmt K n hK => pr_mrt_no hr hrc (by omega) (by omega) h6b (by omega) hfl hmt hK
    have hnoop : ¬ (0 ≤ t0 35 (12 * ph_x t c m + i) ∧ t 31 (t0 35 (12 * ph_x t c m + i)).toNat = e) → ∀ (K : ty_S → Prop) (n : Nat), eX0_nextReference (py_O s) (py_o (r + 1 : Nat)) (fun S4 r4 => lX3_moveReferredTo_9 K n (py_o (s0 6 e)) (py_o fl) r4 S4) → lX3_moveReferredTo_9 K (n + 1) (py_o (s0 6 e)) (py_o fl) (py_o r) (py_O s) := fun hno K n hK => by
      by_cases e1 : (s 6 c = s0 6 e ↔ fl = 1)
      · refine hmatch e1 K n ?_
        unfold eX3_moveWithOthers
        refine hM.no hPV hno ?_
        refine ⟨1, ?_⟩
        have a11 := hM.2.2.2.2.2.2.2.2.2.2.1
        have hc16 := (a2.1 e a5.2.2.1).2.2.1
        have hle := py_cnt_le (fun k => decide (t 31 (ph_x t e k) ≠ e)) (t 38 e).toNat
        unfold ph_mc at a11
        unfold lX3_moveWithOthers_6
        try simp only [py_O_ap, py_l0, py_l1, py_l2, py_l3, py_l4, py_l5, py_l6, py_l7, py_l8, py_l9, py_l12, py_l16, py_l32, py_l40, py_l100, py_l640, py_l1280, py_neg, py_add, py_sub, py_mul, py_stO]
        exact py_ile (fun _ => hK) (fun c => absurd c (by omega))
      · exact hnomatch e1 K n hK
    by_cases hx0 : t0 31 (ph_x t c m) = e
    · have hno := hCL (ph_x t c m) hx640 hl0 hx0 (by omega) (fun c => c) i (by omega)
      refine ⟨s, t, k, hnoop (by omega), fun K R hR => hR, hM, h22, hCL, ph_Mono.refl, ph_idx0 hIdx (fun a _ h2 hp => by have := (hM.entk hG hc hm hi hrp h2 hp).2.2.2; omega), fun x' hx' hl' hne' i' hi' hlt hfl' => ?_⟩
      by_cases e1 : 32 * t0 31 x' + t0 32 x' + 2 + i' < r
      · exact hDone x' hx' hl' hne' i' hi' e1 hfl'
      · have := hM.uniq hc hm hi hrp hx' hl' hne' hi' (by omega)
        rw [this.1] at hne'
        exact absurd hx0 hne'
    · exact ph_oneC hG H6 He hfl hM h22 hCL hIdx hDone He40 hc hm hi hrp hr hce hx0 hmatch hnomatch hnoop
/-- all references, once -/
theorem ph_pass (hG : ph_G s0 t0 e 1282) (H6 : ∀ x : Nat, x < 640 → 0 < t0 30 x → s0 6 (t0 31 x).toNat ≠ 0) (He : s0 6 e ≠ 0) (He40 : t0 40 0 = s0 6 e) {fl : Int} (hfl : fl = 0 ∨ fl = 1) :
    ∀ (d r k : Nat) (s t : py_Z), 1280 - r ≤ d → r ≤ 1280 → (r = 1280 ∨ s 1 r = 1) → ph_Mid s t s0 t0 e → s 22 0 = s 21 0 → ph_CL t t0 e (fun _ => False) → ph_Idx t0 k r → ph_Done s0 t0 t e fl r →
    ∃ s' t' : py_Z,
      (∀ K : ty_S → Prop, K (py_O s') → ∃ n9, lX3_moveReferredTo_9 K n9 (py_o (s0 6 e)) (py_o fl) (py_o r) (py_O s)) ∧
      (∀ (K : ty_S → Int32 → Prop) (R : Int32 → ty_S → Prop), R (py_o (fl + 1)) (py_O t') → ∃ n9, lX5_oneStep_145 K R n9 (py_o fl) (py_o k) (py_O t)) ∧
      ph_Mid s' t' s0 t0 e ∧ s' 22 0 = s' 21 0 ∧ ph_CL t' t0 e (fun _ => False) ∧ ph_Mono t t' e ∧ ph_Done s0 t0 t' e fl 1280 := by
  intro d
  induction d with
  | zero =>
    intro r k s t hd hr hr1 hM h22 hCL hIdx hDone
    have e1 : r = 1280 := by omega
    subst e1
    obtain ⟨hN1, hN2⟩ := hM.nk hG
    have hk : (k : Int) = t0 61 0 := by
      rcases Int.lt_or_le (k : Int) (t0 61 0) with e2 | e2
      · obtain ⟨p, z1, z2, z3, z4⟩ := hM.ent hG e2
        have := hIdx.2.2 k (Nat.le_refl _) e2
        omega
      · have := hIdx.1; omega
    have f61 := hM.f 61 0 (by omega)
    refine ⟨s, t, fun K hK => ⟨1, ?_⟩, fun K R hR => ⟨1, ?_⟩, hM, h22, hCL, ph_Mono.refl, hDone⟩
    · unfold lX3_moveReferredTo_9
      try simp only [py_O_ap, py_l0, py_l1, py_l2, py_l3, py_l4, py_l5, py_l6, py_l7, py_l8, py_l9, py_l12, py_l16, py_l32, py_l40, py_l100, py_l640, py_l1280, py_neg, py_add, py_sub, py_mul, py_stO]
      exact py_ile (fun _ => hK) (fun c => absurd c (by omega))
    · unfold lX5_oneStep_145
      try simp only [py_O_ap, py_l0, py_l1, py_l2, py_l3, py_l4, py_l5, py_l6, py_l7, py_l8, py_l9, py_l12, py_l16, py_l32, py_l40, py_l100, py_l640, py_l1280, py_neg, py_add, py_sub, py_mul, py_stO]
      exact py_ile (fun _ => hR) (fun c => absurd c (by omega))
  | succ d ih =>
    intro r k s t hd hr hr1 hM h22 hCL hIdx hDone
    by_cases e1 : r = 1280
    · exact ih r k s t (by omega) hr hr1 hM h22 hCL hIdx hDone
    · obtain ⟨s1, t1, k1, o1, o2, o3, o4, o5, o6, o7, o8⟩ := ph_one hG H6 He He40 hfl (by omega) hM h22 hCL hIdx hDone (by omega)
      obtain ⟨r', b1, b2, b3, b4, b5⟩ := pr_nextEx o3.2.1.ir (a := r + 1) (by omega)
      have hDone2 : ph_Done s0 t0 t1 e fl r' := fun x' hx' hl' hne' i' hi' hlt hfl' => by
        by_cases e2 : 32 * t0 31 x' + t0 32 x' + 2 + i' < r + 1
        · exact o8 x' hx' hl' hne' i' hi' e2 hfl'
        · obtain ⟨c', m', q1, q2, q3, q4, q5, q6, q7, q8, q9⟩ := o3.ref hx' hl' hne' hi'
          have := b4 _ (show r + 1 ≤ 32 * c' + ph_pos t1 c' m' + 2 + i' by omega) (by omega)
          omega
      have hIdx2 : ph_Idx t0 k1 r' := ⟨o7.1, fun a ha => by have := o7.2.1 a ha; omega, fun a h1 h2 => by
        obtain ⟨p, z1, z2, z3, z4⟩ := o3.ent hG h2
        have h3 := o7.2.2 a h1 h2
        by_cases e2 : r' ≤ p
        · omega
        · have := b4 p (by omega) (by omega)
          omega⟩
      obtain ⟨s', t', u1, u2, u3, u4, u5, u6, u7⟩ := ih r' k1 s1 t1 (by omega) b2 b3 o3 o4 o5 hIdx2 hDone2
      refine ⟨s', t', fun K hK => ?_, fun K R hR => o2 K R (u2 K R hR), u3, u4, u5, o6.trans u6, u7⟩
      obtain ⟨n9, hn9⟩ := u1 K hK
      exact ⟨n9 + 1, o1 K n9 (b5 _ hn9)⟩
/-- all references of one kind -/
theorem ph_refs (hG : ph_G s0 t0 e 1282) (H6 : ∀ x : Nat, x < 640 → 0 < t0 30 x → s0 6 (t0 31 x).toNat ≠ 0) (He : s0 6 e ≠ 0) (He40 : t0 40 0 = s0 6 e) {fl : Int} (hfl : fl = 0 ∨ fl = 1) (hM : ph_Mid s t s0 t0 e) (h22 : s 22 0 = s 21 0) (hCL : ph_CL t t0 e (fun _ => False)) :
    ∃ s' t' : py_Z,
      (∀ K : ty_S → Prop, K (py_O s') → eX3_moveReferredTo (py_O s) (py_o (s0 6 e)) (py_o fl) K) ∧
      (∀ (K : ty_S → Int32 → Prop) (R : Int32 → ty_S → Prop), R (py_o (fl + 1)) (py_O t') → ∃ n9, lX5_oneStep_145 K R n9 (py_o fl) (py_o 0) (py_O t)) ∧
      ph_Mid s' t' s0 t0 e ∧ s' 22 0 = s' 21 0 ∧ ph_CL t' t0 e (fun _ => False) ∧ ph_Mono t t' e ∧ ph_Done s0 t0 t' e fl 1280 := by
  obtain ⟨r', b1, b2, b3, b4, b5⟩ := pr_nextEx hM.2.1.ir (a := 0) (by omega)
  obtain ⟨s', t', u1, u2, u3, u4, u5, u6, u7⟩ := ph_pass hG H6 He He40 hfl 1280 r' 0 s t (by omega) b2 b3 hM h22 hCL ⟨by have := hG.1; omega, fun a ha => absurd ha (by omega), fun a _ h2 => by
      obtain ⟨p, z1, z2, z3, z4⟩ := hM.ent hG h2
      by_cases e2 : r' ≤ p
      · omega
      · have := b4 p (by omega) (by omega)
        omega⟩ (fun x' hx' hl' hne' i' hi' hlt hfl' => by
      obtain ⟨c', m', q1, q2, q3, q4, q5, q6, q7, q8, q9⟩ := hM.ref hx' hl' hne' hi'
      have := b4 _ (Nat.zero_le (32 * c' + ph_pos t c' m' + 2 + i')) (by omega)
      omega)
  refine ⟨s', t', fun K hK => ?_, fun K R hR => u2 K R hR, u3, u4, u5, u6, u7⟩
  unfold eX3_moveReferredTo
  try simp only [py_O_ap, py_l0, py_l1, py_l2, py_l3, py_l4, py_l5, py_l6, py_l7, py_l8, py_l9, py_l12, py_l16, py_l32, py_l40, py_l100, py_l640, py_l1280, py_neg, py_add, py_sub, py_mul, py_stO]
  exact b5 _ (u1 K hK)
end PHR
