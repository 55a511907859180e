/-! PURE: make, the new thing -/
def pm_mk (t : py_Z) (x : Nat) (L r d : Int) (k : Nat) : py_Z := fun g i =>
  if g = 58 then (if i = 0 then L else t 58 i) else if g = 30 then (if i = x then L else t 30 i) else if g = 33 then (if i = x then r else t 33 i)
  else if g = 34 then (if i = x then d else t 34 i) else if g = 35 then (if 12 * x ≤ i ∧ i < 12 * x + k then -1 else t 35 i)
  else if g = 36 then (if 12 * x ≤ i ∧ i < 12 * x + k then 0 else t 36 i) else t g i
theorem pm_mk_0 {t : py_Z} {x : Nat} {L r d : Int} : pm_mk t x L r d 0 = py_st (py_st (py_st (py_st t 58 0 L) 30 x L) 33 x r) 34 x d := by
  funext g i
  simp only [pm_mk, py_st]
  grind
theorem pm_mk_st {t : py_Z} {x k : Nat} {L r d : Int} : pm_mk t x L r d (k + 1) = py_st (py_st (pm_mk t x L r d k) 35 (12 * x + k) (-1)) 36 (12 * x + k) 0 := by
  funext g i
  simp only [pm_mk, py_st]
  grind
section PMM
variable {s t : py_Z} {n : Nat} {m : Int}
/-- a thing is made, in a car that has room -/
theorem ph_create (h : ph_R s t n m) (hn : n < 500) {a r d : Int} (ha : 0 ≤ a ∧ a < 16) (hr : 0 ≤ r ∧ r ≤ 12) (hd : 0 ≤ d ∧ d ≤ 12) (hm : m < 99000) {c : Nat} {s1 t1 : py_Z} (hc : c < 40) (hfit : t 37 c + (2 + r + d) ≤ 32) (h6c : s1 6 c ≠ 0) (hRW : pr_RW s1 t1) (hlast : s1 5 (s1 13 0 - 1).toNat = c) (hn50 : 0 < t1 50 0) (sg : ∀ g i, g ≠ 5 → g ≠ 6 → g ≠ 13 → g ≠ 14 → s1 g i = s g i) (tg : ∀ g i, g ≠ 40 → g ≠ 41 → g ≠ 42 → g ≠ 50 → g ≠ 57 → t1 g i = t g i) (h6 : ∀ c' : Nat, c' < 40 → s1 6 c' = 0 → s 6 c' = 0) (h57 : t1 57 0 ≤ t 57 0 + 1) :
    ∃ (s' t' : py_Z), (∀ (K : ty_S → Int32 → Prop), K (py_O s') (py_o (t 58 0 + 1)) → eX0_load (ty_st (py_O s1) 24 0 (py_o (s1 24 0) + py_o 1)) (py_o c) (py_o (s1 24 0) + py_o 1) (py_o r) (py_o d) (fun S6 r6 => (vp_in (py_o a) 16 ∧ K (ty_st S6 7 (py_o a).toNatClampNeg r6) (S6 24 0)))) ∧
      (∀ (K : ty_S → Int32 → Prop), K (py_O t') (py_o (t 58 0 + 1)) → ∃ n9, lX5_make_188 K n9 (py_o a) (py_o r) (py_o d) (py_o 0) (py_O t1)) ∧ ph_R s' t' (n + 1) (m + 1) ∧ t' 60 0 = t 60 0 := by
  obtain ⟨b1, b2, b3, b4, b5, b6, b7, b8, b9, b10⟩ := id h
  obtain ⟨e1, e2, e3, e4, e5, e6, e7, e8⟩ := b2.1 c hc
  have h58 := b3.1
  have hdead := b3.2.1 (t 58 0).toNat (by omega)
  obtain ⟨x, hx1, hx2, hx3⟩ := py_least (P := fun x => t 30 x = 0) (fun _ => Classical.em _) (n := (t 58 0).toNat) (hdead.2.2 (by omega))
  have hx640 : x < 640 := by omega
  have hL : s1 24 0 = t 58 0 := by rw [sg 24 0 (by decide) (by decide) (by decide) (by decide)]; exact b8.1
  have s12 : s1 2 c = t 37 c := by rw [sg 2 c (by decide) (by decide) (by decide) (by decide)]; exact e2
  have htwo := ph_pos_two (t := t) (c := c) (t 38 c).toNat
  have hc15 : t 38 c ≤ 15 := by omega
  have h50b := hRW.1
  -- live things are others
  have hlx : ∀ y : Nat, 0 < t 30 y → y ≠ x := fun y hl e => by rw [e, hx2] at hl; omega
  obtain ⟨t2, ht2⟩ : ∃ t2, t2 = pm_mk t1 x (t 58 0 + 1) r d 12 := ⟨_, rfl⟩
  have u30 : ∀ y, t2 30 y = if y = x then t 58 0 + 1 else t 30 y := fun y => by rw [ht2]; simp [pm_mk]; rw [tg 30 y (by decide) (by decide) (by decide) (by decide) (by decide)]
  have u33 : ∀ y, t2 33 y = if y = x then r else t 33 y := fun y => by rw [ht2]; simp [pm_mk]; rw [tg 33 y (by decide) (by decide) (by decide) (by decide) (by decide)]
  have u34 : ∀ y, t2 34 y = if y = x then d else t 34 y := fun y => by rw [ht2]; simp [pm_mk]; rw [tg 34 y (by decide) (by decide) (by decide) (by decide) (by decide)]
  have u35 : ∀ i, t2 35 i = if 12 * x ≤ i ∧ i < 12 * x + 12 then -1 else t 35 i := fun i => by rw [ht2]; simp [pm_mk]; rw [tg 35 i (by decide) (by decide) (by decide) (by decide) (by decide)]
  have u36 : ∀ i, t2 36 i = if 12 * x ≤ i ∧ i < 12 * x + 12 then 0 else t 36 i := fun i => by rw [ht2]; simp [pm_mk]; rw [tg 36 i (by decide) (by decide) (by decide) (by decide) (by decide)]
  have u58 : t2 58 0 = t 58 0 + 1 := by rw [ht2]; simp [pm_mk]
  have ug : ∀ g i, g ≠ 58 → g ≠ 30 → g ≠ 33 → g ≠ 34 → g ≠ 35 → g ≠ 36 → t2 g i = t1 g i := fun g i h1 h2 h3 h4 h5 h6 => by rw [ht2]; simp [pm_mk, h1, h2, h3, h4, h5, h6]
  have ug2 : ∀ g i, (g = 31 ∨ g = 32 ∨ g = 37 ∨ g = 38 ∨ g = 39 ∨ g = 43 ∨ (44 ≤ g ∧ g ≤ 48) ∨ (51 ≤ g ∧ g ≤ 56) ∨ 59 ≤ g) → t2 g i = t g i := fun g i hg => by rw [ug g i (by omega) (by omega) (by omega) (by omega) (by omega) (by omega)]; exact tg g i (by omega) (by omega) (by omega) (by omega) (by omega)
  obtain ⟨s4, hs4⟩ : ∃ s4, s4 = py_st (pr_ld (py_st s1 24 0 (t 58 0 + 1)) c (t 58 0 + 1) r d) 7 a.toNat (32 * c + t 37 c) := ⟨_, rfl⟩
  obtain ⟨t4, ht4⟩ : ∃ t4, t4 = py_st (pm_lay t2 x c) 43 a.toNat x := ⟨_, rfl⟩
  have p2 : py_st s1 24 0 (t 58 0 + 1) 2 c = t 37 c := by rw [py_sn (by decide)]; exact s12
  have sg4 : ∀ g i, g ≤ 4 → s1 g i = s g i := fun g i hg => sg g i (by omega) (by omega) (by omega) (by omega)
  have x0 : ∀ q : Nat, s4 0 q = if (q : Int) = 32 * c + t 37 c then t 58 0 + 1 else if (q : Int) = 32 * c + t 37 c + 1 then r + 16 * d else if 32 * c + t 37 c + 2 ≤ (q : Int) ∧ (q : Int) < 32 * c + t 37 c + 2 + r then -1 else s 0 q := fun q => by
    rw [hs4, py_sn (by decide)]; simp only [pr_ld, p2]
    simp only [py_st]; simp [sg4 0 q (by omega)]
  have x1 : ∀ q : Nat, s4 1 q = if 32 * (c : Int) + t 37 c + 2 ≤ q ∧ (q : Int) < 32 * c + t 37 c + 2 + r then 1 else s 1 q := fun q => by
    rw [hs4, py_sn (by decide)]; simp only [pr_ld, p2]
    simp only [py_st]; simp [sg4 1 q (by omega)]
  have x2 : ∀ q : Nat, s4 2 q = if q = c then t 37 c + (2 + r + d) else s 2 q := fun q => by
    rw [hs4, py_sn (by decide)]; simp only [pr_ld, p2]
    simp only [py_st]; simp [sg4 2 q (by omega)]
  have x3 : ∀ q : Nat, s4 3 q = if q = c then t 38 c + 1 else s 3 q := fun q => by
    rw [hs4, py_sn (by decide)]; simp only [pr_ld]
    simp only [py_st]; simp [sg4 3 q (by omega), sg4 3 c (by omega), e1]
  have x4 : ∀ q : Nat, s4 4 q = if q = c then 32 * (c : Int) + t 37 c else s 4 q := fun q => by
    rw [hs4, py_sn (by decide)]; simp only [pr_ld, p2]
    simp only [py_st]; simp [sg4 4 q (by omega)]
  have xg : ∀ g i, 4 < g → g ≠ 7 → g ≠ 24 → s4 g i = s1 g i := fun g i h1 h2 h3 => by
    rw [hs4, py_sn h2]
    simp only [pr_ld]
    rw [if_neg (by omega), if_neg (by omega), if_neg (by omega), if_neg (by omega), if_neg (by omega), py_sn h3]
  have x24 : s4 24 0 = t 58 0 + 1 := by rw [hs4, py_sn (by decide)]; simp [pr_ld, py_st]
  have x7 : ∀ q, s4 7 q = if q = a.toNat then 32 * (c : Int) + t 37 c else s 7 q := fun q => by
    rw [hs4, py_ss]
    simp [pr_ld, py_st]
    rw [sg 7 q (by decide) (by decide) (by decide) (by decide)]
  have y31 : ∀ y, t4 31 y = if y = x then (c : Int) else t 31 y := fun y => by rw [ht4, py_sn (by decide)]; simp [pm_lay]; rw [ug2 31 y (by omega)]
  have y32 : ∀ y, t4 32 y = if y = x then t 37 c else t 32 y := fun y => by rw [ht4, py_sn (by decide)]; simp [pm_lay]; rw [ug2 32 y (by omega), ug2 37 c (by omega)]
  have y38 : ∀ q, t4 38 q = if q = c then t 38 c + 1 else t 38 q := fun q => by rw [ht4, py_sn (by decide)]; simp [pm_lay]; rw [ug2 38 q (by omega), ug2 38 c (by omega)]
  have y39 : ∀ i, t4 39 i = if i = 16 * c + (t 38 c).toNat then (x : Int) else t 39 i := fun i => by rw [ht4, py_sn (by decide)]; simp [pm_lay]; rw [ug2 39 i (by omega), ug2 38 c (by omega)]
  have y43 : ∀ q, t4 43 q = if q = a.toNat then (x : Int) else t 43 q := fun q => by rw [ht4, py_ss]; simp [pm_lay]; rw [ug2 43 q (by omega)]
  have yg : ∀ g i, g ≠ 31 → g ≠ 32 → g ≠ 37 → g ≠ 38 → g ≠ 39 → g ≠ 43 → t4 g i = t2 g i := fun g i h1 h2 h3 h4 h5 h6 => by rw [ht4, py_sn h6]; simp [pm_lay, h1, h2, h3, h4, h5]
  have hEo : ∀ y : Int, ph_PV t y → ph_E t4 y = ph_E t y := fun y hy => by
    rcases hy with e | ⟨e, l⟩
    · rw [e]; rfl
    · unfold ph_E
      rw [y31, y32, if_neg (hlx _ l), if_neg (hlx _ l)]
  have hxx : ∀ q k : Nat, q < 40 → (k : Int) < t 38 q → ph_x t q k ≠ x ∧ ph_x t q k < 640 := fun q k hq hk => by
    obtain ⟨w1, w2⟩ := b2.2.1 q k hq hk
    exact ⟨hlx _ (b3.2.2.2.1 q k hq (by omega) hk).1, by unfold ph_x; omega⟩
  have hTH2 : ph_TH (py_st s1 24 0 (t 58 0 + 1)) t2 (ph_E t4) := by
    have h1 : ph_TH s t (ph_E t4) := b2.code (fun q k i hq hk hi => by
      obtain ⟨w1, w2⟩ := b2.2.1 q k hq hk
      exact hEo _ (b3.2.2.2.2.2 _ (hxx q k hq hk).2 (b3.2.2.2.1 q k hq (by omega) hk).1 i hi))
    refine h1.congrX (fun g i hg => by rw [py_sn (by omega)]; exact sg4 g i hg) (fun q hq hz => by rw [py_sn (by decide)] at hz; exact h6 q hq hz) (fun g i h1 h2 => ug2 g i (by omega)) (fun q k hq hk => ?_)
    obtain ⟨z1, z2⟩ := hxx q k hq hk
    refine ⟨by rw [u30, if_neg z1], by rw [u33, if_neg z1], by rw [u34, if_neg z1], fun i hi => ⟨by rw [u35, if_neg (by omega)], by rw [u36, if_neg (by omega)]⟩⟩
  have hr2 : t2 33 x = r := by rw [u33, if_pos rfl]
  have hd2 : t2 34 x = d := by rw [u34, if_pos rfl]
  have v37 : t2 37 c = t 37 c := ug2 37 c (by omega)
  have v38 : t2 38 c = t 38 c := ug2 38 c (by omega)
  have hu0 : 0 ≤ t 37 c := by omega
  have hTH : ph_TH s4 t4 (ph_E t4) := by
    have h1 := hTH2.lay (s' := s4) (x := x) (c := c) hx640 hc (by rw [hr2]; exact hr) (by rw [hd2]; exact hd) (by rw [v37, hr2, hd2]; exact hfit) (fun q hq => by
        rw [v37, hr2, hd2] at hq
        rw [x0, if_neg (by omega), if_neg (by omega), if_neg (by omega), py_sn (by decide), sg4 0 q (by omega)]) (fun q => by
        rw [v37, hr2, x1, py_sn (by decide), sg4 1 q (by omega)]) (fun q => by
        rw [v37, hr2, hd2, x2, py_sn (by decide), sg4 2 q (by omega)]) (fun q => by
        rw [v38, x3, py_sn (by decide), sg4 3 q (by omega)]) (fun q => by
        rw [v37, x4, py_sn (by decide), sg4 4 q (by omega)]) (fun q hq hz => by
        rw [xg 6 q (by decide) (by decide) (by decide)] at hz
        exact ⟨fun e => h6c (by rw [← e]; exact hz), by rw [py_sn (by decide)]; exact hz⟩) (by
        rw [v37, x0, if_pos (by omega), u30, if_pos rfl]) (by
        rw [v37, hr2, hd2, x0, if_neg (by omega), if_pos (by omega)]) (fun i hi => by
        rw [hr2] at hi
        rw [v37, x0, if_neg (by omega), if_neg (by omega), if_pos (by omega), u35, if_pos (by omega)]; rfl) (fun i hi => by
        rw [hd2] at hi
        rw [v37, hr2, x0, if_neg (by omega), if_neg (by omega), if_neg (by omega), u36, if_pos (by omega)]
        rw [show 32 * c + (t 37 c).toNat + 2 + r.toNat + i = 32 * c + ((t 37 c).toNat + 2 + r.toNat + i) by omega]
        exact e8 _ (by omega) (by omega))
    exact h1.congr (fun _ _ _ => rfl) (fun _ _ hz => hz) (fun g i _ _ _ _ => by rw [ht4, py_sn (by omega)])
  have hcc : (((t 38 c).toNat : Nat) : Int) = t 38 c := Int.toNat_of_nonneg e3.1
  have ex : ∀ q k : Nat, q < 40 → (k : Int) < t 38 q → ph_x t4 q k = ph_x t q k := fun q k hq hk => by
    unfold ph_x
    have hq3 := (b2.1 q hq).2.2.1
    rw [y39, if_neg]
    intro e9
    have e10 : q = c := by omega
    subst e10
    omega
  have exn : ph_x t4 c (t 38 c).toNat = x := by unfold ph_x; rw [y39, if_pos rfl]; simp
  have ep : ∀ q k : Nat, q < 40 → (k : Int) ≤ t 38 q → ph_pos t4 q k = ph_pos t q k := fun q k hq hk => ph_pos_congr k (fun i hi => by
    obtain ⟨z1, z2⟩ := hxx q i hq (by omega)
    refine ⟨ex q i hq (by omega), ?_⟩
    unfold ph_sz
    rw [yg 33 _ (by decide) (by decide) (by decide) (by decide) (by decide) (by decide), yg 34 _ (by decide) (by decide) (by decide) (by decide) (by decide) (by decide), u33, u34, if_neg z1, if_neg z1])
  have y30 : ∀ y, t4 30 y = if y = x then t 58 0 + 1 else t 30 y := fun y => by rw [yg 30 y (by decide) (by decide) (by decide) (by decide) (by decide) (by decide)]; exact u30 y
  have y33 : ∀ y, t4 33 y = if y = x then r else t 33 y := fun y => by rw [yg 33 y (by decide) (by decide) (by decide) (by decide) (by decide) (by decide)]; exact u33 y
  have y35 : ∀ i, t4 35 i = if 12 * x ≤ i ∧ i < 12 * x + 12 then -1 else t 35 i := fun i => by rw [yg 35 i (by decide) (by decide) (by decide) (by decide) (by decide) (by decide)]; exact u35 i
  have y58 : t4 58 0 = t 58 0 + 1 := by rw [yg 58 0 (by decide) (by decide) (by decide) (by decide) (by decide) (by decide)]; exact u58
  have hPV : ∀ y : Int, ph_PV t y → ph_PV t4 y := fun y hy => by
    rcases hy with e | ⟨e, l⟩
    · exact Or.inl e
    · exact Or.inr ⟨e, by rw [y30, if_neg (hlx _ l)]; exact l⟩
  have hMH : ph_MH t4 (-1) := by
    refine ⟨by omega, fun y hy => ?_, fun y hy hl => ?_, fun q k hq _ hk => ?_, fun q hq => ?_, fun y hy hl i hi => ?_⟩
    · have := b3.2.1 y hy
      rw [y30, y58]
      by_cases e : y = x
      · rw [if_pos e]; exact ⟨by omega, by omega, fun h9 => by omega⟩
      · rw [if_neg e]; exact ⟨by omega, by omega, fun h9 => this.2.2 (by omega)⟩
    · by_cases e : y = x
      · subst e
        exact ⟨c, (t 38 c).toNat, hc, by rw [y38, if_pos rfl, hcc]; exact Int.lt_add_one_of_le (Int.le_refl _), exn, by rw [y31, if_pos rfl], by rw [y32, if_pos rfl, ep c _ hc (Int.le_of_eq hcc)]; exact e4⟩
      · rw [y30, if_neg e] at hl
        obtain ⟨q, k, hq, hk, g1, g2, g3⟩ := b3.2.2.1 y hy hl
        refine ⟨q, k, hq, ?_, by rw [ex q k hq hk]; exact g1, by rw [y31, if_neg e]; exact g2, by rw [y32, if_neg e, ep q k hq (by omega)]; exact g3⟩
        rw [y38]
        split
        · rename_i e10; subst e10; omega
        · exact hk
    · by_cases e9 : q = c ∧ k = (t 38 c).toNat
      · obtain ⟨e10, e11⟩ := e9
        subst e10; subst e11
        rw [exn, y30, y31, y32, if_pos rfl, if_pos rfl, if_pos rfl, ep q _ hq (by omega)]
        exact ⟨by omega, rfl, e4⟩
      · have hk2 : (k : Int) < t 38 q := by
          rw [y38] at hk
          by_cases e10 : q = c
          · subst e10; rw [if_pos rfl] at hk; omega
          · rwa [if_neg e10] at hk
        obtain ⟨g1, g2, g3⟩ := b3.2.2.2.1 q k hq (by omega) hk2
        have hne := (hxx q k hq hk2).1
        rw [ex q k hq hk2, ep q k hq (by omega), y30, y31, y32, if_neg hne, if_neg hne, if_neg hne]
        exact ⟨g1, g2, g3⟩
    · rw [y43]
      split
      · exact Or.inr ⟨by omega, by rw [y30, if_pos (by simp)]; omega⟩
      · exact hPV _ (b3.2.2.2.2.1 q hq)
    · by_cases e : y = x
      · subst e
        rw [y33, if_pos rfl] at hi
        rw [y35, if_pos (by omega)]
        exact Or.inl rfl
      · rw [y30, if_neg e] at hl
        rw [y33, if_neg e] at hi
        obtain ⟨q, k, hq, hk, g1, g2, g3, g4, g5, g6, g7⟩ := ph_live b2 b3 hy hl
        rw [y35, if_neg (by omega)]
        exact hPV _ (b3.2.2.2.2.2 y hy hl i hi)
  refine ⟨s4, t4, fun K hK => ?_, fun K hK => ?_, ⟨?_, hTH, hMH, fun q hq => ?_, ?_, ?_, ?_, ?_, ?_, ?_⟩, ?_⟩
  · try simp only [py_O_ap, py_l0, py_l1, py_l2, py_l3, py_l4, py_l5, py_l6, py_l7, py_l8, py_l9, py_l12, py_l16, py_l32, py_l40, py_l100, py_l640, py_l1280, py_neg, py_add, py_sub, py_mul, py_stO]
    rw [hL]
    refine pr_load hc (by rw [p2]; exact hu0) hr.1 hd.1 (by rw [p2]; exact hfit) (py_and ?_)
    rw [py_nat (by omega), p2]
    try simp only [py_O_ap, py_l0, py_l1, py_l2, py_l3, py_l4, py_l5, py_l6, py_l7, py_l8, py_l9, py_l12, py_l16, py_l32, py_l40, py_l100, py_l640, py_l1280, py_neg, py_add, py_sub, py_mul, py_stO]
    have e24 : pr_ld (py_st s1 24 0 (t 58 0 + 1)) c (t 58 0 + 1) r d 24 0 = t 58 0 + 1 := by simp [pr_ld, py_st]
    rw [e24, ← hs4]
    exact hK
  · -- the free slot
    have h188 : ∀ f y : Nat, y + f = x → ∃ n9, lX5_make_188 K n9 (py_o a) (py_o r) (py_o d) (py_o y) (py_O t1) := by
      have h244 : ∀ f i : Nat, i + f = 12 → ∃ n9, lX5_make_244 K n9 (py_o a) (py_o x) (py_o i) (py_O (pm_mk t1 x (t 58 0 + 1) r d i)) := by
        intro f
        induction f with
        | zero =>
          intro i hi
          have e9 : i = 12 := by omega
          subst e9
          rw [← ht2]
          refine ⟨1, ?_⟩
          have hRW2 : pr_RW s1 t2 := hRW.congr (fun _ => rfl) (fun _ => rfl) rfl rfl (ug 50 0 (by decide) (by decide) (by decide) (by decide) (by decide) (by decide)) (ug 57 0 (by decide) (by decide) (by decide) (by decide) (by decide) (by decide)) (fun i => ug 40 i (by decide) (by decide) (by decide) (by decide) (by decide) (by decide)) (fun i => ug 41 i (by decide) (by decide) (by decide) (by decide) (by decide) (by decide)) (fun i => ug 42 i (by decide) (by decide) (by decide) (by decide) (by decide) (by decide))
          have v50 := ug 50 0 (by decide) (by decide) (by decide) (by decide) (by decide) (by decide)
          unfold lX5_make_244
          try simp only [py_O_ap, py_l0, py_l1, py_l2, py_l3, py_l4, py_l5, py_l6, py_l7, py_l8, py_l9, py_l12, py_l16, py_l32, py_l40, py_l100, py_l640, py_l1280, py_neg, py_add, py_sub, py_mul, py_stO]
          refine py_ile (fun _ => ?_) (fun c => absurd c (by omega))
          rw [show t2 50 0 - 1 = (((t2 50 0).toNat - 1 : Nat) : Int) by omega]
          refine pm_lastCar hRW2 (by omega) ?_
          rw [ph_lastCar hRW2 (by omega), hlast]
          refine pm_layM hx640 hc (by rw [v38]; omega) (py_and ?_)
          rw [py_nat (by omega)]
          try simp only [py_O_ap, py_l0, py_l1, py_l2, py_l3, py_l4, py_l5, py_l6, py_l7, py_l8, py_l9, py_l12, py_l16, py_l32, py_l40, py_l100, py_l640, py_l1280, py_neg, py_add, py_sub, py_mul, py_stO]
          have w58 : pm_lay t2 x c 58 0 = t 58 0 + 1 := by simp [pm_lay]; exact u58
          rw [w58, ← ht4]
          exact hK
        | succ f ih =>
          intro i hi
          obtain ⟨n9, hn9⟩ := ih (i + 1) (by omega)
          refine ⟨n9 + 1, ?_⟩
          unfold lX5_make_244
          try simp only [py_O_ap, py_l0, py_l1, py_l2, py_l3, py_l4, py_l5, py_l6, py_l7, py_l8, py_l9, py_l12, py_l16, py_l32, py_l40, py_l100, py_l640, py_l1280, py_neg, py_add, py_sub, py_mul, py_stO]
          refine py_ile (fun c => absurd c (by omega)) (fun _ => py_and (py_and ?_))
          rw [py_nat (by omega), show ((12 : Int) * x + i).toNat = 12 * x + i by omega, ← pm_mk_st]
          exact hn9
      intro f
      induction f with
      | zero =>
        intro y hy
        have e9 : y = x := by omega
        subst e9
        obtain ⟨n9, hn9⟩ := h244 12 0 rfl
        have v30 : t1 30 y = 0 := by rw [tg 30 y (by decide) (by decide) (by decide) (by decide) (by decide)]; exact hx2
        have v58 : t1 58 0 = t 58 0 := tg 58 0 (by decide) (by decide) (by decide) (by decide) (by decide)
        refine ⟨1, ?_⟩
        unfold lX5_make_188
        try simp only [py_O_ap, py_l0, py_l1, py_l2, py_l3, py_l4, py_l5, py_l6, py_l7, py_l8, py_l9, py_l12, py_l16, py_l32, py_l40, py_l100, py_l640, py_l1280, py_neg, py_add, py_sub, py_mul, py_stO]
        refine py_and ?_
        rw [py_nat (by omega)]
        simp only [Int.toNat_natCast]
        refine py_ile (fun _ => py_and (py_and (py_and ?_))) (fun c => absurd c (by omega))
        rw [v58, ← pm_mk_0]
        exact ⟨n9, hn9⟩
      | succ f ih =>
        intro y hy
        obtain ⟨n9, hn9⟩ := ih (y + 1) (by omega)
        have hl := b3.2.1 y (by omega)
        have hne : t 30 y ≠ 0 := hx3 y (by omega)
        have v30 : t1 30 y = t 30 y := tg 30 y (by decide) (by decide) (by decide) (by decide) (by decide)
        refine ⟨n9 + 1, ?_⟩
        unfold lX5_make_188
        try simp only [py_O_ap, py_l0, py_l1, py_l2, py_l3, py_l4, py_l5, py_l6, py_l7, py_l8, py_l9, py_l12, py_l16, py_l32, py_l40, py_l100, py_l640, py_l1280, py_neg, py_add, py_sub, py_mul, py_stO]
        refine py_and ?_
        rw [py_nat (by omega)]
        simp only [Int.toNat_natCast]
        exact py_ile (fun c => absurd c (by omega)) (fun _ => hn9)
    exact h188 x 0 (by omega)
  · exact hRW.congr (fun i => xg 5 i (by decide) (by decide) (by decide)) (fun i => xg 6 i (by decide) (by decide) (by decide)) (xg 13 0 (by decide) (by decide) (by decide)) (xg 14 0 (by decide) (by decide) (by decide)) (by rw [yg 50 0 (by decide) (by decide) (by decide) (by decide) (by decide) (by decide)]; exact ug 50 0 (by decide) (by decide) (by decide) (by decide) (by decide) (by decide)) (by rw [yg 57 0 (by decide) (by decide) (by decide) (by decide) (by decide) (by decide)]; exact ug 57 0 (by decide) (by decide) (by decide) (by decide) (by decide) (by decide)) (fun i => by rw [yg 40 i (by decide) (by decide) (by decide) (by decide) (by decide) (by decide)]; exact ug 40 i (by decide) (by decide) (by decide) (by decide) (by decide) (by decide)) (fun i => by rw [yg 41 i (by decide) (by decide) (by decide) (by decide) (by decide) (by decide)]; exact ug 41 i (by decide) (by decide) (by decide) (by decide) (by decide) (by decide)) (fun i => by rw [yg 42 i (by decide) (by decide) (by decide) (by decide) (by decide) (by decide)]; exact ug 42 i (by decide) (by decide) (by decide) (by decide) (by decide) (by decide))
  · rw [x7, y43]
    by_cases e : q = a.toNat
    · rw [if_pos e, if_pos e]
      unfold ph_E
      rw [if_neg (by omega), y31, y32, if_pos (by simp), if_pos (by simp)]
    · rw [if_neg e, if_neg e, hEo _ (b3.2.2.2.2.1 q hq)]
      exact b4 q hq
  · rw [xg 20 0 (by decide) (by decide) (by decide), sg 20 0 (by decide) (by decide) (by decide) (by decide), yg 59 0 (by decide) (by decide) (by decide) (by decide) (by decide) (by decide), ug2 59 0 (by omega)]; exact b5
  · rw [xg 15 0 (by decide) (by decide) (by decide), xg 16 0 (by decide) (by decide) (by decide), xg 17 0 (by decide) (by decide) (by decide), xg 18 0 (by decide) (by decide) (by decide), xg 19 0 (by decide) (by decide) (by decide), sg 15 0 (by decide) (by decide) (by decide) (by decide), sg 16 0 (by decide) (by decide) (by decide) (by decide), sg 17 0 (by decide) (by decide) (by decide) (by decide), sg 18 0 (by decide) (by decide) (by decide) (by decide), sg 19 0 (by decide) (by decide) (by decide) (by decide)]
    rw [yg 52 0 (by decide) (by decide) (by decide) (by decide) (by decide) (by decide), yg 53 0 (by decide) (by decide) (by decide) (by decide) (by decide) (by decide), yg 54 0 (by decide) (by decide) (by decide) (by decide) (by decide) (by decide), yg 55 0 (by decide) (by decide) (by decide) (by decide) (by decide) (by decide), yg 56 0 (by decide) (by decide) (by decide) (by decide) (by decide) (by decide), ug2 52 0 (by omega), ug2 53 0 (by omega), ug2 54 0 (by omega), ug2 55 0 (by omega), ug2 56 0 (by omega)]
    exact b6
  · rw [xg 23 0 (by decide) (by decide) (by decide), sg 23 0 (by decide) (by decide) (by decide) (by decide), yg 51 0 (by decide) (by decide) (by decide) (by decide) (by decide) (by decide), ug2 51 0 (by omega)]; exact b7
  · rw [x24, y58]; omega
  · rw [yg 57 0 (by decide) (by decide) (by decide) (by decide) (by decide) (by decide), ug 57 0 (by decide) (by decide) (by decide) (by decide) (by decide) (by decide)]; omega
  · rw [xg 26 0 (by decide) (by decide) (by decide), sg 26 0 (by decide) (by decide) (by decide) (by decide)]
    refine ⟨b10.1, by omega, fun p hp => ?_⟩
    rw [xg 10 p (by decide) (by decide) (by decide), sg 10 p (by decide) (by decide) (by decide) (by decide)]
    exact b10.2.2 p hp
  · rw [yg 60 0 (by decide) (by decide) (by decide) (by decide) (by decide) (by decide)]; exact ug2 60 0 (by omega)
end PMM
