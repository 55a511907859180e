/-! PURE: the end of a step, method by method -/
def pr_pn (s : py_Z) (v : Int) : Int := if v < 0 then v else if v / 32 = s 20 0 then s 8 (v - v / 32 * 32).toNat else v
theorem pr_placeNow {s : py_Z} {v : Int} {K : ty_S → Int32 → Prop} (rv : -1 ≤ v ∧ v < 1280) (re : -1 ≤ s 20 0 ∧ s 20 0 < 40) (hK : K (py_O s) (py_o (pr_pn s v))) : eX3_placeNow (py_O s) (py_o v) K := by
  unfold pr_pn at hK
  unfold eX3_placeNow
  try simp only [py_O_ap, py_l0, py_l1, py_l2, py_l3, py_l4, py_l5, py_l6, py_l7, py_l8, py_l9, py_l12, py_l16, py_l32, py_l40, py_l100, py_l640, py_l1280, py_neg, py_add, py_sub, py_mul, py_stO]
  refine py_ilt (fun c => ?_) (fun c => ?_)
  · rw [if_pos c] at hK; exact hK
  · rw [if_neg (by omega)] at hK
    refine pr_carOf (fun _ _ => ?_) (fun c => absurd c (by omega))
    rw [py_div (by omega) (by omega)]
    try simp only [py_O_ap, py_l0, py_l1, py_l2, py_l3, py_l4, py_l5, py_l6, py_l7, py_l8, py_l9, py_l12, py_l16, py_l32, py_l40, py_l100, py_l640, py_l1280, py_neg, py_add, py_sub, py_mul, py_stO]
    refine py_ieq (fun e1 => py_and ?_) (fun e1 => ?_)
    · rw [if_pos e1] at hK
      rw [py_nat (by omega)]
      exact hK
    · rw [if_neg e1] at hK; exact hK
def pr_hm (s : py_Z) (r : Nat) : py_Z := fun g i => if g = 7 ∧ i < r then pr_pn s (s 7 i) else s g i
def pr_wm (s : py_Z) (B : Nat) : py_Z := fun g i => if g = 0 ∧ i < B ∧ s 1 i = 1 then pr_pn s (s 0 i) else s g i
theorem pr_hm_n {s : py_Z} {r g i : Nat} (h : g ≠ 7) : pr_hm s r g i = s g i := by unfold pr_hm; rw [if_neg (fun c => h c.1)]
theorem pr_wm_n {s : py_Z} {B g i : Nat} (h : g ≠ 0) : pr_wm s B g i = s g i := by unfold pr_wm; rw [if_neg (fun c => h c.1)]
theorem pr_pn_hm {s : py_Z} {r : Nat} {v : Int} : pr_pn (pr_hm s r) v = pr_pn s v := by unfold pr_pn; rw [pr_hm_n (by decide), pr_hm_n (by decide)]
theorem pr_pn_wm {s : py_Z} {r : Nat} {v : Int} : pr_pn (pr_wm s r) v = pr_pn s v := by unfold pr_pn; rw [pr_wm_n (by decide), pr_wm_n (by decide)]
theorem pr_hm_st {s : py_Z} {r : Nat} : pr_hm s (r + 1) = py_st (pr_hm s r) 7 r (pr_pn s (s 7 r)) := by
  funext g i
  simp only [py_st, pr_hm]
  grind
theorem pr_wm_st {s : py_Z} {r : Nat} (h : s 1 r = 1) : pr_wm s (r + 1) = py_st (pr_wm s r) 0 r (pr_pn s (s 0 r)) := by
  funext g i
  simp only [py_st, pr_wm]
  grind
theorem pr_wm_gap {s : py_Z} {a b : Nat} (h : a ≤ b) (hz : ∀ p : Nat, a ≤ p → p < b → s 1 p = 0) : pr_wm s b = pr_wm s a := by
  funext g i
  unfold pr_wm
  by_cases e1 : a ≤ i ∧ i < b
  · have := hz i e1.1 e1.2
    rw [if_neg (by omega), if_neg (by omega)]
  · have e2 : (g = 0 ∧ i < b ∧ s 1 i = 1) ↔ (g = 0 ∧ i < a ∧ s 1 i = 1) := by omega
    simp only [e2]
theorem pr_endRefs {s : py_Z} {K : ty_S → Prop} (hI : pr_IR s) (re : -1 ≤ s 20 0 ∧ s 20 0 < 40) (hv : ∀ p : Nat, p < 1280 → s 1 p = 1 → -1 ≤ s 0 p ∧ s 0 p < 1280) (hN : 0 < s 13 0 ∧ s 13 0 ≤ 40) (hb : 0 ≤ s 5 0 ∧ s 5 0 < 40) (hK : K (py_O (py_st (pr_rem (pr_wm s 1280)) 20 0 (-1)))) :
    ∀ d r : Nat, 1280 - r ≤ d → r ≤ 1280 → (r = 1280 ∨ s 1 r = 1) → ∃ n9, lX3_endEmptying_50 K n9 (py_o r) (py_O (pr_wm s r)) := by
  have hend : ∃ n9, lX3_endEmptying_50 K n9 (py_o (1280 : Nat)) (py_O (pr_wm s 1280)) := by
    refine ⟨1, ?_⟩
    unfold lX3_endEmptying_50
    try simp only [py_O_ap, py_l0, py_l1, py_l2, py_l3, py_l4, py_l5, py_l6, py_l7, py_l8, py_l9, py_l12, py_l16, py_l32, py_l40, py_l100, py_l640, py_l1280, py_neg, py_add, py_sub, py_mul, py_stO]
    refine py_ile (fun _ => ?_) (fun c => absurd c (by omega))
    refine pr_removeFirstCar (by rw [pr_wm_n (by decide)]; exact hN) (by rw [pr_wm_n (by decide)]; exact hb) ?_
    try simp only [py_O_ap, py_l0, py_l1, py_l2, py_l3, py_l4, py_l5, py_l6, py_l7, py_l8, py_l9, py_l12, py_l16, py_l32, py_l40, py_l100, py_l640, py_l1280, py_neg, py_add, py_sub, py_mul, py_stO]
    exact hK
  intro d
  induction d with
  | zero => intro r hd hr _; rw [show r = 1280 by omega]; exact hend
  | succ d ih =>
    intro r hd hr hr1
    by_cases e1 : r = 1280
    · rw [e1]; exact hend
    · have hs1 : s 1 r = 1 := hr1.resolve_left e1
      have hw : pr_wm s r 0 r = s 0 r := by unfold pr_wm; rw [if_neg (by omega)]
      have hI2 : pr_IR (pr_wm s (r + 1)) := by
        unfold pr_IR
        simp only [pr_wm_n (show 1 ≠ 0 by decide), pr_wm_n (show 2 ≠ 0 by decide)]
        exact hI
      obtain ⟨r', b1, b2, b3, b4, b5⟩ := pr_nextEx hI2 (a := r + 1) (by omega)
      rw [pr_wm_n (by decide)] at b3
      have hgap := pr_wm_gap (s := s) b1 (fun p h1 h2 => by have := b4 p h1 h2; rwa [pr_wm_n (by decide)] at this)
      obtain ⟨n9, hn9⟩ := ih r' (by omega) b2 b3
      have hvr := hv r (by omega) hs1
      refine ⟨n9 + 1, ?_⟩
      unfold lX3_endEmptying_50
      try simp only [py_O_ap, py_l0, py_l1, py_l2, py_l3, py_l4, py_l5, py_l6, py_l7, py_l8, py_l9, py_l12, py_l16, py_l32, py_l40, py_l100, py_l640, py_l1280, py_neg, py_add, py_sub, py_mul, py_stO]
      refine py_ile (fun c => absurd c (by omega)) (fun _ => ?_)
      refine pr_at (fun _ _ => ?_) (fun c => absurd c (by omega))
      simp only [Int.toNat_natCast]
      rw [hw]
      refine pr_placeNow hvr (by rw [pr_wm_n (by decide)]; exact re) ?_
      rw [pr_pn_wm]
      refine pr_write (fun _ _ => ?_) (fun c => absurd c (by omega))
      simp only [Int.toNat_natCast]
      try simp only [py_O_ap, py_l0, py_l1, py_l2, py_l3, py_l4, py_l5, py_l6, py_l7, py_l8, py_l9, py_l12, py_l16, py_l32, py_l40, py_l100, py_l640, py_l1280, py_neg, py_add, py_sub, py_mul, py_stO]
      rw [← pr_wm_st hs1]
      rw [hgap] at hn9
      exact b5 _ hn9
theorem pr_endEmptying {s : py_Z} {e : Nat} {K : ty_S → Prop} (he : s 20 0 = e ∧ e < 40) (hh : ∀ r : Nat, r < 16 → -1 ≤ s 7 r ∧ s 7 r < 1280) (hI : pr_IR (pr_clr (pr_hm s 16) e)) (hv : ∀ p : Nat, p < 1280 → pr_clr (pr_hm s 16) e 1 p = 1 → -1 ≤ pr_clr (pr_hm s 16) e 0 p ∧ pr_clr (pr_hm s 16) e 0 p < 1280) (hN : 0 < s 13 0 ∧ s 13 0 ≤ 40) (hb : 0 ≤ s 5 0 ∧ s 5 0 < 40) (hK : K (py_O (py_st (pr_rem (pr_wm (pr_clr (pr_hm s 16) e) 1280)) 20 0 (-1)))) : eX3_endEmptying (py_O s) K := by
  have key : ∀ d r : Nat, r + d = 16 → ∃ n9, lX3_endEmptying_2 K n9 (py_o r) (py_O (pr_hm s r)) := by
    intro d
    induction d with
    | zero =>
      intro r hr
      obtain ⟨r', b1, b2, b3, b4, b5⟩ := pr_nextEx hI (a := 0) (by omega)
      obtain ⟨n9, hn9⟩ := pr_endRefs hI (by simp [pr_clr, pr_hm]; omega) hv (by simpa [pr_clr, pr_hm] using hN) (by simpa [pr_clr, pr_hm] using hb) hK 1280 r' (by omega) b2 b3
      have hgap := pr_wm_gap (s := pr_clr (pr_hm s 16) e) b1 (fun p h1 h2 => b4 p h1 h2)
      have h0 : pr_wm (pr_clr (pr_hm s 16) e) 0 = pr_clr (pr_hm s 16) e := by
        funext g i
        unfold pr_wm
        rw [if_neg (by omega)]
      refine ⟨1, ?_⟩
      unfold lX3_endEmptying_2
      try simp only [py_O_ap, py_l0, py_l1, py_l2, py_l3, py_l4, py_l5, py_l6, py_l7, py_l8, py_l9, py_l12, py_l16, py_l32, py_l40, py_l100, py_l640, py_l1280, py_neg, py_add, py_sub, py_mul, py_stO]
      refine py_ile (fun _ => ?_) (fun c => absurd c (by omega))
      rw [pr_hm_n (by decide), he.1, show r = 16 by omega]
      refine pr_clear he.2 ?_
      refine b5 _ ⟨n9, ?_⟩
      rw [hgap, h0] at hn9
      exact hn9
    | succ d ih =>
      intro r hr
      obtain ⟨n9, hn9⟩ := ih (r + 1) (by omega)
      have hhr := hh r (by omega)
      have hw : pr_hm s r 7 r = s 7 r := by unfold pr_hm; rw [if_neg (by omega)]
      refine ⟨n9 + 1, ?_⟩
      unfold lX3_endEmptying_2
      try simp only [py_O_ap, py_l0, py_l1, py_l2, py_l3, py_l4, py_l5, py_l6, py_l7, py_l8, py_l9, py_l12, py_l16, py_l32, py_l40, py_l100, py_l640, py_l1280, py_neg, py_add, py_sub, py_mul, py_stO]
      refine py_ile (fun c => absurd c (by omega)) (fun _ => py_and ?_)
      rw [py_nat (by omega)]
      simp only [Int.toNat_natCast]
      rw [hw]
      refine pr_placeNow hhr (by rw [pr_hm_n (by decide)]; omega) (py_and ?_)
      rw [pr_pn_hm]
      try simp only [py_O_ap, py_l0, py_l1, py_l2, py_l3, py_l4, py_l5, py_l6, py_l7, py_l8, py_l9, py_l12, py_l16, py_l32, py_l40, py_l100, py_l640, py_l1280, py_neg, py_add, py_sub, py_mul, py_stO]
      rw [← pr_hm_st]
      exact hn9
  unfold eX3_endEmptying
  have h0 : pr_hm s 0 = s := by
    funext g i
    unfold pr_hm
    rw [if_neg (by omega)]
  have := key 16 0 rfl
  rw [h0] at this
  rw [py_l0]
  exact this
/-- the reference: the first car is forgotten and leaves -/
def pm_shs (t : py_Z) (k : Nat) : py_Z := fun g i => if g = 41 then (if i = 0 then t 41 0 - 1 else t 41 i) else if g = 42 then (if i < k then t 42 (i + 1) else t 42 i) else t g i
theorem pm_shs_0 {t : py_Z} : pm_shs t 0 = py_st t 41 0 (t 41 0 - 1) := by
  funext g i
  simp only [py_st, pm_shs]
  grind
theorem pm_shs_st {t : py_Z} {k : Nat} : pm_shs t (k + 1) = py_st (pm_shs t k) 42 k (t 42 (k + 1)) := by
  funext g i
  simp only [py_st, pm_shs]
  grind
theorem pm_shs_fin {t : py_Z} {k : Nat} (h : (k : Int) + 1 = t 41 0) : pm_shs t k = pm_sh t := by
  funext g i
  simp only [pm_sh, pm_shs]
  grind
def pm_end (t : py_Z) : py_Z := if t 41 0 = 1 then pm_rt (py_st (pm_sh t) 59 0 (-1)) else py_st (pm_sh t) 59 0 (-1)
theorem pm_leave {t : py_Z} {n : Int} {K : ty_S → Int32 → Prop} (hs : 1 ≤ t 41 0 ∧ t 41 0 ≤ 40) (hn : 0 < t 50 0 ∧ t 50 0 ≤ 40) (hK : K (py_O (pm_end t)) (py_o n)) : ∃ n9, lX5_oneStep_267 K n9 (py_o n) (py_o 0) (py_O (py_st t 41 0 (t 41 0 - 1))) := by
  have key : ∀ d k : Nat, (k : Int) + d = t 41 0 - 1 → ∃ n9, lX5_oneStep_267 K n9 (py_o n) (py_o k) (py_O (pm_shs t k)) := by
    intro d
    induction d with
    | zero =>
      intro k hk
      refine ⟨1, ?_⟩
      have e1 : pm_shs t k 41 0 = t 41 0 - 1 := by simp [pm_shs]
      unfold lX5_oneStep_267
      try simp only [py_O_ap, py_l0, py_l1, py_l2, py_l3, py_l4, py_l5, py_l6, py_l7, py_l8, py_l9, py_l12, py_l16, py_l32, py_l40, py_l100, py_l640, py_l1280, py_neg, py_add, py_sub, py_mul, py_stO]
      refine py_and ?_
      rw [py_nat (by omega)]
      simp only [Int.toNat_zero]
      refine py_ile (fun _ => py_and ?_) (fun c => absurd c (by omega))
      unfold pm_end at hK
      rw [pm_shs_fin (by omega)]
      have e2 : pm_sh t 41 0 = t 41 0 - 1 := by simp [pm_sh]
      refine py_ieq (fun e3 => ?_) (fun e3 => ?_)
      · rw [if_pos (by omega)] at hK
        refine pm_removeTrain ?_ hK
        rw [py_sn (by decide)]
        simpa [pm_sh] using hn
      · rw [if_neg (by omega)] at hK
        exact hK
    | succ d ih =>
      intro k hk
      obtain ⟨n9, hn9⟩ := ih (k + 1) (by omega)
      have e1 : pm_shs t k 41 0 = t 41 0 - 1 := by simp [pm_shs]
      have e2 : pm_shs t k 42 (k + 1) = t 42 (k + 1) := by
        simp [pm_shs]
        intro c; omega
      refine ⟨n9 + 1, ?_⟩
      unfold lX5_oneStep_267
      try simp only [py_O_ap, py_l0, py_l1, py_l2, py_l3, py_l4, py_l5, py_l6, py_l7, py_l8, py_l9, py_l12, py_l16, py_l32, py_l40, py_l100, py_l640, py_l1280, py_neg, py_add, py_sub, py_mul, py_stO]
      refine py_and ?_
      rw [py_nat (by omega), py_nat (by omega), py_nat (by omega)]
      simp only [Int.toNat_zero, Int.toNat_natCast]
      refine py_ile (fun c => absurd c (by omega)) (fun _ => py_and (py_and ?_))
      rw [show ((k : Int) + 1).toNat = k + 1 by omega, e2, ← pm_shs_st]
      exact hn9
  rw [← pm_shs_0]
  exact key (t 41 0 - 1).toNat 0 (by omega)
