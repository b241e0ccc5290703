/-! Y: the waiting function alone, and with its left array -/
def ag_kf (k f g : Nat) : Prop := (k = 0 ∧ (ag_mx f ∨ ag_sc f)) ∨ ((k = 1 ∨ k = 2 ∨ k = 3) ∧ ag_sc f) ∨ (k = 4 ∧ ag_sc f ∧ ag_sc g)
theorem ag_wk {tn : Nat → Nat} {n q : Nat} (wf : ag_wf tn n q) : ag_kf (ag_k tn n q) (ag_f tn q) (ag_g tn q) := by
  rcases wf.2 with m | o | s
  · rw [ag_kM m, show ag_f tn q = tn q from if_neg (by omega)]
    exact Or.inl ⟨rfl, Or.inl m⟩
  · rw [ag_kO o.1, show ag_f tn q = tn (q + 1) from if_pos o.1]
    exact Or.inr (Or.inl ⟨by omega, o.2.2⟩)
  · have sc := s.1
    rw [show ag_f tn q = tn q from if_neg (by omega)]
    by_cases b : q + 1 < n
    · by_cases b40 : tn (q + 1) = 40
      · rw [ag_kA sc b b40]; exact Or.inr (Or.inl ⟨by omega, sc⟩)
      · by_cases b41 : tn (q + 1) = 41
        · rw [ag_kB sc b b41]; exact Or.inr (Or.inl ⟨by omega, sc⟩)
        · by_cases b43 : tn (q + 1) = 43
          · rw [ag_kD sc b b43]; exact Or.inr (Or.inr ⟨rfl, sc, (s.2 b b43).2⟩)
          · rw [ag_k0 sc (fun _ => ⟨b40, b41, b43⟩)]; exact Or.inl ⟨rfl, Or.inr sc⟩
    · rw [ag_k0 sc (fun z => absurd z b)]; exact Or.inl ⟨rfl, Or.inr sc⟩
theorem ag_w1 {k f g : Nat} (h : ag_kf k f g) : nI (ag_w k f g) / 10000 = nI k ∧ nI (ag_w k f g) - nI (ag_w k f g) / 100 * 100 = nI (if k = 4 then g else f) ∧ (k = 4 → nI (ag_w k f g) / 100 - nI (ag_w k f g) / 100 / 100 * 100 = nI f) ∧ ag_w k f g < 50000 := by
  have e : (ag_w k f g / 10000 = k ∧ ag_w k f g % 100 = (if k = 4 then g else f) ∧ (k = 4 → ag_w k f g / 100 % 100 = f)) ∧ ag_w k f g < 50000 := by
    unfold ag_w ag_kf at *
    by_cases k4 : k = 4
    · simp only [if_pos k4]; omega
    · simp only [if_neg k4]; omega
  obtain ⟨⟨e1, e2, e3⟩, e4⟩ := e
  refine ⟨?_, ?_, fun k4 => ?_, e4⟩
  · rw [show nI (ag_w k f g) / 10000 = nI (ag_w k f g / 10000) from pk_div (d := 10000) (by omega) (by omega) (by omega), e1]
  · rw [show nI (ag_w k f g) - nI (ag_w k f g) / 100 * 100 = nI (ag_w k f g % 100) from pk_rem (d := 100) (by omega) (by omega) (by omega), e2]
  · rw [show nI (ag_w k f g) / 100 = nI (ag_w k f g / 100) from pk_div (d := 100) (by omega) (by omega) (by omega), show nI (ag_w k f g / 100) - nI (ag_w k f g / 100) / 100 * 100 = nI (ag_w k f g / 100 % 100) from pk_rem (d := 100) (by omega) (by omega) (by omega), e3 k4]
section
variable {ct lv er : Int32} {tx rk rw wd dt wt fi : Nat → Int32}
theorem ay_one {post : SY → Prop} {k f g y R r c : Nat} {d : Nat → Int32} (hk : ag_kf k f g) (y1 : 14 ≤ y) (y2 : y < 50) (V : ap_VS R r c) (H : ap_Y rk rw wd dt y R r c d)
    (hP : ay_P post ct lv tx rk rw wd dt wt fi (ap_one k f R r c d)) : wpY_applyOne post (ct, lv, 0, tx, rk, rw, wd, dt, wt, fi) (nI (ag_w k f g)) (nI y) := by
  obtain ⟨w1, w2, w3, w4⟩ := ag_w1 hk
  have n1 : ¬ (10000 : Int32) = 0 := by decide
  have n2 : ¬ (100 : Int32) = 0 := by decide
  rcases hk with ⟨rfl, m | s⟩ | ⟨ks, s⟩ | ⟨rfl, s, sg⟩
  · rw [show (if (0 : Nat) = 4 then g else f) = f from rfl] at w2
    rcases (by omega : f = 30 ∨ f = 31 ∨ f = 32 ∨ f = 33 ∨ f = 34 ∨ f = 35 ∨ f = 36 ∨ f = 37 ∨ f = 38) with rfl | rfl | rfl | rfl | rfl | rfl | rfl | rfl | rfl
    · simp (disch := omega) only [wpY_applyOne, w1, w2, n1, n2, an_u2, an_e35, an_e37, an_e1, an_e2, an_g30, an_g32, an_g34, an_e34, an_e36, an_e32, an_e30, Nat.reduceEqDiff, Nat.reduceLT, Nat.reduceLeDiff, eq_self, vp_in_nI, nI_clamp, nI_leI, nI_ltI, nI_eq, nI_add, nI_1, pk_mul, an_m36, an_n36, an_b468, forall_eq, true_and, and_true, true_implies, false_implies, not_true, not_false_iff, implies_true, pk_un, pk_us, ap_wrN, ap_wrS]
      exact ay_shape y1 y2 V H hP
    · simp (disch := omega) only [wpY_applyOne, w1, w2, n1, n2, an_u2, an_e35, an_e37, an_e1, an_e2, an_g30, an_g32, an_g34, an_e34, an_e36, an_e32, an_e30, Nat.reduceEqDiff, Nat.reduceLT, Nat.reduceLeDiff, eq_self, vp_in_nI, nI_clamp, nI_leI, nI_ltI, nI_eq, nI_add, nI_1, pk_mul, an_m36, an_n36, an_b468, forall_eq, true_and, and_true, true_implies, false_implies, not_true, not_false_iff, implies_true, pk_un, pk_us, ap_wrN, ap_wrS]
      exact ay_count y1 y2 V H hP
    · simp (disch := omega) only [wpY_applyOne, w1, w2, n1, n2, an_u2, an_e35, an_e37, an_e1, an_e2, an_g30, an_g32, an_g34, an_e34, an_e36, an_e32, an_e30, Nat.reduceEqDiff, Nat.reduceLT, Nat.reduceLeDiff, eq_self, vp_in_nI, nI_clamp, nI_leI, nI_ltI, nI_eq, nI_add, nI_1, pk_mul, an_m36, an_n36, an_b468, forall_eq, true_and, and_true, true_implies, false_implies, not_true, not_false_iff, implies_true, pk_un, pk_us, ap_wrN, ap_wrS]
      exact ay_turn y1 y2 V H hP
    · simp (disch := omega) only [wpY_applyOne, w1, w2, n1, n2, an_u2, an_e35, an_e37, an_e1, an_e2, an_g30, an_g32, an_g34, an_e34, an_e36, an_e32, an_e30, Nat.reduceEqDiff, Nat.reduceLT, Nat.reduceLeDiff, eq_self, vp_in_nI, nI_clamp, nI_leI, nI_ltI, nI_eq, nI_add, nI_1, pk_mul, an_m36, an_n36, an_b468, forall_eq, true_and, and_true, true_implies, false_implies, not_true, not_false_iff, implies_true, pk_un, pk_us, ap_wrN, ap_wrS]
      exact ay_rev y1 y2 V H hP
    · simp (disch := omega) only [wpY_applyOne, w1, w2, n1, n2, an_u2, an_e35, an_e37, an_e1, an_e2, an_g30, an_g32, an_g34, an_e34, an_e36, an_e32, an_e30, Nat.reduceEqDiff, Nat.reduceLT, Nat.reduceLeDiff, eq_self, vp_in_nI, nI_clamp, nI_leI, nI_ltI, nI_eq, nI_add, nI_1, pk_mul, an_m36, an_n36, an_b468, forall_eq, true_and, and_true, true_implies, false_implies, not_true, not_false_iff, implies_true, pk_un, pk_us, ap_wrN, ap_wrS]
      exact ay_first y1 y2 V H hP
    · simp (disch := omega) only [wpY_applyOne, w1, w2, n1, n2, an_u2, an_e35, an_e37, an_e1, an_e2, an_g30, an_g32, an_g34, an_e34, an_e36, an_e32, an_e30, Nat.reduceEqDiff, Nat.reduceLT, Nat.reduceLeDiff, eq_self, vp_in_nI, nI_clamp, nI_leI, nI_ltI, nI_eq, nI_add, nI_1, pk_mul, an_m36, an_n36, an_b468, forall_eq, true_and, and_true, true_implies, false_implies, not_true, not_false_iff, implies_true, pk_un, pk_us, ap_wrN, ap_wrS]
      exact ay_Pe (e := -12) (by decide) hP
    · simp (disch := omega) only [wpY_applyOne, w1, w2, n1, n2, an_u2, an_e35, an_e37, an_e1, an_e2, an_g30, an_g32, an_g34, an_e34, an_e36, an_e32, an_e30, Nat.reduceEqDiff, Nat.reduceLT, Nat.reduceLeDiff, eq_self, vp_in_nI, nI_clamp, nI_leI, nI_ltI, nI_eq, nI_add, nI_1, pk_mul, an_m36, an_n36, an_b468, forall_eq, true_and, and_true, true_implies, false_implies, not_true, not_false_iff, implies_true, pk_un, pk_us, ap_wrN, ap_wrS]
      exact ay_ravel y1 y2 V H hP
    · simp (disch := omega) only [wpY_applyOne, w1, w2, n1, n2, an_u2, an_e35, an_e37, an_e1, an_e2, an_g30, an_g32, an_g34, an_e34, an_e36, an_e32, an_e30, Nat.reduceEqDiff, Nat.reduceLT, Nat.reduceLeDiff, eq_self, vp_in_nI, nI_clamp, nI_leI, nI_ltI, nI_eq, nI_add, nI_1, pk_mul, an_m36, an_n36, an_b468, forall_eq, true_and, and_true, true_implies, false_implies, not_true, not_false_iff, implies_true, pk_un, pk_us, ap_wrN, ap_wrS]
      exact ay_Pe (e := -12) (by decide) hP
    · simp (disch := omega) only [wpY_applyOne, w1, w2, n1, n2, an_u2, an_e35, an_e37, an_e1, an_e2, an_g30, an_g32, an_g34, an_e34, an_e36, an_e32, an_e30, Nat.reduceEqDiff, Nat.reduceLT, Nat.reduceLeDiff, eq_self, vp_in_nI, nI_clamp, nI_leI, nI_ltI, nI_eq, nI_add, nI_1, pk_mul, an_m36, an_n36, an_b468, forall_eq, true_and, and_true, true_implies, false_implies, not_true, not_false_iff, implies_true, pk_un, pk_us, ap_wrN, ap_wrS]
      exact ay_rise y1 y2 V H hP
  · rw [show (if (0 : Nat) = 4 then g else f) = f from rfl] at w2
    have a1 : ¬ f = 35 := by omega
    have a2 : ¬ f = 37 := by omega
    have a3 : ¬ 30 ≤ f := by omega
    have e1 : ap_one 0 f R r c d = ap_s1 f R r c d := by unfold ap_one; rw [if_neg (by omega), if_neg (by omega), if_neg (by omega), if_pos (by omega)]
    rw [e1] at hP
    simp (disch := omega) only [wpY_applyOne, w1, w2, n1, n2, an_u2, an_e35, an_e37, an_e1, an_e2, an_g30, an_g32, an_g34, an_e34, an_e36, an_e32, an_e30, Nat.reduceEqDiff, Nat.reduceLT, Nat.reduceLeDiff, eq_self, a1, a2, a3, vp_in_nI, nI_clamp, nI_leI, nI_ltI, nI_eq, nI_add, nI_1, pk_mul, an_m36, an_n36, an_b468, forall_eq, true_and, and_true, true_implies, false_implies, not_true, not_false_iff, implies_true, pk_un, pk_us, ap_wrN, ap_wrS]
    exact ay_s1 s y1 y2 V H hP
  · have a1 : ¬ f = 35 := by omega
    have a2 : ¬ f = 37 := by omega
    rcases ks with rfl | rfl | rfl
    · rw [show (if (1 : Nat) = 4 then g else f) = f from rfl] at w2
      have e1 : ap_one 1 f R r c d = ap_fold f R r c d := by unfold ap_one; rw [if_neg (by omega), if_pos rfl]
      rw [e1] at hP
      simp (disch := omega) only [wpY_applyOne, w1, w2, n1, n2, an_u2, an_e35, an_e37, an_e1, an_e2, an_g30, an_g32, an_g34, an_e34, an_e36, an_e32, an_e30, Nat.reduceEqDiff, Nat.reduceLT, Nat.reduceLeDiff, eq_self, a1, a2, vp_in_nI, nI_clamp, nI_leI, nI_ltI, nI_eq, nI_add, nI_1, pk_mul, an_m36, an_n36, an_b468, forall_eq, true_and, and_true, true_implies, false_implies, not_true, not_false_iff, implies_true, pk_un, pk_us, ap_wrN, ap_wrS]
      exact ay_fold s y1 y2 V H hP
    · rw [show (if (2 : Nat) = 4 then g else f) = f from rfl] at w2
      have e1 : ap_one 2 f R r c d = ap_scan f R r c d := by unfold ap_one; rw [if_neg (by omega), if_neg (by omega), if_pos rfl]
      rw [e1] at hP
      simp (disch := omega) only [wpY_applyOne, w1, w2, n1, n2, an_u2, an_e35, an_e37, an_e1, an_e2, an_g30, an_g32, an_g34, an_e34, an_e36, an_e32, an_e30, Nat.reduceEqDiff, Nat.reduceLT, Nat.reduceLeDiff, eq_self, a1, a2, vp_in_nI, nI_clamp, nI_leI, nI_ltI, nI_eq, nI_add, nI_1, pk_mul, an_m36, an_n36, an_b468, forall_eq, true_and, and_true, true_implies, false_implies, not_true, not_false_iff, implies_true, pk_un, pk_us, ap_wrN, ap_wrS]
      exact ay_scan s y1 y2 V H hP
    · simp (disch := omega) only [wpY_applyOne, w1, w2, n1, n2, an_u2, an_e35, an_e37, an_e1, an_e2, an_g30, an_g32, an_g34, an_e34, an_e36, an_e32, an_e30, Nat.reduceEqDiff, Nat.reduceLT, Nat.reduceLeDiff, eq_self, vp_in_nI, nI_clamp, nI_leI, nI_ltI, nI_eq, nI_add, nI_1, pk_mul, an_m36, an_n36, an_b468, forall_eq, true_and, and_true, true_implies, false_implies, not_true, not_false_iff, implies_true, pk_un, pk_us, ap_wrN, ap_wrS]
      exact ay_Pe (e := -12) (by decide) hP
  · simp (disch := omega) only [wpY_applyOne, w1, w2, n1, n2, an_u2, an_e35, an_e37, an_e1, an_e2, an_g30, an_g32, an_g34, an_e34, an_e36, an_e32, an_e30, Nat.reduceEqDiff, Nat.reduceLT, Nat.reduceLeDiff, eq_self, vp_in_nI, nI_clamp, nI_leI, nI_ltI, nI_eq, nI_add, nI_1, pk_mul, an_m36, an_n36, an_b468, forall_eq, true_and, and_true, true_implies, false_implies, not_true, not_false_iff, implies_true, pk_un, pk_us, ap_wrN, ap_wrS]
    exact ay_Pe (e := -12) (by decide) hP
theorem ay_two {post : SY → Prop} {k f g x y R r c S s t : Nat} {d e : Nat → Int32} (hk : ag_kf k f g) (x1 : 14 ≤ x) (x2 : x < 50) (y1 : 14 ≤ y) (y2 : y < 50)
    (V : ap_VS R r c) (H : ap_Y rk rw wd dt x R r c d) (W : ap_VS S s t) (K : ap_Y rk rw wd dt y S s t e)
    (hP : ay_P post ct lv tx rk rw wd dt wt fi (ap_two R r c d S s t e k f g)) : wpY_applyTwo post (ct, lv, 0, tx, rk, rw, wd, dt, wt, fi) (nI (ag_w k f g)) (nI x) (nI y) := by
  obtain ⟨w1, w2, w3, w4⟩ := ag_w1 hk
  have n1 : ¬ (10000 : Int32) = 0 := by decide
  have n2 : ¬ (100 : Int32) = 0 := by decide
  have H1 := H.1
  rcases hk with ⟨rfl, m | sc⟩ | ⟨ks, sc⟩ | ⟨rfl, sc, sg⟩
  · rw [show (if (0 : Nat) = 4 then g else f) = f from rfl] at w2
    rcases (by omega : f = 30 ∨ f = 31 ∨ f = 32 ∨ f = 33 ∨ f = 34 ∨ f = 35 ∨ f = 36 ∨ f = 37 ∨ f = 38) with rfl | rfl | rfl | rfl | rfl | rfl | rfl | rfl | rfl
    · simp (disch := omega) only [wpY_applyTwo, w1, w2, n1, n2, an_e1, an_e2, an_e32, an_e38, an_e3, an_e4, an_g30, an_g32, an_e33, an_g36, an_e36, an_e34, an_e30, Nat.reduceEqDiff, Nat.reduceLT, Nat.reduceLeDiff, eq_self, vp_in_nI, nI_clamp, nI_leI, nI_ltI, nI_eq, nI_add, nI_1, pk_mul, an_m36, an_n36, an_b468, forall_eq, true_and, and_true, true_implies, false_implies, not_true, not_false_iff, implies_true, pk_un, pk_us, ap_wrN, ap_wrS]
      exact ay_resh x1 x2 y1 y2 V H W K hP
    · simp (disch := omega) only [wpY_applyTwo, w1, w2, n1, n2, an_e1, an_e2, an_e32, an_e38, an_e3, an_e4, an_g30, an_g32, an_e33, an_g36, an_e36, an_e34, an_e30, Nat.reduceEqDiff, Nat.reduceLT, Nat.reduceLeDiff, eq_self, vp_in_nI, nI_clamp, nI_leI, nI_ltI, nI_eq, nI_add, nI_1, pk_mul, an_m36, an_n36, an_b468, forall_eq, true_and, and_true, true_implies, false_implies, not_true, not_false_iff, implies_true, pk_un, pk_us, ap_wrN, ap_wrS]
      exact ay_find x1 x2 y1 y2 V H W K hP
    · simp (disch := omega) only [wpY_applyTwo, w1, w2, n1, n2, an_e1, an_e2, an_e32, an_e38, an_e3, an_e4, an_g30, an_g32, an_e33, an_g36, an_e36, an_e34, an_e30, Nat.reduceEqDiff, Nat.reduceLT, Nat.reduceLeDiff, eq_self, vp_in_nI, nI_clamp, nI_leI, nI_ltI, nI_eq, nI_add, nI_1, pk_mul, an_m36, an_n36, an_b468, forall_eq, true_and, and_true, true_implies, false_implies, not_true, not_false_iff, implies_true, pk_un, pk_us, ap_wrN, ap_wrS]
      exact ay_Pe (e := -12) (by decide) hP
    · simp (disch := omega) only [wpY_applyTwo, w1, w2, n1, n2, an_e1, an_e2, an_e32, an_e38, an_e3, an_e4, an_g30, an_g32, an_e33, an_g36, an_e36, an_e34, an_e30, Nat.reduceEqDiff, Nat.reduceLT, Nat.reduceLeDiff, eq_self, H1, vp_in_nI, nI_clamp, forall_eq, true_and, and_true, true_implies, false_implies, not_true, not_false_iff]
      exact ay_rot x1 x2 y1 y2 V H W K hP
    · simp (disch := omega) only [wpY_applyTwo, w1, w2, n1, n2, an_e1, an_e2, an_e32, an_e38, an_e3, an_e4, an_g30, an_g32, an_e33, an_g36, an_e36, an_e34, an_e30, Nat.reduceEqDiff, Nat.reduceLT, Nat.reduceLeDiff, eq_self, vp_in_nI, nI_clamp, nI_leI, nI_ltI, nI_eq, nI_add, nI_1, pk_mul, an_m36, an_n36, an_b468, forall_eq, true_and, and_true, true_implies, false_implies, not_true, not_false_iff, implies_true, pk_un, pk_us, ap_wrN, ap_wrS]
      exact ay_take x1 x2 y1 y2 V H W K hP
    · simp (disch := omega) only [wpY_applyTwo, w1, w2, n1, n2, an_e1, an_e2, an_e32, an_e38, an_e3, an_e4, an_g30, an_g32, an_e33, an_g36, an_e36, an_e34, an_e30, Nat.reduceEqDiff, Nat.reduceLT, Nat.reduceLeDiff, eq_self, vp_in_nI, nI_clamp, nI_leI, nI_ltI, nI_eq, nI_add, nI_1, pk_mul, an_m36, an_n36, an_b468, forall_eq, true_and, and_true, true_implies, false_implies, not_true, not_false_iff, implies_true, pk_un, pk_us, ap_wrN, ap_wrS]
      exact ay_drop x1 x2 y1 y2 V H W K hP
    · simp (disch := omega) only [wpY_applyTwo, w1, w2, n1, n2, an_e1, an_e2, an_e32, an_e38, an_e3, an_e4, an_g30, an_g32, an_e33, an_g36, an_e36, an_e34, an_e30, Nat.reduceEqDiff, Nat.reduceLT, Nat.reduceLeDiff, eq_self, vp_in_nI, nI_clamp, nI_leI, nI_ltI, nI_eq, nI_add, nI_1, pk_mul, an_m36, an_n36, an_b468, forall_eq, true_and, and_true, true_implies, false_implies, not_true, not_false_iff, implies_true, pk_un, pk_us, ap_wrN, ap_wrS]
      exact ay_join x1 x2 y1 y2 V H W K hP
    · simp (disch := omega) only [wpY_applyTwo, w1, w2, n1, n2, an_e1, an_e2, an_e32, an_e38, an_e3, an_e4, an_g30, an_g32, an_e33, an_g36, an_e36, an_e34, an_e30, Nat.reduceEqDiff, Nat.reduceLT, Nat.reduceLeDiff, eq_self, vp_in_nI, nI_clamp, nI_leI, nI_ltI, nI_eq, nI_add, nI_1, pk_mul, an_m36, an_n36, an_b468, forall_eq, true_and, and_true, true_implies, false_implies, not_true, not_false_iff, implies_true, pk_un, pk_us, ap_wrN, ap_wrS]
      exact ay_pick x1 x2 y1 y2 V H W K hP
    · simp (disch := omega) only [wpY_applyTwo, w1, w2, n1, n2, an_e1, an_e2, an_e32, an_e38, an_e3, an_e4, an_g30, an_g32, an_e33, an_g36, an_e36, an_e34, an_e30, Nat.reduceEqDiff, Nat.reduceLT, Nat.reduceLeDiff, eq_self, vp_in_nI, nI_clamp, nI_leI, nI_ltI, nI_eq, nI_add, nI_1, pk_mul, an_m36, an_n36, an_b468, forall_eq, true_and, and_true, true_implies, false_implies, not_true, not_false_iff, implies_true, pk_un, pk_us, ap_wrN, ap_wrS]
      exact ay_Pe (e := -12) (by decide) hP
  · rw [show (if (0 : Nat) = 4 then g else f) = f from rfl] at w2
    have a1 : ¬ f = 32 := by omega
    have a2 : ¬ f = 38 := by omega
    have a3 : ¬ 30 ≤ f := by omega
    have e1 : ap_two R r c d S s t e 0 f g = ap_s2 R r c d S s t e f := by unfold ap_two; rw [if_neg (by omega), if_neg (by omega), if_neg (by omega), if_pos (by omega)]
    rw [e1] at hP
    simp (disch := omega) only [wpY_applyTwo, w1, w2, n1, n2, an_e1, an_e2, an_e32, an_e38, an_e3, an_e4, an_g30, an_g32, an_e33, an_g36, an_e36, an_e34, an_e30, Nat.reduceEqDiff, Nat.reduceLT, Nat.reduceLeDiff, eq_self, a1, a2, a3, vp_in_nI, nI_clamp, nI_leI, nI_ltI, nI_eq, nI_add, nI_1, pk_mul, an_m36, an_n36, an_b468, forall_eq, true_and, and_true, true_implies, false_implies, not_true, not_false_iff, implies_true, pk_un, pk_us, ap_wrN, ap_wrS]
    exact ay_s2 sc x1 x2 y1 y2 V H W K hP
  · have a1 : ¬ f = 32 := by omega
    have a2 : ¬ f = 38 := by omega
    rcases ks with rfl | rfl | rfl
    · simp (disch := omega) only [wpY_applyTwo, w1, w2, n1, n2, an_e1, an_e2, an_e32, an_e38, an_e3, an_e4, an_g30, an_g32, an_e33, an_g36, an_e36, an_e34, an_e30, Nat.reduceEqDiff, Nat.reduceLT, Nat.reduceLeDiff, eq_self, vp_in_nI, nI_clamp, nI_leI, nI_ltI, nI_eq, nI_add, nI_1, pk_mul, an_m36, an_n36, an_b468, forall_eq, true_and, and_true, true_implies, false_implies, not_true, not_false_iff, implies_true, pk_un, pk_us, ap_wrN, ap_wrS]
      exact ay_Pe (e := -12) (by decide) hP
    · simp (disch := omega) only [wpY_applyTwo, w1, w2, n1, n2, an_e1, an_e2, an_e32, an_e38, an_e3, an_e4, an_g30, an_g32, an_e33, an_g36, an_e36, an_e34, an_e30, Nat.reduceEqDiff, Nat.reduceLT, Nat.reduceLeDiff, eq_self, vp_in_nI, nI_clamp, nI_leI, nI_ltI, nI_eq, nI_add, nI_1, pk_mul, an_m36, an_n36, an_b468, forall_eq, true_and, and_true, true_implies, false_implies, not_true, not_false_iff, implies_true, pk_un, pk_us, ap_wrN, ap_wrS]
      exact ay_Pe (e := -12) (by decide) hP
    · rw [show (if (3 : Nat) = 4 then g else f) = f from rfl] at w2
      have e1 : ap_two R r c d S s t e 3 f g = ap_outer R r c d S s t e f := by unfold ap_two; rw [if_neg (by omega), if_pos rfl]
      rw [e1] at hP
      simp (disch := omega) only [wpY_applyTwo, w1, w2, n1, n2, an_e1, an_e2, an_e32, an_e38, an_e3, an_e4, an_g30, an_g32, an_e33, an_g36, an_e36, an_e34, an_e30, Nat.reduceEqDiff, Nat.reduceLT, Nat.reduceLeDiff, eq_self, a1, a2, vp_in_nI, nI_clamp, nI_leI, nI_ltI, nI_eq, nI_add, nI_1, pk_mul, an_m36, an_n36, an_b468, forall_eq, true_and, and_true, true_implies, false_implies, not_true, not_false_iff, implies_true, pk_un, pk_us, ap_wrN, ap_wrS]
      exact ay_outer sc x1 x2 y1 y2 V H W K hP
  · rw [show (if (4 : Nat) = 4 then g else f) = g from rfl] at w2
    have a1 : ¬ g = 32 := by omega
    have a2 : ¬ g = 38 := by omega
    have w5 := w3 rfl
    have e1 : ap_two R r c d S s t e 4 f g = ap_inner R r c d S s t e f g := by unfold ap_two; rw [if_neg (by omega), if_neg (by omega), if_pos rfl]
    rw [e1] at hP
    simp (disch := omega) only [wpY_applyTwo, w1, w2, n1, n2, an_e1, an_e2, an_e32, an_e38, an_e3, an_e4, an_g30, an_g32, an_e33, an_g36, an_e36, an_e34, an_e30, Nat.reduceEqDiff, Nat.reduceLT, Nat.reduceLeDiff, eq_self, w5, a1, a2, vp_in_nI, nI_clamp, nI_leI, nI_ltI, nI_eq, nI_add, nI_1, pk_mul, an_m36, an_n36, an_b468, forall_eq, true_and, and_true, true_implies, false_implies, not_true, not_false_iff, implies_true, pk_un, pk_us, ap_wrN, ap_wrS]
    exact ay_inner sc sg x1 x2 y1 y2 V H W K hP
end
def ay_R (post : SY → Prop) (y : Nat) (ct lv : Int32) (tx rk rw wd dt wt fi : Nat → Int32) (T : ap_T) : Prop :=
  ∀ rk' rw' wd' dt', ap_K y rk rw wd dt rk' rw' wd' dt' → (T.1 = 0 → ap_Y rk' rw' wd' dt' y T.2.1 T.2.2.1 T.2.2.2.1 T.2.2.2.2) → post (ct, lv, T.1, tx, rk', rw', wd', dt', wt, fi)
theorem an_bt : vp_nar .boolean 1 = 1 := by decide
theorem an_bf : vp_nar .boolean 0 = 0 := by decide
section
variable {ct lv er : Int32} {tx rk rw wd dt wt fi : Nat → Int32}
theorem ay_st0 {post : SY → Prop} {l : Nat} (l15 : l ≤ 15) (hw : wt l = -1) (hp : post (ct, nI l, er, tx, rk, rw, wd, dt, upd wt l (-1), fi)) : wpY_settle post (ct, nI l, er, tx, rk, rw, wd, dt, wt, fi) := by
  have z : (-1 : Int32) < 0 := by decide
  simp (disch := omega) only [wpY_settle, hw, z, vp_in_nI, nI_clamp, nI_leI, nI_ltI, nI_eq, nI_add, nI_1, pk_mul, an_m36, an_n36, an_b468, forall_eq, true_and, and_true, true_implies, false_implies, not_true, not_false_iff, implies_true, pk_un, pk_us, ap_wrN, ap_wrS]
  exact hp
theorem ay_stE {post : SY → Prop} {l : Nat} (l15 : l ≤ 15) (he : er ≠ 0) (hp : post (ct, nI l, er, tx, rk, rw, wd, dt, upd wt l (-1), fi)) : wpY_settle post (ct, nI l, er, tx, rk, rw, wd, dt, wt, fi) := by
  by_cases z : wt l < 0
  · simp (disch := omega) only [wpY_settle, z, vp_in_nI, nI_clamp, nI_leI, nI_ltI, nI_eq, nI_add, nI_1, pk_mul, an_m36, an_n36, an_b468, forall_eq, true_and, and_true, true_implies, false_implies, not_true, not_false_iff, implies_true, pk_un, pk_us, ap_wrN, ap_wrS]
    exact hp
  · simp (disch := omega) only [wpY_settle, z, he, vp_in_nI, nI_clamp, nI_leI, nI_ltI, nI_eq, nI_add, nI_1, pk_mul, an_m36, an_n36, an_b468, forall_eq, true_and, and_true, true_implies, false_implies, not_true, not_false_iff, implies_true, pk_un, pk_us, ap_wrN, ap_wrS]
    exact hp
theorem ay_st1 {post : SY → Prop} {l k f g R r c : Nat} {d : Nat → Int32} (l15 : l ≤ 15) (hk : ag_kf k f g) (hw : wt l = nI (ag_w k f g)) (V : ap_VS R r c) (H : ap_Y rk rw wd dt (14 + l * 2) R r c d)
    (hR : ay_R post (14 + l * 2) ct (nI l) tx rk rw wd dt (upd wt l (-1)) fi (ap_one k f R r c d)) : wpY_settle post (ct, nI l, 0, tx, rk, rw, wd, dt, wt, fi) := by
  have w4 := (ag_w1 hk).2.2.2
  have z : ¬ nI (ag_w k f g) < 0 := nI_pos (by omega)
  have ok := ap_v36 (ap_oneV (k := k) (f := f) (d := d) V)
  simp (disch := omega) only [wpY_settle, wpY_valuePlace, hw, z, an_n2, an_b14, vp_in_nI, nI_clamp, nI_leI, nI_ltI, nI_eq, nI_add, nI_1, pk_mul, an_m36, an_n36, an_b468, forall_eq, true_and, and_true, true_implies, false_implies, not_true, not_false_iff, implies_true, pk_un, pk_us, ap_wrN, ap_wrS]
  refine ay_one hk (by omega) (by omega) V H (fun rk' rw' wd' dt' F Y => ?_)
  simp (disch := omega) only [an_n2, an_b14]
  refine ay_cp (a := 13) (b := 14 + l * 2) (by omega) (by omega) (by omega) ?_
  simp (disch := omega) only [vp_in_nI, nI_clamp, nI_leI, nI_ltI, nI_eq, nI_add, nI_1, pk_mul, an_m36, an_n36, an_b468, forall_eq, true_and, and_true, true_implies, false_implies, not_true, not_false_iff, implies_true, pk_un, pk_us, ap_wrN, ap_wrS]
  refine hR _ _ _ _ (ap_Kt (ap_KF (Or.inl rfl) F) (ap_KF (Or.inr (Nat.le_refl _)) ap_cpF)) (fun z => ap_cpY ok (Y z))
theorem ay_op59 {post : SY → Prop} {l : Nat} (l15 : l ≤ 15) (hp : post (ct, nI l, er, tx, rk, rw, wd, dt, upd wt l (-1), upd fi l 1)) : wY_operand_59 post ct (nI l) er tx rk rw wd dt wt fi := by
  simp (disch := omega) only [wY_operand_59, an_bt, vp_in_nI, nI_clamp, nI_leI, nI_ltI, nI_eq, nI_add, nI_1, pk_mul, an_m36, an_n36, an_b468, forall_eq, true_and, and_true, true_implies, false_implies, not_true, not_false_iff, implies_true, pk_un, pk_us, ap_wrN, ap_wrS]
  exact hp
theorem ay_op0 {post : SY → Prop} {l R r c : Nat} {d : Nat → Int32} (l15 : l ≤ 15) (hf : fi l = 0) (V : ap_VS R r c) (H : ap_Y rk rw wd dt (14 + l * 2 + 1) R r c d)
    (hp : ∀ rk' rw' wd' dt', ap_K (14 + l * 2) rk rw wd dt rk' rw' wd' dt' → ap_Y rk' rw' wd' dt' (14 + l * 2) R r c d → post (ct, nI l, er, tx, rk', rw', wd', dt', upd wt l (-1), upd fi l 1)) : wpY_operand post (ct, nI l, er, tx, rk, rw, wd, dt, wt, fi) := by
  simp (disch := omega) only [wpY_operand, wpY_valuePlace, hf, an_n2, an_b14, vp_in_nI, nI_clamp, nI_leI, nI_ltI, nI_eq, nI_add, nI_1, pk_mul, an_m36, an_n36, an_b468, forall_eq, true_and, and_true, true_implies, false_implies, not_true, not_false_iff, implies_true, pk_un, pk_us, ap_wrN, ap_wrS]
  refine ay_cp (by omega) (by omega) (by omega) (ay_op59 l15 (hp _ _ _ _ (ap_KF (Or.inr (Nat.le_refl _)) ap_cpF) (ap_cpY (ap_v36 V) H)))
theorem ay_opE {post : SY → Prop} {l : Nat} (l15 : l ≤ 15) (he : er ≠ 0)
    (hp : ∀ rk' rw' wd' dt', ap_K (14 + l * 2) rk rw wd dt rk' rw' wd' dt' → post (ct, nI l, er, tx, rk', rw', wd', dt', upd wt l (-1), upd fi l 1)) : wpY_operand post (ct, nI l, er, tx, rk, rw, wd, dt, wt, fi) := by
  by_cases hf : fi l = 0
  · simp (disch := omega) only [wpY_operand, wpY_valuePlace, hf, an_n2, an_b14, vp_in_nI, nI_clamp, nI_leI, nI_ltI, nI_eq, nI_add, nI_1, pk_mul, an_m36, an_n36, an_b468, forall_eq, true_and, and_true, true_implies, false_implies, not_true, not_false_iff, implies_true, pk_un, pk_us, ap_wrN, ap_wrS]
    exact ay_cp (by omega) (by omega) (by omega) (ay_op59 l15 (hp _ _ _ _ (ap_KF (Or.inr (Nat.le_refl _)) ap_cpF)))
  · simp (disch := omega) only [wpY_operand, wpY_valuePlace, hf, he, an_n2, an_b14, vp_in_nI, nI_clamp, nI_leI, nI_ltI, nI_eq, nI_add, nI_1, pk_mul, an_m36, an_n36, an_b468, forall_eq, true_and, and_true, true_implies, false_implies, not_true, not_false_iff, implies_true, pk_un, pk_us, ap_wrN, ap_wrS]
    exact ay_op59 l15 (hp _ _ _ _ (ap_Kr _ _ _ _ _))
theorem ay_op1 {post : SY → Prop} {l k f g R r c S s t : Nat} {d e : Nat → Int32} (l15 : l ≤ 15) (hf : fi l = 1) (hk : ag_kf k f g) (hw : wt l = nI (ag_w k f g))
    (V : ap_VS R r c) (H : ap_Y rk rw wd dt (14 + l * 2 + 1) R r c d) (W : ap_VS S s t) (K : ap_Y rk rw wd dt (14 + l * 2) S s t e)
    (hR : ay_R post (14 + l * 2) ct (nI l) tx rk rw wd dt (upd wt l (-1)) (upd fi l 1) (ap_two R r c d S s t e k f g)) : wpY_operand post (ct, nI l, 0, tx, rk, rw, wd, dt, wt, fi) := by
  have z1 : ¬ (1 : Int32) = 0 := by decide
  have ok := ap_v36 (ap_twoV (k := k) (f := f) (g := g) (d := d) (e := e) V W)
  simp (disch := omega) only [wpY_operand, wpY_valuePlace, hf, hw, z1, an_n2, an_b14, vp_in_nI, nI_clamp, nI_leI, nI_ltI, nI_eq, nI_add, nI_1, pk_mul, an_m36, an_n36, an_b468, forall_eq, true_and, and_true, true_implies, false_implies, not_true, not_false_iff, implies_true, pk_un, pk_us, ap_wrN, ap_wrS]
  refine ay_two hk (by omega) (by omega) (by omega) (by omega) V H W K (fun rk' rw' wd' dt' F Y => ?_)
  dsimp only
  refine ay_cp (a := 13) (by omega) (by omega) (by omega) (ay_op59 l15 ?_)
  exact hR _ _ _ _ (ap_Kt (ap_KF (Or.inl rfl) F) (ap_KF (Or.inr (Nat.le_refl _)) ap_cpF)) (fun z => ap_cpY ok (Y z))
end
