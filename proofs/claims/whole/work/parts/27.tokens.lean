/-! the relation; the text -/
def ar_G (t : Int32) : Prop := t = -1 ∨ ∃ j, ag_tok j ∧ t = nI j
theorem ar_neg {j : Nat} (h : j < 2 ^ 31) : ¬ nI j = -1 := by
  intro e
  have := nI_pos (n := j) h
  rw [e] at this
  exact this (by decide)
theorem ax_maN (post : Int32 → Prop) {j : Nat} (hj : j < 2 ^ 31) : (ag_tok j → wpX_mayAppend post (nI j) = post 1) ∧ (¬ ag_tok j → wpX_mayAppend post (nI j) = post 0) := by
  have hm : ¬ nI j = -1 := ar_neg hj
  have z1 : ¬ (1 : Int32) = 0 := by decide
  rcases (by omega : (0 ≤ j ∧ j ≤ 9) ∨ (10 ≤ j ∧ j ≤ 15) ∨ (16 ≤ j ∧ j ≤ 19) ∨ (20 ≤ j ∧ j ≤ 27) ∨ (28 ≤ j ∧ j ≤ 29) ∨ (30 ≤ j ∧ j ≤ 38) ∨ (39 ≤ j ∧ j ≤ 39) ∨ (40 ≤ j ∧ j ≤ 43) ∨ (44 ≤ j ∧ j ≤ 49) ∨ (50 ≤ j ∧ j ≤ 52) ∨ 53 ≤ j) with h | h | h | h | h | h | h | h | h | h | h
  · have f0 : (j < 0) = False := eq_false (by omega)
    have f1 : (9 < j) = False := eq_false (by omega)
    have f2 : (j < 10) = True := eq_true (by omega)
    have f3 : (15 < j) = False := eq_false (by omega)
    have f4 : (j < 20) = True := eq_true (by omega)
    have f5 : (27 < j) = False := eq_false (by omega)
    have f6 : (j < 30) = True := eq_true (by omega)
    have f7 : (38 < j) = False := eq_false (by omega)
    have f8 : (j < 40) = True := eq_true (by omega)
    have f9 : (j ≤ 43) = True := eq_true (by omega)
    have f10 : (j < 50) = True := eq_true (by omega)
    have f11 : (52 < j) = False := eq_false (by omega)
    have f12 : (j ≤ 15) = True := eq_true (by omega)
    have f13 : (j ≤ 27) = True := eq_true (by omega)
    have f14 : (j ≤ 38) = True := eq_true (by omega)
    refine ⟨fun _ => ?_, fun z => absurd (by unfold ag_tok; omega) z⟩
    simp (disch := omega) only [wpX_mayAppend, wpX_isNumberToken, wpX_isNameToken, wpX_isScalar, wpX_isMixed, wX_mayAppend_45, hm, an_t0, an_u9, an_t10, an_u15, an_t20, an_u27, an_t30, an_u38, an_t40, an_l43, an_t50, an_u52, an_l15, an_l27, an_l38, f0, f1, f2, f3, f4, f5, f6, f7, f8, f9, f10, f11, f12, f13, f14, z1, forall_eq, true_and, and_true, true_implies, false_implies, not_true, not_false_iff, not_false_eq_true]
  · have f0 : (j < 0) = False := eq_false (by omega)
    have f1 : (9 < j) = True := eq_true (by omega)
    have f2 : (j < 10) = False := eq_false (by omega)
    have f3 : (15 < j) = False := eq_false (by omega)
    have f4 : (j < 20) = True := eq_true (by omega)
    have f5 : (27 < j) = False := eq_false (by omega)
    have f6 : (j < 30) = True := eq_true (by omega)
    have f7 : (38 < j) = False := eq_false (by omega)
    have f8 : (j < 40) = True := eq_true (by omega)
    have f9 : (j ≤ 43) = True := eq_true (by omega)
    have f10 : (j < 50) = True := eq_true (by omega)
    have f11 : (52 < j) = False := eq_false (by omega)
    have f12 : (j ≤ 15) = True := eq_true (by omega)
    have f13 : (j ≤ 27) = True := eq_true (by omega)
    have f14 : (j ≤ 38) = True := eq_true (by omega)
    refine ⟨fun _ => ?_, fun z => absurd (by unfold ag_tok; omega) z⟩
    simp (disch := omega) only [wpX_mayAppend, wpX_isNumberToken, wpX_isNameToken, wpX_isScalar, wpX_isMixed, wX_mayAppend_45, hm, an_t0, an_u9, an_t10, an_u15, an_t20, an_u27, an_t30, an_u38, an_t40, an_l43, an_t50, an_u52, an_l15, an_l27, an_l38, f0, f1, f2, f3, f4, f5, f6, f7, f8, f9, f10, f11, f12, f13, f14, z1, forall_eq, true_and, and_true, true_implies, false_implies, not_true, not_false_iff, not_false_eq_true]
  · have f0 : (j < 0) = False := eq_false (by omega)
    have f1 : (9 < j) = True := eq_true (by omega)
    have f2 : (j < 10) = False := eq_false (by omega)
    have f3 : (15 < j) = True := eq_true (by omega)
    have f4 : (j < 20) = True := eq_true (by omega)
    have f5 : (27 < j) = False := eq_false (by omega)
    have f6 : (j < 30) = True := eq_true (by omega)
    have f7 : (38 < j) = False := eq_false (by omega)
    have f8 : (j < 40) = True := eq_true (by omega)
    have f9 : (j ≤ 43) = True := eq_true (by omega)
    have f10 : (j < 50) = True := eq_true (by omega)
    have f11 : (52 < j) = False := eq_false (by omega)
    have f12 : (j ≤ 15) = False := eq_false (by omega)
    have f13 : (j ≤ 27) = True := eq_true (by omega)
    have f14 : (j ≤ 38) = True := eq_true (by omega)
    refine ⟨fun z => absurd z (by unfold ag_tok; omega), fun _ => ?_⟩
    simp (disch := omega) only [wpX_mayAppend, wpX_isNumberToken, wpX_isNameToken, wpX_isScalar, wpX_isMixed, wX_mayAppend_45, hm, an_t0, an_u9, an_t10, an_u15, an_t20, an_u27, an_t30, an_u38, an_t40, an_l43, an_t50, an_u52, an_l15, an_l27, an_l38, f0, f1, f2, f3, f4, f5, f6, f7, f8, f9, f10, f11, f12, f13, f14, z1, forall_eq, true_and, and_true, true_implies, false_implies, not_true, not_false_iff, not_false_eq_true]
  · have f0 : (j < 0) = False := eq_false (by omega)
    have f1 : (9 < j) = True := eq_true (by omega)
    have f2 : (j < 10) = False := eq_false (by omega)
    have f3 : (15 < j) = True := eq_true (by omega)
    have f4 : (j < 20) = False := eq_false (by omega)
    have f5 : (27 < j) = False := eq_false (by omega)
    have f6 : (j < 30) = True := eq_true (by omega)
    have f7 : (38 < j) = False := eq_false (by omega)
    have f8 : (j < 40) = True := eq_true (by omega)
    have f9 : (j ≤ 43) = True := eq_true (by omega)
    have f10 : (j < 50) = True := eq_true (by omega)
    have f11 : (52 < j) = False := eq_false (by omega)
    have f12 : (j ≤ 15) = False := eq_false (by omega)
    have f13 : (j ≤ 27) = True := eq_true (by omega)
    have f14 : (j ≤ 38) = True := eq_true (by omega)
    refine ⟨fun _ => ?_, fun z => absurd (by unfold ag_tok; omega) z⟩
    simp (disch := omega) only [wpX_mayAppend, wpX_isNumberToken, wpX_isNameToken, wpX_isScalar, wpX_isMixed, wX_mayAppend_45, hm, an_t0, an_u9, an_t10, an_u15, an_t20, an_u27, an_t30, an_u38, an_t40, an_l43, an_t50, an_u52, an_l15, an_l27, an_l38, f0, f1, f2, f3, f4, f5, f6, f7, f8, f9, f10, f11, f12, f13, f14, z1, forall_eq, true_and, and_true, true_implies, false_implies, not_true, not_false_iff, not_false_eq_true]
  · have f0 : (j < 0) = False := eq_false (by omega)
    have f1 : (9 < j) = True := eq_true (by omega)
    have f2 : (j < 10) = False := eq_false (by omega)
    have f3 : (15 < j) = True := eq_true (by omega)
    have f4 : (j < 20) = False := eq_false (by omega)
    have f5 : (27 < j) = True := eq_true (by omega)
    have f6 : (j < 30) = True := eq_true (by omega)
    have f7 : (38 < j) = False := eq_false (by omega)
    have f8 : (j < 40) = True := eq_true (by omega)
    have f9 : (j ≤ 43) = True := eq_true (by omega)
    have f10 : (j < 50) = True := eq_true (by omega)
    have f11 : (52 < j) = False := eq_false (by omega)
    have f12 : (j ≤ 15) = False := eq_false (by omega)
    have f13 : (j ≤ 27) = False := eq_false (by omega)
    have f14 : (j ≤ 38) = True := eq_true (by omega)
    refine ⟨fun z => absurd z (by unfold ag_tok; omega), fun _ => ?_⟩
    simp (disch := omega) only [wpX_mayAppend, wpX_isNumberToken, wpX_isNameToken, wpX_isScalar, wpX_isMixed, wX_mayAppend_45, hm, an_t0, an_u9, an_t10, an_u15, an_t20, an_u27, an_t30, an_u38, an_t40, an_l43, an_t50, an_u52, an_l15, an_l27, an_l38, f0, f1, f2, f3, f4, f5, f6, f7, f8, f9, f10, f11, f12, f13, f14, z1, forall_eq, true_and, and_true, true_implies, false_implies, not_true, not_false_iff, not_false_eq_true]
  · have f0 : (j < 0) = False := eq_false (by omega)
    have f1 : (9 < j) = True := eq_true (by omega)
    have f2 : (j < 10) = False := eq_false (by omega)
    have f3 : (15 < j) = True := eq_true (by omega)
    have f4 : (j < 20) = False := eq_false (by omega)
    have f5 : (27 < j) = True := eq_true (by omega)
    have f6 : (j < 30) = False := eq_false (by omega)
    have f7 : (38 < j) = False := eq_false (by omega)
    have f8 : (j < 40) = True := eq_true (by omega)
    have f9 : (j ≤ 43) = True := eq_true (by omega)
    have f10 : (j < 50) = True := eq_true (by omega)
    have f11 : (52 < j) = False := eq_false (by omega)
    have f12 : (j ≤ 15) = False := eq_false (by omega)
    have f13 : (j ≤ 27) = False := eq_false (by omega)
    have f14 : (j ≤ 38) = True := eq_true (by omega)
    refine ⟨fun _ => ?_, fun z => absurd (by unfold ag_tok; omega) z⟩
    simp (disch := omega) only [wpX_mayAppend, wpX_isNumberToken, wpX_isNameToken, wpX_isScalar, wpX_isMixed, wX_mayAppend_45, hm, an_t0, an_u9, an_t10, an_u15, an_t20, an_u27, an_t30, an_u38, an_t40, an_l43, an_t50, an_u52, an_l15, an_l27, an_l38, f0, f1, f2, f3, f4, f5, f6, f7, f8, f9, f10, f11, f12, f13, f14, z1, forall_eq, true_and, and_true, true_implies, false_implies, not_true, not_false_iff, not_false_eq_true]
  · have f0 : (j < 0) = False := eq_false (by omega)
    have f1 : (9 < j) = True := eq_true (by omega)
    have f2 : (j < 10) = False := eq_false (by omega)
    have f3 : (15 < j) = True := eq_true (by omega)
    have f4 : (j < 20) = False := eq_false (by omega)
    have f5 : (27 < j) = True := eq_true (by omega)
    have f6 : (j < 30) = False := eq_false (by omega)
    have f7 : (38 < j) = True := eq_true (by omega)
    have f8 : (j < 40) = True := eq_true (by omega)
    have f9 : (j ≤ 43) = True := eq_true (by omega)
    have f10 : (j < 50) = True := eq_true (by omega)
    have f11 : (52 < j) = False := eq_false (by omega)
    have f12 : (j ≤ 15) = False := eq_false (by omega)
    have f13 : (j ≤ 27) = False := eq_false (by omega)
    have f14 : (j ≤ 38) = False := eq_false (by omega)
    refine ⟨fun z => absurd z (by unfold ag_tok; omega), fun _ => ?_⟩
    simp (disch := omega) only [wpX_mayAppend, wpX_isNumberToken, wpX_isNameToken, wpX_isScalar, wpX_isMixed, wX_mayAppend_45, hm, an_t0, an_u9, an_t10, an_u15, an_t20, an_u27, an_t30, an_u38, an_t40, an_l43, an_t50, an_u52, an_l15, an_l27, an_l38, f0, f1, f2, f3, f4, f5, f6, f7, f8, f9, f10, f11, f12, f13, f14, z1, forall_eq, true_and, and_true, true_implies, false_implies, not_true, not_false_iff, not_false_eq_true]
  · have f0 : (j < 0) = False := eq_false (by omega)
    have f1 : (9 < j) = True := eq_true (by omega)
    have f2 : (j < 10) = False := eq_false (by omega)
    have f3 : (15 < j) = True := eq_true (by omega)
    have f4 : (j < 20) = False := eq_false (by omega)
    have f5 : (27 < j) = True := eq_true (by omega)
    have f6 : (j < 30) = False := eq_false (by omega)
    have f7 : (38 < j) = True := eq_true (by omega)
    have f8 : (j < 40) = False := eq_false (by omega)
    have f9 : (j ≤ 43) = True := eq_true (by omega)
    have f10 : (j < 50) = True := eq_true (by omega)
    have f11 : (52 < j) = False := eq_false (by omega)
    have f12 : (j ≤ 15) = False := eq_false (by omega)
    have f13 : (j ≤ 27) = False := eq_false (by omega)
    have f14 : (j ≤ 38) = False := eq_false (by omega)
    refine ⟨fun _ => ?_, fun z => absurd (by unfold ag_tok; omega) z⟩
    simp (disch := omega) only [wpX_mayAppend, wpX_isNumberToken, wpX_isNameToken, wpX_isScalar, wpX_isMixed, wX_mayAppend_45, hm, an_t0, an_u9, an_t10, an_u15, an_t20, an_u27, an_t30, an_u38, an_t40, an_l43, an_t50, an_u52, an_l15, an_l27, an_l38, f0, f1, f2, f3, f4, f5, f6, f7, f8, f9, f10, f11, f12, f13, f14, z1, forall_eq, true_and, and_true, true_implies, false_implies, not_true, not_false_iff, not_false_eq_true]
  · have f0 : (j < 0) = False := eq_false (by omega)
    have f1 : (9 < j) = True := eq_true (by omega)
    have f2 : (j < 10) = False := eq_false (by omega)
    have f3 : (15 < j) = True := eq_true (by omega)
    have f4 : (j < 20) = False := eq_false (by omega)
    have f5 : (27 < j) = True := eq_true (by omega)
    have f6 : (j < 30) = False := eq_false (by omega)
    have f7 : (38 < j) = True := eq_true (by omega)
    have f8 : (j < 40) = False := eq_false (by omega)
    have f9 : (j ≤ 43) = False := eq_false (by omega)
    have f10 : (j < 50) = True := eq_true (by omega)
    have f11 : (52 < j) = False := eq_false (by omega)
    have f12 : (j ≤ 15) = False := eq_false (by omega)
    have f13 : (j ≤ 27) = False := eq_false (by omega)
    have f14 : (j ≤ 38) = False := eq_false (by omega)
    refine ⟨fun z => absurd z (by unfold ag_tok; omega), fun _ => ?_⟩
    simp (disch := omega) only [wpX_mayAppend, wpX_isNumberToken, wpX_isNameToken, wpX_isScalar, wpX_isMixed, wX_mayAppend_45, hm, an_t0, an_u9, an_t10, an_u15, an_t20, an_u27, an_t30, an_u38, an_t40, an_l43, an_t50, an_u52, an_l15, an_l27, an_l38, f0, f1, f2, f3, f4, f5, f6, f7, f8, f9, f10, f11, f12, f13, f14, z1, forall_eq, true_and, and_true, true_implies, false_implies, not_true, not_false_iff, not_false_eq_true]
  · have f0 : (j < 0) = False := eq_false (by omega)
    have f1 : (9 < j) = True := eq_true (by omega)
    have f2 : (j < 10) = False := eq_false (by omega)
    have f3 : (15 < j) = True := eq_true (by omega)
    have f4 : (j < 20) = False := eq_false (by omega)
    have f5 : (27 < j) = True := eq_true (by omega)
    have f6 : (j < 30) = False := eq_false (by omega)
    have f7 : (38 < j) = True := eq_true (by omega)
    have f8 : (j < 40) = False := eq_false (by omega)
    have f9 : (j ≤ 43) = False := eq_false (by omega)
    have f10 : (j < 50) = False := eq_false (by omega)
    have f11 : (52 < j) = False := eq_false (by omega)
    have f12 : (j ≤ 15) = False := eq_false (by omega)
    have f13 : (j ≤ 27) = False := eq_false (by omega)
    have f14 : (j ≤ 38) = False := eq_false (by omega)
    refine ⟨fun _ => ?_, fun z => absurd (by unfold ag_tok; omega) z⟩
    simp (disch := omega) only [wpX_mayAppend, wpX_isNumberToken, wpX_isNameToken, wpX_isScalar, wpX_isMixed, wX_mayAppend_45, hm, an_t0, an_u9, an_t10, an_u15, an_t20, an_u27, an_t30, an_u38, an_t40, an_l43, an_t50, an_u52, an_l15, an_l27, an_l38, f0, f1, f2, f3, f4, f5, f6, f7, f8, f9, f10, f11, f12, f13, f14, z1, forall_eq, true_and, and_true, true_implies, false_implies, not_true, not_false_iff, not_false_eq_true]
  · have f0 : (j < 0) = False := eq_false (by omega)
    have f1 : (9 < j) = True := eq_true (by omega)
    have f2 : (j < 10) = False := eq_false (by omega)
    have f3 : (15 < j) = True := eq_true (by omega)
    have f4 : (j < 20) = False := eq_false (by omega)
    have f5 : (27 < j) = True := eq_true (by omega)
    have f6 : (j < 30) = False := eq_false (by omega)
    have f7 : (38 < j) = True := eq_true (by omega)
    have f8 : (j < 40) = False := eq_false (by omega)
    have f9 : (j ≤ 43) = False := eq_false (by omega)
    have f10 : (j < 50) = False := eq_false (by omega)
    have f11 : (52 < j) = True := eq_true (by omega)
    have f12 : (j ≤ 15) = False := eq_false (by omega)
    have f13 : (j ≤ 27) = False := eq_false (by omega)
    have f14 : (j ≤ 38) = False := eq_false (by omega)
    refine ⟨fun z => absurd z (by unfold ag_tok; omega), fun _ => ?_⟩
    simp (disch := omega) only [wpX_mayAppend, wpX_isNumberToken, wpX_isNameToken, wpX_isScalar, wpX_isMixed, wX_mayAppend_45, hm, an_t0, an_u9, an_t10, an_u15, an_t20, an_u27, an_t30, an_u38, an_t40, an_l43, an_t50, an_u52, an_l15, an_l27, an_l38, f0, f1, f2, f3, f4, f5, f6, f7, f8, f9, f10, f11, f12, f13, f14, z1, forall_eq, true_and, and_true, true_implies, false_implies, not_true, not_false_iff, not_false_eq_true]
theorem ax_maM (post : Int32 → Prop) {t : Int32} (h : t < 0) (hm : ¬ t = -1) : wpX_mayAppend post t = post 0 := by
  have l10 : t < 10 := Int32.lt_trans h (by decide)
  have l20 : t < 20 := Int32.lt_trans h (by decide)
  have l30 : t < 30 := Int32.lt_trans h (by decide)
  have l40 : t < 40 := Int32.lt_trans h (by decide)
  have l50 : t < 50 := Int32.lt_trans h (by decide)
  simp only [wpX_mayAppend, wpX_isNumberToken, wpX_isNameToken, wpX_isScalar, wpX_isMixed, wX_mayAppend_45, hm, h, l10, l20, l30, l40, l50, forall_eq, true_and, and_true, true_implies, false_implies, not_true, not_false_iff]
theorem ax_ma1 (post : Int32 → Prop) {j : Nat} (h : ag_tok j) : wpX_mayAppend post (nI j) = post 1 := (ax_maN post (by have := ag_tk h; omega)).1 h
theorem ax_ma0 (post : Int32 → Prop) {t : Int32} (h : ¬ ar_G t) : wpX_mayAppend post t = post 0 := by
  by_cases n : t < 0
  · exact ax_maM post n (fun z => h (Or.inl z))
  · obtain ⟨j, hj, rfl⟩ := nI_of n
    exact (ax_maN post hj).2 (fun z => h (Or.inr ⟨j, z, rfl⟩))
section
variable {ct lv er : Int32} {tx rk rw wd dt wt fi : Nat → Int32}
theorem ay_itN (post : Int32 → Prop) {j : Nat} (hj : j < 2 ^ 31) : (ag_tok j → wpY_isToken post (ct, lv, er, tx, rk, rw, wd, dt, wt, fi) (nI j) = post 1) ∧ (¬ ag_tok j → wpY_isToken post (ct, lv, er, tx, rk, rw, wd, dt, wt, fi) (nI j) = post 0) := by
  have hm : ¬ nI j = -1 := ar_neg hj
  have z1 : ¬ (1 : Int32) = 0 := by decide
  rcases (by omega : (0 ≤ j ∧ j ≤ 9) ∨ (10 ≤ j ∧ j ≤ 15) ∨ (16 ≤ j ∧ j ≤ 19) ∨ (20 ≤ j ∧ j ≤ 27) ∨ (28 ≤ j ∧ j ≤ 29) ∨ (30 ≤ j ∧ j ≤ 38) ∨ (39 ≤ j ∧ j ≤ 39) ∨ (40 ≤ j ∧ j ≤ 43) ∨ (44 ≤ j ∧ j ≤ 49) ∨ (50 ≤ j ∧ j ≤ 52) ∨ 53 ≤ j) with h | h | h | h | h | h | h | h | h | h | h
  · have f0 : (j < 0) = False := eq_false (by omega)
    have f1 : (9 < j) = False := eq_false (by omega)
    have f2 : (j < 10) = True := eq_true (by omega)
    have f3 : (15 < j) = False := eq_false (by omega)
    have f4 : (j < 20) = True := eq_true (by omega)
    have f5 : (27 < j) = False := eq_false (by omega)
    have f6 : (j < 30) = True := eq_true (by omega)
    have f7 : (38 < j) = False := eq_false (by omega)
    have f8 : (j < 40) = True := eq_true (by omega)
    have f9 : (j ≤ 43) = True := eq_true (by omega)
    have f10 : (j < 50) = True := eq_true (by omega)
    have f11 : (52 < j) = False := eq_false (by omega)
    have f12 : (j ≤ 15) = True := eq_true (by omega)
    have f13 : (j ≤ 27) = True := eq_true (by omega)
    have f14 : (j ≤ 38) = True := eq_true (by omega)
    refine ⟨fun _ => ?_, fun z => absurd (by unfold ag_tok; omega) z⟩
    simp (disch := omega) only [wpY_isToken, wY_isToken_10, wY_isToken_22, wY_isToken_34, wY_isToken_46, an_t0, an_u9, an_t10, an_u15, an_t20, an_u27, an_t30, an_u38, an_t40, an_l43, an_t50, an_u52, an_l15, an_l27, an_l38, f0, f1, f2, f3, f4, f5, f6, f7, f8, f9, f10, f11, f12, f13, f14, z1, forall_eq, true_and, and_true, true_implies, false_implies, not_true, not_false_iff, not_false_eq_true]
  · have f0 : (j < 0) = False := eq_false (by omega)
    have f1 : (9 < j) = True := eq_true (by omega)
    have f2 : (j < 10) = False := eq_false (by omega)
    have f3 : (15 < j) = False := eq_false (by omega)
    have f4 : (j < 20) = True := eq_true (by omega)
    have f5 : (27 < j) = False := eq_false (by omega)
    have f6 : (j < 30) = True := eq_true (by omega)
    have f7 : (38 < j) = False := eq_false (by omega)
    have f8 : (j < 40) = True := eq_true (by omega)
    have f9 : (j ≤ 43) = True := eq_true (by omega)
    have f10 : (j < 50) = True := eq_true (by omega)
    have f11 : (52 < j) = False := eq_false (by omega)
    have f12 : (j ≤ 15) = True := eq_true (by omega)
    have f13 : (j ≤ 27) = True := eq_true (by omega)
    have f14 : (j ≤ 38) = True := eq_true (by omega)
    refine ⟨fun _ => ?_, fun z => absurd (by unfold ag_tok; omega) z⟩
    simp (disch := omega) only [wpY_isToken, wY_isToken_10, wY_isToken_22, wY_isToken_34, wY_isToken_46, an_t0, an_u9, an_t10, an_u15, an_t20, an_u27, an_t30, an_u38, an_t40, an_l43, an_t50, an_u52, an_l15, an_l27, an_l38, f0, f1, f2, f3, f4, f5, f6, f7, f8, f9, f10, f11, f12, f13, f14, z1, forall_eq, true_and, and_true, true_implies, false_implies, not_true, not_false_iff, not_false_eq_true]
  · have f0 : (j < 0) = False := eq_false (by omega)
    have f1 : (9 < j) = True := eq_true (by omega)
    have f2 : (j < 10) = False := eq_false (by omega)
    have f3 : (15 < j) = True := eq_true (by omega)
    have f4 : (j < 20) = True := eq_true (by omega)
    have f5 : (27 < j) = False := eq_false (by omega)
    have f6 : (j < 30) = True := eq_true (by omega)
    have f7 : (38 < j) = False := eq_false (by omega)
    have f8 : (j < 40) = True := eq_true (by omega)
    have f9 : (j ≤ 43) = True := eq_true (by omega)
    have f10 : (j < 50) = True := eq_true (by omega)
    have f11 : (52 < j) = False := eq_false (by omega)
    have f12 : (j ≤ 15) = False := eq_false (by omega)
    have f13 : (j ≤ 27) = True := eq_true (by omega)
    have f14 : (j ≤ 38) = True := eq_true (by omega)
    refine ⟨fun z => absurd z (by unfold ag_tok; omega), fun _ => ?_⟩
    simp (disch := omega) only [wpY_isToken, wY_isToken_10, wY_isToken_22, wY_isToken_34, wY_isToken_46, an_t0, an_u9, an_t10, an_u15, an_t20, an_u27, an_t30, an_u38, an_t40, an_l43, an_t50, an_u52, an_l15, an_l27, an_l38, f0, f1, f2, f3, f4, f5, f6, f7, f8, f9, f10, f11, f12, f13, f14, z1, forall_eq, true_and, and_true, true_implies, false_implies, not_true, not_false_iff, not_false_eq_true]
  · have f0 : (j < 0) = False := eq_false (by omega)
    have f1 : (9 < j) = True := eq_true (by omega)
    have f2 : (j < 10) = False := eq_false (by omega)
    have f3 : (15 < j) = True := eq_true (by omega)
    have f4 : (j < 20) = False := eq_false (by omega)
    have f5 : (27 < j) = False := eq_false (by omega)
    have f6 : (j < 30) = True := eq_true (by omega)
    have f7 : (38 < j) = False := eq_false (by omega)
    have f8 : (j < 40) = True := eq_true (by omega)
    have f9 : (j ≤ 43) = True := eq_true (by omega)
    have f10 : (j < 50) = True := eq_true (by omega)
    have f11 : (52 < j) = False := eq_false (by omega)
    have f12 : (j ≤ 15) = False := eq_false (by omega)
    have f13 : (j ≤ 27) = True := eq_true (by omega)
    have f14 : (j ≤ 38) = True := eq_true (by omega)
    refine ⟨fun _ => ?_, fun z => absurd (by unfold ag_tok; omega) z⟩
    simp (disch := omega) only [wpY_isToken, wY_isToken_10, wY_isToken_22, wY_isToken_34, wY_isToken_46, an_t0, an_u9, an_t10, an_u15, an_t20, an_u27, an_t30, an_u38, an_t40, an_l43, an_t50, an_u52, an_l15, an_l27, an_l38, f0, f1, f2, f3, f4, f5, f6, f7, f8, f9, f10, f11, f12, f13, f14, z1, forall_eq, true_and, and_true, true_implies, false_implies, not_true, not_false_iff, not_false_eq_true]
  · have f0 : (j < 0) = False := eq_false (by omega)
    have f1 : (9 < j) = True := eq_true (by omega)
    have f2 : (j < 10) = False := eq_false (by omega)
    have f3 : (15 < j) = True := eq_true (by omega)
    have f4 : (j < 20) = False := eq_false (by omega)
    have f5 : (27 < j) = True := eq_true (by omega)
    have f6 : (j < 30) = True := eq_true (by omega)
    have f7 : (38 < j) = False := eq_false (by omega)
    have f8 : (j < 40) = True := eq_true (by omega)
    have f9 : (j ≤ 43) = True := eq_true (by omega)
    have f10 : (j < 50) = True := eq_true (by omega)
    have f11 : (52 < j) = False := eq_false (by omega)
    have f12 : (j ≤ 15) = False := eq_false (by omega)
    have f13 : (j ≤ 27) = False := eq_false (by omega)
    have f14 : (j ≤ 38) = True := eq_true (by omega)
    refine ⟨fun z => absurd z (by unfold ag_tok; omega), fun _ => ?_⟩
    simp (disch := omega) only [wpY_isToken, wY_isToken_10, wY_isToken_22, wY_isToken_34, wY_isToken_46, an_t0, an_u9, an_t10, an_u15, an_t20, an_u27, an_t30, an_u38, an_t40, an_l43, an_t50, an_u52, an_l15, an_l27, an_l38, f0, f1, f2, f3, f4, f5, f6, f7, f8, f9, f10, f11, f12, f13, f14, z1, forall_eq, true_and, and_true, true_implies, false_implies, not_true, not_false_iff, not_false_eq_true]
  · have f0 : (j < 0) = False := eq_false (by omega)
    have f1 : (9 < j) = True := eq_true (by omega)
    have f2 : (j < 10) = False := eq_false (by omega)
    have f3 : (15 < j) = True := eq_true (by omega)
    have f4 : (j < 20) = False := eq_false (by omega)
    have f5 : (27 < j) = True := eq_true (by omega)
    have f6 : (j < 30) = False := eq_false (by omega)
    have f7 : (38 < j) = False := eq_false (by omega)
    have f8 : (j < 40) = True := eq_true (by omega)
    have f9 : (j ≤ 43) = True := eq_true (by omega)
    have f10 : (j < 50) = True := eq_true (by omega)
    have f11 : (52 < j) = False := eq_false (by omega)
    have f12 : (j ≤ 15) = False := eq_false (by omega)
    have f13 : (j ≤ 27) = False := eq_false (by omega)
    have f14 : (j ≤ 38) = True := eq_true (by omega)
    refine ⟨fun _ => ?_, fun z => absurd (by unfold ag_tok; omega) z⟩
    simp (disch := omega) only [wpY_isToken, wY_isToken_10, wY_isToken_22, wY_isToken_34, wY_isToken_46, an_t0, an_u9, an_t10, an_u15, an_t20, an_u27, an_t30, an_u38, an_t40, an_l43, an_t50, an_u52, an_l15, an_l27, an_l38, f0, f1, f2, f3, f4, f5, f6, f7, f8, f9, f10, f11, f12, f13, f14, z1, forall_eq, true_and, and_true, true_implies, false_implies, not_true, not_false_iff, not_false_eq_true]
  · have f0 : (j < 0) = False := eq_false (by omega)
    have f1 : (9 < j) = True := eq_true (by omega)
    have f2 : (j < 10) = False := eq_false (by omega)
    have f3 : (15 < j) = True := eq_true (by omega)
    have f4 : (j < 20) = False := eq_false (by omega)
    have f5 : (27 < j) = True := eq_true (by omega)
    have f6 : (j < 30) = False := eq_false (by omega)
    have f7 : (38 < j) = True := eq_true (by omega)
    have f8 : (j < 40) = True := eq_true (by omega)
    have f9 : (j ≤ 43) = True := eq_true (by omega)
    have f10 : (j < 50) = True := eq_true (by omega)
    have f11 : (52 < j) = False := eq_false (by omega)
    have f12 : (j ≤ 15) = False := eq_false (by omega)
    have f13 : (j ≤ 27) = False := eq_false (by omega)
    have f14 : (j ≤ 38) = False := eq_false (by omega)
    refine ⟨fun z => absurd z (by unfold ag_tok; omega), fun _ => ?_⟩
    simp (disch := omega) only [wpY_isToken, wY_isToken_10, wY_isToken_22, wY_isToken_34, wY_isToken_46, an_t0, an_u9, an_t10, an_u15, an_t20, an_u27, an_t30, an_u38, an_t40, an_l43, an_t50, an_u52, an_l15, an_l27, an_l38, f0, f1, f2, f3, f4, f5, f6, f7, f8, f9, f10, f11, f12, f13, f14, z1, forall_eq, true_and, and_true, true_implies, false_implies, not_true, not_false_iff, not_false_eq_true]
  · have f0 : (j < 0) = False := eq_false (by omega)
    have f1 : (9 < j) = True := eq_true (by omega)
    have f2 : (j < 10) = False := eq_false (by omega)
    have f3 : (15 < j) = True := eq_true (by omega)
    have f4 : (j < 20) = False := eq_false (by omega)
    have f5 : (27 < j) = True := eq_true (by omega)
    have f6 : (j < 30) = False := eq_false (by omega)
    have f7 : (38 < j) = True := eq_true (by omega)
    have f8 : (j < 40) = False := eq_false (by omega)
    have f9 : (j ≤ 43) = True := eq_true (by omega)
    have f10 : (j < 50) = True := eq_true (by omega)
    have f11 : (52 < j) = False := eq_false (by omega)
    have f12 : (j ≤ 15) = False := eq_false (by omega)
    have f13 : (j ≤ 27) = False := eq_false (by omega)
    have f14 : (j ≤ 38) = False := eq_false (by omega)
    refine ⟨fun _ => ?_, fun z => absurd (by unfold ag_tok; omega) z⟩
    simp (disch := omega) only [wpY_isToken, wY_isToken_10, wY_isToken_22, wY_isToken_34, wY_isToken_46, an_t0, an_u9, an_t10, an_u15, an_t20, an_u27, an_t30, an_u38, an_t40, an_l43, an_t50, an_u52, an_l15, an_l27, an_l38, f0, f1, f2, f3, f4, f5, f6, f7, f8, f9, f10, f11, f12, f13, f14, z1, forall_eq, true_and, and_true, true_implies, false_implies, not_true, not_false_iff, not_false_eq_true]
  · have f0 : (j < 0) = False := eq_false (by omega)
    have f1 : (9 < j) = True := eq_true (by omega)
    have f2 : (j < 10) = False := eq_false (by omega)
    have f3 : (15 < j) = True := eq_true (by omega)
    have f4 : (j < 20) = False := eq_false (by omega)
    have f5 : (27 < j) = True := eq_true (by omega)
    have f6 : (j < 30) = False := eq_false (by omega)
    have f7 : (38 < j) = True := eq_true (by omega)
    have f8 : (j < 40) = False := eq_false (by omega)
    have f9 : (j ≤ 43) = False := eq_false (by omega)
    have f10 : (j < 50) = True := eq_true (by omega)
    have f11 : (52 < j) = False := eq_false (by omega)
    have f12 : (j ≤ 15) = False := eq_false (by omega)
    have f13 : (j ≤ 27) = False := eq_false (by omega)
    have f14 : (j ≤ 38) = False := eq_false (by omega)
    refine ⟨fun z => absurd z (by unfold ag_tok; omega), fun _ => ?_⟩
    simp (disch := omega) only [wpY_isToken, wY_isToken_10, wY_isToken_22, wY_isToken_34, wY_isToken_46, an_t0, an_u9, an_t10, an_u15, an_t20, an_u27, an_t30, an_u38, an_t40, an_l43, an_t50, an_u52, an_l15, an_l27, an_l38, f0, f1, f2, f3, f4, f5, f6, f7, f8, f9, f10, f11, f12, f13, f14, z1, forall_eq, true_and, and_true, true_implies, false_implies, not_true, not_false_iff, not_false_eq_true]
  · have f0 : (j < 0) = False := eq_false (by omega)
    have f1 : (9 < j) = True := eq_true (by omega)
    have f2 : (j < 10) = False := eq_false (by omega)
    have f3 : (15 < j) = True := eq_true (by omega)
    have f4 : (j < 20) = False := eq_false (by omega)
    have f5 : (27 < j) = True := eq_true (by omega)
    have f6 : (j < 30) = False := eq_false (by omega)
    have f7 : (38 < j) = True := eq_true (by omega)
    have f8 : (j < 40) = False := eq_false (by omega)
    have f9 : (j ≤ 43) = False := eq_false (by omega)
    have f10 : (j < 50) = False := eq_false (by omega)
    have f11 : (52 < j) = False := eq_false (by omega)
    have f12 : (j ≤ 15) = False := eq_false (by omega)
    have f13 : (j ≤ 27) = False := eq_false (by omega)
    have f14 : (j ≤ 38) = False := eq_false (by omega)
    refine ⟨fun _ => ?_, fun z => absurd (by unfold ag_tok; omega) z⟩
    simp (disch := omega) only [wpY_isToken, wY_isToken_10, wY_isToken_22, wY_isToken_34, wY_isToken_46, an_t0, an_u9, an_t10, an_u15, an_t20, an_u27, an_t30, an_u38, an_t40, an_l43, an_t50, an_u52, an_l15, an_l27, an_l38, f0, f1, f2, f3, f4, f5, f6, f7, f8, f9, f10, f11, f12, f13, f14, z1, forall_eq, true_and, and_true, true_implies, false_implies, not_true, not_false_iff, not_false_eq_true]
  · have f0 : (j < 0) = False := eq_false (by omega)
    have f1 : (9 < j) = True := eq_true (by omega)
    have f2 : (j < 10) = False := eq_false (by omega)
    have f3 : (15 < j) = True := eq_true (by omega)
    have f4 : (j < 20) = False := eq_false (by omega)
    have f5 : (27 < j) = True := eq_true (by omega)
    have f6 : (j < 30) = False := eq_false (by omega)
    have f7 : (38 < j) = True := eq_true (by omega)
    have f8 : (j < 40) = False := eq_false (by omega)
    have f9 : (j ≤ 43) = False := eq_false (by omega)
    have f10 : (j < 50) = False := eq_false (by omega)
    have f11 : (52 < j) = True := eq_true (by omega)
    have f12 : (j ≤ 15) = False := eq_false (by omega)
    have f13 : (j ≤ 27) = False := eq_false (by omega)
    have f14 : (j ≤ 38) = False := eq_false (by omega)
    refine ⟨fun z => absurd z (by unfold ag_tok; omega), fun _ => ?_⟩
    simp (disch := omega) only [wpY_isToken, wY_isToken_10, wY_isToken_22, wY_isToken_34, wY_isToken_46, an_t0, an_u9, an_t10, an_u15, an_t20, an_u27, an_t30, an_u38, an_t40, an_l43, an_t50, an_u52, an_l15, an_l27, an_l38, f0, f1, f2, f3, f4, f5, f6, f7, f8, f9, f10, f11, f12, f13, f14, z1, forall_eq, true_and, and_true, true_implies, false_implies, not_true, not_false_iff, not_false_eq_true]
theorem ay_itM (post : Int32 → Prop) {t : Int32} (h : t < 0) (hm : ¬ t = -1) : wpY_isToken post (ct, lv, er, tx, rk, rw, wd, dt, wt, fi) t = post 0 := by
  have l10 : t < 10 := Int32.lt_trans h (by decide)
  have l20 : t < 20 := Int32.lt_trans h (by decide)
  have l30 : t < 30 := Int32.lt_trans h (by decide)
  have l40 : t < 40 := Int32.lt_trans h (by decide)
  have l50 : t < 50 := Int32.lt_trans h (by decide)
  simp only [wpY_isToken, wY_isToken_10, wY_isToken_22, wY_isToken_34, wY_isToken_46, h, l10, l20, l30, l40, l50, forall_eq, true_and, and_true, true_implies, false_implies, not_true, not_false_iff]
theorem ay_it1 (post : Int32 → Prop) {j : Nat} (h : ag_tok j) : wpY_isToken post (ct, lv, er, tx, rk, rw, wd, dt, wt, fi) (nI j) = post 1 := (ay_itN post (by have := ag_tk h; omega)).1 h
theorem ay_it0 (post : Int32 → Prop) {t : Int32} (h : ¬ ar_G t) : wpY_isToken post (ct, lv, er, tx, rk, rw, wd, dt, wt, fi) t = post 0 := by
  by_cases n : t < 0
  · exact ay_itM post n (fun z => h (Or.inl z))
  · obtain ⟨j, hj, rfl⟩ := nI_of n
    exact (ay_itN post hj).2 (fun z => h (Or.inr ⟨j, z, rfl⟩))
end
theorem ax_mam (post : Int32 → Prop) : wpX_mayAppend post (-1) = post 1 := by
  simp only [wpX_mayAppend, true_implies, not_true, false_implies, and_true]
theorem ax_maG (post : Int32 → Prop) {t : Int32} (h : ar_G t) : wpX_mayAppend post t = post 1 := by
  rcases h with rfl | ⟨j, h, rfl⟩
  · exact ax_mam post
  · exact ax_ma1 post h
/-- how many tokens t is, and the text with t behind -/
def ar_c (t : Int32) : Nat := if t = -1 then 0 else 1
def ar_x (tx : Nat → Int32) (n : Nat) (t : Int32) : Nat → Int32 := if t = -1 then tx else upd tx n t
theorem ar_br {t : Int32} {P : Int32 → Prop} : ((t = -1 → P 0) ∧ (¬ t = -1 → P 1)) = P (nI (ar_c t)) := by
  unfold ar_c
  by_cases h : t = -1
  · simp only [h, true_implies, not_true, false_implies, and_true, if_true]; rfl
  · simp only [h, false_implies, not_false_iff, true_implies, true_and, if_false]; rfl
section
variable {tc lv : Int32} {tx rk rw cl nb gv wt : Nat → Int32}
theorem ax_ap (post : SX → Prop) {n : Nat} {t : Int32} (hn : n + ar_c t ≤ 30) : wpX_append post (nI n, lv, tx, rk, rw, cl, nb, gv, wt) t = post (nI (n + ar_c t), lv, ar_x tx n t, rk, rw, cl, nb, gv, wt) := by
  unfold ar_c ar_x at *
  by_cases h : t = -1
  · simp only [h, if_true, Nat.add_zero, wpX_append, true_implies, not_true, false_implies, and_true]
  · simp only [h, if_false] at hn ⊢
    have z : ¬ 30 ≤ n := by omega
    simp (disch := omega) only [wpX_append, h, an_g30, z, vp_in_nI, nI_clamp, nI_leI, nI_ltI, nI_eq, nI_add, nI_1, pk_mul, an_m36, an_n36, an_b468, forall_eq, true_and, and_true, true_implies, false_implies, not_true, not_false_iff, implies_true, pk_un, pk_us, ap_wrN, ap_wrS]
theorem ax_tB {post : Int32 → SX → Prop} {a b c d : Int32} (h : ¬ (ar_G a ∧ ar_G b ∧ ar_G c ∧ ar_G d)) (hp : post (-1) (tc, lv, tx, rk, rw, cl, nb, gv, wt)) : wpX_tokens post (tc, lv, tx, rk, rw, cl, nb, gv, wt) a b c d := by
  have z1 : ¬ (1 : Int32) = 0 := by decide
  by_cases ga : ar_G a
  · by_cases gb : ar_G b
    · by_cases gc : ar_G c
      · by_cases gd : ar_G d
        · exact absurd ⟨ga, gb, gc, gd⟩ h
        · simp only [wpX_tokens, ax_maG _ ga, ax_maG _ gb, ax_maG _ gc, ax_ma0 _ gd, z1, false_implies, not_false_iff, true_implies, true_and, not_true, and_true]
          exact hp
      · simp only [wpX_tokens, ax_maG _ ga, ax_maG _ gb, ax_ma0 _ gc, z1, false_implies, not_false_iff, true_implies, true_and, not_true, and_true]
        exact hp
    · simp only [wpX_tokens, ax_maG _ ga, ax_ma0 _ gb, z1, false_implies, not_false_iff, true_implies, true_and, not_true, and_true]
      exact hp
  · simp only [wpX_tokens, ax_ma0 _ ga, true_implies, not_true, false_implies, and_true]
    exact hp
theorem ar_c1 (t : Int32) : ar_c t ≤ 1 := by unfold ar_c; split <;> omega
theorem ax_tG {post : Int32 → SX → Prop} {n : Nat} {a b c d : Int32} (hn : n ≤ 30) (ga : ar_G a) (gb : ar_G b) (gc : ar_G c) (gd : ar_G d)
    (h1 : n + ar_c a + ar_c b + ar_c c + ar_c d ≤ 30 → post (nI (n + ar_c a + ar_c b + ar_c c + ar_c d)) (nI (n + ar_c a + ar_c b + ar_c c + ar_c d), lv, ar_x (ar_x (ar_x (ar_x tx n a) (n + ar_c a) b) (n + ar_c a + ar_c b) c) (n + ar_c a + ar_c b + ar_c c) d, rk, rw, cl, nb, gv, wt))
    (h2 : ¬ n + ar_c a + ar_c b + ar_c c + ar_c d ≤ 30 → post (-2) (nI n, lv, tx, rk, rw, cl, nb, gv, wt)) : wpX_tokens post (nI n, lv, tx, rk, rw, cl, nb, gv, wt) a b c d := by
  have z1 : ¬ (1 : Int32) = 0 := by decide
  have c1 := ar_c1 a
  have c2 := ar_c1 b
  have c3 := ar_c1 c
  have c4 := ar_c1 d
  simp only [wpX_tokens, ax_maG _ ga, ax_maG _ gb, ax_maG _ gc, ax_maG _ gd, z1, false_implies, not_false_iff, true_implies, true_and]
  rw [ar_br (P := fun z => wX_tokens_41 post a b c d z (nI n) lv tx rk rw cl nb gv wt)]
  unfold wX_tokens_41
  rw [ar_br (P := fun z => wX_tokens_51 post a b c d z (nI (ar_c a)) (nI n) lv tx rk rw cl nb gv wt)]
  unfold wX_tokens_51
  rw [ar_br (P := fun z => wX_tokens_62 post a b c d z (nI (ar_c a) + nI (ar_c b)) (nI n) lv tx rk rw cl nb gv wt)]
  unfold wX_tokens_62
  rw [ar_br (P := fun z => wX_tokens_74 post a b c d z (nI (ar_c a) + nI (ar_c b) + nI (ar_c c)) (nI n) lv tx rk rw cl nb gv wt)]
  have e : n + (ar_c a + ar_c b + ar_c c + ar_c d) = n + ar_c a + ar_c b + ar_c c + ar_c d := by omega
  by_cases g : n + ar_c a + ar_c b + ar_c c + ar_c d ≤ 30
  · simp (disch := omega) only [wX_tokens_74, nI_add, e, an_l30, g, ax_ap, vp_in_nI, nI_clamp, nI_leI, nI_ltI, nI_eq, nI_add, nI_1, pk_mul, an_m36, an_n36, an_b468, forall_eq, true_and, and_true, true_implies, false_implies, not_true, not_false_iff, implies_true, pk_un, pk_us, ap_wrN, ap_wrS]
    exact h1 g
  · simp (disch := omega) only [wX_tokens_74, nI_add, e, an_l30, g, vp_in_nI, nI_clamp, nI_leI, nI_ltI, nI_eq, nI_add, nI_1, pk_mul, an_m36, an_n36, an_b468, forall_eq, true_and, and_true, true_implies, false_implies, not_true, not_false_iff, implies_true, pk_un, pk_us, ap_wrN, ap_wrS]
    exact h2 g
end
section
variable {ct lv er : Int32} {tx rk rw wd dt wt fi : Nat → Int32}
theorem ay_t6 {post : Int32 → SY → Prop} {f m i : Nat} {a b c d t : Int32} (hi : i < 4) (ht : t = if i = 0 then a else if i = 1 then b else if i = 2 then c else d) (h0 : ¬ ar_G t → post (-1) (ct, lv, er, tx, rk, rw, wd, dt, wt, fi))
    (h1 : ar_G t → wY_tokens_6 post a b c d ct lv er tx rk rw wd dt wt fi f (nI (m + ar_c t)) (nI (i + 1))) : wY_tokens_6 post a b c d ct lv er tx rk rw wd dt wt fi (f + 1) (nI m) (nI i) := by
  have z : ¬ 4 ≤ i := by omega
  have z1 : ¬ (1 : Int32) = 0 := by decide
  have o : ∀ P : Int32 → Prop, wpY_oneOf P (ct, lv, er, tx, rk, rw, wd, dt, wt, fi) (nI i) a b c d = P t := fun P => by
    rcases (by omega : i = 0 ∨ i = 1 ∨ i = 2 ∨ i = 3) with rfl | rfl | rfl | rfl
    · simp (disch := omega) [wpY_oneOf, an_e0, an_e1, an_e2, ht]
    · simp (disch := omega) [wpY_oneOf, an_e0, an_e1, an_e2, ht]
    · simp (disch := omega) [wpY_oneOf, an_e0, an_e1, an_e2, ht]
    · simp (disch := omega) [wpY_oneOf, an_e0, an_e1, an_e2, ht]
  simp (disch := omega) only [wY_tokens_6, an_g4, z, o, vp_in_nI, nI_clamp, nI_leI, nI_ltI, nI_eq, nI_add, nI_1, pk_mul, an_m36, an_n36, an_b468, forall_eq, true_and, and_true, true_implies, false_implies, not_true, not_false_iff, implies_true, pk_un, pk_us, ap_wrN, ap_wrS]
  by_cases g : ar_G t
  · have q := h1 g
    rcases g with e | ⟨j, hj, e⟩
    · refine br_t e ?_
      unfold wY_tokens_42
      rw [show ar_c t = 0 from if_pos e, Nat.add_zero] at q
      refine br_t e ?_
      simp (disch := omega) only [vp_in_nI, nI_clamp, nI_leI, nI_ltI, nI_eq, nI_add, nI_1, pk_mul, an_m36, an_n36, an_b468, forall_eq, true_and, and_true, true_implies, false_implies, not_true, not_false_iff, implies_true, pk_un, pk_us, ap_wrN, ap_wrS]
      exact q
    · have nt : ¬ t = -1 := by
        rw [e]
        exact ar_neg (by have := ag_tk hj; omega)
      refine br_f nt ?_
      rw [show ar_c t = 1 from if_neg nt] at q
      have i1 := fun (P : Int32 → Prop) => ay_it1 (ct := ct) (lv := lv) (er := er) (tx := tx) (rk := rk) (rw := rw) (wd := wd) (dt := dt) (wt := wt) (fi := fi) P hj
      rw [← e] at i1
      simp (disch := omega) only [i1, z1, wY_tokens_42, nt, vp_in_nI, nI_clamp, nI_leI, nI_ltI, nI_eq, nI_add, nI_1, pk_mul, an_m36, an_n36, an_b468, forall_eq, true_and, and_true, true_implies, false_implies, not_true, not_false_iff, implies_true, pk_un, pk_us, ap_wrN, ap_wrS]
      exact q
  · have nt : ¬ t = -1 := fun z => g (Or.inl z)
    refine br_f nt ?_
    simp (disch := omega) only [ay_it0 _ g, vp_in_nI, nI_clamp, nI_leI, nI_ltI, nI_eq, nI_add, nI_1, pk_mul, an_m36, an_n36, an_b468, forall_eq, true_and, and_true, true_implies, false_implies, not_true, not_false_iff, implies_true, pk_un, pk_us, ap_wrN, ap_wrS]
    exact h0 g
theorem ay_t8 {post : Int32 → SY → Prop} {f n i : Nat} {a b c d t : Int32} (hi : i < 4) (ht : t = if i = 0 then a else if i = 1 then b else if i = 2 then c else d) (hn : n + ar_c t ≤ 30)
    (h1 : wY_tokens_83 post a b c d lv er f (nI (i + 1)) (nI (n + ar_c t)) (ar_x tx n t) rk rw wd dt wt fi) : wY_tokens_83 post a b c d lv er (f + 1) (nI i) (nI n) tx rk rw wd dt wt fi := by
  have z : ¬ 4 ≤ i := by omega
  have o : ∀ P : Int32 → Prop, wpY_oneOf P (nI n, lv, er, tx, rk, rw, wd, dt, wt, fi) (nI i) a b c d = P t := fun P => by
    rcases (by omega : i = 0 ∨ i = 1 ∨ i = 2 ∨ i = 3) with rfl | rfl | rfl | rfl
    · simp (disch := omega) [wpY_oneOf, an_e0, an_e1, an_e2, ht]
    · simp (disch := omega) [wpY_oneOf, an_e0, an_e1, an_e2, ht]
    · simp (disch := omega) [wpY_oneOf, an_e0, an_e1, an_e2, ht]
    · simp (disch := omega) [wpY_oneOf, an_e0, an_e1, an_e2, ht]
  simp (disch := omega) only [wY_tokens_83, an_g4, z, o, vp_in_nI, nI_clamp, nI_leI, nI_ltI, nI_eq, nI_add, nI_1, pk_mul, an_m36, an_n36, an_b468, forall_eq, true_and, and_true, true_implies, false_implies, not_true, not_false_iff, implies_true, pk_un, pk_us, ap_wrN, ap_wrS]
  by_cases g : t = -1
  · refine br_t g ?_
    rw [show ar_c t = 0 from if_pos g, Nat.add_zero, show ar_x tx n t = tx from if_pos g] at h1
    exact h1
  · refine br_f g ?_
    rw [show ar_c t = 1 from if_neg g] at h1 hn
    rw [show ar_x tx n t = upd tx n t from if_neg g] at h1
    refine ⟨vp_in_nI (by omega) (by omega), ?_⟩
    exact h1
theorem ay_t {post : Int32 → SY → Prop} {n : Nat} {a b c d : Int32} (hn : n ≤ 30)
    (hB : ¬ (ar_G a ∧ ar_G b ∧ ar_G c ∧ ar_G d) → post (-1) (nI n, lv, er, tx, rk, rw, wd, dt, wt, fi))
    (h1 : (ar_G a ∧ ar_G b ∧ ar_G c ∧ ar_G d) → n + ar_c a + ar_c b + ar_c c + ar_c d ≤ 30 → post (nI (n + ar_c a + ar_c b + ar_c c + ar_c d)) (nI (n + ar_c a + ar_c b + ar_c c + ar_c d), lv, er, ar_x (ar_x (ar_x (ar_x tx n a) (n + ar_c a) b) (n + ar_c a + ar_c b) c) (n + ar_c a + ar_c b + ar_c c) d, rk, rw, wd, dt, wt, fi))
    (h2 : (ar_G a ∧ ar_G b ∧ ar_G c ∧ ar_G d) → ¬ n + ar_c a + ar_c b + ar_c c + ar_c d ≤ 30 → post (-2) (nI n, lv, er, tx, rk, rw, wd, dt, wt, fi)) : wpY_tokens post (nI n, lv, er, tx, rk, rw, wd, dt, wt, fi) a b c d := by
  have c1 := ar_c1 a
  have c2 := ar_c1 b
  have c3 := ar_c1 c
  have c4 := ar_c1 d
  refine ⟨5, ?_⟩
  rw [← nI_0]
  refine ay_t6 (f := 4) (t := a) (by omega) rfl (fun g => hB (fun z => g z.1)) (fun ga => ?_)
  refine ay_t6 (f := 3) (t := b) (by omega) rfl (fun g => hB (fun z => g z.2.1)) (fun gb => ?_)
  refine ay_t6 (f := 2) (t := c) (by omega) rfl (fun g => hB (fun z => g z.2.2.1)) (fun gc => ?_)
  refine ay_t6 (f := 1) (t := d) (by omega) rfl (fun g => hB (fun z => g z.2.2.2)) (fun gd => ?_)
  have al := And.intro ga (And.intro gb (And.intro gc gd))
  have z : 4 ≤ 0 + 1 + 1 + 1 + 1 := by omega
  have e : n + (0 + ar_c a + ar_c b + ar_c c + ar_c d) = n + ar_c a + ar_c b + ar_c c + ar_c d := by omega
  by_cases g : n + ar_c a + ar_c b + ar_c c + ar_c d ≤ 30
  · simp (disch := omega) only [wY_tokens_6, an_g4, z, e, an_l30, g, vp_in_nI, nI_clamp, nI_leI, nI_ltI, nI_eq, nI_add, nI_1, pk_mul, an_m36, an_n36, an_b468, forall_eq, true_and, and_true, true_implies, false_implies, not_true, not_false_iff, implies_true, pk_un, pk_us, ap_wrN, ap_wrS]
    refine ⟨5, ?_⟩
    rw [← nI_0]
    refine ay_t8 (f := 4) (t := a) (by omega) rfl (by omega) ?_
    refine ay_t8 (f := 3) (t := b) (by omega) rfl (by omega) ?_
    refine ay_t8 (f := 2) (t := c) (by omega) rfl (by omega) ?_
    refine ay_t8 (f := 1) (t := d) (by omega) rfl (by omega) ?_
    simp (disch := omega) only [wY_tokens_83, an_g4, z, vp_in_nI, nI_clamp, nI_leI, nI_ltI, nI_eq, nI_add, nI_1, pk_mul, an_m36, an_n36, an_b468, forall_eq, true_and, and_true, true_implies, false_implies, not_true, not_false_iff, implies_true, pk_un, pk_us, ap_wrN, ap_wrS]
    exact h1 al g
  · simp (disch := omega) only [wY_tokens_6, an_g4, z, e, an_l30, g, vp_in_nI, nI_clamp, nI_leI, nI_ltI, nI_eq, nI_add, nI_1, pk_mul, an_m36, an_n36, an_b468, forall_eq, true_and, and_true, true_implies, false_implies, not_true, not_false_iff, implies_true, pk_un, pk_us, ap_wrN, ap_wrS]
    exact h2 al g
end
