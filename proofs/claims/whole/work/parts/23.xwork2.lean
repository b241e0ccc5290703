/-! X: the waiting function alone, and with its left array -/
section
variable {tc lv : Int32} {tx rk rw cl nb gv wt : Nat → Int32}
theorem ax_tkG (post : Int32 → Prop) {n p : Nat} {tn : Nat → Nat} (hn : n ≤ 30) (ht : ∀ j, tx j = nI (tn j)) (hp : p < 1000) : wpX_tokenAt post (nI n, lv, tx, rk, rw, cl, nb, gv, wt) (nI p) = post (if p < n then nI (tn p) else -1) := by
  by_cases h : p < n
  · rw [if_pos h]; exact ax_tk post hn ht h
  · rw [if_neg h]; exact ax_tkn post hn (by omega) hp
theorem ax_wa0 {post : Int32 → SX → Prop} {l : Nat} (l15 : l ≤ 15) (hw : wt l = -1) (hp : post 0 (tc, nI l, tx, rk, rw, cl, nb, gv, wt)) : wpX_workAlone post (tc, nI l, tx, rk, rw, cl, nb, gv, wt) := by
  have z : ¬ (0 : Int32) ≤ -1 := by decide
  simp (disch := omega) only [wpX_workAlone, hw, z, vp_in_nI, nI_clamp, nI_leI, nI_ltI, nI_eq, nI_add, nI_1, pk_mul, an_m36, an_n36, an_b468, forall_eq, true_and, and_true, true_implies, false_implies, not_true, not_false_iff, implies_true, pk_un, pk_us, ap_wrN, ap_wrS]
  exact hp
theorem ax_wa {post : Int32 → SX → Prop} {n q l R r c : Nat} {tn : Nat → Nat} {d : Nat → Int32} (hn : n ≤ 30) (ht : ∀ j, tx j = nI (tn j)) (hk : ∀ j, ag_tok (tn j)) (l15 : l ≤ 15) (wf : ag_wf tn n q) (hw : wt l = nI q)
    (V : ap_VS R r c) (H : ap_X rk rw cl nb (14 + l) R r c d) (hR : ax_R post (14 + l) (nI n) (nI l) tx rk rw cl nb gv (upd wt l (-1)) (ap_one (ag_k tn n q) (ag_f tn q) R r c d)) : wpX_workAlone post (nI n, nI l, tx, rk, rw, cl, nb, gv, wt) := by
  have q30 := wf.1
  have ok := ap_oneV (k := ag_k tn n q) (f := ag_f tn q) (d := d) V
  have y1 : 14 ≤ 14 + l := by omega
  have y2 : 14 + l < 46 := by omega
  have z0 : 0 ≤ nI q := nI_pos' (by omega)
  have cs := fun (P : Int32 → Prop) (wt : Nat → Int32) => ax_cs (lv := nI l) (rk := rk) (rw := rw) (cl := cl) (nb := nb) (gv := gv) (wt := wt) P hn ht hk wf
  rcases wf.2 with m | o | s
  · have ef : ag_f tn q = tn q := if_neg (by omega)
    have ek : ag_k tn n q = 0 := ag_kM m
    have ec : ag_cs tn n q = tn q := by
      unfold ag_cs
      rw [ek, if_pos rfl, if_neg (by omega)]
    rw [ek, ef] at hR ok
    rw [ec] at cs
    rcases (by omega : tn q = 30 ∨ tn q = 31 ∨ tn q = 32 ∨ tn q = 33 ∨ tn q = 34 ∨ tn q = 35 ∨ tn q = 36 ∨ tn q = 37 ∨ tn q = 38) with e | e | e | e | e | e | e | e | e
    · rw [e] at hR ok cs
      simp (disch := omega) only [wpX_workAlone, wX_workAlone_244, hw, cs, an_b14, z0, an_t20, an_u41, an_u43, an_e20, an_e21, an_e22, an_e23, an_e24, an_e25, an_e26, an_e27, an_e28, an_e29, an_e30, an_e31, an_e32, an_e33, an_e34, an_e35, an_e36, an_e37, an_e38, an_e39, an_e40, an_e41, an_e42, an_e43, Nat.reduceEqDiff, Nat.reduceLT, Nat.reduceLeDiff, eq_self, vp_in_nI, nI_clamp, nI_leI, nI_ltI, nI_eq, nI_add, nI_1, pk_mul, an_m36, an_n36, an_b468, forall_eq, true_and, and_true, true_implies, false_implies, not_true, not_false_iff, implies_true, pk_un, pk_us, ap_wrN, ap_wrS]
      exact ax_shape y1 y2 V H (ax_W1q y1 y2 ok rfl hR)
    · rw [e] at hR ok cs
      simp (disch := omega) only [wpX_workAlone, wX_workAlone_244, hw, cs, an_b14, z0, an_t20, an_u41, an_u43, an_e20, an_e21, an_e22, an_e23, an_e24, an_e25, an_e26, an_e27, an_e28, an_e29, an_e30, an_e31, an_e32, an_e33, an_e34, an_e35, an_e36, an_e37, an_e38, an_e39, an_e40, an_e41, an_e42, an_e43, Nat.reduceEqDiff, Nat.reduceLT, Nat.reduceLeDiff, eq_self, vp_in_nI, nI_clamp, nI_leI, nI_ltI, nI_eq, nI_add, nI_1, pk_mul, an_m36, an_n36, an_b468, forall_eq, true_and, and_true, true_implies, false_implies, not_true, not_false_iff, implies_true, pk_un, pk_us, ap_wrN, ap_wrS]
      exact ax_count y1 y2 V H (ax_W1 y1 y2 ok hR)
    · rw [e] at hR ok cs
      simp (disch := omega) only [wpX_workAlone, wX_workAlone_244, hw, cs, an_b14, z0, an_t20, an_u41, an_u43, an_e20, an_e21, an_e22, an_e23, an_e24, an_e25, an_e26, an_e27, an_e28, an_e29, an_e30, an_e31, an_e32, an_e33, an_e34, an_e35, an_e36, an_e37, an_e38, an_e39, an_e40, an_e41, an_e42, an_e43, Nat.reduceEqDiff, Nat.reduceLT, Nat.reduceLeDiff, eq_self, vp_in_nI, nI_clamp, nI_leI, nI_ltI, nI_eq, nI_add, nI_1, pk_mul, an_m36, an_n36, an_b468, forall_eq, true_and, and_true, true_implies, false_implies, not_true, not_false_iff, implies_true, pk_un, pk_us, ap_wrN, ap_wrS]
      exact ax_turn y1 y2 V H (ax_W1q y1 y2 ok (by show (ap_turn R r c d).1 = 0; unfold ap_turn; split <;> rfl) hR)
    · rw [e] at hR ok cs
      simp (disch := omega) only [wpX_workAlone, wX_workAlone_244, hw, cs, an_b14, z0, an_t20, an_u41, an_u43, an_e20, an_e21, an_e22, an_e23, an_e24, an_e25, an_e26, an_e27, an_e28, an_e29, an_e30, an_e31, an_e32, an_e33, an_e34, an_e35, an_e36, an_e37, an_e38, an_e39, an_e40, an_e41, an_e42, an_e43, Nat.reduceEqDiff, Nat.reduceLT, Nat.reduceLeDiff, eq_self, vp_in_nI, nI_clamp, nI_leI, nI_ltI, nI_eq, nI_add, nI_1, pk_mul, an_m36, an_n36, an_b468, forall_eq, true_and, and_true, true_implies, false_implies, not_true, not_false_iff, implies_true, pk_un, pk_us, ap_wrN, ap_wrS]
      exact ax_rev y1 y2 V H (ax_W1q y1 y2 ok rfl hR)
    · rw [e] at hR ok cs
      simp (disch := omega) only [wpX_workAlone, wX_workAlone_244, hw, cs, an_b14, z0, an_t20, an_u41, an_u43, an_e20, an_e21, an_e22, an_e23, an_e24, an_e25, an_e26, an_e27, an_e28, an_e29, an_e30, an_e31, an_e32, an_e33, an_e34, an_e35, an_e36, an_e37, an_e38, an_e39, an_e40, an_e41, an_e42, an_e43, Nat.reduceEqDiff, Nat.reduceLT, Nat.reduceLeDiff, eq_self, vp_in_nI, nI_clamp, nI_leI, nI_ltI, nI_eq, nI_add, nI_1, pk_mul, an_m36, an_n36, an_b468, forall_eq, true_and, and_true, true_implies, false_implies, not_true, not_false_iff, implies_true, pk_un, pk_us, ap_wrN, ap_wrS]
      exact ax_first y1 y2 V H (ax_W1q y1 y2 ok rfl hR)
    · rw [e] at hR ok cs
      simp (disch := omega) only [wpX_workAlone, wX_workAlone_244, hw, cs, an_b14, z0, an_t20, an_u41, an_u43, an_e20, an_e21, an_e22, an_e23, an_e24, an_e25, an_e26, an_e27, an_e28, an_e29, an_e30, an_e31, an_e32, an_e33, an_e34, an_e35, an_e36, an_e37, an_e38, an_e39, an_e40, an_e41, an_e42, an_e43, Nat.reduceEqDiff, Nat.reduceLT, Nat.reduceLeDiff, eq_self, vp_in_nI, nI_clamp, nI_leI, nI_ltI, nI_eq, nI_add, nI_1, pk_mul, an_m36, an_n36, an_b468, forall_eq, true_and, and_true, true_implies, false_implies, not_true, not_false_iff, implies_true, pk_un, pk_us, ap_wrN, ap_wrS]
      exact br_f (by decide) (hR.1 (show (-12 : Int32) ≠ 0 by decide))
    · rw [e] at hR ok cs
      simp (disch := omega) only [wpX_workAlone, wX_workAlone_244, hw, cs, an_b14, z0, an_t20, an_u41, an_u43, an_e20, an_e21, an_e22, an_e23, an_e24, an_e25, an_e26, an_e27, an_e28, an_e29, an_e30, an_e31, an_e32, an_e33, an_e34, an_e35, an_e36, an_e37, an_e38, an_e39, an_e40, an_e41, an_e42, an_e43, Nat.reduceEqDiff, Nat.reduceLT, Nat.reduceLeDiff, eq_self, vp_in_nI, nI_clamp, nI_leI, nI_ltI, nI_eq, nI_add, nI_1, pk_mul, an_m36, an_n36, an_b468, forall_eq, true_and, and_true, true_implies, false_implies, not_true, not_false_iff, implies_true, pk_un, pk_us, ap_wrN, ap_wrS]
      exact ax_ravel y1 y2 V H (ax_W1q y1 y2 ok rfl hR)
    · rw [e] at hR ok cs
      simp (disch := omega) only [wpX_workAlone, wX_workAlone_244, hw, cs, an_b14, z0, an_t20, an_u41, an_u43, an_e20, an_e21, an_e22, an_e23, an_e24, an_e25, an_e26, an_e27, an_e28, an_e29, an_e30, an_e31, an_e32, an_e33, an_e34, an_e35, an_e36, an_e37, an_e38, an_e39, an_e40, an_e41, an_e42, an_e43, Nat.reduceEqDiff, Nat.reduceLT, Nat.reduceLeDiff, eq_self, vp_in_nI, nI_clamp, nI_leI, nI_ltI, nI_eq, nI_add, nI_1, pk_mul, an_m36, an_n36, an_b468, forall_eq, true_and, and_true, true_implies, false_implies, not_true, not_false_iff, implies_true, pk_un, pk_us, ap_wrN, ap_wrS]
      exact br_f (by decide) (hR.1 (show (-12 : Int32) ≠ 0 by decide))
    · rw [e] at hR ok cs
      simp (disch := omega) only [wpX_workAlone, wX_workAlone_244, hw, cs, an_b14, z0, an_t20, an_u41, an_u43, an_e20, an_e21, an_e22, an_e23, an_e24, an_e25, an_e26, an_e27, an_e28, an_e29, an_e30, an_e31, an_e32, an_e33, an_e34, an_e35, an_e36, an_e37, an_e38, an_e39, an_e40, an_e41, an_e42, an_e43, Nat.reduceEqDiff, Nat.reduceLT, Nat.reduceLeDiff, eq_self, vp_in_nI, nI_clamp, nI_leI, nI_ltI, nI_eq, nI_add, nI_1, pk_mul, an_m36, an_n36, an_b468, forall_eq, true_and, and_true, true_implies, false_implies, not_true, not_false_iff, implies_true, pk_un, pk_us, ap_wrN, ap_wrS]
      exact ax_rise y1 y2 V H (ax_W1 y1 y2 ok hR)
  · have ef : ag_f tn q = tn (q + 1) := if_pos o.1
    have ek : ag_k tn n q = 3 := ag_kO o.1
    have ec : ag_cs tn n q = 42 := by unfold ag_cs; rw [ek]; rfl
    rw [ek] at hR ok
    rw [ec] at cs
    simp (disch := omega) only [wpX_workAlone, wX_workAlone_244, hw, cs, an_b14, z0, an_t20, an_u41, an_u43, an_e20, an_e21, an_e22, an_e23, an_e24, an_e25, an_e26, an_e27, an_e28, an_e29, an_e30, an_e31, an_e32, an_e33, an_e34, an_e35, an_e36, an_e37, an_e38, an_e39, an_e40, an_e41, an_e42, an_e43, Nat.reduceEqDiff, Nat.reduceLT, Nat.reduceLeDiff, eq_self, vp_in_nI, nI_clamp, nI_leI, nI_ltI, nI_eq, nI_add, nI_1, pk_mul, an_m36, an_n36, an_b468, forall_eq, true_and, and_true, true_implies, false_implies, not_true, not_false_iff, implies_true, pk_un, pk_us, ap_wrN, ap_wrS]
    exact br_f (by decide) (hR.1 (show (-12 : Int32) ≠ 0 by decide))
  · have ef : ag_f tn q = tn q := if_neg (by omega)
    have sc := s.1
    have tl : tn q < 30 := by omega
    rw [ef] at hR ok
    by_cases b : q + 1 < n
    · by_cases b40 : tn (q + 1) = 40
      · have ek := ag_kA sc b b40
        have ec : ag_cs tn n q = 40 := by unfold ag_cs; rw [ek]; rfl
        rw [ek] at hR ok
        rw [ec] at cs
        have e1 : ap_one 1 (tn q) R r c d = ap_fold (tn q) R r c d := by unfold ap_one; rw [if_neg (by omega), if_pos rfl]
        rw [e1] at hR ok
        simp (disch := omega) only [wpX_workAlone, wX_workAlone_244, hw, cs, ht, an_b14, z0, an_t20, an_u41, an_u43, an_e20, an_e21, an_e22, an_e23, an_e24, an_e25, an_e26, an_e27, an_e28, an_e29, an_e30, an_e31, an_e32, an_e33, an_e34, an_e35, an_e36, an_e37, an_e38, an_e39, an_e40, an_e41, an_e42, an_e43, Nat.reduceEqDiff, Nat.reduceLT, Nat.reduceLeDiff, eq_self, vp_in_nI, nI_clamp, nI_leI, nI_ltI, nI_eq, nI_add, nI_1, pk_mul, an_m36, an_n36, an_b468, forall_eq, true_and, and_true, true_implies, false_implies, not_true, not_false_iff, implies_true, pk_un, pk_us, ap_wrN, ap_wrS]
        exact ax_fold sc y1 y2 V H (ax_W1q y1 y2 ok rfl hR)
      · by_cases b41 : tn (q + 1) = 41
        · have ek := ag_kB sc b b41
          have ec : ag_cs tn n q = 41 := by unfold ag_cs; rw [ek]; rfl
          rw [ek] at hR ok
          rw [ec] at cs
          have e1 : ap_one 2 (tn q) R r c d = ap_scan (tn q) R r c d := by unfold ap_one; rw [if_neg (by omega), if_neg (by omega), if_pos rfl]
          rw [e1] at hR ok
          simp (disch := omega) only [wpX_workAlone, wX_workAlone_244, hw, cs, ht, an_b14, z0, an_t20, an_u41, an_u43, an_e20, an_e21, an_e22, an_e23, an_e24, an_e25, an_e26, an_e27, an_e28, an_e29, an_e30, an_e31, an_e32, an_e33, an_e34, an_e35, an_e36, an_e37, an_e38, an_e39, an_e40, an_e41, an_e42, an_e43, Nat.reduceEqDiff, Nat.reduceLT, Nat.reduceLeDiff, eq_self, vp_in_nI, nI_clamp, nI_leI, nI_ltI, nI_eq, nI_add, nI_1, pk_mul, an_m36, an_n36, an_b468, forall_eq, true_and, and_true, true_implies, false_implies, not_true, not_false_iff, implies_true, pk_un, pk_us, ap_wrN, ap_wrS]
          exact ax_scan sc y1 y2 V H (ax_W1q y1 y2 ok rfl hR)
        · by_cases b43 : tn (q + 1) = 43
          · have ek := ag_kD sc b b43
            have ec : ag_cs tn n q = 43 := by unfold ag_cs; rw [ek]; rfl
            rw [ek] at hR ok
            rw [ec] at cs
            simp (disch := omega) only [wpX_workAlone, wX_workAlone_244, hw, cs, an_b14, z0, an_t20, an_u41, an_u43, an_e20, an_e21, an_e22, an_e23, an_e24, an_e25, an_e26, an_e27, an_e28, an_e29, an_e30, an_e31, an_e32, an_e33, an_e34, an_e35, an_e36, an_e37, an_e38, an_e39, an_e40, an_e41, an_e42, an_e43, Nat.reduceEqDiff, Nat.reduceLT, Nat.reduceLeDiff, eq_self, vp_in_nI, nI_clamp, nI_leI, nI_ltI, nI_eq, nI_add, nI_1, pk_mul, an_m36, an_n36, an_b468, forall_eq, true_and, and_true, true_implies, false_implies, not_true, not_false_iff, implies_true, pk_un, pk_us, ap_wrN, ap_wrS]
            exact br_f (by decide) (hR.1 (show (-12 : Int32) ≠ 0 by decide))
          · have ek := ag_k0 (n := n) sc (fun _ => ⟨b40, b41, b43⟩)
            have ec : ag_cs tn n q = 20 := by unfold ag_cs; rw [ek, if_pos rfl, if_pos sc]
            rw [ek] at hR ok
            rw [ec] at cs
            have e1 : ap_one 0 (tn q) R r c d = ap_s1 (tn q) R r c d := by unfold ap_one; rw [if_neg (by omega), if_neg (by omega), if_neg (by omega), if_pos tl]
            rw [e1] at hR ok
            simp (disch := omega) only [wpX_workAlone, wX_workAlone_244, hw, cs, ht, an_b14, z0, an_t20, an_u41, an_u43, an_e20, an_e21, an_e22, an_e23, an_e24, an_e25, an_e26, an_e27, an_e28, an_e29, an_e30, an_e31, an_e32, an_e33, an_e34, an_e35, an_e36, an_e37, an_e38, an_e39, an_e40, an_e41, an_e42, an_e43, Nat.reduceEqDiff, Nat.reduceLT, Nat.reduceLeDiff, eq_self, vp_in_nI, nI_clamp, nI_leI, nI_ltI, nI_eq, nI_add, nI_1, pk_mul, an_m36, an_n36, an_b468, forall_eq, true_and, and_true, true_implies, false_implies, not_true, not_false_iff, implies_true, pk_un, pk_us, ap_wrN, ap_wrS]
            exact ax_s1 sc y1 y2 V H (ax_W1q y1 y2 ok rfl hR)
    · have ek := ag_k0 (n := n) sc (fun z => absurd z b)
      have ec : ag_cs tn n q = 20 := by unfold ag_cs; rw [ek, if_pos rfl, if_pos sc]
      rw [ek] at hR ok
      rw [ec] at cs
      have e1 : ap_one 0 (tn q) R r c d = ap_s1 (tn q) R r c d := by unfold ap_one; rw [if_neg (by omega), if_neg (by omega), if_neg (by omega), if_pos tl]
      rw [e1] at hR ok
      simp (disch := omega) only [wpX_workAlone, wX_workAlone_244, hw, cs, ht, an_b14, z0, an_t20, an_u41, an_u43, an_e20, an_e21, an_e22, an_e23, an_e24, an_e25, an_e26, an_e27, an_e28, an_e29, an_e30, an_e31, an_e32, an_e33, an_e34, an_e35, an_e36, an_e37, an_e38, an_e39, an_e40, an_e41, an_e42, an_e43, Nat.reduceEqDiff, Nat.reduceLT, Nat.reduceLeDiff, eq_self, vp_in_nI, nI_clamp, nI_leI, nI_ltI, nI_eq, nI_add, nI_1, pk_mul, an_m36, an_n36, an_b468, forall_eq, true_and, and_true, true_implies, false_implies, not_true, not_false_iff, implies_true, pk_un, pk_us, ap_wrN, ap_wrS]
      exact ax_s1 sc y1 y2 V H (ax_W1q y1 y2 ok rfl hR)
theorem ax_wl0 {post : Int32 → SX → Prop} {l R r c : Nat} {d : Nat → Int32} (l15 : l ≤ 15) (hw : wt l = -1) (V : ap_VS R r c) (H : ap_X rk rw cl nb (14 + l + 1) R r c d)
    (hp : ∀ rk' rw' cl' nb', ap_K (14 + l) rk rw cl nb rk' rw' cl' nb' → ap_X rk' rw' cl' nb' (14 + l) R r c d → post 0 (tc, nI l, tx, rk', rw', cl', nb', gv, wt)) : wpX_workWithLeft post (tc, nI l, tx, rk, rw, cl, nb, gv, wt) := by
  have z : ¬ (0 : Int32) ≤ -1 := by decide
  simp (disch := omega) only [wpX_workWithLeft, hw, z, an_b14, vp_in_nI, nI_clamp, nI_leI, nI_ltI, nI_eq, nI_add, nI_1, pk_mul, an_m36, an_n36, an_b468, forall_eq, true_and, and_true, true_implies, false_implies, not_true, not_false_iff, implies_true, pk_un, pk_us, ap_wrN, ap_wrS]
  exact ax_cp (by omega) (by omega) (by omega) (hp _ _ _ _ (ap_KF (Or.inr (Nat.le_refl _)) ap_cpF) (ap_cpX (ap_v36 V) H))
theorem ax_wl {post : Int32 → SX → Prop} {n q l R r c S s t : Nat} {tn : Nat → Nat} {d e : Nat → Int32} (hn : n ≤ 30) (ht : ∀ j, tx j = nI (tn j)) (hk : ∀ j, ag_tok (tn j)) (l15 : l ≤ 15) (wf : ag_wf tn n q) (hw : wt l = nI q)
    (V : ap_VS R r c) (H : ap_X rk rw cl nb (14 + l + 1) R r c d) (W : ap_VS S s t) (K : ap_X rk rw cl nb (14 + l) S s t e)
    (hR : ax_R post (14 + l) (nI n) (nI l) tx rk rw cl nb gv (upd wt l (-1)) (ap_two R r c d S s t e (ag_k tn n q) (ag_f tn q) (ag_g tn q))) : wpX_workWithLeft post (nI n, nI l, tx, rk, rw, cl, nb, gv, wt) := by
  have q30 := wf.1
  have ok := ap_twoV (k := ag_k tn n q) (f := ag_f tn q) (g := ag_g tn q) (d := d) (e := e) V W
  have x1 : 14 ≤ 14 + l + 1 := by omega
  have x2 : 14 + l + 1 < 46 := by omega
  have y1 : 14 ≤ 14 + l := by omega
  have y2 : 14 + l < 46 := by omega
  have z0 : 0 ≤ nI q := nI_pos' (by omega)
  have cs := fun (P : Int32 → Prop) (wt : Nat → Int32) => ax_cs (lv := nI l) (rk := rk) (rw := rw) (cl := cl) (nb := nb) (gv := gv) (wt := wt) P hn ht hk wf
  rcases wf.2 with m | o | sx
  · have ef : ag_f tn q = tn q := if_neg (by omega)
    have ek : ag_k tn n q = 0 := ag_kM m
    have ec : ag_cs tn n q = tn q := by
      unfold ag_cs
      rw [ek, if_pos rfl, if_neg (by omega)]
    rw [ek, ef] at hR ok
    rw [ec] at cs
    rcases (by omega : tn q = 30 ∨ tn q = 31 ∨ tn q = 32 ∨ tn q = 33 ∨ tn q = 34 ∨ tn q = 35 ∨ tn q = 36 ∨ tn q = 37 ∨ tn q = 38) with e | e | e | e | e | e | e | e | e
    · rw [e] at hR ok cs
      simp (disch := omega) only [wpX_workWithLeft, wX_workWithLeft_302, hw, cs, ax_tkG _ hn ht, an_a2, an_b14, z0, an_t20, an_u41, an_u43, an_e20, an_e21, an_e22, an_e23, an_e24, an_e25, an_e26, an_e27, an_e28, an_e29, an_e30, an_e31, an_e32, an_e33, an_e34, an_e35, an_e36, an_e37, an_e38, an_e39, an_e40, an_e41, an_e42, an_e43, Nat.reduceEqDiff, Nat.reduceLT, Nat.reduceLeDiff, eq_self, vp_in_nI, nI_clamp, nI_leI, nI_ltI, nI_eq, nI_add, nI_1, pk_mul, an_m36, an_n36, an_b468, forall_eq, true_and, and_true, true_implies, false_implies, not_true, not_false_iff, implies_true, pk_un, pk_us, ap_wrN, ap_wrS]
      exact ax_resh x1 x2 y1 y2 V H W K (ax_W2 y1 y2 ok hR)
    · rw [e] at hR ok cs
      simp (disch := omega) only [wpX_workWithLeft, wX_workWithLeft_302, hw, cs, ax_tkG _ hn ht, an_a2, an_b14, z0, an_t20, an_u41, an_u43, an_e20, an_e21, an_e22, an_e23, an_e24, an_e25, an_e26, an_e27, an_e28, an_e29, an_e30, an_e31, an_e32, an_e33, an_e34, an_e35, an_e36, an_e37, an_e38, an_e39, an_e40, an_e41, an_e42, an_e43, Nat.reduceEqDiff, Nat.reduceLT, Nat.reduceLeDiff, eq_self, vp_in_nI, nI_clamp, nI_leI, nI_ltI, nI_eq, nI_add, nI_1, pk_mul, an_m36, an_n36, an_b468, forall_eq, true_and, and_true, true_implies, false_implies, not_true, not_false_iff, implies_true, pk_un, pk_us, ap_wrN, ap_wrS]
      exact ax_find x1 x2 y1 y2 V H W K (ax_W2 y1 y2 ok hR)
    · rw [e] at hR ok cs
      simp (disch := omega) only [wpX_workWithLeft, wX_workWithLeft_302, hw, cs, ax_tkG _ hn ht, an_a2, an_b14, z0, an_t20, an_u41, an_u43, an_e20, an_e21, an_e22, an_e23, an_e24, an_e25, an_e26, an_e27, an_e28, an_e29, an_e30, an_e31, an_e32, an_e33, an_e34, an_e35, an_e36, an_e37, an_e38, an_e39, an_e40, an_e41, an_e42, an_e43, Nat.reduceEqDiff, Nat.reduceLT, Nat.reduceLeDiff, eq_self, vp_in_nI, nI_clamp, nI_leI, nI_ltI, nI_eq, nI_add, nI_1, pk_mul, an_m36, an_n36, an_b468, forall_eq, true_and, and_true, true_implies, false_implies, not_true, not_false_iff, implies_true, pk_un, pk_us, ap_wrN, ap_wrS]
      exact br_f (by decide) (hR.1 (show (-12 : Int32) ≠ 0 by decide))
    · rw [e] at hR ok cs
      simp (disch := omega) only [wpX_workWithLeft, wX_workWithLeft_302, hw, cs, ax_tkG _ hn ht, an_a2, an_b14, z0, an_t20, an_u41, an_u43, an_e20, an_e21, an_e22, an_e23, an_e24, an_e25, an_e26, an_e27, an_e28, an_e29, an_e30, an_e31, an_e32, an_e33, an_e34, an_e35, an_e36, an_e37, an_e38, an_e39, an_e40, an_e41, an_e42, an_e43, Nat.reduceEqDiff, Nat.reduceLT, Nat.reduceLeDiff, eq_self, vp_in_nI, nI_clamp, nI_leI, nI_ltI, nI_eq, nI_add, nI_1, pk_mul, an_m36, an_n36, an_b468, forall_eq, true_and, and_true, true_implies, false_implies, not_true, not_false_iff, implies_true, pk_un, pk_us, ap_wrN, ap_wrS]
      exact ax_rot x1 x2 y1 y2 V H W K (ax_W2 y1 y2 ok hR)
    · rw [e] at hR ok cs
      simp (disch := omega) only [wpX_workWithLeft, wX_workWithLeft_302, hw, cs, ax_tkG _ hn ht, an_a2, an_b14, z0, an_t20, an_u41, an_u43, an_e20, an_e21, an_e22, an_e23, an_e24, an_e25, an_e26, an_e27, an_e28, an_e29, an_e30, an_e31, an_e32, an_e33, an_e34, an_e35, an_e36, an_e37, an_e38, an_e39, an_e40, an_e41, an_e42, an_e43, Nat.reduceEqDiff, Nat.reduceLT, Nat.reduceLeDiff, eq_self, vp_in_nI, nI_clamp, nI_leI, nI_ltI, nI_eq, nI_add, nI_1, pk_mul, an_m36, an_n36, an_b468, forall_eq, true_and, and_true, true_implies, false_implies, not_true, not_false_iff, implies_true, pk_un, pk_us, ap_wrN, ap_wrS]
      exact ax_take x1 x2 y1 y2 V H W K (ax_W2 y1 y2 ok hR)
    · rw [e] at hR ok cs
      simp (disch := omega) only [wpX_workWithLeft, wX_workWithLeft_302, hw, cs, ax_tkG _ hn ht, an_a2, an_b14, z0, an_t20, an_u41, an_u43, an_e20, an_e21, an_e22, an_e23, an_e24, an_e25, an_e26, an_e27, an_e28, an_e29, an_e30, an_e31, an_e32, an_e33, an_e34, an_e35, an_e36, an_e37, an_e38, an_e39, an_e40, an_e41, an_e42, an_e43, Nat.reduceEqDiff, Nat.reduceLT, Nat.reduceLeDiff, eq_self, vp_in_nI, nI_clamp, nI_leI, nI_ltI, nI_eq, nI_add, nI_1, pk_mul, an_m36, an_n36, an_b468, forall_eq, true_and, and_true, true_implies, false_implies, not_true, not_false_iff, implies_true, pk_un, pk_us, ap_wrN, ap_wrS]
      exact ax_drop x1 x2 y1 y2 V H W K (ax_W2 y1 y2 ok hR)
    · rw [e] at hR ok cs
      simp (disch := omega) only [wpX_workWithLeft, wX_workWithLeft_302, hw, cs, ax_tkG _ hn ht, an_a2, an_b14, z0, an_t20, an_u41, an_u43, an_e20, an_e21, an_e22, an_e23, an_e24, an_e25, an_e26, an_e27, an_e28, an_e29, an_e30, an_e31, an_e32, an_e33, an_e34, an_e35, an_e36, an_e37, an_e38, an_e39, an_e40, an_e41, an_e42, an_e43, Nat.reduceEqDiff, Nat.reduceLT, Nat.reduceLeDiff, eq_self, vp_in_nI, nI_clamp, nI_leI, nI_ltI, nI_eq, nI_add, nI_1, pk_mul, an_m36, an_n36, an_b468, forall_eq, true_and, and_true, true_implies, false_implies, not_true, not_false_iff, implies_true, pk_un, pk_us, ap_wrN, ap_wrS]
      exact ax_join x1 x2 y1 y2 V H W K (ax_W2 y1 y2 ok hR)
    · rw [e] at hR ok cs
      simp (disch := omega) only [wpX_workWithLeft, wX_workWithLeft_302, hw, cs, ax_tkG _ hn ht, an_a2, an_b14, z0, an_t20, an_u41, an_u43, an_e20, an_e21, an_e22, an_e23, an_e24, an_e25, an_e26, an_e27, an_e28, an_e29, an_e30, an_e31, an_e32, an_e33, an_e34, an_e35, an_e36, an_e37, an_e38, an_e39, an_e40, an_e41, an_e42, an_e43, Nat.reduceEqDiff, Nat.reduceLT, Nat.reduceLeDiff, eq_self, vp_in_nI, nI_clamp, nI_leI, nI_ltI, nI_eq, nI_add, nI_1, pk_mul, an_m36, an_n36, an_b468, forall_eq, true_and, and_true, true_implies, false_implies, not_true, not_false_iff, implies_true, pk_un, pk_us, ap_wrN, ap_wrS]
      exact ax_pick x1 x2 y1 y2 V H W K (ax_W2 y1 y2 ok hR)
    · rw [e] at hR ok cs
      simp (disch := omega) only [wpX_workWithLeft, wX_workWithLeft_302, hw, cs, ax_tkG _ hn ht, an_a2, an_b14, z0, an_t20, an_u41, an_u43, an_e20, an_e21, an_e22, an_e23, an_e24, an_e25, an_e26, an_e27, an_e28, an_e29, an_e30, an_e31, an_e32, an_e33, an_e34, an_e35, an_e36, an_e37, an_e38, an_e39, an_e40, an_e41, an_e42, an_e43, Nat.reduceEqDiff, Nat.reduceLT, Nat.reduceLeDiff, eq_self, vp_in_nI, nI_clamp, nI_leI, nI_ltI, nI_eq, nI_add, nI_1, pk_mul, an_m36, an_n36, an_b468, forall_eq, true_and, and_true, true_implies, false_implies, not_true, not_false_iff, implies_true, pk_un, pk_us, ap_wrN, ap_wrS]
      exact br_f (by decide) (hR.1 (show (-12 : Int32) ≠ 0 by decide))
  · have ef : ag_f tn q = tn (q + 1) := if_pos o.1
    have ek : ag_k tn n q = 3 := ag_kO o.1
    have ec : ag_cs tn n q = 42 := by unfold ag_cs; rw [ek]; rfl
    rw [ek, ef] at hR ok
    rw [ec] at cs
    have e1 : ap_two R r c d S s t e 3 (tn (q + 1)) (ag_g tn q) = ap_outer R r c d S s t e (tn (q + 1)) := by unfold ap_two; rw [if_neg (by omega), if_pos rfl]
    rw [e1] at hR ok
    have b := o.2.1
    simp (disch := omega) only [wpX_workWithLeft, wX_workWithLeft_302, hw, cs, ax_tkG _ hn ht, an_a2, an_b14, z0, an_t20, an_u41, an_u43, an_e20, an_e21, an_e22, an_e23, an_e24, an_e25, an_e26, an_e27, an_e28, an_e29, an_e30, an_e31, an_e32, an_e33, an_e34, an_e35, an_e36, an_e37, an_e38, an_e39, an_e40, an_e41, an_e42, an_e43, Nat.reduceEqDiff, Nat.reduceLT, Nat.reduceLeDiff, eq_self, b, if_true, vp_in_nI, nI_clamp, nI_leI, nI_ltI, nI_eq, nI_add, nI_1, pk_mul, an_m36, an_n36, an_b468, forall_eq, true_and, and_true, true_implies, false_implies, not_true, not_false_iff, implies_true, pk_un, pk_us, ap_wrN, ap_wrS]
    exact ax_outer o.2.2 x1 x2 y1 y2 V H W K (ax_W2 y1 y2 ok hR)
  · have ef : ag_f tn q = tn q := if_neg (by omega)
    have sc := sx.1
    have tl : tn q < 30 := by omega
    rw [ef] at hR ok
    by_cases b : q + 1 < n
    · by_cases b40 : tn (q + 1) = 40
      · have ek := ag_kA sc b b40
        have ec : ag_cs tn n q = 40 := by unfold ag_cs; rw [ek]; rfl
        rw [ek] at hR ok
        rw [ec] at cs
        simp (disch := omega) only [wpX_workWithLeft, wX_workWithLeft_302, hw, cs, ax_tkG _ hn ht, an_a2, an_b14, z0, an_t20, an_u41, an_u43, an_e20, an_e21, an_e22, an_e23, an_e24, an_e25, an_e26, an_e27, an_e28, an_e29, an_e30, an_e31, an_e32, an_e33, an_e34, an_e35, an_e36, an_e37, an_e38, an_e39, an_e40, an_e41, an_e42, an_e43, Nat.reduceEqDiff, Nat.reduceLT, Nat.reduceLeDiff, eq_self, vp_in_nI, nI_clamp, nI_leI, nI_ltI, nI_eq, nI_add, nI_1, pk_mul, an_m36, an_n36, an_b468, forall_eq, true_and, and_true, true_implies, false_implies, not_true, not_false_iff, implies_true, pk_un, pk_us, ap_wrN, ap_wrS]
        exact br_f (by decide) (hR.1 (show (-12 : Int32) ≠ 0 by decide))
      · by_cases b41 : tn (q + 1) = 41
        · have ek := ag_kB sc b b41
          have ec : ag_cs tn n q = 41 := by unfold ag_cs; rw [ek]; rfl
          rw [ek] at hR ok
          rw [ec] at cs
          simp (disch := omega) only [wpX_workWithLeft, wX_workWithLeft_302, hw, cs, ax_tkG _ hn ht, an_a2, an_b14, z0, an_t20, an_u41, an_u43, an_e20, an_e21, an_e22, an_e23, an_e24, an_e25, an_e26, an_e27, an_e28, an_e29, an_e30, an_e31, an_e32, an_e33, an_e34, an_e35, an_e36, an_e37, an_e38, an_e39, an_e40, an_e41, an_e42, an_e43, Nat.reduceEqDiff, Nat.reduceLT, Nat.reduceLeDiff, eq_self, vp_in_nI, nI_clamp, nI_leI, nI_ltI, nI_eq, nI_add, nI_1, pk_mul, an_m36, an_n36, an_b468, forall_eq, true_and, and_true, true_implies, false_implies, not_true, not_false_iff, implies_true, pk_un, pk_us, ap_wrN, ap_wrS]
          exact br_f (by decide) (hR.1 (show (-12 : Int32) ≠ 0 by decide))
        · by_cases b43 : tn (q + 1) = 43
          · have ek := ag_kD sc b b43
            have ec : ag_cs tn n q = 43 := by unfold ag_cs; rw [ek]; rfl
            rw [ek] at hR ok
            rw [ec] at cs
            have b2 := sx.2 b b43
            have e1 : ap_two R r c d S s t e 4 (tn q) (tn (q + 2)) = ap_inner R r c d S s t e (tn q) (tn (q + 2)) := by unfold ap_two; rw [if_neg (by omega), if_neg (by omega), if_pos rfl]
            unfold ag_g at hR ok
            rw [e1] at hR ok
            have b3 := b2.1
            simp (disch := omega) only [wpX_workWithLeft, wX_workWithLeft_302, hw, cs, ax_tkG _ hn ht, an_a2, an_b14, z0, an_t20, an_u41, an_u43, an_e20, an_e21, an_e22, an_e23, an_e24, an_e25, an_e26, an_e27, an_e28, an_e29, an_e30, an_e31, an_e32, an_e33, an_e34, an_e35, an_e36, an_e37, an_e38, an_e39, an_e40, an_e41, an_e42, an_e43, Nat.reduceEqDiff, Nat.reduceLT, Nat.reduceLeDiff, eq_self, ht, b3, if_true, vp_in_nI, nI_clamp, nI_leI, nI_ltI, nI_eq, nI_add, nI_1, pk_mul, an_m36, an_n36, an_b468, forall_eq, true_and, and_true, true_implies, false_implies, not_true, not_false_iff, implies_true, pk_un, pk_us, ap_wrN, ap_wrS]
            exact ax_inner sc b2.2 x1 x2 y1 y2 V H W K (ax_W2 y1 y2 ok hR)
          · have ek := ag_k0 (n := n) sc (fun _ => ⟨b40, b41, b43⟩)
            have ec : ag_cs tn n q = 20 := by unfold ag_cs; rw [ek, if_pos rfl, if_pos sc]
            rw [ek] at hR ok
            rw [ec] at cs
            have e1 : ap_two R r c d S s t e 0 (tn q) (ag_g tn q) = ap_s2 R r c d S s t e (tn q) := by unfold ap_two; rw [if_neg (by omega), if_neg (by omega), if_neg (by omega), if_pos tl]
            rw [e1] at hR ok
            simp (disch := omega) only [wpX_workWithLeft, wX_workWithLeft_302, hw, cs, ax_tkG _ hn ht, an_a2, an_b14, z0, an_t20, an_u41, an_u43, an_e20, an_e21, an_e22, an_e23, an_e24, an_e25, an_e26, an_e27, an_e28, an_e29, an_e30, an_e31, an_e32, an_e33, an_e34, an_e35, an_e36, an_e37, an_e38, an_e39, an_e40, an_e41, an_e42, an_e43, Nat.reduceEqDiff, Nat.reduceLT, Nat.reduceLeDiff, eq_self, ht, vp_in_nI, nI_clamp, nI_leI, nI_ltI, nI_eq, nI_add, nI_1, pk_mul, an_m36, an_n36, an_b468, forall_eq, true_and, and_true, true_implies, false_implies, not_true, not_false_iff, implies_true, pk_un, pk_us, ap_wrN, ap_wrS]
            exact ax_s2 sc x1 x2 y1 y2 V H W K (ax_W2 y1 y2 ok hR)
    · have ek := ag_k0 (n := n) sc (fun z => absurd z b)
      have ec : ag_cs tn n q = 20 := by unfold ag_cs; rw [ek, if_pos rfl, if_pos sc]
      rw [ek] at hR ok
      rw [ec] at cs
      have e1 : ap_two R r c d S s t e 0 (tn q) (ag_g tn q) = ap_s2 R r c d S s t e (tn q) := by unfold ap_two; rw [if_neg (by omega), if_neg (by omega), if_neg (by omega), if_pos tl]
      rw [e1] at hR ok
      simp (disch := omega) only [wpX_workWithLeft, wX_workWithLeft_302, hw, cs, ax_tkG _ hn ht, an_a2, an_b14, z0, an_t20, an_u41, an_u43, an_e20, an_e21, an_e22, an_e23, an_e24, an_e25, an_e26, an_e27, an_e28, an_e29, an_e30, an_e31, an_e32, an_e33, an_e34, an_e35, an_e36, an_e37, an_e38, an_e39, an_e40, an_e41, an_e42, an_e43, Nat.reduceEqDiff, Nat.reduceLT, Nat.reduceLeDiff, eq_self, ht, vp_in_nI, nI_clamp, nI_leI, nI_ltI, nI_eq, nI_add, nI_1, pk_mul, an_m36, an_n36, an_b468, forall_eq, true_and, and_true, true_implies, false_implies, not_true, not_false_iff, implies_true, pk_un, pk_us, ap_wrN, ap_wrS]
      exact ax_s2 sc x1 x2 y1 y2 V H W K (ax_W2 y1 y2 ok hR)
end
