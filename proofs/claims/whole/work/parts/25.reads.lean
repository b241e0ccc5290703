/-! which texts are statements -/
theorem ax_st (post : Int32 → Prop) {s t : Nat} (hs : s < 7) (ht : t < 53) : wpX_stateAfter post (nI s) (nI t) = post (nI (ag_step s t)) := by
  have z1 : ¬ (1 : Int32) = 0 := by decide
  have e50 : wX_stateAfter_50 post (nI s) (nI t) = post (nI (if ag_sc t then 2 else if ag_mx t then 1 else if t = 42 then 3 else if s = 4 ∨ s = 5 ∨ s = 6 then (if s = 4 ∧ t ≤ 9 then 4 else if s = 5 ∧ t = 52 then 1 else if t = 51 then 6 else 0) else (if t ≤ 9 then 4 else if ag_nm t then 5 else if t = 50 then 1 else 0))) := by
    by_cases a : ag_sc t
    · rw [if_pos a]
      simp (disch := omega) only [wX_stateAfter_50, ax_S1 _ a, z1, vp_in_nI, nI_clamp, nI_leI, nI_ltI, nI_eq, nI_add, nI_1, pk_mul, an_m36, an_n36, an_b468, forall_eq, true_and, and_true, true_implies, false_implies, not_true, not_false_iff, implies_true, pk_un, pk_us, ap_wrN, ap_wrS]
      rfl
    rw [if_neg a]
    by_cases b : ag_mx t
    · rw [if_pos b]
      simp (disch := omega) only [wX_stateAfter_50, ax_S0 _ (show t < 1000 by omega) a, ax_M1 _ b, z1, vp_in_nI, nI_clamp, nI_leI, nI_ltI, nI_eq, nI_add, nI_1, pk_mul, an_m36, an_n36, an_b468, forall_eq, true_and, and_true, true_implies, false_implies, not_true, not_false_iff, implies_true, pk_un, pk_us, ap_wrN, ap_wrS]
      rfl
    rw [if_neg b]
    by_cases c : t = 42
    · rw [if_pos c]
      simp (disch := omega) only [wX_stateAfter_50, ax_S0 _ (show t < 1000 by omega) a, ax_M0 _ (show t < 1000 by omega) b, an_e42, eq_true c, vp_in_nI, nI_clamp, nI_leI, nI_ltI, nI_eq, nI_add, nI_1, pk_mul, an_m36, an_n36, an_b468, forall_eq, true_and, and_true, true_implies, false_implies, not_true, not_false_iff, implies_true, pk_un, pk_us, ap_wrN, ap_wrS]
      rfl
    rw [if_neg c]
    by_cases d : s = 4 ∨ s = 5 ∨ s = 6
    · rw [if_pos d]
      have en : ∀ P : Int32 → Prop, wpX_endsOperand P (nI s) = P 1 := fun P => by
        simp (disch := omega) only [wpX_endsOperand, an_e4, an_e5, an_e6]
        rcases d with rfl | rfl | rfl <;> simp
      by_cases d4 : s = 4
      · by_cases d9 : t ≤ 9
        · rw [if_pos ⟨d4, d9⟩]
          simp (disch := omega) only [wX_stateAfter_50, ax_S0 _ (show t < 1000 by omega) a, ax_M0 _ (show t < 1000 by omega) b, an_e42, c, en, wpX_stateBehindOperand, an_e4, eq_true d4, ax_D1 _ d9, z1, vp_in_nI, nI_clamp, nI_leI, nI_ltI, nI_eq, nI_add, nI_1, pk_mul, an_m36, an_n36, an_b468, forall_eq, true_and, and_true, true_implies, false_implies, not_true, not_false_iff, implies_true, pk_un, pk_us, ap_wrN, ap_wrS]
          rfl
        · rw [if_neg (fun z => d9 z.2), if_neg (by omega)]
          have d5 : ¬ s = 5 := by omega
          by_cases d51 : t = 51
          · rw [if_pos d51]
            simp (disch := omega) only [wX_stateAfter_50, ax_S0 _ (show t < 1000 by omega) a, ax_M0 _ (show t < 1000 by omega) b, an_e42, c, en, z1, wpX_stateBehindOperand, wX_stateBehindOperand_14, wX_stateBehindOperand_27, an_e4, an_e5, an_e51, eq_true d4, d5, ax_D0 _ (show t < 1000 by omega) d9, eq_true d51, vp_in_nI, nI_clamp, nI_leI, nI_ltI, nI_eq, nI_add, nI_1, pk_mul, an_m36, an_n36, an_b468, forall_eq, true_and, and_true, true_implies, false_implies, not_true, not_false_iff, implies_true, pk_un, pk_us, ap_wrN, ap_wrS]
            rfl
          · rw [if_neg d51]
            simp (disch := omega) only [wX_stateAfter_50, ax_S0 _ (show t < 1000 by omega) a, ax_M0 _ (show t < 1000 by omega) b, an_e42, c, en, z1, wpX_stateBehindOperand, wX_stateBehindOperand_14, wX_stateBehindOperand_27, an_e4, an_e5, an_e51, eq_true d4, d5, ax_D0 _ (show t < 1000 by omega) d9, d51, vp_in_nI, nI_clamp, nI_leI, nI_ltI, nI_eq, nI_add, nI_1, pk_mul, an_m36, an_n36, an_b468, forall_eq, true_and, and_true, true_implies, false_implies, not_true, not_false_iff, implies_true, pk_un, pk_us, ap_wrN, ap_wrS]
            rfl
      · rw [if_neg (fun z => d4 z.1)]
        by_cases d5 : s = 5
        · by_cases d52 : t = 52
          · rw [if_pos ⟨d5, d52⟩]
            simp (disch := omega) only [wX_stateAfter_50, ax_S0 _ (show t < 1000 by omega) a, ax_M0 _ (show t < 1000 by omega) b, an_e42, c, en, z1, wpX_stateBehindOperand, wX_stateBehindOperand_14, wX_stateBehindOperand_27, an_e4, an_e5, an_e52, eq_true d5, d4, eq_true d52, vp_in_nI, nI_clamp, nI_leI, nI_ltI, nI_eq, nI_add, nI_1, pk_mul, an_m36, an_n36, an_b468, forall_eq, true_and, and_true, true_implies, false_implies, not_true, not_false_iff, implies_true, pk_un, pk_us, ap_wrN, ap_wrS]
            rfl
          · rw [if_neg (fun z => d52 z.2)]
            by_cases d51 : t = 51
            · rw [if_pos d51]
              simp (disch := omega) only [wX_stateAfter_50, ax_S0 _ (show t < 1000 by omega) a, ax_M0 _ (show t < 1000 by omega) b, an_e42, c, en, z1, wpX_stateBehindOperand, wX_stateBehindOperand_14, wX_stateBehindOperand_27, an_e4, an_e5, an_e52, an_e51, eq_true d5, d4, eq_true d51, d52, vp_in_nI, nI_clamp, nI_leI, nI_ltI, nI_eq, nI_add, nI_1, pk_mul, an_m36, an_n36, an_b468, forall_eq, true_and, and_true, true_implies, false_implies, not_true, not_false_iff, implies_true, pk_un, pk_us, ap_wrN, ap_wrS]
              rfl
            · rw [if_neg d51]
              simp (disch := omega) only [wX_stateAfter_50, ax_S0 _ (show t < 1000 by omega) a, ax_M0 _ (show t < 1000 by omega) b, an_e42, c, en, z1, wpX_stateBehindOperand, wX_stateBehindOperand_14, wX_stateBehindOperand_27, an_e4, an_e5, an_e52, an_e51, eq_true d5, d4, d51, d52, vp_in_nI, nI_clamp, nI_leI, nI_ltI, nI_eq, nI_add, nI_1, pk_mul, an_m36, an_n36, an_b468, forall_eq, true_and, and_true, true_implies, false_implies, not_true, not_false_iff, implies_true, pk_un, pk_us, ap_wrN, ap_wrS]
              rfl
        · rw [if_neg (fun z => d5 z.1)]
          by_cases d51 : t = 51
          · rw [if_pos d51]
            simp (disch := omega) only [wX_stateAfter_50, ax_S0 _ (show t < 1000 by omega) a, ax_M0 _ (show t < 1000 by omega) b, an_e42, c, en, z1, wpX_stateBehindOperand, wX_stateBehindOperand_14, wX_stateBehindOperand_27, an_e4, an_e5, an_e51, d4, d5, eq_true d51, vp_in_nI, nI_clamp, nI_leI, nI_ltI, nI_eq, nI_add, nI_1, pk_mul, an_m36, an_n36, an_b468, forall_eq, true_and, and_true, true_implies, false_implies, not_true, not_false_iff, implies_true, pk_un, pk_us, ap_wrN, ap_wrS]
            rfl
          · rw [if_neg d51]
            simp (disch := omega) only [wX_stateAfter_50, ax_S0 _ (show t < 1000 by omega) a, ax_M0 _ (show t < 1000 by omega) b, an_e42, c, en, z1, wpX_stateBehindOperand, wX_stateBehindOperand_14, wX_stateBehindOperand_27, an_e4, an_e5, an_e51, d4, d5, d51, vp_in_nI, nI_clamp, nI_leI, nI_ltI, nI_eq, nI_add, nI_1, pk_mul, an_m36, an_n36, an_b468, forall_eq, true_and, and_true, true_implies, false_implies, not_true, not_false_iff, implies_true, pk_un, pk_us, ap_wrN, ap_wrS]
            rfl
    · rw [if_neg d]
      have en : ∀ P : Int32 → Prop, wpX_endsOperand P (nI s) = P 0 := fun P => by
        have d4 : ¬ s = 4 := by omega
        have d5 : ¬ s = 5 := by omega
        have d6 : ¬ s = 6 := by omega
        simp (disch := omega) only [wpX_endsOperand, an_e4, an_e5, an_e6, d4, d5, d6, vp_in_nI, nI_clamp, nI_leI, nI_ltI, nI_eq, nI_add, nI_1, pk_mul, an_m36, an_n36, an_b468, forall_eq, true_and, and_true, true_implies, false_implies, not_true, not_false_iff, implies_true, pk_un, pk_us, ap_wrN, ap_wrS]
      by_cases d9 : t ≤ 9
      · rw [if_pos d9]
        simp (disch := omega) only [wX_stateAfter_50, ax_S0 _ (show t < 1000 by omega) a, ax_M0 _ (show t < 1000 by omega) b, an_e42, c, en, wpX_stateInOperand, ax_D1 _ d9, z1, vp_in_nI, nI_clamp, nI_leI, nI_ltI, nI_eq, nI_add, nI_1, pk_mul, an_m36, an_n36, an_b468, forall_eq, true_and, and_true, true_implies, false_implies, not_true, not_false_iff, implies_true, pk_un, pk_us, ap_wrN, ap_wrS]
        rfl
      · rw [if_neg d9]
        by_cases dn : ag_nm t
        · rw [if_pos dn]
          simp (disch := omega) only [wX_stateAfter_50, ax_S0 _ (show t < 1000 by omega) a, ax_M0 _ (show t < 1000 by omega) b, an_e42, c, en, wpX_stateInOperand, ax_D0 _ (show t < 1000 by omega) d9, ax_N1 _ dn, z1, vp_in_nI, nI_clamp, nI_leI, nI_ltI, nI_eq, nI_add, nI_1, pk_mul, an_m36, an_n36, an_b468, forall_eq, true_and, and_true, true_implies, false_implies, not_true, not_false_iff, implies_true, pk_un, pk_us, ap_wrN, ap_wrS]
          rfl
        · rw [if_neg dn]
          by_cases d50 : t = 50
          · rw [if_pos d50]
            simp (disch := omega) only [wX_stateAfter_50, ax_S0 _ (show t < 1000 by omega) a, ax_M0 _ (show t < 1000 by omega) b, an_e42, c, en, wpX_stateInOperand, ax_D0 _ (show t < 1000 by omega) d9, ax_N0 _ (show t < 1000 by omega) dn, an_e50, eq_true d50, vp_in_nI, nI_clamp, nI_leI, nI_ltI, nI_eq, nI_add, nI_1, pk_mul, an_m36, an_n36, an_b468, forall_eq, true_and, and_true, true_implies, false_implies, not_true, not_false_iff, implies_true, pk_un, pk_us, ap_wrN, ap_wrS]
            rfl
          · rw [if_neg d50]
            simp (disch := omega) only [wX_stateAfter_50, ax_S0 _ (show t < 1000 by omega) a, ax_M0 _ (show t < 1000 by omega) b, an_e42, c, en, wpX_stateInOperand, ax_D0 _ (show t < 1000 by omega) d9, ax_N0 _ (show t < 1000 by omega) dn, an_e50, d50, vp_in_nI, nI_clamp, nI_leI, nI_ltI, nI_eq, nI_add, nI_1, pk_mul, an_m36, an_n36, an_b468, forall_eq, true_and, and_true, true_implies, false_implies, not_true, not_false_iff, implies_true, pk_un, pk_us, ap_wrN, ap_wrS]
            rfl
  unfold ag_step
  by_cases a : s = 3
  · rw [if_pos a]
    by_cases b : ag_sc t
    · rw [if_pos b]
      simp (disch := omega) only [wpX_stateAfter, an_e3, eq_true a, ax_S1 _ b, z1, vp_in_nI, nI_clamp, nI_leI, nI_ltI, nI_eq, nI_add, nI_1, pk_mul, an_m36, an_n36, an_b468, forall_eq, true_and, and_true, true_implies, false_implies, not_true, not_false_iff, implies_true, pk_un, pk_us, ap_wrN, ap_wrS]
      rfl
    · rw [if_neg b]
      simp (disch := omega) only [wpX_stateAfter, an_e3, eq_true a, ax_S0 _ (show t < 1000 by omega) b, vp_in_nI, nI_clamp, nI_leI, nI_ltI, nI_eq, nI_add, nI_1, pk_mul, an_m36, an_n36, an_b468, forall_eq, true_and, and_true, true_implies, false_implies, not_true, not_false_iff, implies_true, pk_un, pk_us, ap_wrN, ap_wrS]
      rfl
  rw [if_neg a]
  by_cases b : s = 2
  · by_cases b1 : t = 40 ∨ t = 41
    · rw [if_pos ⟨b, b1⟩]
      rcases b1 with b1 | b1
      · simp (disch := omega) only [wpX_stateAfter, an_e3, an_e2, an_e40, a, eq_true b, eq_true b1, vp_in_nI, nI_clamp, nI_leI, nI_ltI, nI_eq, nI_add, nI_1, pk_mul, an_m36, an_n36, an_b468, forall_eq, true_and, and_true, true_implies, false_implies, not_true, not_false_iff, implies_true, pk_un, pk_us, ap_wrN, ap_wrS]
        rfl
      · simp (disch := omega) only [wpX_stateAfter, an_e3, an_e2, an_e40, an_e41, a, eq_true b, eq_true b1, show (t = 40) = False from eq_false (by omega), vp_in_nI, nI_clamp, nI_leI, nI_ltI, nI_eq, nI_add, nI_1, pk_mul, an_m36, an_n36, an_b468, forall_eq, true_and, and_true, true_implies, false_implies, not_true, not_false_iff, implies_true, pk_un, pk_us, ap_wrN, ap_wrS]
        rfl
    · rw [if_neg (fun z => b1 z.2)]
      have c1 : ¬ t = 40 := by omega
      have c2 : ¬ t = 41 := by omega
      by_cases b3 : t = 43
      · rw [if_pos ⟨b, b3⟩]
        simp (disch := omega) only [wpX_stateAfter, wX_stateAfter_37, an_e3, an_e2, an_e40, an_e41, an_e43, a, eq_true b, c1, c2, eq_true b3, vp_in_nI, nI_clamp, nI_leI, nI_ltI, nI_eq, nI_add, nI_1, pk_mul, an_m36, an_n36, an_b468, forall_eq, true_and, and_true, true_implies, false_implies, not_true, not_false_iff, implies_true, pk_un, pk_us, ap_wrN, ap_wrS]
        rfl
      · rw [if_neg (fun z => b3 z.2), ← e50]
        simp (disch := omega) only [wpX_stateAfter, wX_stateAfter_37, an_e3, an_e2, an_e40, an_e41, an_e43, a, eq_true b, c1, c2, b3, vp_in_nI, nI_clamp, nI_leI, nI_ltI, nI_eq, nI_add, nI_1, pk_mul, an_m36, an_n36, an_b468, forall_eq, true_and, and_true, true_implies, false_implies, not_true, not_false_iff, implies_true, pk_un, pk_us, ap_wrN, ap_wrS]
  · rw [if_neg (fun z => b z.1), if_neg (fun z => b z.1), ← e50]
    simp (disch := omega) only [wpX_stateAfter, wX_stateAfter_37, an_e3, an_e2, a, b, vp_in_nI, nI_clamp, nI_leI, nI_ltI, nI_eq, nI_add, nI_1, pk_mul, an_m36, an_n36, an_b468, forall_eq, true_and, and_true, true_implies, false_implies, not_true, not_false_iff, implies_true, pk_un, pk_us, ap_wrN, ap_wrS]
section
variable {tc lv : Int32} {tx rk rw cl nb gv wt : Nat → Int32}
theorem ax_rdL {post : Int32 → Prop} {n : Nat} {tn : Nat → Nat} (hn : n ≤ 30) (ht : ∀ j, tx j = nI (tn j)) (hk : ∀ j, ag_tok (tn j)) (h1 : ag_ok tn n → post 1) (h0 : ¬ ag_ok tn n → post 0) :
    ∀ m p f, p + m = n → m < f → ag_pre tn p → wX_reads_6 post (nI n) lv tx rk rw cl nb gv wt f (nI (ag_st tn p)) (nI (ag_dp tn p)) (nI p) := by
  intro m
  induction m with
  | zero =>
    intro p f hp hf pre
    obtain ⟨f, rfl⟩ : ∃ k, f = k + 1 := ⟨f - 1, by omega⟩
    have e : p = n := by omega
    subst e
    have s7 := ag_s7 tn p
    have d30 := ag_dle tn p
    have z : p ≤ p := Nat.le_refl p
    have z1 : ¬ (1 : Int32) = 0 := by decide
    simp (disch := omega) only [wX_reads_6, wpX_endsOperand, z, an_e0, an_e4, an_e5, an_e6, z1, vp_in_nI, nI_clamp, nI_leI, nI_ltI, nI_eq, nI_add, nI_1, pk_mul, an_m36, an_n36, an_b468, forall_eq, true_and, and_true, true_implies, false_implies, not_true, not_false_iff, implies_true, pk_un, pk_us, ap_wrN, ap_wrS]
    by_cases d : ag_dp tn p = 0
    · refine br_t d ?_
      by_cases g : 4 ≤ ag_st tn p
      · have q := h1 ⟨pre, d, g⟩
        refine br_c (fun _ => q) (fun g4 => br_c (fun _ => q) (fun g5 => br_c (fun _ => q) (fun g6 => ?_)))
        omega
      · have q := h0 (fun k => g k.2.2)
        exact br_f (by omega) (br_f (by omega) (br_f (by omega) q))
    · exact br_f d (h0 (fun k => d k.2.1))
  | succ m ih =>
    intro p f hp hf pre
    obtain ⟨f, rfl⟩ : ∃ k, f = k + 1 := ⟨f - 1, by omega⟩
    have s7 := ag_s7 tn p
    have t0 := ag_tk (hk p)
    have d30 := ag_dle tn p
    have z : ¬ n ≤ p := by omega
    have s7' := ag_s7 tn (p + 1)
    have fin : ∀ (o : Int32), (tn p = 51 → ag_dp tn p = 0 → o = -1) → ((tn p = 51 → 0 < ag_dp tn p) → o = nI (ag_dp tn (p + 1))) → (ag_st tn (p + 1) = 0 → post 0) ∧ (¬ ag_st tn (p + 1) = 0 → (0 ≤ o → wX_reads_6 post (nI n) lv tx rk rw cl nb gv wt f (nI (ag_st tn (p + 1))) o (nI (p + 1))) ∧ (¬ 0 ≤ o → post 0)) := by
      intro o o1 o2
      refine br_c (fun e => h0 (ag_no (by omega) e)) (fun e => ?_)
      by_cases g : tn p = 51 ∧ ag_dp tn p = 0
      · have e1 := o1 g.1 g.2
        subst e1
        exact br_f (by decide) (h0 (ag_nod (by omega) g.1 g.2))
      · have g2 : tn p = 51 → 0 < ag_dp tn p := fun z => by omega
        have e1 := o2 g2
        subst e1
        have d31 := ag_dle tn (p + 1)
        exact br_t (nI_pos' (by omega)) (ih (p + 1) f (by omega) (by omega) (ag_preS pre e g2))
    simp (disch := omega) only [wX_reads_6, wX_reads_53, ht, ax_st _ s7 t0, z, an_e50, an_e51, vp_in_nI, nI_clamp, nI_leI, nI_ltI, nI_eq, nI_add, nI_1, pk_mul, an_m36, an_n36, an_b468, forall_eq, true_and, and_true, true_implies, false_implies, not_true, not_false_iff, implies_true, pk_un, pk_us, ap_wrN, ap_wrS]
    rw [← ag_s]
    have en : (nI (ag_st tn (p + 1)) = 0) = (ag_st tn (p + 1) = 0) := an_e0 (by omega)
    rw [en]
    by_cases a : tn p = 50
    · have e : ag_dp tn (p + 1) = ag_dp tn p + 1 := by rw [ag_d, if_pos a]
      exact br_t a (fin _ (by omega) (fun _ => by rw [e]))
    · refine br_f a ?_
      by_cases b : tn p = 51
      · refine br_t b (fin _ (fun _ e => by rw [e]; decide) (fun g => ?_))
        have e : ag_dp tn (p + 1) = ag_dp tn p - 1 := by rw [ag_d, if_neg a, if_pos b]
        rw [e]
        exact an_m1s (g b)
      · refine br_f b (fin _ (by omega) (fun _ => ?_))
        have e : ag_dp tn (p + 1) = ag_dp tn p := by rw [ag_d, if_neg a, if_neg b]
        rw [e, Int32.add_zero]
theorem ax_rd {post : Int32 → Prop} {n : Nat} {tn : Nat → Nat} (hn : n ≤ 30) (ht : ∀ j, tx j = nI (tn j)) (hk : ∀ j, ag_tok (tn j)) (h1 : ag_ok tn n → post 1) (h0 : ¬ ag_ok tn n → post 0) : wpX_reads post (nI n, lv, tx, rk, rw, cl, nb, gv, wt) :=
  ⟨n + 1, ax_rdL hn ht hk h1 h0 n 0 (n + 1) (by omega) (by omega) (ag_pre0 tn)⟩
end
