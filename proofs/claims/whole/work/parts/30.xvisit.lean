/-! X: what is due at a token -/
section
variable {tc lv : Int32} {tx rk rw cl nb gv wt : Nat → Int32} {tn : Nat → Nat} {n : Nat}
theorem ax_tkp (post : Int32 → Prop) {p : Nat} (hn : n ≤ 30) (ht : ∀ j, tx j = nI (tn j)) (hp : p ≤ n) : wpX_tokenAt post (nI n, lv, tx, rk, rw, cl, nb, gv, wt) (nI p - 1) = post (if 1 ≤ p then nI (tn (p - 1)) else -1) := by
  by_cases h : 1 ≤ p
  · rw [if_pos h, an_s1 h]
    exact ax_tk post hn ht (by omega)
  · rw [if_neg h, show p = 0 by omega]
    exact ax_tkm post
theorem ax_sO0 (post : Int32 → Prop) {p : Nat} (hn : n ≤ 30) (ht : ∀ j, tx j = nI (tn j)) (hk : ∀ j, ag_tok (tn j)) (hp : p < n) (h1 : ¬ tn p ≤ 9) (h2 : ¬ ag_nm (tn p)) : wpX_startsOperand post (nI n, lv, tx, rk, rw, cl, nb, gv, wt) (nI p) = post 0 := by
  have t0 := ag_tk (hk p)
  simp (disch := omega) only [wpX_startsOperand, ax_tk _ hn ht, ax_D0 _ (show tn p < 1000 by omega) h1, ax_N0 _ (show tn p < 1000 by omega) h2, vp_in_nI, nI_clamp, nI_leI, nI_ltI, nI_eq, nI_add, nI_1, pk_mul, an_m36, an_n36, an_b468, forall_eq, true_and, and_true, true_implies, false_implies, not_true, not_false_iff, implies_true, pk_un, pk_us, ap_wrN, ap_wrS]
theorem ax_sOn1 (post : Int32 → Prop) {p : Nat} (hn : n ≤ 30) (ht : ∀ j, tx j = nI (tn j)) (hk : ∀ j, ag_tok (tn j)) (hp : p < n) (h1 : tn p ≤ 9) (h2 : 1 ≤ p → ¬ tn (p - 1) ≤ 9) : wpX_startsOperand post (nI n, lv, tx, rk, rw, cl, nb, gv, wt) (nI p) = post 1 := by
  have t0 := ag_tk (hk p)
  have t1 := ag_tk (hk (p - 1))
  have z1 : ¬ (1 : Int32) = 0 := by decide
  by_cases h : 1 ≤ p
  · simp (disch := omega) only [wpX_startsOperand, ax_tk _ hn ht, ax_D1 _ h1, z1, ax_tkp _ hn ht, h, if_true, ax_D0 _ (show tn (p - 1) < 1000 by omega) (h2 h), vp_in_nI, nI_clamp, nI_leI, nI_ltI, nI_eq, nI_add, nI_1, pk_mul, an_m36, an_n36, an_b468, forall_eq, true_and, and_true, true_implies, false_implies, not_true, not_false_iff, implies_true, pk_un, pk_us, ap_wrN, ap_wrS]
  · simp (disch := omega) only [wpX_startsOperand, ax_tk _ hn ht, ax_D1 _ h1, z1, ax_tkp _ hn ht, h, if_false, ax_Dm, vp_in_nI, nI_clamp, nI_leI, nI_ltI, nI_eq, nI_add, nI_1, pk_mul, an_m36, an_n36, an_b468, forall_eq, true_and, and_true, true_implies, false_implies, not_true, not_false_iff, implies_true, pk_un, pk_us, ap_wrN, ap_wrS]
theorem ax_sOn0 (post : Int32 → Prop) {p : Nat} (hn : n ≤ 30) (ht : ∀ j, tx j = nI (tn j)) (hp : p < n) (h1 : tn p ≤ 9) (h : 1 ≤ p) (h2 : tn (p - 1) ≤ 9) : wpX_startsOperand post (nI n, lv, tx, rk, rw, cl, nb, gv, wt) (nI p) = post 0 := by
  have z1 : ¬ (1 : Int32) = 0 := by decide
  simp (disch := omega) only [wpX_startsOperand, ax_tk _ hn ht, ax_D1 _ h1, z1, ax_tkp _ hn ht, h, if_true, ax_D1 _ h2, vp_in_nI, nI_clamp, nI_leI, nI_ltI, nI_eq, nI_add, nI_1, pk_mul, an_m36, an_n36, an_b468, forall_eq, true_and, and_true, true_implies, false_implies, not_true, not_false_iff, implies_true, pk_un, pk_us, ap_wrN, ap_wrS]
theorem ax_sOm1 (post : Int32 → Prop) {p : Nat} (hn : n ≤ 30) (ht : ∀ j, tx j = nI (tn j)) (hk : ∀ j, ag_tok (tn j)) (hp : p < n) (h1 : ag_nm (tn p)) (h2 : p + 1 < n → tn (p + 1) ≠ 52) : wpX_startsOperand post (nI n, lv, tx, rk, rw, cl, nb, gv, wt) (nI p) = post 1 := by
  have t0 := ag_tk (hk p)
  have t1 := ag_tk (hk (p + 1))
  have z1 : ¬ (1 : Int32) = 0 := by decide
  have d : ¬ tn p ≤ 9 := by omega
  have cond : ¬ (if p + 1 < n then nI (tn (p + 1)) else -1) = 52 := by
    by_cases c1 : p + 1 < n
    · rw [if_pos c1, an_e52 (by omega)]
      exact h2 c1
    · rw [if_neg c1]; decide
  simp (disch := omega) only [wpX_startsOperand, ax_tk _ hn ht, ax_D0 _ (show tn p < 1000 by omega) d, ax_N1 _ h1, z1, nI_1, ax_tkG _ hn ht, cond, vp_in_nI, nI_clamp, nI_leI, nI_ltI, nI_eq, nI_add, nI_1, pk_mul, an_m36, an_n36, an_b468, forall_eq, true_and, and_true, true_implies, false_implies, not_true, not_false_iff, implies_true, pk_un, pk_us, ap_wrN, ap_wrS]
theorem ax_sOm0 (post : Int32 → Prop) {p : Nat} (hn : n ≤ 30) (ht : ∀ j, tx j = nI (tn j)) (hk : ∀ j, ag_tok (tn j)) (hp : p < n) (h1 : ag_nm (tn p)) (h3 : p + 1 < n) (h2 : tn (p + 1) = 52) : wpX_startsOperand post (nI n, lv, tx, rk, rw, cl, nb, gv, wt) (nI p) = post 0 := by
  have t0 := ag_tk (hk p)
  have z1 : ¬ (1 : Int32) = 0 := by decide
  have d : ¬ tn p ≤ 9 := by omega
  simp (disch := omega) only [wpX_startsOperand, ax_tk _ hn ht, ax_D0 _ (show tn p < 1000 by omega) d, ax_N1 _ h1, z1, nI_1, h3, an_e52, eq_true h2, vp_in_nI, nI_clamp, nI_leI, nI_ltI, nI_eq, nI_add, nI_1, pk_mul, an_m36, an_n36, an_b468, forall_eq, true_and, and_true, true_implies, false_implies, not_true, not_false_iff, implies_true, pk_un, pk_us, ap_wrN, ap_wrS]
theorem ax_sF0 (post : Int32 → Prop) {p : Nat} (hn : n ≤ 30) (ht : ∀ j, tx j = nI (tn j)) (hk : ∀ j, ag_tok (tn j)) (hp : p < n) (h1 : ¬ ag_sc (tn p)) (h2 : ¬ ag_mx (tn p)) (h3 : tn p ≠ 42) : wpX_startsFunction post (nI n, lv, tx, rk, rw, cl, nb, gv, wt) (nI p) = post 0 := by
  have t0 := ag_tk (hk p)
  simp (disch := omega) only [wpX_startsFunction, ax_tk _ hn ht, ax_S0 _ (show tn p < 1000 by omega) h1, ax_M0 _ (show tn p < 1000 by omega) h2, an_e42, h3, vp_in_nI, nI_clamp, nI_leI, nI_ltI, nI_eq, nI_add, nI_1, pk_mul, an_m36, an_n36, an_b468, forall_eq, true_and, and_true, true_implies, false_implies, not_true, not_false_iff, implies_true, pk_un, pk_us, ap_wrN, ap_wrS]
theorem ax_sFs0 (post : Int32 → Prop) {p : Nat} (hn : n ≤ 30) (ht : ∀ j, tx j = nI (tn j)) (hp : p < n) (h1 : ag_sc (tn p)) (h : 1 ≤ p) (h2 : tn (p - 1) = 42 ∨ tn (p - 1) = 43) : wpX_startsFunction post (nI n, lv, tx, rk, rw, cl, nb, gv, wt) (nI p) = post 0 := by
  have z1 : ¬ (1 : Int32) = 0 := by decide
  by_cases g : tn (p - 1) = 42
  · simp (disch := omega) only [wpX_startsFunction, ax_tk _ hn ht, ax_S1 _ h1, z1, ax_tkp _ hn ht, h, if_true, an_e42, eq_true g, vp_in_nI, nI_clamp, nI_leI, nI_ltI, nI_eq, nI_add, nI_1, pk_mul, an_m36, an_n36, an_b468, forall_eq, true_and, and_true, true_implies, false_implies, not_true, not_false_iff, implies_true, pk_un, pk_us, ap_wrN, ap_wrS]
  · have g2 : tn (p - 1) = 43 := by omega
    simp (disch := omega) only [wpX_startsFunction, ax_tk _ hn ht, ax_S1 _ h1, z1, ax_tkp _ hn ht, h, if_true, an_e42, an_e43, g, eq_true g2, vp_in_nI, nI_clamp, nI_leI, nI_ltI, nI_eq, nI_add, nI_1, pk_mul, an_m36, an_n36, an_b468, forall_eq, true_and, and_true, true_implies, false_implies, not_true, not_false_iff, implies_true, pk_un, pk_us, ap_wrN, ap_wrS]
theorem ax_sF1 (post : Int32 → Prop) {p : Nat} (hn : n ≤ 30) (ht : ∀ j, tx j = nI (tn j)) (hk : ∀ j, ag_tok (tn j)) (hp : p < n) (h1 : ag_mx (tn p) ∨ tn p = 42 ∨ (ag_sc (tn p) ∧ (1 ≤ p → tn (p - 1) ≠ 42 ∧ tn (p - 1) ≠ 43))) : wpX_startsFunction post (nI n, lv, tx, rk, rw, cl, nb, gv, wt) (nI p) = post 1 := by
  have z1 : ¬ (1 : Int32) = 0 := by decide
  have t0 := ag_tk (hk p)
  have t1 := ag_tk (hk (p - 1))
  have m2 : ¬ (-1 : Int32) = 42 := by decide
  have m3 : ¬ (-1 : Int32) = 43 := by decide
  rcases h1 with m | o | ⟨s, b⟩
  · have ns : ¬ ag_sc (tn p) := by omega
    simp (disch := omega) only [wpX_startsFunction, ax_tk _ hn ht, ax_S0 _ (show tn p < 1000 by omega) ns, ax_M1 _ m, z1, vp_in_nI, nI_clamp, nI_leI, nI_ltI, nI_eq, nI_add, nI_1, pk_mul, an_m36, an_n36, an_b468, forall_eq, true_and, and_true, true_implies, false_implies, not_true, not_false_iff, implies_true, pk_un, pk_us, ap_wrN, ap_wrS]
  · have ns : ¬ ag_sc (tn p) := by omega
    have nm : ¬ ag_mx (tn p) := by omega
    simp (disch := omega) only [wpX_startsFunction, ax_tk _ hn ht, ax_S0 _ (show tn p < 1000 by omega) ns, ax_M0 _ (show tn p < 1000 by omega) nm, an_e42, eq_true o, vp_in_nI, nI_clamp, nI_leI, nI_ltI, nI_eq, nI_add, nI_1, pk_mul, an_m36, an_n36, an_b468, forall_eq, true_and, and_true, true_implies, false_implies, not_true, not_false_iff, implies_true, pk_un, pk_us, ap_wrN, ap_wrS]
  · by_cases h : 1 ≤ p
    · have b1 := (b h).1
      have b2 := (b h).2
      simp (disch := omega) only [wpX_startsFunction, ax_tk _ hn ht, ax_S1 _ s, z1, ax_tkp _ hn ht, h, if_true, an_e42, an_e43, b1, b2, vp_in_nI, nI_clamp, nI_leI, nI_ltI, nI_eq, nI_add, nI_1, pk_mul, an_m36, an_n36, an_b468, forall_eq, true_and, and_true, true_implies, false_implies, not_true, not_false_iff, implies_true, pk_un, pk_us, ap_wrN, ap_wrS]
    · simp (disch := omega) only [wpX_startsFunction, ax_tk _ hn ht, ax_S1 _ s, z1, ax_tkp _ hn ht, h, if_false, m2, m3, vp_in_nI, nI_clamp, nI_leI, nI_ltI, nI_eq, nI_add, nI_1, pk_mul, an_m36, an_n36, an_b468, forall_eq, true_and, and_true, true_implies, false_implies, not_true, not_false_iff, implies_true, pk_un, pk_us, ap_wrN, ap_wrS]
theorem ax_skip {post : Int32 → SX → Prop} {p : Nat} (hn : n ≤ 30) (ht : ∀ j, tx j = nI (tn j)) (hk : ∀ j, ag_tok (tn j)) (hp : p < n) (h50 : tn p ≠ 50) (h51 : tn p ≠ 51) (hnm : ¬ ag_nm (tn p))
    (sO : ∀ P : Int32 → Prop, wpX_startsOperand P (nI n, lv, tx, rk, rw, cl, nb, gv, wt) (nI p) = P 0) (sF : ∀ P : Int32 → Prop, wpX_startsFunction P (nI n, lv, tx, rk, rw, cl, nb, gv, wt) (nI p) = P 0) (h : post 0 (nI n, lv, tx, rk, rw, cl, nb, gv, wt)) : wpX_visit post (nI n, lv, tx, rk, rw, cl, nb, gv, wt) (nI p) := by
  have t0 := ag_tk (hk p)
  simp (disch := omega) only [wpX_visit, wX_visit_90, wX_visit_91, ax_tk _ hn ht, an_e50, an_e51, h50, h51, sO, sF, ax_N0 _ (show tn p < 1000 by omega) hnm, vp_in_nI, nI_clamp, nI_leI, nI_ltI, nI_eq, nI_add, nI_1, pk_mul, an_m36, an_n36, an_b468, forall_eq, true_and, and_true, true_implies, false_implies, not_true, not_false_iff, implies_true, pk_un, pk_us, ap_wrN, ap_wrS]
  exact h
theorem ax_vC {post : Int32 → SX → Prop} {p l : Nat} (hn : n ≤ 30) (ht : ∀ j, tx j = nI (tn j)) (hk : ∀ j, ag_tok (tn j)) (hp : p < n) (l15 : l + 1 ≤ 15) (h51 : tn p = 51) (h : post 0 (nI n, nI (l + 1), tx, rk, rw, cl, nb, gv, upd wt (l + 1) (-1))) : wpX_visit post (nI n, nI l, tx, rk, rw, cl, nb, gv, wt) (nI p) := by
  have t0 := ag_tk (hk p)
  simp (disch := omega) only [wpX_visit, ax_tk _ hn ht, an_e51, eq_true h51, vp_in_nI, nI_clamp, nI_leI, nI_ltI, nI_eq, nI_add, nI_1, pk_mul, an_m36, an_n36, an_b468, forall_eq, true_and, and_true, true_implies, false_implies, not_true, not_false_iff, implies_true, pk_un, pk_us, ap_wrN, ap_wrS]
  exact h
variable {L : Nat → ar_A} {S : Nat → Nat}
theorem ax_vF {post : Int32 → SX → Prop} {p l : Nat} (hn : n ≤ 30) (ht : ∀ j, tx j = nI (tn j)) (hk : ∀ j, ag_tok (tn j)) (l15 : l ≤ 15) (H : ar_XL tn n L S rk rw cl nb wt l) (s0 : S l ≠ 0) (hp : p < n)
    (hf : ag_mx (tn p) ∨ tn p = 42 ∨ (ag_sc (tn p) ∧ (1 ≤ p → tn (p - 1) ≠ 42 ∧ tn (p - 1) ≠ 43)))
    (hE : (ar_se tn n L S l).1 ≠ 0 → post (ar_se tn n L S l).1 (nI n, nI l, tx, rk, rw, cl, nb, gv, upd wt l (-1)))
    (hO : (ar_se tn n L S l).1 = 0 → ∀ rk' rw' cl' nb' wt', ap_K (14 + l) rk rw cl nb rk' rw' cl' nb' → ar_XA rk' rw' cl' nb' (14 + l) (ar_se tn n L S l).2 → (∀ j, j ≠ l → wt' j = wt j) → wt' l = nI p → post 0 (nI n, nI l, tx, rk', rw', cl', nb', gv, wt')) :
    wpX_visit post (nI n, nI l, tx, rk, rw, cl, nb, gv, wt) (nI p) := by
  have t0 := ag_tk (hk p)
  have z1 : ¬ (1 : Int32) = 0 := by decide
  have h50 : tn p ≠ 50 := by omega
  have h51 : tn p ≠ 51 := by omega
  have hnm : ¬ ag_nm (tn p) := by omega
  have g : wX_visit_110 post (nI p) (nI (tn p)) 1 (nI n) (nI l) tx rk rw cl nb gv wt := by
    unfold wX_visit_110
    refine ax_se hn ht hk l15 H s0 (fun e => ?_) (fun e rk' rw' cl' nb' wt' K X w1 w2 => ?_)
    · dsimp only
      exact br_f e (hE e)
    · dsimp only
      refine br_t rfl (br_f (by rw [an_e50 (by omega)]; exact h50) (br_f z1 ?_))
      rw [nI_clamp (by omega)]
      refine ⟨vp_in_nI (by omega) (by omega), nm_e ?_⟩
      exact hO e rk' rw' cl' nb' _ K X (fun j hj => (pk_un hj).trans (w1 j hj)) pk_us
  simp (disch := omega) only [wpX_visit, wX_visit_90, wX_visit_91, ax_tk _ hn ht, an_e51, h51, ax_sO0 _ hn ht hk hp (show ¬ tn p ≤ 9 by omega) hnm, ax_sF1 _ hn ht hk hp hf, ax_N0 _ (show tn p < 1000 by omega) hnm, z1, vp_in_nI, nI_clamp, nI_leI, nI_ltI, nI_eq, nI_add, nI_1, pk_mul, an_m36, an_n36, an_b468, forall_eq, true_and, and_true, true_implies, false_implies, not_true, not_false_iff, implies_true, pk_un, pk_us, ap_wrN, ap_wrS]
  exact g
theorem ax_vB {post : Int32 → SX → Prop} {p l : Nat} (hn : n ≤ 30) (ht : ∀ j, tx j = nI (tn j)) (hk : ∀ j, ag_tok (tn j)) (l15 : l ≤ 15) (H : ar_XL tn n L S rk rw cl nb wt l) (s0 : S l ≠ 0) (hp : p < n) (hf : ag_nm (tn p)) (h1 : p + 1 < n) (h2 : tn (p + 1) = 52)
    (hE : (ar_se tn n L S l).1 ≠ 0 → post (ar_se tn n L S l).1 (nI n, nI l, tx, rk, rw, cl, nb, gv, upd wt l (-1)))
    (hO : (ar_se tn n L S l).1 = 0 → ∀ rk' rw' cl' nb' wt', ap_K (14 + l) rk rw cl nb rk' rw' cl' nb' → ar_XA rk' rw' cl' nb' (14 + l) (ar_se tn n L S l).2 → (∀ j, j ≠ l → wt' j = wt j) → wt' l = -1 →
      post 0 (nI n, nI l, tx, upd rk' (tn p - 3) (rk' (14 + l)), upd rw' (tn p - 3) (rw' (14 + l)), upd cl' (tn p - 3) (cl' (14 + l)), ap_cp nb' (14 + l) (tn p - 3) 36, upd gv (tn p - 3) 1, wt')) :
    wpX_visit post (nI n, nI l, tx, rk, rw, cl, nb, gv, wt) (nI p) := by
  have t0 := ag_tk (hk p)
  have z1 : ¬ (1 : Int32) = 0 := by decide
  have h50 : tn p ≠ 50 := by omega
  have h51 : tn p ≠ 51 := by omega
  have ix : (7 : Int32) + nI (tn p) - 10 = nI (tn p - 3) := by
    rw [show (7 : Int32) = nI 7 from rfl, nI_add, show (10 : Int32) = nI 10 from rfl, pk_sub (by omega)]
    exact congrArg nI (by omega)
  have g : wX_visit_110 post (nI p) (nI (tn p)) 0 (nI n) (nI l) tx rk rw cl nb gv wt := by
    unfold wX_visit_110
    refine ax_se hn ht hk l15 H s0 (fun e => ?_) (fun e rk' rw' cl' nb' wt' K X w1 w2 => ?_)
    · dsimp only
      exact br_f e (hE e)
    · dsimp only
      refine br_t rfl (br_f (by rw [an_e50 (by omega)]; exact h50) (br_t rfl ?_))
      rw [ix, an_b14]
      refine ax_cp (by omega) (by omega) (by omega) ?_
      dsimp only
      rw [nI_clamp (by omega), an_bt]
      refine ⟨vp_in_nI (by omega) (by omega), nm_e ?_⟩
      exact hO e rk' rw' cl' nb' _ K X w1 w2
  simp (disch := omega) only [wpX_visit, wX_visit_90, wX_visit_91, ax_tk _ hn ht, an_e51, an_e52, h51, eq_true h2, ax_sOm0 _ hn ht hk hp hf h1 h2, ax_sF0 _ hn ht hk hp (show ¬ ag_sc (tn p) by omega) (show ¬ ag_mx (tn p) by omega) (show tn p ≠ 42 by omega), ax_N1 _ hf, nI_1, z1, vp_in_nI, nI_clamp, nI_leI, nI_ltI, nI_eq, nI_add, nI_1, pk_mul, an_m36, an_n36, an_b468, forall_eq, true_and, and_true, true_implies, false_implies, not_true, not_false_iff, implies_true, pk_un, pk_us, ap_wrN, ap_wrS]
  exact g
/-- an opening bracket: the level's array is the operand of the level below -/
theorem ax_vO {post : Int32 → SX → Prop} {p l : Nat} (hn : n ≤ 30) (ht : ∀ j, tx j = nI (tn j)) (hk : ∀ j, ag_tok (tn j)) (l15 : l + 1 ≤ 15) (H : ar_XL tn n L S rk rw cl nb wt (l + 1)) (H' : ar_XL tn n L S rk rw cl nb wt l) (s0 : S (l + 1) ≠ 0) (s1 : S l ≠ 1) (hp : p < n) (hf : tn p = 50)
    (hE : (ar_se tn n L S (l + 1)).1 ≠ 0 → post (ar_se tn n L S (l + 1)).1 (nI n, nI (l + 1), tx, rk, rw, cl, nb, gv, upd wt (l + 1) (-1)))
    (hE2 : (ar_se tn n L S (l + 1)).1 = 0 → (ar_op tn n L S l (ar_se tn n L S (l + 1)).2).1 ≠ 0 → ∀ rk' rw' cl' nb' wt', ap_K (14 + l) rk rw cl nb rk' rw' cl' nb' → post (ar_op tn n L S l (ar_se tn n L S (l + 1)).2).1 (nI n, nI l, tx, rk', rw', cl', nb', gv, wt'))
    (hO : (ar_se tn n L S (l + 1)).1 = 0 → (ar_op tn n L S l (ar_se tn n L S (l + 1)).2).1 = 0 → ∀ rk' rw' cl' nb' wt', ap_K (14 + l) rk rw cl nb rk' rw' cl' nb' → ar_XA rk' rw' cl' nb' (14 + l) (ar_op tn n L S l (ar_se tn n L S (l + 1)).2).2 → (∀ j, j < l → wt' j = wt j) → wt' l = -1 → post 0 (nI n, nI l, tx, rk', rw', cl', nb', gv, wt')) :
    wpX_visit post (nI n, nI (l + 1), tx, rk, rw, cl, nb, gv, wt) (nI p) := by
  have t0 := ag_tk (hk p)
  have h51 : tn p ≠ 51 := by omega
  have hnm : ¬ ag_nm (tn p) := by omega
  have g : wX_visit_110 post (nI p) (nI (tn p)) 0 (nI n) (nI (l + 1)) tx rk rw cl nb gv wt := by
    unfold wX_visit_110
    refine ax_se hn ht hk l15 H s0 (fun e => ?_) (fun e rk' rw' cl' nb' wt' K X w1 w2 => ?_)
    · dsimp only
      exact br_f e (hE e)
    · dsimp only
      refine br_t rfl (br_t (by rw [an_e50 (by omega)]; exact hf) (nm_r (nI_pred l) ?_))
      have H2 : ar_XL tn n L S rk' rw' cl' nb' wt' l := by
        obtain ⟨a, b, c⟩ := H'
        unfold ar_XL
        rw [w1 l (by omega)]
        exact ⟨a, b, fun z => ar_KXA K (by omega) (by omega) (c z)⟩
      refine ax_op hn ht hk (by omega) H2 s1 X (fun e2 => ?_) (fun e2 rk2 rw2 cl2 nb2 wt2 K2 X2 v1 v2 => ?_)
      · exact hE2 e e2 _ _ _ _ _ (ap_Km (by omega) K)
      · exact hO e e2 _ _ _ _ _ (ap_Kt (ap_Km (by omega) K) K2) X2 (fun j hj => (v1 j (by omega)).trans (w1 j (by omega))) v2
  simp (disch := omega) only [wpX_visit, wX_visit_90, wX_visit_91, ax_tk _ hn ht, an_e50, an_e51, h51, eq_true hf, ax_sO0 _ hn ht hk hp (show ¬ tn p ≤ 9 by omega) hnm, ax_sF0 _ hn ht hk hp (show ¬ ag_sc (tn p) by omega) (show ¬ ag_mx (tn p) by omega) (show tn p ≠ 42 by omega), ax_N0 _ (show tn p < 1000 by omega) hnm, vp_in_nI, nI_clamp, nI_leI, nI_ltI, nI_eq, nI_add, nI_1, pk_mul, an_m36, an_n36, an_b468, forall_eq, true_and, and_true, true_implies, false_implies, not_true, not_false_iff, implies_true, pk_un, pk_us, ap_wrN, ap_wrS]
  exact g
theorem ax_vM {post : Int32 → SX → Prop} {p l : Nat} {N : Nat → Option ar_A} (hn : n ≤ 30) (ht : ∀ j, tx j = nI (tn j)) (hk : ∀ j, ag_tok (tn j)) (l15 : l ≤ 15) (H : ar_XL tn n L S rk rw cl nb wt l) (s1 : S l ≠ 1) (hp : p < n) (hf : ag_nm (tn p)) (h2 : p + 1 < n → tn (p + 1) ≠ 52) (hN : ar_XN N rk rw cl nb gv (tn p - 10))
    (hV : N (tn p - 10) = none → post (-11) (nI n, nI l, tx, rk, rw, cl, nb, gv, wt))
    (hE : ∀ A, N (tn p - 10) = some A → (ar_op tn n L S l A).1 ≠ 0 → ∀ rk' rw' cl' nb' wt', ap_K (14 + l) rk rw cl nb rk' rw' cl' nb' → post (ar_op tn n L S l A).1 (nI n, nI l, tx, rk', rw', cl', nb', gv, wt'))
    (hO : ∀ A, N (tn p - 10) = some A → (ar_op tn n L S l A).1 = 0 → ∀ rk' rw' cl' nb' wt', ap_K (14 + l) rk rw cl nb rk' rw' cl' nb' → ar_XA rk' rw' cl' nb' (14 + l) (ar_op tn n L S l A).2 → (∀ j, j ≠ l → wt' j = wt j) → wt' l = -1 → post 0 (nI n, nI l, tx, rk', rw', cl', nb', gv, wt')) :
    wpX_visit post (nI n, nI l, tx, rk, rw, cl, nb, gv, wt) (nI p) := by
  have t0 := ag_tk (hk p)
  have z1 : ¬ (1 : Int32) = 0 := by decide
  have h51 : tn p ≠ 51 := by omega
  have ix : (7 : Int32) + nI (tn p) - 10 = nI (7 + (tn p - 10)) := by
    rw [show (7 : Int32) = nI 7 from rfl, nI_add, show (10 : Int32) = nI 10 from rfl, pk_sub (by omega)]
    exact congrArg nI (by omega)
  rcases hN with ⟨e, g⟩ | ⟨A, e, g, X⟩
  · have q := hV e
    have z11 : ¬ (-11 : Int32) = 0 := by decide
    simp (disch := omega) only [wpX_visit, wpX_loadOperand, ax_tk _ hn ht, an_e51, h51, ax_sOm1 _ hn ht hk hp hf h2, ax_N1 _ hf, z1, z11, ix, g, vp_in_nI, nI_clamp, nI_leI, nI_ltI, nI_eq, nI_add, nI_1, pk_mul, an_m36, an_n36, an_b468, forall_eq, true_and, and_true, true_implies, false_implies, not_true, not_false_iff, implies_true, pk_un, pk_us, ap_wrN, ap_wrS]
    exact q
  · have X2 := ap_cpX (q := 14 + l + 1) (ap_v36 X.1) X.2
    have K : ap_K (14 + l) rk rw cl nb (upd rk (14 + l + 1) (rk (7 + (tn p - 10)))) (upd rw (14 + l + 1) (rw (7 + (tn p - 10)))) (upd cl (14 + l + 1) (cl (7 + (tn p - 10)))) (ap_cp nb (7 + (tn p - 10)) (14 + l + 1) 36) := ap_KF (Or.inr (by omega)) ap_cpF
    have H2 : ar_XL tn n L S (upd rk (14 + l + 1) (rk (7 + (tn p - 10)))) (upd rw (14 + l + 1) (rw (7 + (tn p - 10)))) (upd cl (14 + l + 1) (cl (7 + (tn p - 10)))) (ap_cp nb (7 + (tn p - 10)) (14 + l + 1) 36) wt l := by
      obtain ⟨a, b, c⟩ := H
      exact ⟨a, b, fun z => ⟨(c z).1, ap_FX ap_cpF (by omega) (ap_v36 (c z).1) (c z).2⟩⟩
    simp (disch := omega) only [wpX_visit, wpX_loadOperand, ax_tk _ hn ht, an_e51, h51, ax_sOm1 _ hn ht hk hp hf h2, ax_N1 _ hf, z1, ix, g, an_b14, vp_in_nI, nI_clamp, nI_leI, nI_ltI, nI_eq, nI_add, nI_1, pk_mul, an_m36, an_n36, an_b468, forall_eq, true_and, and_true, true_implies, false_implies, not_true, not_false_iff, implies_true, pk_un, pk_us, ap_wrN, ap_wrS]
    refine ax_cp (by omega) (by omega) (by omega) ?_
    refine ax_op hn ht hk l15 H2 s1 ⟨X.1, X2⟩ (fun e2 => ?_) (fun e2 rk2 rw2 cl2 nb2 wt2 K2 X2 v1 v2 => ?_)
    · exact hE A e e2 _ _ _ _ _ K
    · exact hO A e e2 _ _ _ _ _ (ap_Kt K K2) X2 v1 v2
end
