/-! Y: which texts are statements -/
theorem ag_fs3 (tn : Nat → Nat) (n i : Nat) : ag_fs tn n i ≤ 3 := by
  unfold ag_fs
  repeat' split
  all_goals omega
section
variable {ct lv er : Int32} {tx rk rw wd dt wt fi : Nat → Int32}
theorem ay_tkG (post : Int32 → Prop) {n p : Nat} {tn : Nat → Nat} (hn : n ≤ 30) (ht : ∀ j, tx j = nI (tn j)) (hp : p < 1000) : wpY_tokenAt post (nI n, lv, er, tx, rk, rw, wd, dt, wt, fi) (nI p) = post (if p < n then nI (tn p) else -1) := by
  have z0 : ¬ nI p < 0 := nI_pos (by omega)
  by_cases h : p < n
  · rw [if_pos h]
    have z : ¬ n ≤ p := by omega
    simp (disch := omega) only [wpY_tokenAt, ht, z, z0, vp_in_nI, nI_clamp, nI_leI, nI_ltI, nI_eq, nI_add, nI_1, pk_mul, an_m36, an_n36, an_b468, forall_eq, true_and, and_true, true_implies, false_implies, not_true, not_false_iff, implies_true, pk_un, pk_us, ap_wrN, ap_wrS]
  · rw [if_neg h]
    have z : n ≤ p := by omega
    simp (disch := omega) only [wpY_tokenAt, z, z0, vp_in_nI, nI_clamp, nI_leI, nI_ltI, nI_eq, nI_add, nI_1, pk_mul, an_m36, an_n36, an_b468, forall_eq, true_and, and_true, true_implies, false_implies, not_true, not_false_iff, implies_true, pk_un, pk_us, ap_wrN, ap_wrS]
theorem ay_S1 (post : Int32 → Prop) {n p : Nat} {tn : Nat → Nat} (hn : n ≤ 30) (ht : ∀ j, tx j = nI (tn j)) (hp : p < n) (h : ag_sc (tn p)) : wpY_isScalar post (nI n, lv, er, tx, rk, rw, wd, dt, wt, fi) (nI p) = post 1 := by
  have a : ¬ tn p < 20 := by omega
  have b : ¬ 27 < tn p := by omega
  simp (disch := omega) only [wpY_isScalar, ay_tkG _ hn ht, hp, if_true, an_t20, an_u27, a, b, vp_in_nI, nI_clamp, nI_leI, nI_ltI, nI_eq, nI_add, nI_1, pk_mul, an_m36, an_n36, an_b468, forall_eq, true_and, and_true, true_implies, false_implies, not_true, not_false_iff, implies_true, pk_un, pk_us, ap_wrN, ap_wrS]
theorem ay_S0 (post : Int32 → Prop) {n p : Nat} {tn : Nat → Nat} (hn : n ≤ 30) (ht : ∀ j, tx j = nI (tn j)) (hk : ∀ j, ag_tok (tn j)) (hp : p < 1000) (h : ¬ (p < n ∧ ag_sc (tn p))) : wpY_isScalar post (nI n, lv, er, tx, rk, rw, wd, dt, wt, fi) (nI p) = post 0 := by
  have t0 := ag_tk (hk p)
  by_cases q : p < n
  · simp (disch := omega) only [wpY_isScalar, ay_tkG _ hn ht, q, if_true, an_t20, an_u27]
    by_cases a : tn p < 20
    · simp only [a, true_implies, not_true, false_implies, and_true]
    · have b : 27 < tn p := by omega
      simp only [a, b, false_implies, not_false_iff, true_implies, true_and, not_true, and_true]
  · have m : (-1 : Int32) < 20 := by decide
    simp (disch := omega) only [wpY_isScalar, ay_tkG _ hn ht, q, if_false, m, vp_in_nI, nI_clamp, nI_leI, nI_ltI, nI_eq, nI_add, nI_1, pk_mul, an_m36, an_n36, an_b468, forall_eq, true_and, and_true, true_implies, false_implies, not_true, not_false_iff, implies_true, pk_un, pk_us, ap_wrN, ap_wrS]
theorem ay_fs (post : Int32 → Prop) {n i : Nat} {tn : Nat → Nat} (hn : n ≤ 30) (ht : ∀ j, tx j = nI (tn j)) (hk : ∀ j, ag_tok (tn j)) (hi : i < n) : wpY_functionSize post (nI n, lv, er, tx, rk, rw, wd, dt, wt, fi) (nI i) = post (nI (ag_fs tn n i)) := by
  have t0 := ag_tk (hk i)
  have t1 := ag_tk (hk (i + 1))
  have z1 : ¬ (1 : Int32) = 0 := by decide
  have m1 : ¬ (-1 : Int32) = 40 := by decide
  have m2 : ¬ (-1 : Int32) = 41 := by decide
  have m3 : ¬ (-1 : Int32) = 43 := by decide
  unfold ag_fs
  by_cases m : ag_mx (tn i)
  · rw [if_pos m]
    have a : ¬ tn i < 30 := by omega
    have b : ¬ 38 < tn i := by omega
    simp (disch := omega) only [wpY_functionSize, ay_tkG _ hn ht, hi, if_true, an_t30, an_u38, a, b, vp_in_nI, nI_clamp, nI_leI, nI_ltI, nI_eq, nI_add, nI_1, pk_mul, an_m36, an_n36, an_b468, forall_eq, true_and, and_true, true_implies, false_implies, not_true, not_false_iff, implies_true, pk_un, pk_us, ap_wrN, ap_wrS]
    rfl
  rw [if_neg m]
  have c20 : wpY_functionSize post (nI n, lv, er, tx, rk, rw, wd, dt, wt, fi) (nI i) = wY_functionSize_20 post (nI i) (nI (tn i)) (nI n) lv er tx rk rw wd dt wt fi := by
    simp (disch := omega) only [wpY_functionSize, ay_tkG _ hn ht, hi, if_true, an_t30, an_u38]
    by_cases a : tn i < 30
    · simp only [a, true_implies, not_true, false_implies, and_true]
    · have b : 38 < tn i := by omega
      simp only [a, b, false_implies, not_false_iff, true_implies, true_and, not_true, and_true]
  rw [c20]
  by_cases o : tn i = 42
  · rw [if_pos o]
    by_cases k : i + 1 < n ∧ ag_sc (tn (i + 1))
    · rw [if_pos k]
      simp (disch := omega) only [wY_functionSize_20, an_e42, eq_true o, nI_1, ay_S1 _ hn ht k.1 k.2, z1, vp_in_nI, nI_clamp, nI_leI, nI_ltI, nI_eq, nI_add, nI_1, pk_mul, an_m36, an_n36, an_b468, forall_eq, true_and, and_true, true_implies, false_implies, not_true, not_false_iff, implies_true, pk_un, pk_us, ap_wrN, ap_wrS]
      rfl
    · rw [if_neg k]
      simp (disch := omega) only [wY_functionSize_20, an_e42, eq_true o, nI_1, ay_S0 _ hn ht hk (show i + 1 < 1000 by omega) k, vp_in_nI, nI_clamp, nI_leI, nI_ltI, nI_eq, nI_add, nI_1, pk_mul, an_m36, an_n36, an_b468, forall_eq, true_and, and_true, true_implies, false_implies, not_true, not_false_iff, implies_true, pk_un, pk_us, ap_wrN, ap_wrS]
      rfl
  rw [if_neg o]
  by_cases s : ag_sc (tn i)
  case neg =>
    rw [if_pos s]
    simp (disch := omega) only [wY_functionSize_20, an_e42, o, ay_S0 _ hn ht hk (show i < 1000 by omega) (fun z => s z.2), vp_in_nI, nI_clamp, nI_leI, nI_ltI, nI_eq, nI_add, nI_1, pk_mul, an_m36, an_n36, an_b468, forall_eq, true_and, and_true, true_implies, false_implies, not_true, not_false_iff, implies_true, pk_un, pk_us, ap_wrN, ap_wrS]
    rfl
  rw [if_neg (fun z => z s)]
  by_cases b : i + 1 < n
  case neg =>
    rw [if_neg (fun z => b z.1), if_neg (fun z => b z.1)]
    simp (disch := omega) only [wY_functionSize_20, an_e42, o, ay_S1 _ hn ht hi s, z1, nI_1, ay_tkG _ hn ht, b, if_false, m1, m2, m3, vp_in_nI, nI_clamp, nI_leI, nI_ltI, nI_eq, nI_add, nI_1, pk_mul, an_m36, an_n36, an_b468, forall_eq, true_and, and_true, true_implies, false_implies, not_true, not_false_iff, implies_true, pk_un, pk_us, ap_wrN, ap_wrS]
    rfl
  by_cases k : tn (i + 1) = 43
  · rw [if_pos ⟨b, k⟩]
    by_cases k2 : i + 2 < n ∧ ag_sc (tn (i + 2))
    · rw [if_pos k2]
      simp (disch := omega) only [wY_functionSize_20, an_e42, o, ay_S1 _ hn ht hi s, z1, nI_1, ay_tkG _ hn ht, b, if_true, an_e43, eq_true k, an_a2, ay_S1 _ hn ht k2.1 k2.2, vp_in_nI, nI_clamp, nI_leI, nI_ltI, nI_eq, nI_add, nI_1, pk_mul, an_m36, an_n36, an_b468, forall_eq, true_and, and_true, true_implies, false_implies, not_true, not_false_iff, implies_true, pk_un, pk_us, ap_wrN, ap_wrS]
      rfl
    · rw [if_neg k2]
      simp (disch := omega) only [wY_functionSize_20, an_e42, o, ay_S1 _ hn ht hi s, z1, nI_1, ay_tkG _ hn ht, b, if_true, an_e43, eq_true k, an_a2, ay_S0 _ hn ht hk (show i + 2 < 1000 by omega) k2, vp_in_nI, nI_clamp, nI_leI, nI_ltI, nI_eq, nI_add, nI_1, pk_mul, an_m36, an_n36, an_b468, forall_eq, true_and, and_true, true_implies, false_implies, not_true, not_false_iff, implies_true, pk_un, pk_us, ap_wrN, ap_wrS]
      rfl
  rw [if_neg (fun z => k z.2)]
  by_cases k3 : tn (i + 1) = 40 ∨ tn (i + 1) = 41
  · rw [if_pos ⟨b, k3⟩]
    by_cases k4 : tn (i + 1) = 40
    · simp (disch := omega) only [wY_functionSize_20, an_e42, o, ay_S1 _ hn ht hi s, z1, nI_1, ay_tkG _ hn ht, b, if_true, an_e43, k, an_e40, eq_true k4, vp_in_nI, nI_clamp, nI_leI, nI_ltI, nI_eq, nI_add, nI_1, pk_mul, an_m36, an_n36, an_b468, forall_eq, true_and, and_true, true_implies, false_implies, not_true, not_false_iff, implies_true, pk_un, pk_us, ap_wrN, ap_wrS]
      rfl
    · have k5 : tn (i + 1) = 41 := by omega
      simp (disch := omega) only [wY_functionSize_20, an_e42, o, ay_S1 _ hn ht hi s, z1, nI_1, ay_tkG _ hn ht, b, if_true, an_e43, k, an_e40, k4, an_e41, eq_true k5, vp_in_nI, nI_clamp, nI_leI, nI_ltI, nI_eq, nI_add, nI_1, pk_mul, an_m36, an_n36, an_b468, forall_eq, true_and, and_true, true_implies, false_implies, not_true, not_false_iff, implies_true, pk_un, pk_us, ap_wrN, ap_wrS]
      rfl
  · rw [if_neg (fun z => k3 z.2)]
    have k4 : ¬ tn (i + 1) = 40 := by omega
    have k5 : ¬ tn (i + 1) = 41 := by omega
    simp (disch := omega) only [wY_functionSize_20, an_e42, o, ay_S1 _ hn ht hi s, z1, nI_1, ay_tkG _ hn ht, b, if_true, an_e43, k, an_e40, k4, an_e41, k5, vp_in_nI, nI_clamp, nI_leI, nI_ltI, nI_eq, nI_add, nI_1, pk_mul, an_m36, an_n36, an_b468, forall_eq, true_and, and_true, true_implies, false_implies, not_true, not_false_iff, implies_true, pk_un, pk_us, ap_wrN, ap_wrS]
    rfl
theorem ay_76 {post : Int32 → Prop} {J : Int32 → Int32 → Int32 → Prop} {x1 : Int32} {n i : Nat} {tn : Nat → Nat} (hn : n ≤ 30) (ht : ∀ j, tx j = nI (tn j)) (hk : ∀ j, ag_tok (tn j))
    (hJ : ∀ e, i ≤ e → e < n → (∀ k, i ≤ k → k ≤ e → tn k ≤ 9) → (e + 1 < n → ¬ tn (e + 1) ≤ 9) → J x1 1 (nI (e + 1))) :
    ∀ m j f, j + m + 1 = n → m < f → i ≤ j → (∀ k, i ≤ k → k ≤ j → tn k ≤ 9) → wY_isStatement_76 post J x1 (nI n) lv er tx rk rw wd dt wt fi f (nI j) := by
  intro m
  induction m with
  | zero =>
    intro j f h1 hf hij hd
    obtain ⟨f, rfl⟩ : ∃ k, f = k + 1 := ⟨f - 1, by omega⟩
    have b : ¬ j + 1 < n := by omega
    have z : (-1 : Int32) < 0 := by decide
    simp (disch := omega) only [wY_isStatement_76, nI_1, ay_tkG _ hn ht, b, if_false, z, vp_in_nI, nI_clamp, nI_leI, nI_ltI, nI_eq, nI_add, nI_1, pk_mul, an_m36, an_n36, an_b468, forall_eq, true_and, and_true, true_implies, false_implies, not_true, not_false_iff, implies_true, pk_un, pk_us, ap_wrN, ap_wrS]
    exact hJ j hij (by omega) hd (fun z => absurd z b)
  | succ m ih =>
    intro j f h1 hf hij hd
    obtain ⟨f, rfl⟩ : ∃ k, f = k + 1 := ⟨f - 1, by omega⟩
    have b : j + 1 < n := by omega
    have t0 := ag_tk (hk (j + 1))
    have z : ¬ nI (tn (j + 1)) < 0 := nI_pos (by omega)
    simp (disch := omega) only [wY_isStatement_76, nI_1, ay_tkG _ hn ht, b, if_true, z, an_g10, vp_in_nI, nI_clamp, nI_leI, nI_ltI, nI_eq, nI_add, nI_1, pk_mul, an_m36, an_n36, an_b468, forall_eq, true_and, and_true, true_implies, false_implies, not_true, not_false_iff, implies_true, pk_un, pk_us, ap_wrN, ap_wrS]
    by_cases g : 10 ≤ tn (j + 1)
    · exact br_t g (hJ j hij (by omega) hd (fun _ => by omega))
    · refine br_f g (ih (j + 1) f (by omega) (by omega) (by omega) (fun k h2 h3 => ?_))
      by_cases e : k = j + 1
      · subst e; omega
      · exact hd k h2 (by omega)
theorem ay_isL {post : Int32 → Prop} {n : Nat} {tn : Nat → Nat} (hn : n ≤ 30) (ht : ∀ j, tx j = nI (tn j)) (hk : ∀ j, ag_tok (tn j)) (h1 : ag_ok tn n → post 1) (h0 : ¬ ag_ok tn n → post 0) :
    ∀ f i, i ≤ n → n - i < f → ag_pre tn i → ag_H tn n i → wY_isStatement_6 post (nI n) lv er tx rk rw wd dt wt fi f (nI (ag_dp tn i)) (if 4 ≤ ag_st tn i then 1 else 0) (nI i) := by
  have F3 : ∀ s, s < 7 → 4 ≤ s → ag_step s 51 = 6 := by decide +kernel
  have F2 : ∀ s, s < 7 → ∀ t, t < 53 → (s = 1 ∨ s = 2) → ag_nm t → ag_step s t = 5 :=
    fun _ hs _ ht => of_decide_eq_true (ag_cc (p := fun s t => decide ((s = 1 ∨ s = 2) → ag_nm t → ag_step s t = 5)) (by decide +kernel) hs ht)
  have F4 : ∀ s, s < 7 → (s = 1 ∨ s = 2) → ag_step s 50 = 1 := by decide +kernel
  have z1 : ¬ (1 : Int32) = 0 := by decide
  intro f
  induction f with
  | zero => intro i _ h; omega
  | succ f ih =>
    intro i hi hf pre hH
    have s7 := ag_s7 tn i
    have s0 := ag_n0 pre (Nat.le_refl i)
    have d30 := ag_dle tn i
    by_cases e : i = n
    · subst e
      have z : i ≤ i := Nat.le_refl i
      by_cases g : 4 ≤ ag_st tn i
      · rw [if_pos g]
        simp (disch := omega) only [wY_isStatement_6, z, z1, an_e0, vp_in_nI, nI_clamp, nI_leI, nI_ltI, nI_eq, nI_add, nI_1, pk_mul, an_m36, an_n36, an_b468, forall_eq, true_and, and_true, true_implies, false_implies, not_true, not_false_iff, implies_true, pk_un, pk_us, ap_wrN, ap_wrS]
        by_cases d : ag_dp tn i = 0
        · exact br_t d (h1 ⟨pre, d, g⟩)
        · exact br_f d (h0 (fun k => d k.2.1))
      · rw [if_neg g]
        simp (disch := omega) only [wY_isStatement_6, z, vp_in_nI, nI_clamp, nI_leI, nI_ltI, nI_eq, nI_add, nI_1, pk_mul, an_m36, an_n36, an_b468, forall_eq, true_and, and_true, true_implies, false_implies, not_true, not_false_iff, implies_true, pk_un, pk_us, ap_wrN, ap_wrS]
        exact h0 (fun k => g k.2.2)
    have il : i < n := by omega
    have z : ¬ n ≤ i := by omega
    have t0 := ag_tk (hk i)
    have t1 := ag_tk (hk (i + 1))
    have fsb := ag_fs3 tn n i
    by_cases k : 0 < ag_fs tn n i
    · obtain ⟨a1, a2, a3, a4, a5⟩ := ag_fn hk il pre hH k
      have nx := ih (i + ag_fs tn n i) a1 (by omega) a2 a3
      rw [if_neg (by omega), a5] at nx
      have k0 : ¬ ag_fs tn n i ≤ 0 := by omega
      have ix : i + ag_fs tn n i - 1 + 1 = i + ag_fs tn n i := by omega
      by_cases g : 4 ≤ ag_st tn i
      · rw [if_pos g]
        simp (disch := omega) only [wY_isStatement_6, z, ht, ay_fs _ hn ht hk il, an_l0, k0, an_s1, ix, vp_in_nI, nI_clamp, nI_leI, nI_ltI, nI_eq, nI_add, nI_1, pk_mul, an_m36, an_n36, an_b468, forall_eq, true_and, and_true, true_implies, false_implies, not_true, not_false_iff, implies_true, pk_un, pk_us, ap_wrN, ap_wrS]
        exact nx
      · rw [if_neg g]
        simp (disch := omega) only [wY_isStatement_6, z, ht, ay_fs _ hn ht hk il, an_l0, k0, an_s1, ix, vp_in_nI, nI_clamp, nI_leI, nI_ltI, nI_eq, nI_add, nI_1, pk_mul, an_m36, an_n36, an_b468, forall_eq, true_and, and_true, true_implies, false_implies, not_true, not_false_iff, implies_true, pk_un, pk_us, ap_wrN, ap_wrS]
        exact nx
    have k0 : ag_fs tn n i ≤ 0 := by omega
    have kz : ag_fs tn n i = 0 := by omega
    have nmx := ag_fs0 kz
    have bad : ¬ ag_sc (tn i) → tn i ≠ 42 → ag_step (ag_st tn i) (tn i) = 0 → ¬ ag_ok tn n := fun _ _ e => ag_no il e
    by_cases g : 4 ≤ ag_st tn i
    · rw [if_pos g]
      simp (disch := omega) only [wY_isStatement_6, z, ht, ay_fs _ hn ht hk il, an_l0, k0, z1, an_e51, an_e0, vp_in_nI, nI_clamp, nI_leI, nI_ltI, nI_eq, nI_add, nI_1, pk_mul, an_m36, an_n36, an_b468, forall_eq, true_and, and_true, true_implies, false_implies, not_true, not_false_iff, implies_true, pk_un, pk_us, ap_wrN, ap_wrS]
      by_cases a : tn i = 51
      · refine br_t a ?_
        by_cases d : ag_dp tn i = 0
        · exact br_t d (h0 (ag_nod il a d))
        · refine br_f d ?_
          have st : ag_st tn (i + 1) = 6 := by rw [ag_s, a]; exact F3 _ s7 g
          have dp : ag_dp tn (i + 1) = ag_dp tn i - 1 := by rw [ag_d, if_neg (by omega), if_pos a]
          have nx := ih (i + 1) (by omega) (by omega) (ag_preS pre (by omega) (by omega)) (by unfold ag_H; omega)
          rw [if_pos (by omega), dp] at nx
          rw [an_m1s (by omega)]
          exact nx
      · refine br_f a (h0 ?_)
        by_cases b : tn i = 42 ∨ ag_sc (tn i)
        · exact ag_fn0 hk il pre hH kz b
        · have hh := hH.2 il
          exact ag_no il (by rw [ag_s]; exact ag_F12 _ s7 _ t0 g (fun z => hh.1 z.1 z.2) (fun z => hh.2.1 z.1 z.2) a (by omega) nmx (by omega))
    · rw [if_neg g]
      have s12 : ag_st tn i = 1 ∨ ag_st tn i = 2 := by
        have := hH.1
        omega
      simp (disch := omega) only [wY_isStatement_6, z, ht, ay_fs _ hn ht hk il, an_l0, k0, an_g10, an_g16, an_e50, vp_in_nI, nI_clamp, nI_leI, nI_ltI, nI_eq, nI_add, nI_1, pk_mul, an_m36, an_n36, an_b468, forall_eq, true_and, and_true, true_implies, false_implies, not_true, not_false_iff, implies_true, pk_un, pk_us, ap_wrN, ap_wrS]
      by_cases a : 10 ≤ tn i
      · refine br_t a ?_
        by_cases b : 16 ≤ tn i
        · refine br_t b ?_
          by_cases c : tn i = 50
          · refine br_t c ?_
            have st : ag_st tn (i + 1) = 1 := by rw [ag_s, c]; exact F4 _ s7 s12
            have dp : ag_dp tn (i + 1) = ag_dp tn i + 1 := by rw [ag_d, if_pos c]
            have nx := ih (i + 1) (by omega) (by omega) (ag_preS pre (by omega) (by omega)) (by unfold ag_H; omega)
            rw [if_neg (by omega), dp] at nx
            exact nx
          · refine br_f c (h0 ?_)
            by_cases b2 : tn i = 42 ∨ ag_sc (tn i)
            · exact ag_fn0 hk il pre hH kz b2
            · have hh := hH.2 il
              exact ag_no il (by rw [ag_s]; exact ag_F13 s12 (by omega) (by omega) c (by omega) nmx (by omega) (fun z => by have := hh.2.2 z.1; omega))
        · refine br_f b ?_
          have nm : ag_nm (tn i) := by omega
          have st : ag_st tn (i + 1) = 5 := by rw [ag_s]; exact F2 _ s7 _ t0 s12 nm
          have dp : ag_dp tn (i + 1) = ag_dp tn i := ag_dno (by omega) (by omega)
          have pr : ag_pre tn (i + 1) := ag_preS pre (by omega) (by omega)
          by_cases c : i + 1 < n ∧ tn (i + 1) = 52
          · have st2 : ag_st tn (i + 2) = 1 := by rw [show i + 2 = (i + 1) + 1 from rfl, ag_s, st, c.2]; decide
            have dp2 : ag_dp tn (i + 1 + 1) = ag_dp tn (i + 1) := ag_dno (by omega) (by omega)
            have nx := ih (i + 2) (by omega) (by omega) (ag_preS pr (by rw [show i + 1 + 1 = i + 2 from rfl]; omega) (by omega)) (by unfold ag_H; omega)
            rw [if_neg (by omega), show i + 2 = i + 1 + 1 from rfl, dp2, dp] at nx
            have c1 := c.1
            have c2 := c.2
            simp (disch := omega) only [wY_isStatement_133, ay_tkG _ hn ht, c1, if_true, an_e52, eq_true c2, vp_in_nI, nI_clamp, nI_leI, nI_ltI, nI_eq, nI_add, nI_1, pk_mul, an_m36, an_n36, an_b468, forall_eq, true_and, and_true, true_implies, false_implies, not_true, not_false_iff, implies_true, pk_un, pk_us, ap_wrN, ap_wrS]
            exact nx
          · have nx := ih (i + 1) (by omega) (by omega) pr (by unfold ag_H; omega)
            rw [if_pos (by omega), dp] at nx
            have cond : ¬ (if i + 1 < n then nI (tn (i + 1)) else -1) = 52 := by
              by_cases c1 : i + 1 < n
              · rw [if_pos c1, an_e52 (by omega)]
                exact fun z => c ⟨c1, z⟩
              · rw [if_neg c1]; decide
            simp (disch := omega) only [wY_isStatement_133, ay_tkG _ hn ht, cond, z1, vp_in_nI, nI_clamp, nI_leI, nI_ltI, nI_eq, nI_add, nI_1, pk_mul, an_m36, an_n36, an_b468, forall_eq, true_and, and_true, true_implies, false_implies, not_true, not_false_iff, implies_true, pk_un, pk_us, ap_wrN, ap_wrS]
            exact nx
      · refine br_f a ?_
        refine ⟨30, ay_76 (i := i) hn ht hk (fun e h1 h2 h3 h4 => ?_) (n - i - 1) i 30 (by omega) (by omega) (by omega) (fun k h1 h2 => by rw [show k = i by omega]; omega)⟩
        obtain ⟨b1, b2, b3⟩ := ag_Fnum (m := e - i) hk pre s12 (fun j h5 h6 => h3 j h5 (by omega))
        rw [show i + (e - i) + 1 = e + 1 by omega] at b1 b2 b3
        have nx := ih (e + 1) (by omega) (by omega) b1 (by unfold ag_H; omega)
        rw [if_pos (by omega), b3] at nx
        exact nx
theorem ay_is {post : Int32 → Prop} {n : Nat} {tn : Nat → Nat} (hn : n ≤ 30) (ht : ∀ j, tx j = nI (tn j)) (hk : ∀ j, ag_tok (tn j)) (h1 : ag_ok tn n → post 1) (h0 : ¬ ag_ok tn n → post 0) : wpY_isStatement post (nI n, lv, er, tx, rk, rw, wd, dt, wt, fi) := by
  have l := ay_isL (lv := lv) (er := er) (rk := rk) (rw := rw) (wd := wd) (dt := dt) (wt := wt) (fi := fi) hn ht hk h1 h0 (n + 1) 0 (by omega) (by omega) (ag_pre0 tn) (by
    refine ⟨?_, fun _ => ⟨fun e => ?_, fun e => ?_, fun e => ?_⟩⟩
    · exact (by decide : (1 : Nat) ≠ 3)
    · exact absurd e (by decide : ¬ (1 : Nat) = 4)
    · exact absurd e (by decide : ¬ (1 : Nat) = 5)
    · exact absurd e (by decide : ¬ (1 : Nat) = 2))
  exact ⟨n + 1, l⟩
end
