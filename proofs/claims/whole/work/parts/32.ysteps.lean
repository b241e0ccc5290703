/-! Y: what is due at a token; the end after an error; the copies of the names -/
section
variable {ct lv er : Int32} {tx rk rw wd dt wt fi : Nat → Int32} {tn : Nat → Nat} {n : Nat} {L : Nat → ar_A} {S : Nat → Nat}
theorem ay_end {post : Int32 → SY → Prop} {l : Nat} {rk0 rw0 wd0 dt0 : Nat → Int32} (l15 : l ≤ 15) (he : er ≠ 0) (B : ar_YB rk0 rw0 wd0 dt0 rk rw wd dt)
    (hp : ∀ rk' rw' wd' dt' wt', (∀ q, q < 6 → ap_C q q rk0 rw0 wd0 dt0 rk' rw' wd' dt') → ap_C 12 12 rk0 rw0 wd0 dt0 rk' rw' wd' dt' → post er (ct, nI l, er, tx, rk', rw', wd', dt', wt', fi)) :
    ∀ F x1, 0 < F → wY_run_64 post F x1 ct (nI l) er tx rk rw wd dt wt fi := by
  intro F x1 hF
  obtain ⟨F, rfl⟩ : ∃ k, F = k + 1 := ⟨F - 1, by omega⟩
  have g : wY_run_86 post ct (nI l) er tx rk rw wd dt wt fi := by
    unfold wY_run_86
    refine ay_stE l15 he ?_
    dsimp only
    refine pk_loop (σ := (Nat → Int32) × (Nat → Int32) × (Nat → Int32) × (Nat → Int32)) (fun m k s => wY_run_92 post m (nI k) ct (nI l) er tx s.1 s.2.1 s.2.2.1 s.2.2.2 (upd wt l (-1)) fi)
      (fun k s => (∀ q, q < k → ap_C q q rk0 rw0 wd0 dt0 s.1 s.2.1 s.2.2.1 s.2.2.2) ∧ ar_YB rk0 rw0 wd0 dt0 s.1 s.2.1 s.2.2.1 s.2.2.2) 6 0 (rk, rw, wd, dt) (by omega) ⟨fun q h => by omega, B⟩ (fun m s hI => ?_) (fun m k s hk hI ih => ?_)
    · refine br_t (by decide) ?_
      unfold wY_run_120
      exact br_f he (hp _ _ _ _ _ hI.1 hI.2.2)
    · have z : ¬ (6 : Int32) ≤ nI k := nI_ge (b := 6) hk (by omega)
      refine br_f z (br_f he ?_)
      rw [an_b6]
      refine ay_cp (by omega) (by omega) (by omega) ?_
      dsimp only
      refine nm_r (nI_1 k) ?_
      refine ih (_, _, _, _) ⟨fun q hq => ?_, fun q hq => ?_, ?_⟩
      · by_cases e : q = k
        · subst e
          have C := hI.2.1 q hk
          have D := ap_Cc (a := 6 + q) (b := q) (rk := s.1) (rw := s.2.1) (cl := s.2.2.1) (nb := s.2.2.2)
          exact ⟨D.1.trans C.1, D.2.1.trans C.2.1, D.2.2.1.trans C.2.2.1, fun i hi => (D.2.2.2 i hi).trans (C.2.2.2 i hi)⟩
        · exact ap_CF ap_cpF (by omega) (hI.1 q (by omega))
      · exact ap_CF ap_cpF (by omega) (hI.2.1 q hq)
      · exact ap_CF ap_cpF (by omega) hI.2.2
  by_cases z : x1 < 0
  · exact br_t z g
  · exact br_f z (br_f he g)
theorem ay_tkp (post : Int32 → Prop) {p : Nat} (hn : n ≤ 30) (ht : ∀ j, tx j = nI (tn j)) (hp : p ≤ n) : wpY_tokenAt post (nI n, lv, er, tx, rk, rw, wd, dt, wt, fi) (nI p - 1) = post (if 1 ≤ p then nI (tn (p - 1)) else -1) := by
  by_cases h : 1 ≤ p
  · rw [if_pos h, an_s1 h, ay_tkG _ hn ht (by omega), if_pos (by omega)]
  · rw [if_neg h, show p = 0 by omega]
    have z0 : nI 0 - 1 < 0 := by decide
    simp only [wpY_tokenAt, z0, true_implies, not_true, false_implies, and_true]
/-- the function whose last token is i begins at j -/
def ar_fn (tn : Nat → Nat) (n i j : Nat) : Prop :=
  (ag_mx (tn i) ∧ j = i) ∨ ((tn i = 40 ∨ tn i = 41) ∧ 1 ≤ i ∧ ag_sc (tn (i - 1)) ∧ j = i - 1 ∧ (2 ≤ i → tn (i - 2) ≠ 42 ∧ tn (i - 2) ≠ 43)) ∨ (ag_sc (tn i) ∧ 1 ≤ i ∧ tn (i - 1) = 42 ∧ j = i - 1) ∨
  (ag_sc (tn i) ∧ 2 ≤ i ∧ tn (i - 1) = 43 ∧ ag_sc (tn (i - 2)) ∧ j = i - 2 ∧ (3 ≤ i → tn (i - 3) ≠ 42 ∧ tn (i - 3) ≠ 43)) ∨ (ag_sc (tn i) ∧ (1 ≤ i → tn (i - 1) ≠ 42 ∧ tn (i - 1) ≠ 43) ∧ (i + 1 < n → tn (i + 1) ≠ 40 ∧ tn (i + 1) ≠ 41 ∧ tn (i + 1) ≠ 43) ∧ j = i)
theorem ar_fw {i j : Nat} (h : ar_fn tn n i j) (hi : i < n) : j ≤ i ∧ ag_wf tn n j ∧ (ag_mx (tn j) ∨ tn j = 42 ∨ (ag_sc (tn j) ∧ (1 ≤ j → tn (j - 1) ≠ 42 ∧ tn (j - 1) ≠ 43))) := by
  rcases h with ⟨m, rfl⟩ | ⟨t, i1, s, rfl, b⟩ | ⟨s, i1, b, rfl⟩ | ⟨s, i2, b, s2, rfl, b3⟩ | ⟨s, b, b2, rfl⟩
  · exact ⟨Nat.le_refl j, ⟨hi, Or.inl m⟩, Or.inl m⟩
  · refine ⟨by omega, ⟨by omega, Or.inr (Or.inr ⟨s, fun _ e => ?_⟩)⟩, Or.inr (Or.inr ⟨s, fun g => ?_⟩)⟩
    · rw [show i - 1 + 1 = i by omega] at e
      omega
    · rw [show i - 1 - 1 = i - 2 by omega]
      exact b (by omega)
  · refine ⟨by omega, ⟨by omega, Or.inr (Or.inl ⟨b, by omega, ?_⟩)⟩, Or.inr (Or.inl b)⟩
    rw [show i - 1 + 1 = i by omega]
    exact s
  · refine ⟨by omega, ⟨by omega, Or.inr (Or.inr ⟨s2, fun _ _ => ⟨by omega, ?_⟩⟩)⟩, Or.inr (Or.inr ⟨s2, fun g => ?_⟩)⟩
    · rw [show i - 2 + 2 = i by omega]
      exact s
    · rw [show i - 2 - 1 = i - 3 by omega]
      exact b3 (by omega)
  · exact ⟨Nat.le_refl j, ⟨hi, Or.inr (Or.inr ⟨s, fun g e => absurd e (b2 g).2.2⟩)⟩, Or.inr (Or.inr ⟨s, b⟩)⟩
theorem ay_vF {post : Int32 → SY → Prop} {i j l : Nat} (hn : n ≤ 30) (ht : ∀ j, tx j = nI (tn j)) (hk : ∀ j, ag_tok (tn j)) (l15 : l ≤ 15) (H : ar_YL tn n L S rk rw wd dt wt fi l) (s0 : S l ≠ 0) (hi : i < n) (hf : ar_fn tn n i j)
    (hO : ∀ rk' rw' wd' dt', ap_K (14 + l * 2) rk rw wd dt rk' rw' wd' dt' → ((ar_se tn n L S l).1 = 0 → ar_YA rk' rw' wd' dt' (14 + l * 2) (ar_se tn n L S l).2) → post (nI j) (nI n, nI l, (ar_se tn n L S l).1, tx, rk', rw', wd', dt', upd (upd wt l (-1)) l (nI (ag_wd tn n j)), fi)) :
    wpY_readToken post (nI n, nI l, 0, tx, rk, rw, wd, dt, wt, fi) (nI i) := by
  have t0 := ag_tk (hk i)
  have t1 := ag_tk (hk (i - 1))
  have fl : ¬ (tn i = 51) ∧ ¬ (tn i = 50) ∧ ¬ (tn i = 52) ∧ 10 ≤ tn i ∧ 16 ≤ tn i := by
    rcases hf with h | h | h | h | h <;> omega
  obtain ⟨f1, f2, f3, f4, f5⟩ := fl
  simp (disch := omega) only [wpY_readToken, ht, an_g10, an_g16, an_e51, an_e50, an_e52, f1, f2, f3, f4, f5, wpY_readFunction, vp_in_nI, nI_clamp, nI_leI, nI_ltI, nI_eq, nI_add, nI_1, pk_mul, an_m36, an_n36, an_b468, forall_eq, true_and, and_true, true_implies, false_implies, not_true, not_false_iff, implies_true, pk_un, pk_us, ap_wrN, ap_wrS]
  refine ay_se l15 H s0 (fun rk' rw' wd' dt' K Y => ?_)
  have q := hO rk' rw' wd' dt' K Y
  have z1 : ¬ (1 : Int32) = 0 := by decide
  have m3 : ¬ (-1 : Int32) = 43 := by decide
  have m2 : ¬ (-1 : Int32) = 42 := by decide
  rcases hf with ⟨m, rfl⟩ | ⟨t, i1, s, rfl, b⟩ | ⟨s, i1, b, rfl⟩ | ⟨s, i2, b, s2, rfl, b3⟩ | ⟨s, b, b2, rfl⟩
  · have e : ag_wd tn n j = tn j := by
      unfold ag_wd
      rw [ag_kM m, show ag_f tn j = tn j from if_neg (by omega)]
      show 10000 * 0 + tn j = tn j
      omega
    rw [e] at q
    have a1 : ¬ tn j = 40 := by omega
    have a2 : ¬ tn j = 41 := by omega
    have a3 : 30 ≤ tn j := by omega
    simp (disch := omega) only [ht, ay_tkp _ hn ht, an_e40, an_e41, an_g30, a1, a2, a3, wY_readFunction_95, wY_readFunction_111, wY_readFunction_112, wY_readFunction_136, vp_in_nI, nI_clamp, nI_leI, nI_ltI, nI_eq, nI_add, nI_1, pk_mul, an_m36, an_n36, an_b468, forall_eq, true_and, and_true, true_implies, false_implies, not_true, not_false_iff, implies_true, pk_un, pk_us, ap_wrN, ap_wrS]
    exact q
  · have ii : i - 1 + 1 = i := by omega
    have lt1 : i - 1 < n := by omega
    rcases t with t | t
    · have e : ag_wd tn n (i - 1) = 10000 + tn (i - 1) := by
        unfold ag_wd
        rw [ag_kA s (by omega) (by rw [ii]; exact t), show ag_f tn (i - 1) = tn (i - 1) from if_neg (by omega)]
        rfl
      rw [e] at q
      have v : (10000 : Int32) * (nI (tn i) - 39) + nI (tn (i - 1)) = nI (10000 + tn (i - 1)) := by
        rw [t, show (10000 : Int32) * (nI 40 - 39) = nI 10000 from by decide, nI_add]
      simp (disch := omega) only [ht, ay_tkG _ hn ht, lt1, if_true, an_e40, eq_true t, wY_readFunction_31, v, an_s1, vp_in_nI, nI_clamp, nI_leI, nI_ltI, nI_eq, nI_add, nI_1, pk_mul, an_m36, an_n36, an_b468, forall_eq, true_and, and_true, true_implies, false_implies, not_true, not_false_iff, implies_true, pk_un, pk_us, ap_wrN, ap_wrS]
      exact q
    · have e : ag_wd tn n (i - 1) = 20000 + tn (i - 1) := by
        unfold ag_wd
        rw [ag_kB s (by omega) (by rw [ii]; exact t), show ag_f tn (i - 1) = tn (i - 1) from if_neg (by omega)]
        rfl
      rw [e] at q
      have a1 : ¬ tn i = 40 := by omega
      have v : (10000 : Int32) * (nI (tn i) - 39) + nI (tn (i - 1)) = nI (20000 + tn (i - 1)) := by
        rw [t, show (10000 : Int32) * (nI 41 - 39) = nI 20000 from by decide, nI_add]
      simp (disch := omega) only [ht, ay_tkG _ hn ht, lt1, if_true, an_e40, an_e41, a1, eq_true t, wY_readFunction_31, v, an_s1, vp_in_nI, nI_clamp, nI_leI, nI_ltI, nI_eq, nI_add, nI_1, pk_mul, an_m36, an_n36, an_b468, forall_eq, true_and, and_true, true_implies, false_implies, not_true, not_false_iff, implies_true, pk_un, pk_us, ap_wrN, ap_wrS]
      exact q
  · have ii : i - 1 + 1 = i := by omega
    have lt1 : i - 1 < n := by omega
    have e : ag_wd tn n (i - 1) = 30000 + tn i := by
      unfold ag_wd
      rw [ag_kO b, show ag_f tn (i - 1) = tn (i - 1 + 1) from if_pos b, ii]
      rfl
    rw [e] at q
    have a1 : ¬ tn i = 40 := by omega
    have a2 : ¬ tn i = 41 := by omega
    have a3 : ¬ 30 ≤ tn i := by omega
    have a4 : ¬ tn (i - 1) = 43 := by omega
    simp (disch := omega) only [ht, ay_tkG _ hn ht, lt1, if_true, an_e40, an_e41, an_g30, an_e43, an_e42, a1, a2, a3, a4, eq_true b, wY_readFunction_95, wY_readFunction_111, wY_readFunction_112, wY_readFunction_136, z1, an_b30000, an_s1, vp_in_nI, nI_clamp, nI_leI, nI_ltI, nI_eq, nI_add, nI_1, pk_mul, an_m36, an_n36, an_b468, forall_eq, true_and, and_true, true_implies, false_implies, not_true, not_false_iff, implies_true, pk_un, pk_us, ap_wrN, ap_wrS]
    exact q
  · have ii : i - 2 + 1 = i - 1 := by omega
    have i3 : i - 2 + 2 = i := by omega
    have bd : (if 1 ≤ i then nI (tn (i - 1)) else (-1 : Int32)) = nI (tn (i - 1)) := if_pos (by omega)
    have e : ag_wd tn n (i - 2) = 40000 + 100 * tn (i - 2) + tn i := by
      unfold ag_wd
      rw [ag_kD s2 (by omega) (by rw [ii]; exact b), show ag_f tn (i - 2) = tn (i - 2) from if_neg (by omega), show ag_g tn (i - 2) = tn i from by unfold ag_g; rw [i3]]
      rfl
    rw [e] at q
    have a1 : ¬ tn i = 40 := by omega
    have a2 : ¬ tn i = 41 := by omega
    have a3 : ¬ 30 ≤ tn i := by omega
    have sb : nI i - 2 = nI (i - 2) := pk_sub (b := 2) i2
    have v : (40000 : Int32) + 100 * nI (tn (i - 2)) + nI (tn i) = nI (40000 + 100 * tn (i - 2) + tn i) := by
      rw [show (100 : Int32) = nI 100 from rfl, pk_mul, an_b40000, nI_add]
    simp (disch := omega) only [ht, ay_tkp _ hn ht, bd, an_e40, an_e41, an_g30, an_e43, a1, a2, a3, eq_true b, sb, v, vp_in_nI, nI_clamp, forall_eq, true_and, and_true, true_implies, false_implies, not_true, not_false_iff]
    exact q
  · have e : ag_wd tn n j = tn j := by
      unfold ag_wd
      rw [ag_k0 s b2, show ag_f tn j = tn j from if_neg (by omega)]
      show 10000 * 0 + tn j = tn j
      omega
    rw [e] at q
    have a1 : ¬ tn j = 40 := by omega
    have a2 : ¬ tn j = 41 := by omega
    have a3 : ¬ 30 ≤ tn j := by omega
    have c3 : ¬ (if 1 ≤ j then nI (tn (j - 1)) else (-1 : Int32)) = 43 := by
      by_cases g : 1 ≤ j
      · rw [if_pos g, an_e43 (by omega)]; exact (b g).2
      · rw [if_neg g]; exact m3
    have c2 : ¬ (if 1 ≤ j then nI (tn (j - 1)) else (-1 : Int32)) = 42 := by
      by_cases g : 1 ≤ j
      · rw [if_pos g, an_e42 (by omega)]; exact (b g).1
      · rw [if_neg g]; exact m2
    simp (disch := omega) only [ht, ay_tkp _ hn ht, an_e40, an_e41, an_g30, a1, a2, a3, c3, c2, wY_readFunction_95, wY_readFunction_111, wY_readFunction_112, wY_readFunction_136, vp_in_nI, nI_clamp, nI_leI, nI_ltI, nI_eq, nI_add, nI_1, pk_mul, an_m36, an_n36, an_b468, forall_eq, true_and, and_true, true_implies, false_implies, not_true, not_false_iff, implies_true, pk_un, pk_us, ap_wrN, ap_wrS]
    exact q
theorem ay_vN {post : Int32 → SY → Prop} {f i l : Nat} (hn : n ≤ 30) (ht : ∀ j, tx j = nI (tn j)) (hk : ∀ j, ag_tok (tn j)) (l15 : l ≤ 15) (H : ar_YL tn n L S rk rw wd dt wt fi l) (s1 : S l ≠ 1) (hf : f ≤ i) (hi : i < n) (hd : ∀ j, f ≤ j → j ≤ i → tn j ≤ 9) (hb : 1 ≤ f → ¬ tn (f - 1) ≤ 9)
    (hO : ∀ rk' rw' wd' dt', ap_K (14 + l * 2) rk rw wd dt rk' rw' wd' dt' → ((ar_op tn n L S l (ar_num tn f i)).1 = 0 → ar_YA rk' rw' wd' dt' (14 + l * 2) (ar_op tn n L S l (ar_num tn f i)).2) → post (nI f) (nI n, nI l, (ar_op tn n L S l (ar_num tn f i)).1, tx, rk', rw', wd', dt', upd wt l (-1), upd fi l 1)) :
    wpY_readToken post (nI n, nI l, 0, tx, rk, rw, wd, dt, wt, fi) (nI i) := by
  have d9 := hd i hf (Nat.le_refl i)
  have z : ¬ 10 ≤ tn i := by omega
  simp (disch := omega) only [wpY_readToken, ht, an_g10, z, vp_in_nI, nI_clamp, nI_leI, nI_ltI, nI_eq, nI_add, nI_1, pk_mul, an_m36, an_n36, an_b468, forall_eq, true_and, and_true, true_implies, false_implies, not_true, not_false_iff, implies_true, pk_un, pk_us, ap_wrN, ap_wrS]
  exact ay_rn hn ht hk l15 H s1 hf hi hd hb hO
theorem ay_vM {post : Int32 → SY → Prop} {i l : Nat} {N : Nat → Option ar_A} (hn : n ≤ 30) (ht : ∀ j, tx j = nI (tn j)) (hk : ∀ j, ag_tok (tn j)) (l15 : l ≤ 15) (H : ar_YL tn n L S rk rw wd dt wt fi l) (s1 : S l ≠ 1) (hi : i < n) (hf : ag_nm (tn i)) (hN : ar_YN N rk rw wd dt (tn i - 10))
    (hV : N (tn i - 10) = none → post (nI i) (nI n, nI l, (-11), tx, rk, rw, wd, dt, wt, fi))
    (hO : ∀ A, N (tn i - 10) = some A → ∀ rk' rw' wd' dt', ap_K (14 + l * 2) rk rw wd dt rk' rw' wd' dt' → ((ar_op tn n L S l A).1 = 0 → ar_YA rk' rw' wd' dt' (14 + l * 2) (ar_op tn n L S l A).2) → post (nI i) (nI n, nI l, (ar_op tn n L S l A).1, tx, rk', rw', wd', dt', upd wt l (-1), upd fi l 1)) :
    wpY_readToken post (nI n, nI l, 0, tx, rk, rw, wd, dt, wt, fi) (nI i) := by
  have a1 : 10 ≤ tn i := by omega
  have a2 : ¬ 16 ≤ tn i := by omega
  have sb : nI (tn i) - 10 = nI (tn i - 10) := pk_sub (b := 10) a1
  rcases hN with ⟨e, g⟩ | ⟨A, e, Y⟩
  · have q := hV e
    have z : ¬ (0 : Int32) ≤ -1 := by decide
    simp (disch := omega) only [wpY_readToken, ht, an_g10, an_g16, a1, a2, sb, wpY_readName, g, z, vp_in_nI, nI_clamp, nI_leI, nI_ltI, nI_eq, nI_add, nI_1, pk_mul, an_m36, an_n36, an_b468, forall_eq, true_and, and_true, true_implies, false_implies, not_true, not_false_iff, implies_true, pk_un, pk_us, ap_wrN, ap_wrS]
    exact q
  · have vb := ap_vb Y.1
    have z : 0 ≤ nI A.1 := nI_pos' (by omega)
    have g := Y.2.1
    simp (disch := omega) only [wpY_readToken, ht, an_g10, an_g16, a1, a2, sb, wpY_readName, wpY_valuePlace, an_n2, an_b14, g, z, vp_in_nI, nI_clamp, nI_leI, nI_ltI, nI_eq, nI_add, nI_1, pk_mul, an_m36, an_n36, an_b468, forall_eq, true_and, and_true, true_implies, false_implies, not_true, not_false_iff, implies_true, pk_un, pk_us, ap_wrN, ap_wrS]
    refine ay_cp (by omega) (by omega) (by omega) ?_
    have F := ap_cpF (rk := rk) (rw := rw) (cl := wd) (nb := dt) (p := tn i - 10) (q := 14 + l * 2 + 1) (x := rk (tn i - 10)) (y := rw (tn i - 10)) (z := wd (tn i - 10))
    have H2 : ar_YL tn n L S (upd rk (14 + l * 2 + 1) (rk (tn i - 10))) (upd rw (14 + l * 2 + 1) (rw (tn i - 10))) (upd wd (14 + l * 2 + 1) (wd (tn i - 10))) (ap_cp dt (tn i - 10) (14 + l * 2 + 1) 36) wt fi l := by
      obtain ⟨a, b, c, d⟩ := H
      exact ⟨a, b, fun z => ⟨(c z).1, (c z).2.1, ap_FY F (by omega) (ap_v36 (c z).2.1) (c z).2.2⟩, d⟩
    exact ay_op l15 H2 s1 ⟨Y.1, ap_cpY (ap_v36 Y.1) Y.2⟩ (fun rk2 rw2 wd2 dt2 K2 Y2 => hO A e rk2 rw2 wd2 dt2 (ap_Kt (ap_KF (Or.inr (by omega)) F) K2) Y2)
theorem ay_vC {post : Int32 → SY → Prop} {i l : Nat} (hn : n ≤ 30) (ht : ∀ j, tx j = nI (tn j)) (l15 : l + 1 ≤ 15) (hi : i < n) (hf : tn i = 51) (hp : post (nI i) (nI n, nI (l + 1), 0, tx, rk, rw, wd, dt, upd wt (l + 1) (-1), upd fi (l + 1) 0)) : wpY_readToken post (nI n, nI l, 0, tx, rk, rw, wd, dt, wt, fi) (nI i) := by
  have a1 : 10 ≤ tn i := by omega
  have a2 : 16 ≤ tn i := by omega
  simp (disch := omega) only [wpY_readToken, ht, an_g10, an_g16, an_e51, a1, a2, eq_true hf, an_bf, vp_in_nI, nI_clamp, nI_leI, nI_ltI, nI_eq, nI_add, nI_1, pk_mul, an_m36, an_n36, an_b468, forall_eq, true_and, and_true, true_implies, false_implies, not_true, not_false_iff, implies_true, pk_un, pk_us, ap_wrN, ap_wrS]
  exact hp
theorem ay_vB {post : Int32 → SY → Prop} {i l : Nat} (hn : n ≤ 30) (ht : ∀ j, tx j = nI (tn j)) (l15 : l ≤ 15) (H : ar_YL tn n L S rk rw wd dt wt fi l) (s0 : S l ≠ 0) (hi : i < n) (hf : tn i = 52) (i1 : 1 ≤ i) (hm : ag_nm (tn (i - 1)))
    (hE : (ar_se tn n L S l).1 ≠ 0 → ∀ rk' rw' wd' dt', ap_K (14 + l * 2) rk rw wd dt rk' rw' wd' dt' → post (nI (i - 1)) (nI n, nI l, (ar_se tn n L S l).1, tx, rk', rw', wd', dt', upd wt l (-1), fi))
    (hO : (ar_se tn n L S l).1 = 0 → ∀ rk' rw' wd' dt', ap_K (14 + l * 2) rk rw wd dt rk' rw' wd' dt' → ar_YA rk' rw' wd' dt' (14 + l * 2) (ar_se tn n L S l).2 →
      post (nI (i - 1)) (nI n, nI l, 0, tx, upd rk' (tn (i - 1) - 10) (rk' (14 + l * 2)), upd rw' (tn (i - 1) - 10) (rw' (14 + l * 2)), upd wd' (tn (i - 1) - 10) (wd' (14 + l * 2)), ap_cp dt' (14 + l * 2) (tn (i - 1) - 10) 36, upd wt l (-1), fi)) :
    wpY_readToken post (nI n, nI l, 0, tx, rk, rw, wd, dt, wt, fi) (nI i) := by
  have a1 : 10 ≤ tn i := by omega
  have a2 : 16 ≤ tn i := by omega
  have a3 : ¬ tn i = 51 := by omega
  have a4 : ¬ tn i = 50 := by omega
  simp (disch := omega) only [wpY_readToken, ht, an_g10, an_g16, an_e51, an_e50, an_e52, a1, a2, a3, a4, eq_true hf, vp_in_nI, nI_clamp, nI_leI, nI_ltI, nI_eq, nI_add, nI_1, pk_mul, an_m36, an_n36, an_b468, forall_eq, true_and, and_true, true_implies, false_implies, not_true, not_false_iff, implies_true, pk_un, pk_us, ap_wrN, ap_wrS]
  refine ay_se l15 H s0 (fun rk' rw' wd' dt' K Y => ?_)
  by_cases e : (ar_se tn n L S l).1 = 0
  · have q := hO e rk' rw' wd' dt' K (Y e)
    have sb : nI (tn (i - 1)) - 10 = nI (tn (i - 1) - 10) := pk_sub (b := 10) (by omega)
    simp (disch := omega) only [e, wpY_valuePlace, an_n2, an_b14, an_s1, ht, sb, vp_in_nI, nI_clamp, nI_leI, nI_ltI, nI_eq, nI_add, nI_1, pk_mul, an_m36, an_n36, an_b468, forall_eq, true_and, and_true, true_implies, false_implies, not_true, not_false_iff, implies_true, pk_un, pk_us, ap_wrN, ap_wrS]
    exact ay_cp (by omega) (by omega) (by omega) q
  · have q := hE e rk' rw' wd' dt' K
    simp (disch := omega) only [e, an_s1, vp_in_nI, nI_clamp, nI_leI, nI_ltI, nI_eq, nI_add, nI_1, pk_mul, an_m36, an_n36, an_b468, forall_eq, true_and, and_true, true_implies, false_implies, not_true, not_false_iff, implies_true, pk_un, pk_us, ap_wrN, ap_wrS]
    exact q
theorem ay_vO {post : Int32 → SY → Prop} {i l : Nat} (hn : n ≤ 30) (ht : ∀ j, tx j = nI (tn j)) (l15 : l + 1 ≤ 15) (H : ar_YL tn n L S rk rw wd dt wt fi (l + 1)) (H' : ar_YL tn n L S rk rw wd dt wt fi l) (s0 : S (l + 1) ≠ 0) (s1 : S l ≠ 1) (hi : i < n) (hf : tn i = 50)
    (hE : (ar_se tn n L S (l + 1)).1 ≠ 0 → ∀ rk' rw' wd' dt' wt' fi', ap_K (14 + l * 2) rk rw wd dt rk' rw' wd' dt' → post (nI i) (nI n, nI l, (ar_se tn n L S (l + 1)).1, tx, rk', rw', wd', dt', wt', fi'))
    (hO : (ar_se tn n L S (l + 1)).1 = 0 → ∀ rk' rw' wd' dt' wt' fi', ap_K (14 + l * 2) rk rw wd dt rk' rw' wd' dt' → ((ar_op tn n L S l (ar_se tn n L S (l + 1)).2).1 = 0 → ar_YA rk' rw' wd' dt' (14 + l * 2) (ar_op tn n L S l (ar_se tn n L S (l + 1)).2).2) → (∀ j, j < l → wt' j = wt j ∧ fi' j = fi j) → wt' l = -1 → fi' l = 1 →
      post (nI i) (nI n, nI l, (ar_op tn n L S l (ar_se tn n L S (l + 1)).2).1, tx, rk', rw', wd', dt', wt', fi')) :
    wpY_readToken post (nI n, nI (l + 1), 0, tx, rk, rw, wd, dt, wt, fi) (nI i) := by
  have a1 : 10 ≤ tn i := by omega
  have a2 : 16 ≤ tn i := by omega
  have a3 : ¬ tn i = 51 := by omega
  simp (disch := omega) only [wpY_readToken, ht, an_g10, an_g16, an_e51, an_e50, a1, a2, a3, eq_true hf, vp_in_nI, nI_clamp, nI_leI, nI_ltI, nI_eq, nI_add, nI_1, pk_mul, an_m36, an_n36, an_b468, forall_eq, true_and, and_true, true_implies, false_implies, not_true, not_false_iff, implies_true, pk_un, pk_us, ap_wrN, ap_wrS]
  refine ay_se l15 H s0 (fun rk' rw' wd' dt' K Y => ?_)
  simp (disch := omega) only [wpY_valuePlace, nI_pred, an_n2, an_b14, vp_in_nI, nI_clamp, nI_leI, nI_ltI, nI_eq, nI_add, nI_1, pk_mul, an_m36, an_n36, an_b468, forall_eq, true_and, and_true, true_implies, false_implies, not_true, not_false_iff, implies_true, pk_un, pk_us, ap_wrN, ap_wrS]
  refine ay_cp (by omega) (by omega) (by omega) ?_
  have F := ap_cpF (rk := rk') (rw := rw') (cl := wd') (nb := dt') (p := 14 + (l + 1) * 2) (q := 14 + l * 2 + 1) (x := rk' (14 + (l + 1) * 2)) (y := rw' (14 + (l + 1) * 2)) (z := wd' (14 + (l + 1) * 2))
  have K2 := ap_Kt (ap_Km (show 14 + l * 2 ≤ 14 + (l + 1) * 2 by omega) K) (ap_KF (m := 14 + l * 2) (Or.inr (by omega)) F)
  by_cases e : (ar_se tn n L S (l + 1)).1 = 0
  · rw [e]
    have A := Y e
    have H2 : ar_YL tn n L S (upd rk' (14 + l * 2 + 1) (rk' (14 + (l + 1) * 2))) (upd rw' (14 + l * 2 + 1) (rw' (14 + (l + 1) * 2))) (upd wd' (14 + l * 2 + 1) (wd' (14 + (l + 1) * 2))) (ap_cp dt' (14 + (l + 1) * 2) (14 + l * 2 + 1) 36) (upd wt (l + 1) (-1)) fi l := by
      obtain ⟨a, b, c, d⟩ := H'
      unfold ar_YL
      rw [pk_un (show l ≠ l + 1 by omega)]
      exact ⟨a, b, fun z => ⟨(c z).1, (c z).2.1, ap_FY F (by omega) (ap_v36 (c z).2.1) (ap_KY K (by omega) (by omega) (ap_v36 (c z).2.1) (c z).2.2)⟩, d⟩
    refine ay_op (by omega) H2 s1 ⟨A.1, ap_cpY (ap_v36 A.1) A.2⟩ (fun rk2 rw2 wd2 dt2 K3 Y3 => ?_)
    have q := hO e rk2 rw2 wd2 dt2 (upd (upd wt (l + 1) (-1)) l (-1)) (upd fi l 1) (ap_Kt K2 K3) Y3 (fun j hj => ⟨by rw [pk_un (by omega), pk_un (by omega)], by rw [pk_un (by omega)]⟩) pk_us pk_us
    exact q
  · refine ay_opE (by omega) e (fun rk2 rw2 wd2 dt2 K3 => ?_)
    exact hE e rk2 rw2 wd2 dt2 _ _ (ap_Kt K2 K3)
end
section
variable {tc lv : Int32} {tx rk rw cl nb gv wt : Nat → Int32}
theorem ax_cn {post : SX → Prop} {a b : Nat} (ha : a ≤ 7) (hb : b ≤ 7) (hab : a + 6 = b ∨ b + 6 = a) (hg : ∀ q, q < 6 → gv (a + q) = 0 ∨ gv (a + q) = 1)
    (hp : ∀ rk' rw' cl' nb' gv', (∀ q, q < 6 → ap_C (a + q) (b + q) rk rw cl nb rk' rw' cl' nb' ∧ gv' (b + q) = gv (a + q)) → (∀ j, (j < b ∨ b + 6 ≤ j) → ap_C j j rk rw cl nb rk' rw' cl' nb' ∧ gv' j = gv j) → post (tc, lv, tx, rk', rw', cl', nb', gv', wt)) :
    wpX_copyNames post (tc, lv, tx, rk, rw, cl, nb, gv, wt) (nI a) (nI b) := by
  unfold wpX_copyNames
  refine pk_loop (σ := (Nat → Int32) × (Nat → Int32) × (Nat → Int32) × (Nat → Int32) × (Nat → Int32)) (fun m k s => wX_copyNames_2 post (nI a) (nI b) m (nI k) tc lv tx s.1 s.2.1 s.2.2.1 s.2.2.2.1 s.2.2.2.2 wt)
    (fun k s => (∀ q, q < k → ap_C (a + q) (b + q) rk rw cl nb s.1 s.2.1 s.2.2.1 s.2.2.2.1 ∧ s.2.2.2.2 (b + q) = gv (a + q)) ∧ (∀ j, (j < b ∨ b + 6 ≤ j) → ap_C j j rk rw cl nb s.1 s.2.1 s.2.2.1 s.2.2.2.1 ∧ s.2.2.2.2 j = gv j)) 6 0 (rk, rw, cl, nb, gv) (by omega) ⟨fun q h => by omega, fun j _ => ⟨ap_Cr j _ _ _ _, rfl⟩⟩ (fun m s hI => ?_) (fun m k s hk hI ih => ?_)
  · exact br_t (by decide) (hp _ _ _ _ _ hI.1 hI.2)
  · have z : ¬ (6 : Int32) ≤ nI k := nI_ge (b := 6) hk (by omega)
    refine br_f z ?_
    rw [nI_add, nI_add]
    refine ax_cp (by omega) (by omega) (by omega) ?_
    dsimp only
    have ga := (hI.2 (a + k) (by omega)).2
    have gn : vp_nar .boolean (s.2.2.2.2 (a + k)) = s.2.2.2.2 (a + k) := by
      rw [ga]
      rcases hg k hk with g | g
      · rw [g]; exact an_bf
      · rw [g]; exact an_bt
    rw [nI_clamp (by omega), nI_clamp (by omega), gn]
    refine ⟨vp_in_nI (by omega) (by omega), vp_in_nI (by omega) (by omega), nm_e (nm_r (nI_1 k) ?_)⟩
    refine ih (_, _, _, _, _) ⟨fun q hq => ?_, fun j hj => ?_⟩
    · by_cases e : q = k
      · subst e
        have C := (hI.2 (a + q) (by omega)).1
        have D := ap_Cc (a := a + q) (b := b + q) (rk := s.1) (rw := s.2.1) (cl := s.2.2.1) (nb := s.2.2.2.1)
        exact ⟨⟨D.1.trans C.1, D.2.1.trans C.2.1, D.2.2.1.trans C.2.2.1, fun i hi => (D.2.2.2 i hi).trans (C.2.2.2 i hi)⟩, pk_us.trans ga⟩
      · have h := hI.1 q (by omega)
        exact ⟨ap_CF ap_cpF (by omega) h.1, (pk_un (by omega)).trans h.2⟩
    · have h := hI.2 j hj
      exact ⟨ap_CF ap_cpF (by omega) h.1, (pk_un (by omega)).trans h.2⟩
end
