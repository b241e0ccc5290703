/-! run -/
theorem ar_ND {rk rw cl nb gv yk yw yd yt : Nat → Int32} (h : ∀ q, q < 6 → ar_N rk rw cl nb gv yk yw yd yt (1 + q) q) :
    ∃ N : Nat → Option ar_A, ∀ q, q < 6 → (N q = none ∧ gv (1 + q) = 0 ∧ yk q = -1) ∨ ∃ A, N q = some A ∧ gv (1 + q) = 1 ∧ ar_XA rk rw cl nb (1 + q) A ∧ ar_YA yk yw yd yt q A := by
  have e : ∀ q, ∃ o : Option ar_A, q < 6 → (o = none ∧ gv (1 + q) = 0 ∧ yk q = -1) ∨ ∃ A, o = some A ∧ gv (1 + q) = 1 ∧ ar_XA rk rw cl nb (1 + q) A ∧ ar_YA yk yw yd yt q A := by
    intro q
    by_cases hq : q < 6
    · rcases h q hq with ⟨g, R, r, c, d, V, X, Y⟩ | ⟨g, y⟩
      · exact ⟨some (R, r, c, d), fun _ => Or.inr ⟨_, rfl, g, ⟨V, X⟩, ⟨V, Y⟩⟩⟩
      · exact ⟨none, fun _ => Or.inl ⟨rfl, g, y⟩⟩
    · exact ⟨none, fun z => absurd z hq⟩
  exact ⟨fun q => Classical.choose (e q), fun q hq => Classical.choose_spec (e q) hq⟩
theorem i_vc_run {k : Nat} {u : SX} {v : SY} (I : i_Rel k u v) (hk : k + 5 ≤ 2560) : wpX_run (fun r u' => wpY_run (fun r' v' => r' = r ∧ i_Rel (k + 5) u' v') v) u := by
  obtain ⟨tc, lv, tx, rk, rw, cl, nb, gv, wt⟩ := u
  obtain ⟨ct, lv', er, tx', yk, yw, yd, yt, ywt, yfi⟩ := v
  have I0 := I
  obtain ⟨⟨n, hn, h1, h2⟩, e, hT, hV, hN⟩ := I
  dsimp only at h1 h2 e hT hV hN
  subst h1 h2 e
  obtain ⟨tn, t1, t2⟩ := ar_tn hT
  have z1 : ¬ (1 : Int32) = 0 := by decide
  unfold wpX_run
  refine ax_rd hn t1 t2 (fun ok => br_f z1 ?_) (fun no => br_t rfl ?_)
  case refine_2 =>
    unfold wpY_run
    exact ay_is hn t1 t2 (fun z => absurd z no) (fun _ => br_t rfl ⟨rfl, I0⟩)
  obtain ⟨N, ND⟩ := ar_ND hN
  have dp0 : ag_dp tn n = 0 := ok.2.1
  have XE : ar_XE n tx' rk rw cl nb gv yk yw yd yt (fun r u' r' v' => r' = r ∧ i_Rel (k + 5) u' v') := by
    intro c lv2 ak aw al an agv awt hc K G lv3 bk bw bd bt bwt bfi C C12
    refine ⟨rfl, ar_mx ⟨⟨n, hn, rfl, rfl⟩, rfl, hT, ?_, fun q hq => ?_⟩⟩
    · obtain ⟨R, r, c, d, V, X, Y⟩ := hV
      exact ⟨R, r, c, d, V, ap_KX K (by omega) (by omega) (ap_v36 V) X, ap_CY C12 (ap_v36 V) Y⟩
    · rcases hN q hq with ⟨g, R, r, c, d, V, X, Y⟩ | ⟨g, y⟩
      · exact Or.inl ⟨(G (1 + q) (by omega)).trans g, R, r, c, d, V, ap_KX K (by omega) (by omega) (ap_v36 V) X, ap_CY (C q hq) (ap_v36 V) Y⟩
      · exact Or.inr ⟨(G (1 + q) (by omega)).trans g, (C q hq).1.trans y⟩
  have XO : ar_OK n tx' (fun r u' r' v' => r' = r ∧ i_Rel (k + 5) u' v') := by
    intro A N2 lv2 ak aw al an agv awt lv3 bk bw bd bt bwt bfi XA XN YA YN
    refine ⟨YA.2.1.trans XA.2.1.symm, ar_mx ⟨⟨n, hn, rfl, rfl⟩, rfl, hT, ⟨_, _, _, _, XA.1, XA.2, YA.2⟩, fun q hq => ?_⟩⟩
    rcases XN q hq with ⟨a, g⟩ | ⟨B, a, g, XB⟩
    · rcases YN q hq with ⟨_, y⟩ | ⟨B', a', _⟩
      · exact Or.inr ⟨g, y⟩
      · rw [a] at a'
        exact absurd a' (by simp)
    · rcases YN q hq with ⟨a', _⟩ | ⟨B', a', YB⟩
      · rw [a] at a'
        exact absurd a' (by simp)
      · have eB : B' = B := by rw [a] at a'; exact (Option.some.inj a').symm
        subst eB
        exact Or.inl ⟨g, _, _, _, _, XB.1, XB.2, YB.2⟩
  have PC : ar_PC tn (fun _ => 0) n := by
    refine ⟨fun j _ => ?_, fun _ => ?_, fun z => ?_⟩
    · exact (by decide : (0 : Nat) ≠ 1)
    · exact (by decide : (0 : Nat) ≠ 1)
    · have := ok.2.2
      omega
  have hH : ag_H tn n n := by
    refine ⟨?_, fun z => by omega⟩
    have := ok.2.2
    omega
  refine ax_cn (a := 1) (b := 7) (by omega) (by omega) (by omega) (fun q hq => ?_) (fun ak aw al an agv c1 c2 => ?_)
  · rcases hN q hq with ⟨g, _⟩ | ⟨g, _⟩
    · exact Or.inr g
    · exact Or.inl g
  dsimp only
  refine nm_e (nm_e ⟨n + 1, ?_⟩)
  have XI : ar_XI tn n (fun _ => (0, 1, 1, fun _ => 0)) (fun _ => 0) N (ag_dp tn n) rk rw cl nb gv ak aw al an agv (upd wt 0 (-1)) := by
    rw [dp0]
    refine ⟨fun j h1 h2 => ?_, fun j hj => (c2 j (by omega)).2, fun q hq => ?_, fun j hj => ?_⟩
    · exact (c2 j (by omega)).1
    · rcases ND q hq with ⟨a, g, _⟩ | ⟨A, a, g, XA, _⟩
      · exact Or.inl ⟨a, (c1 q hq).2.trans g⟩
      · exact Or.inr ⟨A, a, (c1 q hq).2.trans g, XA.1, ap_CX (c1 q hq).1 (ap_v36 XA.1) XA.2⟩
    · have j0 : j = 0 := by omega
      subst j0
      exact ⟨fun _ => pk_us, fun z => absurd z (by decide : ¬ 2 ≤ 0), fun z => absurd rfl z⟩
  have g := ar_LK (PX := fun r u' => wpY_run (fun r' v' => r' = r ∧ i_Rel (k + 5) u' v') (nI n, lv', er, tx', yk, yw, yd, yt, ywt, yfi)) hn t1 t2 ok XE XO n n (Nat.le_refl n) (Nat.le_refl n) hH _ _ N PC ak aw al an agv _ XI (fun r u' yc => ?_) (n + 1) (by omega)
  · rw [dp0] at g
    exact g
  · unfold wpY_run
    refine ay_is hn t1 t2 (fun _ => br_f z1 ?_) (fun z => absurd ok z)
    refine pk_loop (σ := (Nat → Int32) × (Nat → Int32) × (Nat → Int32) × (Nat → Int32)) (fun m j s => wY_run_12 (fun r' v' => r' = r ∧ i_Rel (k + 5) u' v') m (nI j) (nI n) lv' er tx' s.1 s.2.1 s.2.2.1 s.2.2.2 ywt yfi)
      (fun j s => (∀ q, q < j → ap_C q (6 + q) yk yw yd yt s.1 s.2.1 s.2.2.1 s.2.2.2) ∧ (∀ q, q < 6 ∨ q = 12 → ap_C q q yk yw yd yt s.1 s.2.1 s.2.2.1 s.2.2.2)) 6 0 (yk, yw, yd, yt) (by omega) ⟨fun q h => by omega, fun q _ => ap_Cr q _ _ _ _⟩ (fun m s hI => ?_) (fun m j s hj hI ih => ?_)
    · refine br_t (by decide) (nm_e (nm_e (nm_e ⟨n + 1, ?_⟩)))
      have y := yc s.1 s.2.1 s.2.2.1 s.2.2.2 (upd ywt 0 (-1)) (upd yfi 0 (vp_nar .boolean 0)) (by
        rw [dp0]
        refine ⟨⟨hI.1, hI.2 12 (by omega)⟩, fun q hq => ?_, fun j hj => ?_⟩
        · rcases ND q hq with ⟨a, _, y⟩ | ⟨A, a, _, _, YA⟩
          · exact Or.inl ⟨a, (hI.2 q (by omega)).1.trans y⟩
          · exact Or.inr ⟨A, a, YA.1, ap_CY (hI.2 q (by omega)) (ap_v36 YA.1) YA.2⟩
        · have j0 : j = 0 := by omega
          subst j0
          exact ⟨fun _ => pk_us, fun z => absurd z (by decide : ¬ 2 ≤ 0), fun z => absurd rfl z, fun _ => pk_us.trans an_bf⟩) (n + 1) (by omega)
      rw [dp0] at y
      exact y
    · have z : ¬ (6 : Int32) ≤ nI j := nI_ge (b := 6) hj (by omega)
      refine br_f z ?_
      rw [an_b6]
      refine ay_cp (by omega) (by omega) (by omega) ?_
      dsimp only
      refine nm_r (nI_1 j) ?_
      refine ih (_, _, _, _) ⟨fun q hq => ?_, fun q hq => ?_⟩
      · by_cases e : q = j
        · subst e
          have C := hI.2 q (by omega)
          have D := ap_Cc (a := q) (b := 6 + q) (rk := s.1) (rw := s.2.1) (cl := s.2.2.1) (nb := s.2.2.2)
          exact ⟨D.1.trans C.1, D.2.1.trans C.2.1, D.2.2.1.trans C.2.2.1, fun i hi => (D.2.2.2 i hi).trans (C.2.2.2 i hi)⟩
        · exact ap_CF ap_cpF (by omega) (hI.1 q (by omega))
      · exact ap_CF ap_cpF (by omega) (hI.2 q hq)
