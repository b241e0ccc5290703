/-! the relation of the two states; all calls but run -/
def ar_N (rk rw cl nb gv rk' rw' wd' dt' : Nat → Int32) (a q : Nat) : Prop :=
  (gv a = 1 ∧ ∃ R r c d, ap_VS R r c ∧ ap_X rk rw cl nb a R r c d ∧ ap_Y rk' rw' wd' dt' q R r c d) ∨ (gv a = 0 ∧ rk' q = -1)
def ar_V (rk rw cl nb rk' rw' wd' dt' : Nat → Int32) : Prop :=
  ∃ R r c d, ap_VS R r c ∧ ap_X rk rw cl nb 0 R r c d ∧ ap_Y rk' rw' wd' dt' 12 R r c d
def ar_R (tc : Int32) (tx rk rw cl nb gv : Nat → Int32) (ct : Int32) (tx' rk' rw' wd' dt' : Nat → Int32) : Prop :=
  (∃ n, n ≤ 30 ∧ tc = nI n ∧ ct = nI n) ∧ tx' = tx ∧ (∀ j, ∃ t, ag_tok t ∧ tx j = nI t) ∧ ar_V rk rw cl nb rk' rw' wd' dt' ∧ ∀ q, q < 6 → ar_N rk rw cl nb gv rk' rw' wd' dt' (1 + q) q
/-- the relation at the head of a turn: the same text, the same result, the same names -/
def i_Rel (_ : Nat) (u : SX) (v : SY) : Prop :=
  ar_R u.1 u.2.2.1 u.2.2.2.1 u.2.2.2.2.1 u.2.2.2.2.2.1 u.2.2.2.2.2.2.1 u.2.2.2.2.2.2.2.1 v.1 v.2.2.2.1 v.2.2.2.2.1 v.2.2.2.2.2.1 v.2.2.2.2.2.2.1 v.2.2.2.2.2.2.2.1
theorem i_up {k : Nat} {u : SX} {v : SY} (h : i_Rel k u v) : i_Rel (k + 5) u v := h
theorem ar_mx {tc lv ct lv' er : Int32} {tx rk rw cl nb gv wt tx' rk' rw' wd' dt' wt' fi : Nat → Int32} {k : Nat} (h : ar_R tc tx rk rw cl nb gv ct tx' rk' rw' wd' dt') : i_Rel k (tc, lv, tx, rk, rw, cl, nb, gv, wt) (ct, lv', er, tx', rk', rw', wd', dt', wt', fi) := h
theorem ar_tn {tx : Nat → Int32} (h : ∀ j, ∃ t, ag_tok t ∧ tx j = nI t) : ∃ tn : Nat → Nat, (∀ j, tx j = nI (tn j)) ∧ ∀ j, ag_tok (tn j) := by
  refine ⟨fun j => (tx j).toNatClampNeg, fun j => ?_, fun j => ?_⟩
  · obtain ⟨t, h1, h2⟩ := h j
    have := ag_tk h1
    dsimp only
    rw [h2, nI_clamp (by omega)]
  · obtain ⟨t, h1, h2⟩ := h j
    have := ag_tk h1
    dsimp only
    rw [h2, nI_clamp (by omega)]
    exact h1
theorem i_vc0 : wpX_init (fun u => wpY_init (fun v => i_Rel 0 u v)) := by
  have i0 : vp_in 0 46 := vp_in_nI (n := 0) (by omega) (by omega)
  have c0 : (0 : Int32).toNatClampNeg = 0 := by decide
  simp only [wpX_init, wpX_setShape, i0, c0, true_and, forall_eq]
  refine ap_le (fun n i a => wY_init_63 _ 0 0 0 n (nI i) (fun _ => 0) a (fun _ => 0) (fun _ => 0) (fun _ => 0) (fun _ => 0) (fun _ => 0)) (fun i j => if j < i then -1 else 0) 12 (by funext j; simp) (fun n => ?_) (fun n i hi ih => ?_)
  · have z : 12 ≤ 12 := Nat.le_refl 12
    simp (disch := omega) only [wY_init_63, an_g12, z, vp_in_nI, nI_clamp, nI_leI, nI_ltI, nI_eq, nI_add, nI_1, pk_mul, an_m36, an_n36, an_b468, forall_eq, true_and, and_true, true_implies, false_implies, not_true, not_false_iff, implies_true, pk_un, pk_us, ap_wrN, ap_wrS]
    have sp := fun (P : SY → Prop) (rk : Nat → Int32) => ay_sp (ct := 0) (lv := 0) (er := 0) (tx := fun _ => 0) (rk := rk) (rw := fun _ => 0) (wd := fun _ => 0) (dt := fun _ => 0) (wt := fun _ => 0) (fi := fun _ => 0) P (p := 12) (R := 0) (by omega) (by omega) 1 1
    rw [show nI 12 = 12 from rfl, nI_0] at sp
    rw [sp]
    dsimp only
    refine ar_mx ⟨⟨0, by omega, rfl, rfl⟩, rfl, fun j => ⟨0, Or.inl (by omega), rfl⟩, ?_, fun q hq => Or.inr ⟨rfl, ?_⟩⟩
    · exact ⟨0, 1, 1, fun _ => 0, ap_mk0, ⟨rfl, rfl, rfl, fun _ _ => rfl⟩, ⟨pk_us, pk_us, pk_us, fun _ _ => rfl⟩⟩
    · rw [pk_un (by omega)]
      exact if_pos (by omega)
  · have z : ¬ 12 ≤ i := by omega
    have e : upd (fun j => if j < i then (-1 : Int32) else 0) i (-1) = fun j => if j < i + 1 then -1 else 0 := by
      funext j
      unfold upd
      by_cases h : j = i
      · rw [if_pos h, if_pos (by omega)]
      · rw [if_neg h]
        dsimp only
        by_cases h2 : j < i
        · rw [if_pos h2, if_pos (by omega)]
        · rw [if_neg h2, if_neg (by omega)]
    simp (disch := omega) only [wY_init_63, an_g12, z, e, vp_in_nI, nI_clamp, nI_leI, nI_ltI, nI_eq, nI_add, nI_1, pk_mul, an_m36, an_n36, an_b468, forall_eq, true_and, and_true, true_implies, false_implies, not_true, not_false_iff, implies_true, pk_un, pk_us, ap_wrN, ap_wrS]
    exact ih
theorem ar_xT {tx : Nat → Int32} {n : Nat} {t : Int32} (g : ar_G t) (h : ∀ j, ∃ t, ag_tok t ∧ tx j = nI t) : ∀ j, ∃ s, ag_tok s ∧ ar_x tx n t j = nI s := by
  intro j
  unfold ar_x
  rcases g with e | ⟨s, hs, e⟩
  · rw [if_pos e]; exact h j
  · by_cases z : t = -1
    · rw [if_pos z]; exact h j
    · rw [if_neg z]
      by_cases y : j = n
      · rw [y, pk_us]; exact ⟨s, hs, e⟩
      · rw [pk_un y]; exact h j
theorem i_vc_tokens {k : Nat} {u : SX} {v : SY} (I : i_Rel k u v) (hk : k + 5 ≤ 2560) (v1 : Int32) (v2 : Int32) (v3 : Int32) (v4 : Int32) : wpX_tokens (fun r u' => wpY_tokens (fun r' v' => r' = r ∧ i_Rel (k + 5) u' v') v v1 v2 v3 v4) u v1 v2 v3 v4 := by
  obtain ⟨tc, lv, tx, rk, rw, cl, nb, gv, wt⟩ := u
  obtain ⟨ct, lv', er, tx', rk', rw', wd', dt', wt', fi⟩ := v
  obtain ⟨⟨n, hn, rfl, rfl⟩, e, hT, hV, hN⟩ := I
  dsimp only at e
  subst e
  by_cases g : ar_G v1 ∧ ar_G v2 ∧ ar_G v3 ∧ ar_G v4
  · refine ax_tG hn g.1 g.2.1 g.2.2.1 g.2.2.2 (fun s => ?_) (fun s => ?_)
    · exact ay_t hn (fun z => absurd g z) (fun _ _ => ⟨rfl, ar_mx ⟨⟨_, s, rfl, rfl⟩, rfl, ar_xT g.2.2.2 (ar_xT g.2.2.1 (ar_xT g.2.1 (ar_xT g.1 hT))), hV, hN⟩⟩) (fun _ z => absurd s z)
    · exact ay_t hn (fun z => absurd g z) (fun _ z => absurd z s) (fun _ _ => ⟨rfl, ar_mx ⟨⟨n, hn, rfl, rfl⟩, rfl, hT, hV, hN⟩⟩)
  · exact ax_tB g (ay_t hn (fun _ => ⟨rfl, ar_mx ⟨⟨n, hn, rfl, rfl⟩, rfl, hT, hV, hN⟩⟩) (fun z => absurd z g) (fun z => absurd z g))
theorem i_vc_untoken {k : Nat} {u : SX} {v : SY} (I : i_Rel k u v) (hk : k + 5 ≤ 2560) : wpX_untoken (fun r u' => wpY_untoken (fun r' v' => r' = r ∧ i_Rel (k + 5) u' v') v) u := by
  obtain ⟨tc, lv, tx, rk, rw, cl, nb, gv, wt⟩ := u
  obtain ⟨ct, lv', er, tx', rk', rw', wd', dt', wt', fi⟩ := v
  obtain ⟨⟨n, hn, rfl, rfl⟩, e, hT, hV, hN⟩ := I
  dsimp only at e
  subst e
  by_cases g : n = 0
  · have e0 : nI n = 0 := by rw [g]; rfl
    exact br_t e0 (br_t e0 ⟨rfl, ar_mx ⟨⟨n, hn, rfl, rfl⟩, rfl, hT, hV, hN⟩⟩)
  · have e0 : ¬ nI n = 0 := nI_ne0 (by omega) (by omega)
    have iv : vp_in (nI (n - 1)) 30 := vp_in_nI (by omega) (by omega)
    refine br_f e0 (nm_r (an_s1 (by omega)) ⟨iv, br_f e0 (nm_r (an_s1 (by omega)) ⟨iv, ⟨rfl, ar_mx ⟨⟨n - 1, by omega, rfl, rfl⟩, rfl, hT, hV, hN⟩⟩⟩)⟩)
theorem i_vc_clear {k : Nat} {u : SX} {v : SY} (I : i_Rel k u v) (hk : k + 5 ≤ 2560) : wpX_clear (fun u' => wpY_clear (fun v' => i_Rel (k + 5) u' v') v) u := by
  obtain ⟨tc, lv, tx, rk, rw, cl, nb, gv, wt⟩ := u
  obtain ⟨ct, lv', er, tx', rk', rw', wd', dt', wt', fi⟩ := v
  obtain ⟨⟨n, hn, rfl, rfl⟩, e, hT, hV, hN⟩ := I
  exact ar_mx (k := k + 5) ⟨⟨0, by omega, rfl, rfl⟩, e, hT, hV, hN⟩
theorem i_vc_reads {k : Nat} {u : SX} {v : SY} (I : i_Rel k u v) (hk : k + 5 ≤ 2560) : wpX_reads (fun r => wpY_reads (fun r' => r' = r ∧ i_Rel (k + 5) u v) v) u := by
  obtain ⟨tc, lv, tx, rk, rw, cl, nb, gv, wt⟩ := u
  obtain ⟨ct, lv', er, tx', rk', rw', wd', dt', wt', fi⟩ := v
  have I0 := I
  obtain ⟨⟨n, hn, rfl, rfl⟩, e, hT, hV, hN⟩ := I
  dsimp only at e
  subst e
  obtain ⟨tn, t1, t2⟩ := ar_tn hT
  refine ax_rd hn t1 t2 (fun ok => ?_) (fun no => ?_)
  · unfold wpY_reads
    exact ay_is hn t1 t2 (fun _ => ⟨rfl, rfl, I0⟩) (fun z => absurd ok z)
  · unfold wpY_reads
    exact ay_is hn t1 t2 (fun z => absurd z no) (fun _ => ⟨rfl, rfl, I0⟩)
theorem i_vc_rank {k : Nat} {u : SX} {v : SY} (I : i_Rel k u v) (hk : k + 5 ≤ 2560) : wpX_rank (fun r => wpY_rank (fun r' => r' = r ∧ i_Rel (k + 5) u v) v) u := by
  obtain ⟨tc, lv, tx, rk, rw, cl, nb, gv, wt⟩ := u
  obtain ⟨ct, lv', er, tx', rk', rw', wd', dt', wt', fi⟩ := v
  have I0 := I
  obtain ⟨_, _, _, ⟨R, r, c, d, V, X, Y⟩, _⟩ := I
  exact ⟨Y.1.trans X.1.symm, I0⟩
theorem i_vc_length {k : Nat} {u : SX} {v : SY} (I : i_Rel k u v) (hk : k + 5 ≤ 2560) (v1 : Int32) : wpX_length (fun r => wpY_length (fun r' => r' = r ∧ i_Rel (k + 5) u v) v v1) u v1 := by
  obtain ⟨tc, lv, tx, rk, rw, cl, nb, gv, wt⟩ := u
  obtain ⟨ct, lv', er, tx', rk', rw', wd', dt', wt', fi⟩ := v
  have I0 := I
  obtain ⟨_, _, _, ⟨R, r, c, d, V, X, Y⟩, _⟩ := I
  obtain ⟨x1, x2, x3, x4⟩ := X
  obtain ⟨y1, y2, y3, y4⟩ := Y
  dsimp only at x1 x2 x3 y1 y2 y3
  have vb := ap_vb V
  by_cases g0 : v1 < 0
  · exact br_t g0 (br_t g0 ⟨rfl, I0⟩)
  refine br_f g0 ?_
  obtain ⟨j, hj, rfl⟩ := nI_of g0
  rw [x1, nI_ltI hj (by omega)]
  have yl : ∀ P : Int32 → Prop, (j < R → (j = 0 → P (nI (ap_fl R r c))) ∧ (¬ j = 0 → P (nI c))) ∧ (¬ j < R → P (-3)) → wpY_length P (ct, lv', er, tx', rk', rw', wd', dt', wt', fi) (nI j) := by
    intro P h
    refine br_f g0 ?_
    rw [y1, nI_ltI hj (by omega), y2, y3]
    refine ⟨fun a => ?_, h.2⟩
    have q := h.1 a
    rw [an_e0 hj]
    refine ⟨q.1, fun b => ?_⟩
    have w : ap_w R c = c := if_pos (by omega)
    rw [w]
    exact q.2 b
  by_cases a : j < R
  · refine br_t a ?_
    rw [an_e0 hj]
    by_cases b : j = 0
    · refine br_t b ?_
      rw [show (0 : Int32) = nI 0 from rfl, ax_fl _ (by omega) vb.1 x1 x2 x3]
      exact yl _ (br_t a (br_t b ⟨rfl, I0⟩))
    · refine br_f b ?_
      rw [x3]
      exact yl _ (br_t a (br_f b ⟨rfl, I0⟩))
  · exact br_f a (yl _ (br_f a ⟨rfl, I0⟩))
theorem ar_sz {rk rw cl nb : Nat → Int32} {a R r c : Nat} {d : Nat → Int32} (X : ap_X rk rw cl nb a R r c d) : rw a * cl a = nI (r * c) := by rw [X.2.1, X.2.2.1, pk_mul]
theorem ar_szY {rk rw cl nb : Nat → Int32} {a R r c : Nat} {d : Nat → Int32} (V : ap_VS R r c) (Y : ap_Y rk rw cl nb a R r c d) : rw a * cl a = nI (r * c) := by rw [Y.2.1, Y.2.2.1, pk_mul, ap_flw V]
theorem ax_sz0 {tc lv : Int32} {tx rk rw cl nb gv wt : Nat → Int32} (post : Int32 → Prop) : wpX_sizeOf post (tc, lv, tx, rk, rw, cl, nb, gv, wt) 0 = post (rw 0 * cl 0) := ax_sz (h := 0) post (by omega)
theorem ay_sz12 {ct lv er : Int32} {tx rk rw wd dt wt fi : Nat → Int32} (post : Int32 → Prop) : wpY_sizeOf post (ct, lv, er, tx, rk, rw, wd, dt, wt, fi) 12 = post (rw 12 * wd 12) := ay_sz (h := 12) post (by omega)
theorem ay_at12 {ct lv er : Int32} {tx rk rw wd dt wt fi : Nat → Int32} (post : Int32 → Prop) {i : Nat} (hi : i < 36) : wpY_numberAt post (ct, lv, er, tx, rk, rw, wd, dt, wt, fi) 12 (nI i) = post (dt (12 * 36 + i)) := ay_at (h := 12) post (by omega)
theorem i_vc_size {k : Nat} {u : SX} {v : SY} (I : i_Rel k u v) (hk : k + 5 ≤ 2560) : wpX_size (fun r => wpY_size (fun r' => r' = r ∧ i_Rel (k + 5) u v) v) u := by
  obtain ⟨tc, lv, tx, rk, rw, cl, nb, gv, wt⟩ := u
  obtain ⟨ct, lv', er, tx', rk', rw', wd', dt', wt', fi⟩ := v
  have I0 := I
  obtain ⟨_, _, _, ⟨R, r, c, d, V, X, Y⟩, _⟩ := I
  have e1 := ar_sz X
  have e2 := ar_szY V Y
  dsimp only at e1 e2
  simp only [wpX_size, wpY_size, ax_sz0, ay_sz12, e1, e2]
  exact ⟨by trivial, I0⟩
theorem i_vc_at {k : Nat} {u : SX} {v : SY} (I : i_Rel k u v) (hk : k + 5 ≤ 2560) (v1 : Int32) : wpX_at (fun r => wpY_at (fun r' => r' = r ∧ i_Rel (k + 5) u v) v v1) u v1 := by
  obtain ⟨tc, lv, tx, rk, rw, cl, nb, gv, wt⟩ := u
  obtain ⟨ct, lv', er, tx', rk', rw', wd', dt', wt', fi⟩ := v
  have I0 := I
  obtain ⟨_, _, _, ⟨R, r, c, d, V, X, Y⟩, _⟩ := I
  have e1 := ar_sz X
  have e2 := ar_szY V Y
  dsimp only at e1 e2
  have v36 := ap_v36 V
  by_cases g0 : v1 < 0
  · exact br_t g0 (br_t g0 ⟨rfl, I0⟩)
  refine br_f g0 ?_
  obtain ⟨j, hj, rfl⟩ := nI_of g0
  rw [ax_sz0, e1, nI_leI (by omega) hj]
  by_cases a : r * c ≤ j
  · refine br_t a (br_f g0 ?_)
    rw [ay_sz12, e2, nI_leI (by omega) hj]
    exact br_t a ⟨rfl, I0⟩
  · refine br_f a ?_
    rw [an_b0, nI_clamp (by omega)]
    refine ⟨vp_in_nI (by omega) (by omega), br_f g0 ?_⟩
    rw [ay_sz12, e2, nI_leI (by omega) hj]
    refine br_f a ?_
    rw [ay_at12 _ (by omega)]
    have p1 := X.2.2.2 j (by omega)
    have p2 := Y.2.2.2 j (by omega)
    rw [Nat.zero_mul] at p1
    exact ⟨p2.trans p1.symm, I0⟩
def ar_dg (d : Nat → Int32) : Nat → Int32
  | 0 => 0
  | i + 1 => ar_dg d i + nI (i + 1) * d i
theorem i_vc_digest {k : Nat} {u : SX} {v : SY} (I : i_Rel k u v) (hk : k + 5 ≤ 2560) : wpX_digest (fun r => wpY_digest (fun r' => r' = r ∧ i_Rel (k + 5) u v) v) u := by
  obtain ⟨tc, lv, tx, rk, rw, cl, nb, gv, wt⟩ := u
  obtain ⟨ct, lv', er, tx', rk', rw', wd', dt', wt', fi⟩ := v
  have I0 := I
  obtain ⟨_, _, _, ⟨R, r, c, d, V, X, Y⟩, _⟩ := I
  have e1 := ar_sz X
  have e2 := ar_szY V Y
  dsimp only at e1 e2
  have v36 := ap_v36 V
  have p1 := X.2.2.2
  have p2 := Y.2.2.2
  dsimp only at p1 p2
  simp only [wpX_digest, ax_sz0, e1]
  refine ap_le (fun n i a => wX_digest_10 _ (nI (r * c)) tc lv tx rk rw cl nb gv wt n a (nI i)) (fun i => ar_dg d i) (r * c) rfl (fun n => ?_) (fun n i hi ih => ?_)
  · refine br_t (nI_le (Nat.le_refl _) (by omega)) ?_
    refine ap_le (fun n i a => wY_digest_4 _ ct lv' er tx' rk' rw' wd' dt' wt' fi n a (nI i)) (fun i => ar_dg d i) (r * c) rfl (fun n => ?_) (fun n i hi ih => ?_)
    · have z : r * c ≤ r * c := Nat.le_refl _
      simp (disch := omega) only [wY_digest_4, ay_sz12, e2, z, vp_in_nI, nI_clamp, nI_leI, nI_ltI, nI_eq, nI_add, nI_1, pk_mul, an_m36, an_n36, an_b468, forall_eq, true_and, and_true, true_implies, false_implies, not_true, not_false_iff, implies_true, pk_un, pk_us, ap_wrN, ap_wrS]
      exact I0
    · have z : ¬ r * c ≤ i := by omega
      simp (disch := omega) only [wY_digest_4, ay_sz12, ay_at12, e2, z, p2, vp_in_nI, nI_clamp, nI_leI, nI_ltI, nI_eq, nI_add, nI_1, pk_mul, an_m36, an_n36, an_b468, forall_eq, true_and, and_true, true_implies, false_implies, not_true, not_false_iff, implies_true, pk_un, pk_us, ap_wrN, ap_wrS]
      exact ih
  · have z : ¬ r * c ≤ i := by omega
    have q := p1 i hi
    rw [Nat.zero_mul] at q
    simp (disch := omega) only [wX_digest_10, z, an_b0, q, vp_in_nI, nI_clamp, nI_leI, nI_ltI, nI_eq, nI_add, nI_1, pk_mul, an_m36, an_n36, an_b468, forall_eq, true_and, and_true, true_implies, false_implies, not_true, not_false_iff, implies_true, pk_un, pk_us, ap_wrN, ap_wrS]
    exact ih
theorem ar_is {P : Int32 → Prop} {p : Int32} (h0 : (p < 0 ∨ nI 6 ≤ p) → P 0) (h1 : ∀ q, q < 6 → p = nI q → P 1) : wpX_isName P p := by
  by_cases g0 : p < 0
  · exact br_t g0 (h0 (Or.inl g0))
  · refine br_f g0 ?_
    by_cases g6 : (6 : Int32) ≤ p
    · exact br_t g6 (h0 (Or.inr g6))
    · refine br_f g6 ?_
      obtain ⟨j, hj, rfl⟩ := nI_of g0
      rw [an_g6 hj] at g6
      exact h1 j (by omega) rfl
theorem ar_isY {ct lv er : Int32} {tx rk rw wd dt wt fi : Nat → Int32} {P : Int32 → Prop} {p : Int32} (h0 : (p < 0 ∨ nI 6 ≤ p) → P 0) (h1 : ∀ q, q < 6 → p = nI q → P 1) : wpY_isName P (ct, lv, er, tx, rk, rw, wd, dt, wt, fi) p := by
  by_cases g0 : p < 0
  · exact br_t g0 (h0 (Or.inl g0))
  · refine br_f g0 ?_
    obtain ⟨j, hj, rfl⟩ := nI_of g0
    rw [an_u5 hj]
    by_cases g6 : 5 < j
    · exact br_t g6 (h0 (Or.inr (nI_le (by omega) hj)))
    · exact br_f g6 (h1 j (by omega) rfl)
theorem ar_no {p : Int32} {q : Nat} (h : p < 0 ∨ nI 6 ≤ p) (hq : q < 6) (e : p = nI q) : False := by
  subst e
  rcases h with h | h
  · exact nI_pos (by omega) h
  · rw [nI_leI (by omega) (by omega)] at h
    omega
/-- a name that stays, where other places change -/
theorem ar_Nk {rk rw cl nb gv rk' rw' wd' dt' ak aw al an gv2 bk bw bl bn : Nat → Int32} {p p' a q : Nat} (F : ap_F p rk rw cl nb ak aw al an) (F' : ap_F p' rk' rw' wd' dt' bk bw bl bn) (h : a ≠ p) (h' : q ≠ p') (hg : gv2 a = gv a) (N : ar_N rk rw cl nb gv rk' rw' wd' dt' a q) : ar_N ak aw al an gv2 bk bw bl bn a q := by
  rcases N with ⟨g, R, r, c, d, V, X, Y⟩ | ⟨g, e⟩
  · exact Or.inl ⟨hg.trans g, R, r, c, d, V, ap_FX F h (ap_v36 V) X, ap_FY F' h' (ap_v36 V) Y⟩
  · exact Or.inr ⟨hg.trans g, (F'.1 q h').1.trans e⟩
theorem i_vc_keep {k : Nat} {u : SX} {v : SY} (I : i_Rel k u v) (hk : k + 5 ≤ 2560) (v1 : Int32) : wpX_keep (fun r u' => wpY_keep (fun r' v' => r' = r ∧ i_Rel (k + 5) u' v') v v1) u v1 := by
  obtain ⟨tc, lv, tx, rk, rw, cl, nb, gv, wt⟩ := u
  obtain ⟨ct, lv', er, tx', rk', rw', wd', dt', wt', fi⟩ := v
  have I0 := I
  have z1 : ¬ (1 : Int32) = 0 := by decide
  unfold wpX_keep wpY_keep
  dsimp only
  refine ar_is (fun no => br_t rfl (ar_isY (fun _ => br_t rfl ⟨rfl, I0⟩) (fun q hq e => (ar_no no hq e).elim))) (fun q hq e => br_f z1 ?_)
  subst e
  obtain ⟨hn, e, hT, ⟨R, r, c, d, V, X, Y⟩, hN⟩ := I
  dsimp only at hn e hT X Y hN
  have v36 := ap_v36 V
  rw [an_b1, show (0 : Int32) = nI 0 from rfl]
  refine ax_cp (by omega) (by omega) (by omega) ?_
  simp (disch := omega) only [an_bt, vp_in_nI, nI_clamp, nI_leI, nI_ltI, nI_eq, nI_add, nI_1, pk_mul, an_m36, an_n36, an_b468, forall_eq, true_and, and_true, true_implies, false_implies, not_true, not_false_iff, implies_true, pk_un, pk_us, ap_wrN, ap_wrS]
  refine ar_isY (fun no => (ar_no no hq rfl).elim) (fun q' hq' e' => br_f z1 ?_)
  refine ay_cp (a := 12) (b := q) (by omega) (by omega) (by omega) ?_
  dsimp only
  refine ar_mx ⟨hn, e, hT, ?_, fun p hp => ?_⟩
  · exact ⟨R, r, c, d, V, ap_FX ap_cpF (by omega) v36 X, ap_FY ap_cpF (by omega) v36 Y⟩
  · by_cases z : p = q
    · subst z
      exact Or.inl ⟨pk_us, R, r, c, d, V, ap_cpX v36 X, ap_cpY v36 Y⟩
    · exact ar_Nk ap_cpF ap_cpF (by omega) z (pk_un (by omega)) (hN p hp)
theorem i_vc_show {k : Nat} {u : SX} {v : SY} (I : i_Rel k u v) (hk : k + 5 ≤ 2560) (v1 : Int32) : wpX_show (fun r u' => wpY_show (fun r' v' => r' = r ∧ i_Rel (k + 5) u' v') v v1) u v1 := by
  obtain ⟨tc, lv, tx, rk, rw, cl, nb, gv, wt⟩ := u
  obtain ⟨ct, lv', er, tx', rk', rw', wd', dt', wt', fi⟩ := v
  have I0 := I
  have z1 : ¬ (1 : Int32) = 0 := by decide
  unfold wpX_show wpY_show
  dsimp only
  refine ar_is (fun no => br_t rfl (ar_isY (fun _ => br_t rfl ⟨rfl, I0⟩) (fun q hq e => (ar_no no hq e).elim))) (fun q hq e => br_f z1 ?_)
  subst e
  obtain ⟨hn, e, hT, hV, hN⟩ := I
  dsimp only at hn e hT hV hN
  have hNq := hN q hq
  rw [an_b1, nI_clamp (by omega)]
  refine ⟨vp_in_nI (by omega) (by omega), ?_⟩
  rcases hNq with ⟨g, R, r, c, d, V, X, Y⟩ | ⟨g, ge⟩
  · have v36 := ap_v36 V
    rw [g]
    refine br_f z1 ?_
    refine ax_cp (b := 0) (by omega) (by omega) (by omega) ?_
    refine ar_isY (fun no => (ar_no no hq rfl).elim) (fun q' hq' e' => br_f z1 ?_)
    rw [nI_clamp (by omega)]
    refine ⟨vp_in_nI (by omega) (by omega), br_t (by rw [Y.1]; exact nI_pos' (by have := ap_vb V; omega)) ?_⟩
    refine ay_cp (b := 12) (by omega) (by omega) (by omega) ?_
    dsimp only
    refine ⟨vp_in_nI (by omega) (by omega), ?_, ar_mx ⟨hn, e, hT, ?_, fun p hp => ?_⟩⟩
    · rw [pk_un (by omega), pk_us]
      exact Y.1.trans X.1.symm
    · exact ⟨R, r, c, d, V, ap_cpX v36 X, ap_cpY v36 Y⟩
    · exact ar_Nk ap_cpF ap_cpF (by omega) (by omega) rfl (hN p hp)
  · rw [g]
    refine br_t rfl ?_
    refine ar_isY (fun no => (ar_no no hq rfl).elim) (fun q' hq' e' => br_f z1 ?_)
    rw [nI_clamp (by omega), ge]
    exact ⟨vp_in_nI (by omega) (by omega), br_f (by decide) ⟨rfl, I0⟩⟩
theorem i_vc_forget {k : Nat} {u : SX} {v : SY} (I : i_Rel k u v) (hk : k + 5 ≤ 2560) (v1 : Int32) : wpX_forget (fun r u' => wpY_forget (fun r' v' => r' = r ∧ i_Rel (k + 5) u' v') v v1) u v1 := by
  obtain ⟨tc, lv, tx, rk, rw, cl, nb, gv, wt⟩ := u
  obtain ⟨ct, lv', er, tx', rk', rw', wd', dt', wt', fi⟩ := v
  have I0 := I
  have z1 : ¬ (1 : Int32) = 0 := by decide
  unfold wpX_forget wpY_forget
  dsimp only
  refine ar_is (fun no => br_t rfl (ar_isY (fun _ => br_t rfl ⟨rfl, I0⟩) (fun q hq e => (ar_no no hq e).elim))) (fun q hq e => br_f z1 ?_)
  subst e
  obtain ⟨hn, e, hT, hV, hN⟩ := I
  dsimp only at hn e hT hV hN
  have fin : ar_R tc tx rk rw cl nb (upd gv (1 + q) 0) ct tx' (upd rk' q (-1)) rw' wd' dt' := by
    refine ⟨hn, e, hT, ?_, fun p hp => ?_⟩
    · obtain ⟨R, r, c, d, V, X, Y⟩ := hV
      exact ⟨R, r, c, d, V, X, ⟨by rw [pk_un (by omega)]; exact Y.1, Y.2⟩⟩
    · by_cases z : p = q
      · subst z
        exact Or.inr ⟨pk_us, pk_us⟩
      · rcases hN p hp with ⟨g, R, r, c, d, V, X, Y⟩ | ⟨g, ge⟩
        · exact Or.inl ⟨by rw [pk_un (by omega)]; exact g, R, r, c, d, V, X, ⟨by rw [pk_un z]; exact Y.1, Y.2⟩⟩
        · exact Or.inr ⟨by rw [pk_un (by omega)]; exact g, by rw [pk_un z]; exact ge⟩
  have iv : vp_in (nI (1 + q)) 46 := vp_in_nI (by omega) (by omega)
  have iy : vp_in (nI q) 50 := vp_in_nI (by omega) (by omega)
  rw [an_b1, nI_clamp (by omega), an_bf]
  refine ⟨iv, nm_e ⟨iv, nm_e ?_⟩⟩
  rcases hN q hq with ⟨g, R, r, c, d, V, X, Y⟩ | ⟨g, ge⟩
  · rw [g]
    refine br_f z1 ?_
    refine ar_isY (fun no => (ar_no no hq rfl).elim) (fun q' hq' e' => br_f z1 ?_)
    rw [nI_clamp (by omega)]
    refine ⟨iy, br_t (by rw [Y.1]; exact nI_pos' (by have := ap_vb V; omega)) ?_⟩
    simp (disch := omega) only [wY_forget_24, vp_in_nI, nI_clamp, nI_leI, nI_ltI, nI_eq, nI_add, nI_1, pk_mul, an_m36, an_n36, an_b468, forall_eq, true_and, and_true, true_implies, false_implies, not_true, not_false_iff, implies_true, pk_un, pk_us, ap_wrN, ap_wrS]
    exact ar_mx (k := k + 5) fin
  · rw [g]
    refine br_t rfl ?_
    refine ar_isY (fun no => (ar_no no hq rfl).elim) (fun q' hq' e' => br_f z1 ?_)
    rw [nI_clamp (by omega), ge]
    refine ⟨iy, br_f (by decide) ?_⟩
    simp (disch := omega) only [wY_forget_24, vp_in_nI, nI_clamp, nI_leI, nI_ltI, nI_eq, nI_add, nI_1, pk_mul, an_m36, an_n36, an_b468, forall_eq, true_and, and_true, true_implies, false_implies, not_true, not_false_iff, implies_true, pk_un, pk_us, ap_wrN, ap_wrS]
    exact ar_mx (k := k + 5) fin
theorem i_vc_put {k : Nat} {u : SX} {v : SY} (I : i_Rel k u v) (hk : k + 5 ≤ 2560) (v1 : Int32) (v2 : Int32) : wpX_put (fun r u' => wpY_put (fun r' v' => r' = r ∧ i_Rel (k + 5) u' v') v v1 v2) u v1 v2 := by
  obtain ⟨tc, lv, tx, rk, rw, cl, nb, gv, wt⟩ := u
  obtain ⟨ct, lv', er, tx', rk', rw', wd', dt', wt', fi⟩ := v
  have I0 := I
  obtain ⟨hn, e, hT, ⟨R, r, c, d, V, X, Y⟩, hN⟩ := I
  dsimp only at hn e hT X Y hN
  have e1 := ar_sz X
  have e2 := ar_szY V Y
  have v36 := ap_v36 V
  by_cases g0 : v1 < 0
  · exact br_t g0 (br_t g0 ⟨rfl, I0⟩)
  refine br_f g0 ?_
  obtain ⟨j, hj, rfl⟩ := nI_of g0
  rw [ax_sz0, e1, nI_ltI hj (by omega)]
  by_cases a : j < r * c
  case neg =>
    refine br_f a (br_f g0 ?_)
    rw [ay_sz12, e2, nI_ltI hj (by omega)]
    exact br_f a ⟨rfl, I0⟩
  refine br_t a ?_
  have p1 := X.2.2.2 j a
  have p2 := Y.2.2.2 j a
  have iv : vp_in (nI (0 + j)) 1656 := vp_in_nI (by omega) (by omega)
  rw [an_b0, nI_clamp (by omega)]
  refine ⟨iv, nm_e ⟨iv, nm_e (br_f g0 ?_)⟩⟩
  rw [ay_sz12, e2, nI_ltI hj (by omega)]
  refine br_t a ?_
  rw [ay_at12 _ (by omega), show (432 : Int32) = nI 432 from rfl, nI_add, nI_clamp (by omega)]
  refine ⟨vp_in_nI (by omega) (by omega), nm_e ⟨?_, ar_mx ⟨hn, e, hT, ?_, fun p hp => ?_⟩⟩⟩
  · rw [Nat.zero_mul] at p1
    exact p2.trans p1.symm
  · refine ⟨R, r, c, fun i => if i = j then v2 else d i, V, ⟨X.1, X.2.1, X.2.2.1, fun i hi => ?_⟩, ⟨Y.1, Y.2.1, Y.2.2.1, fun i hi => ?_⟩⟩
    · have q := X.2.2.2 i hi
      by_cases z : i = j
      · rw [z, Nat.zero_mul, pk_us]; exact (if_pos rfl).symm
      · rw [pk_un (by omega)]; exact q.trans (if_neg z).symm
    · have q := Y.2.2.2 i hi
      by_cases z : i = j
      · rw [z, pk_us]; exact (if_pos rfl).symm
      · rw [pk_un (by omega)]; exact q.trans (if_neg z).symm
  · refine ar_Nk (p := 0) (p' := 12) ⟨fun _ _ => ⟨rfl, rfl, rfl⟩, fun i h => pk_un (by omega)⟩ ⟨fun _ _ => ⟨rfl, rfl, rfl⟩, fun i h => pk_un (by omega)⟩ (by omega) (by omega) rfl (hN p hp)
