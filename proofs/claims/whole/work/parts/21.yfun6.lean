/-! Y: join, pick -/
section
variable {ct lv er : Int32} {tx rk rw wd dt wt fi : Nat → Int32}
theorem ay_join {post : SY → Prop} {x y R r c S s t : Nat} {d e : Nat → Int32} (x1 : 14 ≤ x) (x2 : x < 50) (y1 : 14 ≤ y) (y2 : y < 50)
    (V : ap_VS R r c) (H : ap_Y rk rw wd dt x R r c d) (W : ap_VS S s t) (K : ap_Y rk rw wd dt y S s t e)
    (hP : ay_P post ct lv tx rk rw wd dt wt fi (ap_join R r c d S s t e)) : wpY_join post (ct, lv, 0, tx, rk, rw, wd, dt, wt, fi) (nI x) (nI y) := by
  have ok := ap_joinV (d := d) (S := S) (s := s) (t := t) (e := e) V
  obtain ⟨h1, h2, h3, h4⟩ := H
  obtain ⟨k1, k2, k3, k4⟩ := K
  have vb := ap_vb V
  have wb := ap_vb W
  have v36 := ap_v36 V
  have w36 := ap_v36 W
  have f1 := ap_flb V
  have f2 := ap_flb W
  have z21 : ¬ (2 : Int32) = 1 := by decide
  have z12 : ¬ (1 : Int32) = 2 := by decide
  unfold ap_join at hP ok
  by_cases e1 : (R = 2 ∧ S ≠ 2) ∨ (R ≠ 2 ∧ S = 2)
  · rw [if_pos e1] at hP
    have q := ay_Pe (by decide) hP
    by_cases a1 : R = 2
    · have a2 : ¬ S = 2 := by omega
      simp (disch := omega) only [wpY_join, wY_join_15, wY_join_31, wY_join_59, h1, k1, an_e2, a1, a2, z21, vp_in_nI, nI_clamp, nI_leI, nI_ltI, nI_eq, nI_add, nI_1, pk_mul, an_m36, an_n36, an_b468, forall_eq, true_and, and_true, true_implies, false_implies, not_true, not_false_iff, implies_true, pk_un, pk_us, ap_wrN, ap_wrS]
      exact q
    · have a2 : S = 2 := by omega
      simp (disch := omega) only [wpY_join, wY_join_15, wY_join_31, wY_join_59, h1, k1, an_e2, a1, a2, z12, vp_in_nI, nI_clamp, nI_leI, nI_ltI, nI_eq, nI_add, nI_1, pk_mul, an_m36, an_n36, an_b468, forall_eq, true_and, and_true, true_implies, false_implies, not_true, not_false_iff, implies_true, pk_un, pk_us, ap_wrN, ap_wrS]
      exact q
  rw [if_neg e1] at hP ok
  have core : ∀ C : Nat, r = s → ap_VS C r (c + t) → (C = 2 ↔ R = 2) → ay_P post ct lv tx rk rw wd dt wt fi (0, C, r, c + t, fun i => if i % (c + t) < c then d (i / (c + t) * c + i % (c + t)) else e (i / (c + t) * t + (i % (c + t) - c))) →
      wY_join_138 post (nI x) (nI y) (nI c) (nI (c + t)) (nI (ap_fl C r (c + t))) (nI C) 13 ct lv 0 tx rk rw wd dt wt fi := by
    intro C rs vs hC hp
    subst rs
    have ok36 := ap_v36 vs
    have flx := ap_flw vs
    have g1 := ap_flb vs
    have g2 := ap_wb vs
    have cb := ap_vb vs
    have q := ay_Pk ok36 hp
    have e1 : (if C = 0 then (1 : Int32) else nI (ap_fl C r (c + t))) = nI (ap_fl C r (c + t)) := by
      by_cases z : C = 0
      · subst z
        have := ap_v0 vs
        rw [if_pos rfl]
        show 1 = nI (c + t)
        rw [this.2]
        rfl
      · rw [if_neg z]
    have e2 : (if C < 2 then (1 : Int32) else nI (c + t)) = nI (ap_w C (c + t)) := by
      unfold ap_w
      by_cases z : C < 2
      · rw [if_pos z, if_neg (by omega)]; rfl
      · rw [if_neg z, if_pos (by omega)]
    unfold wY_join_138
    rw [ay_sh _ (by omega), e1, e2]
    generalize hG : (fun i : Nat => if i % (c + t) < c then d (i / (c + t) * c + i % (c + t)) else e (i / (c + t) * t + (i % (c + t) - c))) = G at *
    refine ap_le (fun n i a => wY_join_146 post (nI x) (nI y) (nI c) (nI (c + t)) n (nI i) ct lv 0 tx (upd rk 13 (nI C)) (upd rw 13 (nI (ap_fl C r (c + t)))) (upd wd 13 (nI (ap_w C (c + t)))) a wt fi)
      (fun i => ap_wr dt G i) (r * (c + t)) (ap_wr0 _ _) (fun n => ?_) (fun n i hi ih => ?_)
    · have z : r * (c + t) ≤ r * (c + t) := Nat.le_refl _
      simp (disch := omega) only [wY_join_146, ay_s13, flx, z, vp_in_nI, nI_clamp, nI_leI, nI_ltI, nI_eq, nI_add, nI_1, pk_mul, an_m36, an_n36, an_b468, forall_eq, true_and, and_true, true_implies, false_implies, not_true, not_false_iff, implies_true, pk_un, pk_us, ap_wrN, ap_wrS]
      exact q
    · have z : ¬ r * (c + t) ≤ i := by omega
      obtain ⟨w0, a1, a2, a3⟩ := ap_dvl hi
      have w1 : ¬ c + t = 0 := by omega
      have b0 := Nat.zero_le (i / (c + t))
      have sub : nI (c + t) - nI c = nI t := by rw [pk_sub (by omega)]; exact congrArg nI (by omega)
      generalize hq : i / (c + t) = q0 at *
      generalize hm : i % (c + t) = m0 at *
      have dv : nI i / nI (c + t) = nI q0 := by rw [pk_div (by omega) w0 (by omega), hq]
      have md : nI i - nI (q0 * (c + t)) = nI m0 := by rw [← hq, an_rm, hm]
      have b1 : q0 * c + c ≤ r * c := by
        have := Nat.mul_le_mul_right c (show q0 + 1 ≤ r from a1)
        rw [Nat.succ_mul] at this
        exact this
      have b2 : q0 * t + t ≤ r * t := by
        have := Nat.mul_le_mul_right t (show q0 + 1 ≤ r from a1)
        rw [Nat.succ_mul] at this
        exact this
      by_cases g : m0 < c
      · have g3 : ¬ c ≤ m0 := by omega
        have eq : d (q0 * c + m0) = G i := by
          rw [← hG]
          show _ = if i % (c + t) < c then d (i / (c + t) * c + i % (c + t)) else e (i / (c + t) * t + (i % (c + t) - c))
          rw [hq, hm, if_pos g]
        simp (disch := omega) only [wY_join_146, wY_join_216, ay_s13, ay_at, ay_mk, flx, z, an_e0, w1, dv, md, g3, h4, vp_in_nI, nI_clamp, nI_leI, nI_ltI, nI_eq, nI_add, nI_1, pk_mul, an_m36, an_n36, an_b468, forall_eq, true_and, and_true, true_implies, false_implies, not_true, not_false_iff, implies_true, pk_un, pk_us, ap_wrN, ap_wrS]
        rw [ap_wrE eq]
        exact ih
      · have g3 : c ≤ m0 := by omega
        have eq : e (q0 * t + (m0 - c)) = G i := by
          rw [← hG]
          show _ = if i % (c + t) < c then d (i / (c + t) * c + i % (c + t)) else e (i / (c + t) * t + (i % (c + t) - c))
          rw [hq, hm, if_neg g]
        have ix : q0 * t + m0 - c = q0 * t + (m0 - c) := by omega
        simp (disch := omega) only [wY_join_146, wY_join_216, ay_s13, ay_at, ay_mk, flx, z, an_e0, w1, dv, md, sub, pk_sub, ix, g3, k4, vp_in_nI, nI_clamp, nI_leI, nI_ltI, nI_eq, nI_add, nI_1, pk_mul, an_m36, an_n36, an_b468, forall_eq, true_and, and_true, true_implies, false_implies, not_true, not_false_iff, implies_true, pk_un, pk_us, ap_wrN, ap_wrS]
        rw [ap_wrE eq]
        exact ih
  by_cases e2 : r = s
  case neg =>
    rw [if_pos e2] at hP
    have q := ay_Pe (by decide) hP
    by_cases a1 : R = 2
    · have a2 : S = 2 := by omega
      subst a1 a2
      have h2' : rw x = nI r := h2
      have k2' : rw y = nI s := k2
      simp (disch := omega) only [wpY_join, wY_join_15, wY_join_31, wY_join_59, h1, h2', k1, k2', an_e2, e2, vp_in_nI, nI_clamp, nI_leI, nI_ltI, nI_eq, nI_add, nI_1, pk_mul, an_m36, an_n36, an_b468, forall_eq, true_and, and_true, true_implies, false_implies, not_true, not_false_iff, implies_true, pk_un, pk_us, ap_wrN, ap_wrS]
      exact q
    · exact absurd ((ap_v1 V a1).trans (ap_v1 W (by omega)).symm) e2
  rw [if_neg (fun z => z e2)] at hP ok
  by_cases a1 : R = 2
  · have a2 : S = 2 := by omega
    subst a1 a2
    have h2' : rw x = nI r := h2
    have k2' : rw y = nI s := k2
    simp only [if_true] at hP ok
    have rs1 := fun (P : Int32 → Prop) => ay_rs (ct := ct) (lv := lv) (er := 0) (tx := tx) (dt := dt) (wt := wt) (fi := fi) P x2 V h1 h2 h3
    have rs2 := fun (P : Int32 → Prop) => ay_rs (ct := ct) (lv := lv) (er := 0) (tx := tx) (dt := dt) (wt := wt) (fi := fi) P y2 W k1 k2 k3
    by_cases g : 6 < c + t
    · rw [if_pos g] at hP
      have q := ay_Pe (by decide) hP
      have g2 : ¬ c + t ≤ 6 := by omega
      simp (disch := omega) only [wpY_join, wY_join_15, wY_join_31, wY_join_77, wY_join_108, rs1, rs2, h1, h2', k1, k2', an_e2, an_l6, e2, g2, vp_in_nI, nI_clamp, nI_leI, nI_ltI, nI_eq, nI_add, nI_1, pk_mul, an_m36, an_n36, an_b468, forall_eq, true_and, and_true, true_implies, false_implies, not_true, not_false_iff, implies_true, pk_un, pk_us, ap_wrN, ap_wrS]
      exact q
    · rw [if_neg g] at hP ok
      have g2 : c + t ≤ 6 := by omega
      have l := core 2 e2 ok (by omega) hP
      simp (disch := omega) only [wpY_join, wY_join_15, wY_join_31, wY_join_77, wY_join_108, rs1, rs2, h1, h2', k1, k2', an_e2, an_l6, e2, g2, vp_in_nI, nI_clamp, nI_leI, nI_ltI, nI_eq, nI_add, nI_1, pk_mul, an_m36, an_n36, an_b468, forall_eq, true_and, and_true, true_implies, false_implies, not_true, not_false_iff, implies_true, pk_un, pk_us, ap_wrN, ap_wrS]
      rw [e2] at l
      exact l
  · have a2 : ¬ S = 2 := by omega
    simp only [if_neg a1] at hP ok
    have rs1 := fun (P : Int32 → Prop) => ay_rs (ct := ct) (lv := lv) (er := 0) (tx := tx) (dt := dt) (wt := wt) (fi := fi) P x2 V h1 h2 h3
    have rs2 := fun (P : Int32 → Prop) => ay_rs (ct := ct) (lv := lv) (er := 0) (tx := tx) (dt := dt) (wt := wt) (fi := fi) P y2 W k1 k2 k3
    by_cases g : 36 < c + t
    · rw [if_pos g] at hP
      have q := ay_Pe (by decide) hP
      have g2 : ¬ c + t ≤ 36 := by omega
      simp (disch := omega) only [wpY_join, wY_join_15, wY_join_31, wY_join_77, wY_join_108, rs1, rs2, h1, k1, an_e2, an_l36, a1, a2, z12, g2, vp_in_nI, nI_clamp, nI_leI, nI_ltI, nI_eq, nI_add, nI_1, pk_mul, an_m36, an_n36, an_b468, forall_eq, true_and, and_true, true_implies, false_implies, not_true, not_false_iff, implies_true, pk_un, pk_us, ap_wrN, ap_wrS]
      exact q
    · rw [if_neg g] at hP ok
      have g2 : c + t ≤ 36 := by omega
      have l := core 1 e2 ok (by omega) hP
      simp (disch := omega) only [wpY_join, wY_join_15, wY_join_31, wY_join_77, wY_join_108, rs1, rs2, h1, k1, an_e2, an_l36, a1, a2, z12, g2, vp_in_nI, nI_clamp, nI_leI, nI_ltI, nI_eq, nI_add, nI_1, pk_mul, an_m36, an_n36, an_b468, forall_eq, true_and, and_true, true_implies, false_implies, not_true, not_false_iff, implies_true, pk_un, pk_us, ap_wrN, ap_wrS]
      exact l
theorem ay_pick {post : SY → Prop} {x y R r c S s t : Nat} {d e : Nat → Int32} (x1 : 14 ≤ x) (x2 : x < 50) (y1 : 14 ≤ y) (y2 : y < 50)
    (V : ap_VS R r c) (H : ap_Y rk rw wd dt x R r c d) (W : ap_VS S s t) (K : ap_Y rk rw wd dt y S s t e)
    (hP : ay_P post ct lv tx rk rw wd dt wt fi (ap_pick R c d S s t e)) : wpY_pick post (ct, lv, 0, tx, rk, rw, wd, dt, wt, fi) (nI x) (nI y) := by
  have ok := ap_pickV (d := d) (e := e) V W
  obtain ⟨h1, h2, h3, h4⟩ := H
  obtain ⟨k1, k2, k3, k4⟩ := K
  have vb := ap_vb V
  have wb := ap_vb W
  have v36 := ap_v36 V
  have w36 := ap_v36 W
  have flb := ap_flb W
  have wW := ap_wb W
  unfold ap_pick at hP ok
  by_cases e1 : R = 2
  · rw [if_pos (Or.inl e1)] at hP
    have q := ay_Pe (by decide) hP
    simp (disch := omega) only [wpY_pick, h1, an_e2, e1, vp_in_nI, nI_clamp, nI_leI, nI_ltI, nI_eq, nI_add, nI_1, pk_mul, an_m36, an_n36, an_b468, forall_eq, true_and, and_true, true_implies, false_implies, not_true, not_false_iff, implies_true, pk_un, pk_us, ap_wrN, ap_wrS]
    exact q
  by_cases e2 : S = 0
  · rw [if_pos (Or.inr e2)] at hP
    have q := ay_Pe (by decide) hP
    simp (disch := omega) only [wpY_pick, h1, k1, an_e2, an_e0, e1, e2, vp_in_nI, nI_clamp, nI_leI, nI_ltI, nI_eq, nI_add, nI_1, pk_mul, an_m36, an_n36, an_b468, forall_eq, true_and, and_true, true_implies, false_implies, not_true, not_false_iff, implies_true, pk_un, pk_us, ap_wrN, ap_wrS]
    exact q
  rw [if_neg (by omega)] at hP ok
  have r1 := ap_v1 V e1
  subst r1
  have fx : ap_fl R 1 c = c := if_neg e1
  rw [fx] at h2
  have st : ∀ n i, i < c → ((¬ d i < 0 ∧ d i < nI (ap_fl S s t)) → wY_pick_28 post (nI x) (nI y) ct lv 0 tx rk rw wd dt wt fi n (nI (i + 1))) → (¬ (¬ d i < 0 ∧ d i < nI (ap_fl S s t)) → post (ct, lv, (-15), tx, rk, rw, wd, dt, wt, fi)) →
      wY_pick_28 post (nI x) (nI y) ct lv 0 tx rk rw wd dt wt fi (n + 1) (nI i) := by
    intro n i hi ha hb
    have z : ¬ c ≤ i := by omega
    simp (disch := omega) only [wY_pick_28, ay_at, h2, k2, z, h4, vp_in_nI, nI_clamp, nI_leI, nI_ltI, nI_eq, nI_add, nI_1, pk_mul, an_m36, an_n36, an_b468, forall_eq, true_and, and_true, true_implies, false_implies, not_true, not_false_iff, implies_true, pk_un, pk_us, ap_wrN, ap_wrS]
    by_cases a1 : d i < 0
    · exact br_t a1 (hb (fun z => z.1 a1))
    · refine br_f a1 ?_
      by_cases a2 : d i < nI (ap_fl S s t)
      · exact br_t a2 (ha ⟨a1, a2⟩)
      · exact br_f a2 (hb (fun z => a2 z.2))
  simp (disch := omega) only [wpY_pick, h1, k1, an_e2, an_e0, e1, e2, vp_in_nI, nI_clamp, nI_leI, nI_ltI, nI_eq, nI_add, nI_1, pk_mul, an_m36, an_n36, an_b468, forall_eq, true_and, and_true, true_implies, false_implies, not_true, not_false_iff, implies_true, pk_un, pk_us, ap_wrN, ap_wrS]
  by_cases al : ∀ i, i < c → ¬ d i < 0 ∧ d i < nI (ap_fl S s t)
  case neg =>
    rw [if_neg al] at hP
    have q := ay_Pe (by decide) hP
    refine ap_ls (fun n i => wY_pick_28 post (nI x) (nI y) ct lv 0 tx rk rw wd dt wt fi n (nI i)) (fun i => ∃ j, i ≤ j ∧ j < c ∧ ¬ (¬ d j < 0 ∧ d j < nI (ap_fl S s t))) c (fun ⟨j, a, b, _⟩ => by omega) (fun n i hi hq hk => ?_) ?_
    · refine st n i hi (fun ok => hk ?_) (fun _ => q)
      obtain ⟨j, a, b, g⟩ := hq
      refine ⟨j, ?_, b, g⟩
      by_cases ej : j = i
      · subst ej; exact absurd ok g
      · omega
    · apply Classical.byContradiction
      intro no
      exact al (fun i hi => Classical.byContradiction (fun g => no ⟨i, by omega, hi, g⟩))
  rw [if_pos al] at hP ok
  have a0 : ∀ i, i < c → d i = nI (d i).toNatClampNeg ∧ (d i).toNatClampNeg < ap_fl S s t := fun i hi => by
    obtain ⟨j, hj, ej⟩ := nI_of (al i hi).1
    have g := (al i hi).2
    rw [ej, nI_ltI hj (by omega)] at g
    rw [ej, nI_clamp hj]
    exact ⟨rfl, g⟩
  refine ap_ls (fun n i => wY_pick_28 post (nI x) (nI y) ct lv 0 tx rk rw wd dt wt fi n (nI i)) (fun _ => True) c (fun _ n => ?_) (fun n i hi _ hk => st n i hi (fun _ => hk trivial) (fun g => absurd (al i hi) g)) trivial
  have kb : ∀ k j, k < ap_fl S s t → j < ap_w S t → k * ap_w S t + j < s * t := by
    intro k j hk hj
    unfold ap_w at hj ⊢
    unfold ap_fl at hk
    by_cases z : S = 2
    · rw [if_pos z] at hj hk ⊢
      exact ap_ix hk hj
    · rw [if_neg z] at hj hk ⊢
      have := ap_v1 W z
      subst this
      omega
  have z : c ≤ c := Nat.le_refl c
  have g113 : ¬ (S = 2 ∧ 6 < c) → wY_pick_113 post (nI x) (nI y) ct lv 0 tx rk rw wd dt wt fi := by
    intro g
    rw [if_neg g] at hP ok
    have L : ∀ B C : Nat, C ≤ 2 → c * ap_w S t ≤ 36 → post (ct, lv, 0, tx, upd rk 13 (nI C), upd rw 13 (if C = 0 then 1 else nI B), upd wd 13 (if C < 2 then 1 else nI (ap_w S t)), ap_wr dt (fun i => e ((d (i / ap_w S t)).toNatClampNeg * ap_w S t + i % ap_w S t)) (c * ap_w S t), wt, fi) →
        wY_pick_162 post (nI x) (nI y) (nI (ap_w S t)) (nI B) (nI C) 13 ct lv 0 tx rk rw wd dt wt fi := by
      intro B C C2 hz p
      unfold wY_pick_162
      rw [ay_sh _ C2]
      have j2 : upd rw 13 (if C = 0 then 1 else nI B) x = nI c := by rw [pk_un (by omega)]; exact h2
      refine ap_le (fun n i a => wY_pick_169 post (nI x) (nI y) (nI (ap_w S t)) n (nI i) ct lv 0 tx (upd rk 13 (nI C)) (upd rw 13 (if C = 0 then 1 else nI B)) (upd wd 13 (if C < 2 then 1 else nI (ap_w S t))) a wt fi)
        (fun i => ap_wr dt (fun i => e ((d (i / ap_w S t)).toNatClampNeg * ap_w S t + i % ap_w S t)) i) (c * ap_w S t) (ap_wr0 _ _) (fun n => ?_) (fun n i hi ih => ?_)
      · have z : c * ap_w S t ≤ c * ap_w S t := Nat.le_refl _
        simp (disch := omega) only [wY_pick_169, j2, z, vp_in_nI, nI_clamp, nI_leI, nI_ltI, nI_eq, nI_add, nI_1, pk_mul, an_m36, an_n36, an_b468, forall_eq, true_and, and_true, true_implies, false_implies, not_true, not_false_iff, implies_true, pk_un, pk_us, ap_wrN, ap_wrS]
        exact p
      · have z : ¬ c * ap_w S t ≤ i := by omega
        obtain ⟨w0, b1, b2, b3⟩ := ap_dvl hi
        have w1 : ¬ ap_w S t = 0 := by omega
        have b0 := Nat.zero_le (i / ap_w S t)
        obtain ⟨g1, g2⟩ := a0 (i / ap_w S t) b1
        have g3 := kb _ (i % ap_w S t) g2 b2
        have hn : dt (x * 36 + i / ap_w S t) = nI (d (i / ap_w S t)).toNatClampNeg := by rw [h4 _ (by omega)]; exact g1
        have hn2 : ap_wr dt (fun i => e ((d (i / ap_w S t)).toNatClampNeg * ap_w S t + i % ap_w S t)) i (x * 36 + i / ap_w S t) = nI (d (i / ap_w S t)).toNatClampNeg := by rw [ap_wrN (by omega) (by omega)]; exact hn
        simp (disch := omega) only [wY_pick_169, j2, z, an_e0, w1, pk_div, an_rm, ay_at, ay_mk, hn2, k4, vp_in_nI, nI_clamp, nI_leI, nI_ltI, nI_eq, nI_add, nI_1, pk_mul, an_m36, an_n36, an_b468, forall_eq, true_and, and_true, true_implies, false_implies, not_true, not_false_iff, implies_true, pk_un, pk_us, ap_wrN, ap_wrS]
        exact ih
    have sub : nI (R + S) - 1 = nI (R + S - 1) := an_s1 (by omega)
    by_cases a1 : R = 1
    · subst a1
      by_cases a2 : S = 2
      · subst a2
        have t6 := (ap_v2 W).2
        have c6 : c ≤ 6 := by omega
        have ct6 : c * t ≤ 36 := Nat.le_trans (Nat.mul_le_mul c6 t6) (by decide)
        have q := ay_Pk (R := 2) (r := c) (c := t) ct6 hP
        have l := L c 2 (by omega) ct6 q
        simp (disch := omega) only [wY_pick_113, h1, h2, k1, k3, an_e1, sub, vp_in_nI, nI_clamp, nI_leI, nI_ltI, nI_eq, nI_add, nI_1, pk_mul, an_m36, an_n36, an_b468, forall_eq, true_and, and_true, true_implies, false_implies, not_true, not_false_iff, implies_true, pk_un, pk_us, ap_wrN, ap_wrS]
        exact l
      · have e4 : S = 1 := by omega
        subst e4
        have q := ay_Pk (R := 1) (r := 1) (c := c * 1) (by omega) hP
        rw [Nat.mul_one, Nat.one_mul] at q
        have l := L c 1 (by omega) (by rw [show c * ap_w 1 t = c from Nat.mul_one c]; omega) (by rw [show c * ap_w 1 t = c from Nat.mul_one c]; exact q)
        simp (disch := omega) only [wY_pick_113, h1, h2, k1, k3, an_e1, sub, vp_in_nI, nI_clamp, nI_leI, nI_ltI, nI_eq, nI_add, nI_1, pk_mul, an_m36, an_n36, an_b468, forall_eq, true_and, and_true, true_implies, false_implies, not_true, not_false_iff, implies_true, pk_un, pk_us, ap_wrN, ap_wrS]
        exact l
    · have e5 : R = 0 := by omega
      subst e5
      have c1 := (ap_v0 V).2
      subst c1
      have z01 : ¬ (0 : Nat) = 1 := by omega
      by_cases a2 : S = 2
      · subst a2
        have t6 := (ap_v2 W).2
        have q := ay_Pk (R := 1) (r := 1) (c := 1 * t) (by omega) hP
        rw [Nat.one_mul, Nat.one_mul] at q
        have l := L (ap_w 2 t) 1 (by omega) (by omega) (by rw [show 1 * ap_w 2 t = t from Nat.one_mul t]; exact q)
        simp (disch := omega) only [wY_pick_113, h1, k1, k3, an_e1, sub, z01, vp_in_nI, nI_clamp, nI_leI, nI_ltI, nI_eq, nI_add, nI_1, pk_mul, an_m36, an_n36, an_b468, forall_eq, true_and, and_true, true_implies, false_implies, not_true, not_false_iff, implies_true, pk_un, pk_us, ap_wrN, ap_wrS]
        exact l
      · have e4 : S = 1 := by omega
        subst e4
        have q := ay_Pk (R := 0) (r := 1) (c := 1) (by omega) hP
        have l := L (ap_w 1 t) 0 (by omega) (by omega) q
        simp (disch := omega) only [wY_pick_113, h1, k1, k3, an_e1, sub, z01, vp_in_nI, nI_clamp, nI_leI, nI_ltI, nI_eq, nI_add, nI_1, pk_mul, an_m36, an_n36, an_b468, forall_eq, true_and, and_true, true_implies, false_implies, not_true, not_false_iff, implies_true, pk_un, pk_us, ap_wrN, ap_wrS]
        exact l
  simp (disch := omega) only [wY_pick_28, h1, h2, k1, z, an_e1, an_e2, an_l6, vp_in_nI, nI_clamp, nI_leI, nI_ltI, nI_eq, nI_add, nI_1, pk_mul, an_m36, an_n36, an_b468, forall_eq, true_and, and_true, true_implies, false_implies, not_true, not_false_iff, implies_true, pk_un, pk_us, ap_wrN, ap_wrS]
  by_cases a1 : R = 1
  · refine br_t a1 ?_
    by_cases a2 : S = 2
    · refine br_t a2 ?_
      by_cases g6 : 6 < c
      · rw [if_pos ⟨a2, g6⟩] at hP
        have q := ay_Pe (by decide) hP
        exact br_f (by omega) q
      · exact br_t (by omega) (g113 (fun z => g6 z.2))
    · exact br_f a2 (g113 (fun z => a2 z.1))
  · have e5 : R = 0 := by omega
    subst e5
    have c1 := (ap_v0 V).2
    exact br_f a1 (g113 (fun z => by omega))
end
