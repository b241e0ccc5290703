/-! Y: take, drop, join, pick -/
section
variable {ct lv er : Int32} {tx rk rw wd dt wt fi : Nat → Int32}
theorem ap_lq {a : Int} {w i q r : Nat} (h0 : 0 < w) (hq : q = i / w) : (0 ≤ a * w + i ∧ a * w + i < ((r * w : Nat) : Int)) ↔ (0 ≤ a + q ∧ a + q < r) := by
  have e := Nat.div_add_mod' i w
  have m := Nat.mod_lt i h0
  rw [← hq] at e
  have e2 : ((i : Nat) : Int) = ((q * w + i % w : Nat) : Int) := by rw [e]
  rw [Int.natCast_add, Int.natCast_mul] at e2
  have e3 : a * w + i = (a + q) * w + (i % w : Nat) := by rw [e2, Int.add_mul]; omega
  rw [e3]
  have w0 : (0 : Int) < w := by omega
  generalize a + (q : Int) = b at *
  constructor
  · intro ⟨h1, h2⟩
    constructor
    · apply Classical.byContradiction
      intro n
      have : b + 1 ≤ 0 := by omega
      have := Int.mul_le_mul_of_nonneg_right this (Int.le_of_lt w0)
      rw [Int.add_mul] at this
      omega
    · apply Classical.byContradiction
      intro n
      have : (r : Int) ≤ b := by omega
      have := Int.mul_le_mul_of_nonneg_right this (Int.le_of_lt w0)
      push_cast at h2
      omega
  · intro ⟨h1, h2⟩
    have g1 := Int.mul_nonneg h1 (Int.le_of_lt w0)
    have g2 : b + 1 ≤ r := by omega
    have g3 := Int.mul_le_mul_of_nonneg_right g2 (Int.le_of_lt w0)
    rw [Int.add_mul] at g3
    push_cast
    constructor
    · omega
    · omega
theorem ap_lv {a : Int} {w i q : Nat} (h0 : 0 < w) (hq : q = i / w) (h1 : 0 ≤ a + q) : (a * w + i).toNat = (a + q).toNat * w + i % w := by
  have e := Nat.div_add_mod' i w
  rw [← hq] at e
  have e2 : ((i : Nat) : Int) = ((q * w + i % w : Nat) : Int) := by rw [e]
  rw [Int.natCast_add, Int.natCast_mul] at e2
  have e3 : a * w + i = (a + q) * w + (i % w : Nat) := by rw [e2, Int.add_mul]; omega
  rw [e3]
  obtain ⟨b, hb⟩ : ∃ b : Nat, a + q = b := ⟨(a + q).toNat, by omega⟩
  rw [hb, Int.toNat_natCast]
  have : ((b : Int) * w + (i % w : Nat)) = ((b * w + i % w : Nat) : Int) := by push_cast; rfl
  rw [this, Int.toNat_natCast]
theorem ay_lines {post : SY → Prop} {y R r c m : Nat} {d : Nat → Int32} {x : Int32} {a : Int} (y1 : 14 ≤ y) (y2 : y < 50) (V : ap_VS R r c) (H : ap_Y rk rw wd dt y R r c d)
    (hx : x.toInt = a) (a1 : -36 ≤ a) (a2 : a ≤ 36) (hm : m ≤ if R = 2 then 6 else 36)
    (hP : ay_P post ct lv tx rk rw wd dt wt fi (ap_lines a m R r c d)) : wpY_part post (ct, lv, 0, tx, rk, rw, wd, dt, wt, fi) (nI y) x (nI m) := by
  have okv := ap_linesV (a := a) (m := m) (e := d) V hm
  have ok := ap_v36 okv
  obtain ⟨h1, h2, h3, h4⟩ := H
  have vb := ap_vb V
  have v36 := ap_v36 V
  have f1 := ap_flb V
  have wW := ap_wb V
  have flw := ap_flw V
  have m36 : m ≤ 36 := by split at hm <;> omega
  have mw : m * ap_w R c ≤ 36 := by
    unfold ap_lines at ok
    unfold ap_w
    dsimp only at ok
    by_cases e : R = 2
    · simp only [if_pos e] at ok ⊢; exact ok
    · simp only [if_neg e] at ok ⊢; omega
  have q := ay_Pk ok hP
  have L : ∀ rk' rw' wd' : Nat → Int32, rw' y = nI (ap_fl R r c) → post (ct, lv, 0, tx, rk', rw', wd', ap_wr dt (fun i => if 0 ≤ a * ap_w R c + i ∧ a * ap_w R c + i < (r * c : Nat) then d (a * ap_w R c + i).toNat else 0) (m * ap_w R c), wt, fi) →
      ∃ n, wY_part_49 post (nI y) x (nI m) (nI (ap_w R c)) n 0 ct lv 0 tx rk' rw' wd' dt wt fi := by
    intro rk' rw' wd' j2 p
    generalize hG : (fun i : Nat => if 0 ≤ a * ap_w R c + i ∧ a * ap_w R c + i < (r * c : Nat) then d (a * ap_w R c + i).toNat else (0 : Int32)) = G at *
    refine ap_le (fun n i b => wY_part_49 post (nI y) x (nI m) (nI (ap_w R c)) n (nI i) ct lv 0 tx rk' rw' wd' b wt fi)
      (fun i => ap_wr dt G i) (m * ap_w R c) (ap_wr0 _ _) (fun n => ?_) (fun n i hi ih => ?_)
    · have z : m * ap_w R c ≤ m * ap_w R c := Nat.le_refl _
      simp (disch := omega) only [wY_part_49, z, vp_in_nI, nI_clamp, nI_leI, nI_ltI, nI_eq, nI_add, nI_1, pk_mul, an_m36, an_n36, an_b468, forall_eq, true_and, and_true, true_implies, false_implies, not_true, not_false_iff, implies_true, pk_un, pk_us, ap_wrN, ap_wrS]
      exact p
    · have z : ¬ m * ap_w R c ≤ i := by omega
      obtain ⟨c0, b1, b2, b3⟩ := ap_dvl hi
      have c1 : ¬ ap_w R c = 0 := by omega
      have b0 := Nat.zero_le (i / ap_w R c)
      have e0 := an_ad (i := i / ap_w R c) hx (by omega) (by omega) (by omega)
      have lq := ap_lq (a := a) (r := ap_fl R r c) c0 rfl (i := i)
      rw [flw] at lq
      by_cases g : 0 ≤ a + (i / ap_w R c : Nat) ∧ a + (i / ap_w R c : Nat) < ap_fl R r c
      · have e1 := an_nn e0 g.1
        have lv' := ap_lv (a := a) c0 rfl (i := i) g.1
        have bd := lq.mpr g
        have g1 : ¬ nI (a + (i / ap_w R c : Nat)).toNat < 0 := nI_pos (by omega)
        have g2 : ¬ ap_fl R r c ≤ (a + (i / ap_w R c : Nat)).toNat := by omega
        have g3 : (a + (i / ap_w R c : Nat)).toNat * ap_w R c + i % ap_w R c < r * c := by omega
        have g4 := Nat.zero_le ((a + (i / ap_w R c : Nat)).toNat * ap_w R c)
        have eq : d ((a + (i / ap_w R c : Nat)).toNat * ap_w R c + i % ap_w R c) = G i := by rw [← hG, ← lv']; exact (if_pos bd).symm
        simp (disch := omega) only [wY_part_49, wY_part_106, z, an_e0, c1, pk_div, an_rm, e1, g1, g2, j2, ay_at, ay_mk, h4, vp_in_nI, nI_clamp, nI_leI, nI_ltI, nI_eq, nI_add, nI_1, pk_mul, an_m36, an_n36, an_b468, forall_eq, true_and, and_true, true_implies, false_implies, not_true, not_false_iff, implies_true, pk_un, pk_us, ap_wrN, ap_wrS]
        rw [ap_wrE eq]
        exact ih
      · have eq : (0 : Int32) = G i := by rw [← hG]; exact (if_neg (fun z => g (lq.mp z))).symm
        by_cases g1 : a + (i / ap_w R c : Nat) < 0
        · have g3 : x + nI (i / ap_w R c) < 0 := by rw [an_lt0, e0]; exact g1
          simp (disch := omega) only [wY_part_49, wY_part_105, wY_part_106, z, an_e0, c1, pk_div, g3, ay_mk, vp_in_nI, nI_clamp, nI_leI, nI_ltI, nI_eq, nI_add, nI_1, pk_mul, an_m36, an_n36, an_b468, forall_eq, true_and, and_true, true_implies, false_implies, not_true, not_false_iff, implies_true, pk_un, pk_us, ap_wrN, ap_wrS]
          rw [ap_wrE eq]
          exact ih
        · have g3 : ¬ x + nI (i / ap_w R c) < 0 := by rw [an_lt0, e0]; exact g1
          have g4 : nI (ap_fl R r c) ≤ x + nI (i / ap_w R c) := by rw [an_nle (by omega), e0]; omega
          simp (disch := omega) only [wY_part_49, wY_part_105, wY_part_106, z, an_e0, c1, pk_div, g3, g4, j2, ay_mk, vp_in_nI, nI_clamp, nI_leI, nI_ltI, nI_eq, nI_add, nI_1, pk_mul, an_m36, an_n36, an_b468, forall_eq, true_and, and_true, true_implies, false_implies, not_true, not_false_iff, implies_true, pk_un, pk_us, ap_wrN, ap_wrS]
          rw [ap_wrE eq]
          exact ih
  by_cases e : R = 2
  · subst e
    have q := ay_Pk (R := 2) (r := m) (c := c) mw hP
    have sh := fun (P : SY → Prop) (a b : Int32) => ay_sh (ct := ct) (lv := lv) (er := 0) (tx := tx) (rk := rk) (rw := rw) (wd := wd) (dt := dt) (wt := wt) (fi := fi) P (R := 2) (by omega) a b
    rw [show nI 2 = 2 from rfl] at sh
    have t1 : nI (ap_fl 2 m c) = (if 2 = 0 then 1 else nI m) := rfl
    have t2 : nI (ap_w 2 c) = (if 2 < 2 then 1 else nI (ap_w 2 c)) := rfl
    have t3 : m * c = m * ap_w 2 c := rfl
    have t4 : nI 2 = 2 := rfl
    rw [t1, t3] at q
    have l := L (upd rk 13 2) (upd rw 13 (if 2 = 0 then 1 else nI m)) (upd wd 13 (nI (ap_w 2 c))) (by rw [pk_un (by omega)]; exact h2) q
    simp (disch := omega) only [wpY_part, wY_part_20, wY_part_40, h1, h3, an_e2, sh, vp_in_nI, nI_clamp, nI_leI, nI_ltI, nI_eq, nI_add, nI_1, pk_mul, an_m36, an_n36, an_b468, forall_eq, true_and, and_true, true_implies, false_implies, not_true, not_false_iff, implies_true, pk_un, pk_us, ap_wrN, ap_wrS]
    exact l
  · have sh := fun (P : SY → Prop) (a b : Int32) => ay_sh (ct := ct) (lv := lv) (er := 0) (tx := tx) (rk := rk) (rw := rw) (wd := wd) (dt := dt) (wt := wt) (fi := fi) P (R := 1) (by omega) a b
    rw [show nI 1 = 1 from rfl] at sh
    have w : ap_w R c = 1 := if_neg e
    unfold ap_lines at hP
    simp only [if_neg e] at hP
    have q := ay_Pk (R := 1) (r := 1) (c := m) (by omega) hP
    rw [w, Nat.one_mul] at q
    rw [w, Nat.mul_one] at L
    have l := L (upd rk 13 (nI 1)) (upd rw 13 (nI (ap_fl 1 1 m))) (upd wd 13 (nI (ap_w 1 m))) (by rw [pk_un (by omega)]; exact h2) q
    simp (disch := omega) only [wpY_part, wY_part_20, wY_part_40, h1, an_e2, e, sh, vp_in_nI, nI_clamp, nI_leI, nI_ltI, nI_eq, nI_add, nI_1, pk_mul, an_m36, an_n36, an_b468, forall_eq, true_and, and_true, true_implies, false_implies, not_true, not_false_iff, implies_true, pk_un, pk_us, ap_wrN, ap_wrS]
    exact l
theorem ay_take {post : SY → Prop} {x y R r c S s t : Nat} {d e : Nat → Int32} (x1 : 14 ≤ x) (x2 : x < 50) (y1 : 14 ≤ y) (y2 : y < 50)
    (V : ap_VS R r c) (H : ap_Y rk rw wd dt x R r c d) (W : ap_VS S s t) (K : ap_Y rk rw wd dt y S s t e)
    (hP : ay_P post ct lv tx rk rw wd dt wt fi (ap_take R d S s t e)) : wpY_take post (ct, lv, 0, tx, rk, rw, wd, dt, wt, fi) (nI x) (nI y) := by
  obtain ⟨h1, h2, h3, h4⟩ := H
  have K0 := K
  obtain ⟨k1, k2, k3, k4⟩ := K
  have vb := ap_vb V
  have wb := ap_vb W
  have flb := ap_flb W
  unfold ap_take at hP
  by_cases e1 : R = 0
  case neg =>
    rw [if_neg e1] at hP
    have q := ay_Pe (by decide) hP
    by_cases e2 : S = 2
    · simp (disch := omega) only [wpY_take, wY_take_17, wY_take_48, ay_a0, h1, k1, an_e0, an_e2, e1, e2, vp_in_nI, nI_clamp, nI_leI, nI_ltI, nI_eq, nI_add, nI_1, pk_mul, an_m36, an_n36, an_b468, forall_eq, true_and, and_true, true_implies, false_implies, not_true, not_false_iff, implies_true, pk_un, pk_us, ap_wrN, ap_wrS]
      exact q
    · simp (disch := omega) only [wpY_take, wY_take_17, wY_take_48, ay_a0, h1, k1, an_e0, an_e2, e1, e2, vp_in_nI, nI_clamp, nI_leI, nI_ltI, nI_eq, nI_add, nI_1, pk_mul, an_m36, an_n36, an_b468, forall_eq, true_and, and_true, true_implies, false_implies, not_true, not_false_iff, implies_true, pk_un, pk_us, ap_wrN, ap_wrS]
      exact q
  rw [if_pos e1] at hP
  subst e1
  obtain ⟨rfl, rfl⟩ := ap_v0 V
  have d0 := h4 0 (by omega)
  rw [Nat.add_zero] at d0
  generalize hv : (d 0).toInt = v at *
  have M : ∀ b : Nat, b ≤ 36 → (b = if S = 2 then 6 else 36) → ay_P post ct lv tx rk rw wd dt wt fi (if v < -(b : Int) ∨ (b : Int) < v then ap_er (-15) else ap_lines (if v < 0 then ap_fl S s t + v else 0) v.natAbs S s t e) →
      wY_take_17 post (nI x) (nI y) (nI b) ct lv 0 tx rk rw wd dt wt fi := by
    intro b b36 hb hp
    have neg : (-nI b).toInt = -(b : Int) := an_nm (by omega)
    simp (disch := omega) only [wY_take_17, ay_a0, d0, h1, an_e0, vp_in_nI, nI_clamp, nI_leI, nI_ltI, nI_eq, nI_add, nI_1, pk_mul, an_m36, an_n36, an_b468, forall_eq, true_and, and_true, true_implies, false_implies, not_true, not_false_iff, implies_true, pk_un, pk_us, ap_wrN, ap_wrS]
    by_cases g1 : v < -(b : Int)
    · rw [if_pos (Or.inl g1)] at hp
      have q := ay_Pe (by decide) hp
      refine br_t (by rw [Int32.lt_iff_toInt_lt, hv, neg]; exact g1) ?_
      simp (disch := omega) only [wY_take_48, h1, an_e0, vp_in_nI, nI_clamp, nI_leI, nI_ltI, nI_eq, nI_add, nI_1, pk_mul, an_m36, an_n36, an_b468, forall_eq, true_and, and_true, true_implies, false_implies, not_true, not_false_iff, implies_true, pk_un, pk_us, ap_wrN, ap_wrS]
      exact q
    refine br_f (by rw [Int32.lt_iff_toInt_lt, hv, neg]; exact g1) ?_
    by_cases g2 : (b : Int) < v
    · rw [if_pos (Or.inr g2)] at hp
      have q := ay_Pe (by decide) hp
      refine br_f (by rw [an_len (by omega), hv]; omega) ?_
      simp (disch := omega) only [wY_take_48, h1, an_e0, vp_in_nI, nI_clamp, nI_leI, nI_ltI, nI_eq, nI_add, nI_1, pk_mul, an_m36, an_n36, an_b468, forall_eq, true_and, and_true, true_implies, false_implies, not_true, not_false_iff, implies_true, pk_un, pk_us, ap_wrN, ap_wrS]
      exact q
    refine br_t (by rw [an_len (by omega), hv]; omega) ?_
    rw [if_neg (by omega)] at hp
    have mb : v.natAbs ≤ if S = 2 then 6 else 36 := by rw [← hb]; omega
    by_cases g3 : v < 0
    · rw [if_pos g3] at hp
      refine br_f (by rw [an_0le, hv]; omega) ?_
      have e2 : (-(d 0)).toInt = -v := an_ng hv (by omega)
      have e3 : -(d 0) = nI v.natAbs := by
        have := an_nn e2 (by omega)
        rw [this]
        exact congrArg nI (by omega)
      simp (disch := omega) only [k2]
      unfold wY_take_91
      refine br_f (by rw [an_0le, hv]; omega) ?_
      rw [e3]
      unfold wY_take_104
      refine ay_lines (a := ap_fl S s t + v) y1 y2 W K0 ?_ (by omega) (by omega) mb hp
      rw [an_da hv (by omega) (by omega) (by omega)]
    · rw [if_neg g3] at hp
      refine br_t (by rw [an_0le, hv]; omega) ?_
      have e3 : d 0 = nI v.natAbs := by
        rw [an_nn hv (by omega)]
        exact congrArg nI (by omega)
      unfold wY_take_91
      refine br_t (by rw [an_0le, hv]; omega) ?_
      rw [e3]
      unfold wY_take_104
      exact ay_lines (a := 0) y1 y2 W K0 (by decide) (by omega) (by omega) mb hp
  by_cases e2 : S = 2
  · have l := M 6 (by omega) (by rw [if_pos e2]) (by simp only [if_pos e2] at hP; exact hP)
    simp (disch := omega) only [wpY_take, k1, an_e2, e2, vp_in_nI, nI_clamp, nI_leI, nI_ltI, nI_eq, nI_add, nI_1, pk_mul, an_m36, an_n36, an_b468, forall_eq, true_and, and_true, true_implies, false_implies, not_true, not_false_iff, implies_true, pk_un, pk_us, ap_wrN, ap_wrS]
    exact l
  · have l := M 36 (by omega) (by rw [if_neg e2]) (by simp only [if_neg e2] at hP; exact hP)
    simp (disch := omega) only [wpY_take, k1, an_e2, e2, vp_in_nI, nI_clamp, nI_leI, nI_ltI, nI_eq, nI_add, nI_1, pk_mul, an_m36, an_n36, an_b468, forall_eq, true_and, and_true, true_implies, false_implies, not_true, not_false_iff, implies_true, pk_un, pk_us, ap_wrN, ap_wrS]
    exact l
theorem ay_drop {post : SY → Prop} {x y R r c S s t : Nat} {d e : Nat → Int32} (x1 : 14 ≤ x) (x2 : x < 50) (y1 : 14 ≤ y) (y2 : y < 50)
    (V : ap_VS R r c) (H : ap_Y rk rw wd dt x R r c d) (W : ap_VS S s t) (K : ap_Y rk rw wd dt y S s t e)
    (hP : ay_P post ct lv tx rk rw wd dt wt fi (ap_drop R d S s t e)) : wpY_drop post (ct, lv, 0, tx, rk, rw, wd, dt, wt, fi) (nI x) (nI y) := by
  obtain ⟨h1, h2, h3, h4⟩ := H
  have K0 := K
  obtain ⟨k1, k2, k3, k4⟩ := K
  have vb := ap_vb V
  have wb := ap_vb W
  have flb2 := ap_flb W
  have flb : ap_fl S s t ≤ if S = 2 then 6 else 36 := by unfold ap_fl ap_VS at *; split <;> omega
  unfold ap_drop at hP
  by_cases e1 : R = 0
  case neg =>
    rw [if_neg e1] at hP
    have q := ay_Pe (by decide) hP
    simp (disch := omega) only [wpY_drop, h1, an_e0, e1, vp_in_nI, nI_clamp, nI_leI, nI_ltI, nI_eq, nI_add, nI_1, pk_mul, an_m36, an_n36, an_b468, forall_eq, true_and, and_true, true_implies, false_implies, not_true, not_false_iff, implies_true, pk_un, pk_us, ap_wrN, ap_wrS]
    exact q
  rw [if_pos e1] at hP
  subst e1
  obtain ⟨rfl, rfl⟩ := ap_v0 V
  have d0 := h4 0 (by omega)
  rw [Nat.add_zero] at d0
  have vl := (d 0).le_toInt
  have vu := (d 0).toInt_lt
  have v64 : (d 0).toInt64.toInt = (d 0).toInt := Jvm.Kit.i64_of_i32 _
  generalize hv : (d 0).toInt = v at *
  generalize hF : ap_fl S s t = F at *
  have le0 : (0 ≤ (d 0).toInt64) = (0 ≤ v) := by rw [Int64.le_iff_toInt_le, v64]; rfl
  have lF : (nI F).toInt64.toInt = F := by rw [Jvm.Kit.i64_of_i32, nI_toInt (by omega)]
  have N : ∀ z : Int64, z.toInt = (v.natAbs : Int) → wY_drop_36 post (nI y) (d 0).toInt64 z ct lv 0 tx rk rw wd dt wt fi := by
    intro z hz
    have fin : wY_drop_65 post (nI y) (d 0).toInt64 (nI (F - v.natAbs)) ct lv 0 tx rk rw wd dt wt fi := by
      unfold wY_drop_65
      by_cases g : 0 ≤ v
      · refine br_t (by rw [le0]; exact g) ?_
        rw [if_neg (by omega)] at hP
        have e3 : nI F - nI (F - v.natAbs) = nI (F - (F - v.natAbs)) := pk_sub (by omega)
        simp (disch := omega) only [k2, hF, e3, vp_in_nI, nI_clamp, true_and]
        unfold wY_drop_88
        exact ay_lines (a := ((F - (F - v.natAbs) : Nat) : Int)) y1 y2 W K0 (nI_toInt (by omega)) (by omega) (by omega) (by omega) hP
      · refine br_f (by rw [le0]; exact g) ?_
        rw [if_pos (by omega)] at hP
        unfold wY_drop_88
        exact ay_lines (a := 0) y1 y2 W K0 (by decide) (by omega) (by omega) (by omega) hP
    simp (disch := omega) only [wY_drop_36, k2, hF, vp_in_nI, nI_clamp, true_and]
    by_cases g : v.natAbs ≤ F
    · refine br_t (by rw [Int64.le_iff_toInt_le, hz, lF]; omega) ?_
      have e4 : z.toInt32 = nI v.natAbs := by
        apply Int32.toInt_inj.mp
        rw [Jvm.Kit.i32_of_i64 (by omega) (by omega), hz, nI_toInt (by omega)]
      rw [e4, pk_sub g]
      exact fin
    · refine br_f (by rw [Int64.le_iff_toInt_le, hz, lF]; omega) ?_
      rw [show F - v.natAbs = 0 by omega] at fin
      exact fin
  simp (disch := omega) only [wpY_drop, h1, an_e0, ay_a0, d0, vp_in_nI, nI_clamp, nI_leI, nI_ltI, nI_eq, nI_add, nI_1, pk_mul, an_m36, an_n36, an_b468, forall_eq, true_and, and_true, true_implies, false_implies, not_true, not_false_iff, implies_true, pk_un, pk_us, ap_wrN, ap_wrS]
  by_cases g : 0 ≤ v
  · exact br_t (by rw [le0]; exact g) (N _ (by rw [v64]; omega))
  · refine br_f (by rw [le0]; exact g) (N _ ?_)
    rw [Jvm.Kit.i64_neg (by rw [v64]; omega), v64]
    omega
end
