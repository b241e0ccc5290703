/-! X: take, drop, join, pick -/
section
variable {tc lv : Int32} {tx rk rw cl nb gv wt : Nat → Int32}
theorem ax_lines {post : SX → Prop} {y R r c m : Nat} {d : Nat → Int32} {x : Int32} {a : Int} (y1 : 14 ≤ y) (y2 : y < 46) (V : ap_VS R r c) (H : ap_X rk rw cl nb y R r c d)
    (hx : x.toInt = a) (a1 : -36 ≤ a) (a2 : a ≤ 36) (hm : m ≤ if R = 2 then 6 else 36)
    (hP : ax_Q post tc lv tx rk rw cl nb gv wt (ap_lines a m R r c d)) : wpX_makeLines post (tc, lv, tx, rk, rw, cl, nb, gv, wt) (nI y) x (nI m) := by
  have ok := ap_v36 (ap_linesV (a := a) (m := m) (e := d) V hm)
  obtain ⟨h1, h2, h3, h4⟩ := H
  have vb := ap_vb V
  have v36 := ap_v36 V
  have q := ax_Qk ok hP
  have wW : ap_w R c ≤ 6 := by unfold ap_w ap_VS at *; split <;> omega
  have m36 : m ≤ 36 := by split at hm <;> omega
  have mw : m * ap_w R c ≤ 36 := by
    unfold ap_lines at ok
    unfold ap_w
    dsimp only at ok
    by_cases e : R = 2
    · simp only [if_pos e] at ok ⊢; exact ok
    · simp only [if_neg e] at ok ⊢; omega
  have L : ∀ rk' rw' cl' : Nat → Int32, post (tc, lv, tx, rk', rw', cl', ap_wr nb (fun i => if 0 ≤ a * ap_w R c + i ∧ a * ap_w R c + i < (r * c : Nat) then d (a * ap_w R c + i).toNat else 0) (m * ap_w R c), gv, wt) →
      ∃ n, wX_makeLines_81 post (nI y) x (nI m) (nI (ap_w R c)) (nI (r * c)) tc lv n 0 tx rk' rw' cl' nb gv wt := by
    intro rk' rw' cl' p
    generalize ap_w R c = w at *
    refine ap_le (fun n i b => wX_makeLines_81 post (nI y) x (nI m) (nI w) (nI (r * c)) tc lv n (nI i) tx rk' rw' cl' b gv wt)
      (fun i => ap_wr nb (fun i => if 0 ≤ a * w + i ∧ a * w + i < (r * c : Nat) then d (a * w + i).toNat else 0) i) (m * w) (ap_wr0 _ _) (fun n => ?_) (fun n i hi ih => ?_)
    · have z : m * w ≤ m * w := Nat.le_refl _
      simp (disch := omega) only [wX_makeLines_81, z, vp_in_nI, nI_clamp, nI_leI, nI_ltI, nI_eq, nI_add, nI_1, pk_mul, an_m36, an_n36, an_b468, forall_eq, true_and, and_true, true_implies, false_implies, not_true, not_false_iff, implies_true, pk_un, pk_us, ap_wrN, ap_wrS]
      exact p
    · have z : ¬ m * w ≤ i := by omega
      have e0 := an_st (i := i) hx a1 a2 wW (by omega)
      by_cases g : 0 ≤ a * (w : Int) + i ∧ a * (w : Int) + i < (r * c : Nat)
      · have e1 := an_nn e0 g.1
        have g1 : ¬ nI (a * (w : Int) + i).toNat < 0 := nI_pos (by omega)
        have g2 : ¬ r * c ≤ (a * (w : Int) + i).toNat := by omega
        have z1 : ¬ (1 : Int32) = 0 := by decide
        have eq : d (a * w + i).toNat = (fun i : Nat => if 0 ≤ a * w + i ∧ a * w + i < (r * c : Nat) then d (a * w + i).toNat else 0) i := by dsimp only; rw [if_pos g]
        simp (disch := omega) only [wX_makeLines_81, wX_makeLines_116, z, e1, g1, g2, z1, h4, ap_wrH nb (fun i : Nat => if 0 ≤ a * w + i ∧ a * w + i < (r * c : Nat) then d (a * w + i).toNat else 0) i eq, vp_in_nI, nI_clamp, nI_leI, nI_ltI, nI_eq, nI_add, nI_1, pk_mul, an_m36, an_n36, an_b468, forall_eq, true_and, and_true, true_implies, false_implies, not_true, not_false_iff, implies_true, pk_un, pk_us, ap_wrN, ap_wrS]
        exact ih
      · have eq : (0 : Int32) = (fun i : Nat => if 0 ≤ a * w + i ∧ a * w + i < (r * c : Nat) then d (a * w + i).toNat else 0) i := by dsimp only; rw [if_neg g]
        by_cases g1 : a * (w : Int) + i < 0
        · have g3 : x * nI w + nI i < 0 := by rw [an_lt0, e0]; exact g1
          simp (disch := omega) only [wX_makeLines_81, wX_makeLines_115, wX_makeLines_116, z, g3, ap_wrH nb (fun i : Nat => if 0 ≤ a * w + i ∧ a * w + i < (r * c : Nat) then d (a * w + i).toNat else 0) i eq, vp_in_nI, nI_clamp, nI_leI, nI_ltI, nI_eq, nI_add, nI_1, pk_mul, an_m36, an_n36, an_b468, forall_eq, true_and, and_true, true_implies, false_implies, not_true, not_false_iff, implies_true, pk_un, pk_us, ap_wrN, ap_wrS]
          exact ih
        · have g3 : ¬ x * nI w + nI i < 0 := by rw [an_lt0, e0]; exact g1
          have g4 : nI (r * c) ≤ x * nI w + nI i := by rw [an_nle (by omega), e0]; omega
          simp (disch := omega) only [wX_makeLines_81, wX_makeLines_115, wX_makeLines_116, z, g3, g4, ap_wrH nb (fun i : Nat => if 0 ≤ a * w + i ∧ a * w + i < (r * c : Nat) then d (a * w + i).toNat else 0) i eq, vp_in_nI, nI_clamp, nI_leI, nI_ltI, nI_eq, nI_add, nI_1, pk_mul, an_m36, an_n36, an_b468, forall_eq, true_and, and_true, true_implies, false_implies, not_true, not_false_iff, implies_true, pk_un, pk_us, ap_wrN, ap_wrS]
          exact ih
  unfold ap_lines at q
  dsimp only at q
  by_cases e : R = 2
  · have w : ap_w R c = c := if_pos e
    rw [w] at L q
    simp only [if_pos e] at q
    have z1 : ¬ (1 : Int32) = 0 := by decide
    have l := L (upd rk 13 2) (upd rw 13 (nI m)) (upd cl 13 (nI c)) q
    simp (disch := omega) only [wpX_makeLines, wX_makeLines_15, wX_makeLines_32, wX_makeLines_54, wX_makeLines_64, wX_makeLines_75, h1, h2, h3, an_e2, e, z1, ax_sz, ax_s13, vp_in_nI, nI_clamp, nI_leI, nI_ltI, nI_eq, nI_add, nI_1, pk_mul, an_m36, an_n36, an_b468, forall_eq, true_and, and_true, true_implies, false_implies, not_true, not_false_iff, implies_true, pk_un, pk_us, ap_wrN, ap_wrS]
    exact l
  · have w : ap_w R c = 1 := if_neg e
    rw [w] at L q
    simp only [if_neg e, Nat.one_mul] at q
    rw [Nat.mul_one] at L
    have l := L (upd rk 13 1) (upd rw 13 1) (upd cl 13 (nI m)) q
    simp (disch := omega) only [wpX_makeLines, wX_makeLines_15, wX_makeLines_32, wX_makeLines_54, wX_makeLines_64, wX_makeLines_75, h1, h2, h3, an_e2, e, ax_sz, ax_s13, vp_in_nI, nI_clamp, nI_leI, nI_ltI, nI_eq, nI_add, nI_1, pk_mul, an_m36, an_n36, an_b468, forall_eq, true_and, and_true, true_implies, false_implies, not_true, not_false_iff, implies_true, pk_un, pk_us, ap_wrN, ap_wrS]
    exact l
theorem ax_PQ {post : Int32 → SX → Prop} {T : ap_T} (h : T.1 = 0) (hP : ax_P post tc lv tx rk rw cl nb gv wt T) : ax_Q (fun u => post 0 u) tc lv tx rk rw cl nb gv wt T := hP.2 h
theorem ax_take {post : Int32 → SX → Prop} {x y R r c S s t : Nat} {d e : Nat → Int32} (x1 : 14 ≤ x) (x2 : x < 46) (y1 : 14 ≤ y) (y2 : y < 46)
    (V : ap_VS R r c) (H : ap_X rk rw cl nb x R r c d) (W : ap_VS S s t) (K : ap_X rk rw cl nb y S s t e)
    (hP : ax_P post tc lv tx rk rw cl nb gv wt (ap_take R d S s t e)) : wpX_takeLines post (tc, lv, tx, rk, rw, cl, nb, gv, wt) (nI x) (nI y) := by
  obtain ⟨h1, h2, h3, h4⟩ := H
  have K0 := K
  obtain ⟨k1, k2, k3, k4⟩ := K
  have vb := ap_vb V
  have wb := ap_vb W
  unfold ap_take at hP
  by_cases e1 : R = 0
  case neg =>
    rw [if_neg e1] at hP
    have q := ax_Pe (by decide) hP
    simp (disch := omega) only [wpX_takeLines, h1, an_e0, e1, vp_in_nI, nI_clamp, nI_leI, nI_ltI, nI_eq, nI_add, nI_1, pk_mul, an_m36, an_n36, an_b468, forall_eq, true_and, and_true, true_implies, false_implies, not_true, not_false_iff, implies_true, pk_un, pk_us, ap_wrN, ap_wrS]
    exact q
  rw [if_pos e1] at hP
  subst e1
  obtain ⟨rfl, rfl⟩ := ap_v0 V
  have d0 := h4 0 (by omega)
  rw [Nat.add_zero] at d0
  have flb : ap_fl S s t ≤ 36 := by unfold ap_fl; split <;> omega
  generalize hv : (d 0).toInt = v at *
  have M : ∀ b : Nat, b ≤ 36 → (b = if S = 2 then 6 else 36) → ax_P post tc lv tx rk rw cl nb gv wt (if v < -(b : Int) ∨ (b : Int) < v then ap_er (-15) else ap_lines (if v < 0 then ap_fl S s t + v else 0) v.natAbs S s t e) →
      wX_takeLines_29 post (nI x) (nI y) (nI b) tc lv tx rk rw cl nb gv wt := by
    intro b b36 hb hp
    have neg : (-nI b).toInt = -(b : Int) := an_nm (by omega)
    simp (disch := omega) only [wX_takeLines_29, d0, vp_in_nI, nI_clamp, nI_leI, nI_ltI, nI_eq, nI_add, nI_1, pk_mul, an_m36, an_n36, an_b468, forall_eq, true_and, and_true, true_implies, false_implies, not_true, not_false_iff, implies_true, pk_un, pk_us, ap_wrN, ap_wrS]
    by_cases g1 : v < -(b : Int)
    · rw [if_pos (Or.inl g1)] at hp
      have q := ax_Pe (by decide) hp
      exact br_t (by rw [Int32.lt_iff_toInt_lt, hv, neg]; exact g1) q
    refine br_f (by rw [Int32.lt_iff_toInt_lt, hv, neg]; exact g1) ?_
    by_cases g2 : (b : Int) < v
    · rw [if_pos (Or.inr g2)] at hp
      have q := ax_Pe (by decide) hp
      exact br_f (by rw [an_len (by omega), hv]; omega) q
    refine br_t (by rw [an_len (by omega), hv]; omega) ?_
    rw [if_neg (by omega)] at hp
    have hq := ax_PQ rfl hp
    have mb : v.natAbs ≤ if S = 2 then 6 else 36 := by rw [← hb]; omega
    by_cases g3 : v < 0
    · rw [if_pos g3] at hq
      refine br_f (by rw [an_0le, hv]; omega) ?_
      have e2 : (-(d 0)).toInt = -v := an_ng hv (by omega)
      have e3 : -(d 0) = nI v.natAbs := by
        have := an_nn e2 (by omega)
        rw [this]
        exact congrArg nI (by omega)
      rw [e3]
      unfold wX_takeLines_70
      refine br_f (by rw [an_0le, hv]; omega) ?_
      rw [ax_fl _ y2 wb.1 k1 k2 k3]
      unfold wX_takeLines_89
      refine ax_lines (a := ap_fl S s t + v) y1 y2 W K0 ?_ (by omega) (by omega) mb hq
      rw [an_sb (nI_toInt (by omega)) (by omega) (by omega) (by omega)]
      omega
    · rw [if_neg g3] at hq
      refine br_t (by rw [an_0le, hv]; omega) ?_
      have e3 : d 0 = nI v.natAbs := by
        rw [an_nn hv (by omega)]
        exact congrArg nI (by omega)
      unfold wX_takeLines_70
      refine br_t (by rw [an_0le, hv]; omega) ?_
      rw [e3]
      unfold wX_takeLines_89
      exact ax_lines (a := 0) y1 y2 W K0 (by decide) (by omega) (by omega) mb hq
  by_cases e2 : S = 2
  · have l := M 6 (by omega) (by rw [if_pos e2]) (by simp only [if_pos e2] at hP; exact hP)
    simp (disch := omega) only [wpX_takeLines, h1, k1, an_e0, an_e2, e2, vp_in_nI, nI_clamp, nI_leI, nI_ltI, nI_eq, nI_add, nI_1, pk_mul, an_m36, an_n36, an_b468, forall_eq, true_and, and_true, true_implies, false_implies, not_true, not_false_iff, implies_true, pk_un, pk_us, ap_wrN, ap_wrS]
    exact l
  · have l := M 36 (by omega) (by rw [if_neg e2]) (by simp only [if_neg e2] at hP; exact hP)
    simp (disch := omega) only [wpX_takeLines, h1, k1, an_e0, an_e2, e2, vp_in_nI, nI_clamp, nI_leI, nI_ltI, nI_eq, nI_add, nI_1, pk_mul, an_m36, an_n36, an_b468, forall_eq, true_and, and_true, true_implies, false_implies, not_true, not_false_iff, implies_true, pk_un, pk_us, ap_wrN, ap_wrS]
    exact l
theorem ax_drop {post : Int32 → SX → Prop} {x y R r c S s t : Nat} {d e : Nat → Int32} (x1 : 14 ≤ x) (x2 : x < 46) (y1 : 14 ≤ y) (y2 : y < 46)
    (V : ap_VS R r c) (H : ap_X rk rw cl nb x R r c d) (W : ap_VS S s t) (K : ap_X rk rw cl nb y S s t e)
    (hP : ax_P post tc lv tx rk rw cl nb gv wt (ap_drop R d S s t e)) : wpX_dropLines post (tc, lv, tx, rk, rw, cl, nb, gv, wt) (nI x) (nI y) := by
  obtain ⟨h1, h2, h3, h4⟩ := H
  have K0 := K
  obtain ⟨k1, k2, k3, k4⟩ := K
  have vb := ap_vb V
  have wb := ap_vb W
  unfold ap_drop at hP
  by_cases e1 : R = 0
  case neg =>
    rw [if_neg e1] at hP
    have q := ax_Pe (by decide) hP
    simp (disch := omega) only [wpX_dropLines, h1, an_e0, e1, vp_in_nI, nI_clamp, nI_leI, nI_ltI, nI_eq, nI_add, nI_1, pk_mul, an_m36, an_n36, an_b468, forall_eq, true_and, and_true, true_implies, false_implies, not_true, not_false_iff, implies_true, pk_un, pk_us, ap_wrN, ap_wrS]
    exact q
  rw [if_pos e1] at hP
  subst e1
  obtain ⟨rfl, rfl⟩ := ap_v0 V
  have d0 := h4 0 (by omega)
  rw [Nat.add_zero] at d0
  have flb : ap_fl S s t ≤ if S = 2 then 6 else 36 := by unfold ap_fl ap_VS at *; split <;> omega
  have flb2 : ap_fl S s t ≤ 36 := by split at flb <;> omega
  generalize hv : (d 0).toInt = v at *
  generalize hF : ap_fl S s t = F at *
  have hq := ax_PQ rfl hP
  have N : ∀ z : Int32, z.toInt = v ∨ (z.toInt = F ∧ (F : Int) < v) ∨ (z.toInt = -(F : Int) ∧ v < -(F : Int)) → -(F : Int) ≤ z.toInt → z.toInt ≤ F → wX_dropLines_53 post (nI y) (nI F) z tc lv tx rk rw cl nb gv wt := by
    intro z hz z1 z2
    unfold wX_dropLines_53
    by_cases g : z.toInt < 0
    · refine br_f (by rw [an_0le]; omega) ?_
      unfold wX_dropLines_71
      refine br_f (by rw [an_0le]; omega) ?_
      have e3 : nI F + z = nI (F - v.natAbs) := by
        rw [an_nn (an_da (i := F) (a := z.toInt) rfl (by omega) (by omega) (by omega)) (by omega)]
        exact congrArg nI (by omega)
      rw [e3]
      unfold wX_dropLines_84
      rw [if_pos (by omega)] at hq
      exact ax_lines (a := 0) y1 y2 W K0 (by decide) (by omega) (by omega) (by omega) hq
    · refine br_t (by rw [an_0le]; omega) ?_
      unfold wX_dropLines_71
      refine br_t (by rw [an_0le]; omega) ?_
      have e3 : nI F - z = nI (F - v.natAbs) := by
        rw [an_nn (an_sb (i := F) (a := z.toInt) rfl (by omega) (by omega) (by omega)) (by omega)]
        exact congrArg nI (by omega)
      rw [e3]
      unfold wX_dropLines_84
      by_cases g2 : v < 0
      · rw [if_pos g2] at hq
        exact ax_lines (a := 0) y1 y2 W K0 (by omega) (by omega) (by omega) (by omega) hq
      · rw [if_neg g2] at hq
        exact ax_lines (a := ((F - (F - v.natAbs) : Nat) : Int)) y1 y2 W K0 (by omega) (by omega) (by omega) (by omega) hq
  have neg : (-nI F).toInt = -(F : Int) := an_nm (by omega)
  have fl := fun (P : Int32 → Prop) => ax_fl (tc := tc) (lv := lv) (tx := tx) (nb := nb) (gv := gv) (wt := wt) P y2 wb.1 k1 k2 k3
  simp (disch := omega) only [wpX_dropLines, fl, hF, h1, an_e0, d0, vp_in_nI, nI_clamp, nI_leI, nI_ltI, nI_eq, nI_add, nI_1, pk_mul, an_m36, an_n36, an_b468, forall_eq, true_and, and_true, true_implies, false_implies, not_true, not_false_iff, implies_true, pk_un, pk_us, ap_wrN, ap_wrS]
  by_cases g1 : v ≤ F
  · refine br_t (by rw [an_len (by omega), hv]; omega) ?_
    by_cases g2 : -(F : Int) ≤ v
    · exact br_t (by rw [Int32.le_iff_toInt_le, neg, hv]; omega) (N (d 0) (Or.inl hv) (by omega) (by omega))
    · exact br_f (by rw [Int32.le_iff_toInt_le, neg, hv]; omega) (N (-nI F) (Or.inr (Or.inr ⟨neg, by omega⟩)) (by omega) (by omega))
  · have fi : (nI F).toInt = F := nI_toInt (by omega)
    exact br_f (by rw [an_len (by omega), hv]; omega) (N (nI F) (Or.inr (Or.inl ⟨fi, by omega⟩)) (by omega) (by omega))
theorem ax_join {post : Int32 → SX → Prop} {x y R r c S s t : Nat} {d e : Nat → Int32} (x1 : 14 ≤ x) (x2 : x < 46) (y1 : 14 ≤ y) (y2 : y < 46)
    (V : ap_VS R r c) (H : ap_X rk rw cl nb x R r c d) (W : ap_VS S s t) (K : ap_X rk rw cl nb y S s t e)
    (hP : ax_P post tc lv tx rk rw cl nb gv wt (ap_join R r c d S s t e)) : wpX_joinBoth post (tc, lv, tx, rk, rw, cl, nb, gv, wt) (nI x) (nI y) := by
  have ok := ap_joinV (d := d) (S := S) (s := s) (t := t) (e := e) V
  obtain ⟨h1, h2, h3, h4⟩ := H
  obtain ⟨k1, k2, k3, k4⟩ := K
  have vb := ap_vb V
  have wb := ap_vb W
  have v36 := ap_v36 V
  have w36 := ap_v36 W
  have z10 : ¬ (1 : Int32) = 0 := by decide
  have z01 : ¬ (0 : Int32) = 1 := by decide
  unfold ap_join at hP ok
  by_cases e1 : (R = 2 ∧ S ≠ 2) ∨ (R ≠ 2 ∧ S = 2)
  · rw [if_pos e1] at hP
    have q := ax_Pe (by decide) hP
    by_cases a1 : R = 2
    · have a2 : ¬ S = 2 := by omega
      simp (disch := omega) only [wpX_joinBoth, wX_joinBoth_15, wX_joinBoth_32, h1, k1, an_e2, a1, a2, z10, vp_in_nI, nI_clamp, nI_leI, nI_ltI, nI_eq, nI_add, nI_1, pk_mul, an_m36, an_n36, an_b468, forall_eq, true_and, and_true, true_implies, false_implies, not_true, not_false_iff, implies_true, pk_un, pk_us, ap_wrN, ap_wrS]
      exact q
    · have a2 : S = 2 := by omega
      simp (disch := omega) only [wpX_joinBoth, wX_joinBoth_15, wX_joinBoth_32, h1, k1, an_e2, a1, a2, z01, vp_in_nI, nI_clamp, nI_leI, nI_ltI, nI_eq, nI_add, nI_1, pk_mul, an_m36, an_n36, an_b468, forall_eq, true_and, and_true, true_implies, false_implies, not_true, not_false_iff, implies_true, pk_un, pk_us, ap_wrN, ap_wrS]
      exact q
  rw [if_neg e1] at hP ok
  have L : ∀ z m C : Nat, z ≤ 1 → r = s → (z = 0 → m = 36 ∧ C = 1) → (z ≠ 0 → m = 6 ∧ C = 2) → ax_P post tc lv tx rk rw cl nb gv wt (if m < c + t then ap_er (-16) else (0, C, r, c + t, fun i => if i % (c + t) < c then d (i / (c + t) * c + i % (c + t)) else e (i / (c + t) * t + (i % (c + t) - c)))) →
      (¬ m < c + t → r * (c + t) ≤ 36) → wX_joinBoth_84 post (nI x) (nI y) (nI z) (nI (c + t)) (nI m) (nI (c + t)) tc lv tx rk rw cl nb gv wt := by
    intro z m C z1 rs hz0 hz1 hp h36
    subst rs
    have m36 : m ≤ 36 := by omega
    by_cases g : m < c + t
    · rw [if_pos g] at hp
      have q := ax_Pe (by decide) hp
      have g2 : ¬ c + t ≤ m := by omega
      simp (disch := omega) only [wX_joinBoth_84, g2, vp_in_nI, nI_clamp, nI_leI, nI_ltI, nI_eq, nI_add, nI_1, pk_mul, an_m36, an_n36, an_b468, forall_eq, true_and, and_true, true_implies, false_implies, not_true, not_false_iff, implies_true, pk_un, pk_us, ap_wrN, ap_wrS]
      exact q
    rw [if_neg g] at hp
    have g2 : c + t ≤ m := by omega
    have ok36 := h36 g
    have q := ax_Pk ok36 hp
    have core : wX_joinBoth_102 post (nI x) (nI y) (nI (c + t)) (nI C) 13 tc lv tx rk rw cl nb gv wt := by
      have j2 : upd rw 13 (nI r) x = nI r := by rw [pk_un (by omega)]; exact h2
      have j3 : upd cl 13 (nI (c + t)) x = nI c := by rw [pk_un (by omega)]; exact h3
      have i3 : upd cl 13 (nI (c + t)) y = nI t := by rw [pk_un (by omega)]; exact k3
      simp (disch := omega) only [wX_joinBoth_102, h2, ax_s13, vp_in_nI, nI_clamp, true_and]
      refine ap_le (fun n i a => wX_joinBoth_116 post (nI x) (nI y) (nI (c + t)) tc lv n (nI i) tx (upd rk 13 (nI C)) (upd rw 13 (nI r)) (upd cl 13 (nI (c + t))) a gv wt)
        (fun i => ap_wr nb (fun i => if i % (c + t) < c then d (i / (c + t) * c + i % (c + t)) else e (i / (c + t) * t + (i % (c + t) - c))) (i * (c + t))) r (by rw [Nat.zero_mul]; exact ap_wr0 _ _) (fun n => ?_) (fun n i hi ih => ?_)
      · have z : r ≤ r := Nat.le_refl r
        simp (disch := omega) only [wX_joinBoth_116, j2, z, vp_in_nI, nI_clamp, nI_leI, nI_ltI, nI_eq, nI_add, nI_1, pk_mul, an_m36, an_n36, an_b468, forall_eq, true_and, and_true, true_implies, false_implies, not_true, not_false_iff, implies_true, pk_un, pk_us, ap_wrN, ap_wrS]
        exact q
      · have z : ¬ r ≤ i := by omega
        have b : i * (c + t) + (c + t) ≤ r * (c + t) := by
          have := Nat.mul_le_mul_right (c + t) (show i + 1 ≤ r from hi)
          rw [Nat.succ_mul] at this
          exact this
        have b1 : i * c + c ≤ r * c := by
          have := Nat.mul_le_mul_right c (show i + 1 ≤ r from hi)
          rw [Nat.succ_mul] at this
          exact this
        have b2 : i * t + t ≤ r * t := by
          have := Nat.mul_le_mul_right t (show i + 1 ≤ r from hi)
          rw [Nat.succ_mul] at this
          exact this
        simp (disch := omega) only [wX_joinBoth_116, j2, z, vp_in_nI, nI_clamp, nI_leI, nI_ltI, nI_eq, nI_add, nI_1, pk_mul, an_m36, an_n36, an_b468, forall_eq, true_and, and_true, true_implies, false_implies, not_true, not_false_iff, implies_true, pk_un, pk_us, ap_wrN, ap_wrS]
        refine ap_le (fun m j a => wX_joinBoth_141 post (wX_joinBoth_116 post (nI x) (nI y) (nI (c + t)) tc lv n) (nI x) (nI y) (nI (c + t)) (nI i) (nI (468 + i * (c + t))) tc lv m (nI j) tx (upd rk 13 (nI C)) (upd rw 13 (nI r)) (upd cl 13 (nI (c + t))) a gv wt)
          (fun j => ap_wr nb (fun i => if i % (c + t) < c then d (i / (c + t) * c + i % (c + t)) else e (i / (c + t) * t + (i % (c + t) - c))) (i * (c + t) + j)) c (by rw [Nat.add_zero]) (fun m => ?_) (fun m j hj jh => ?_)
        · have z : c ≤ c := Nat.le_refl c
          simp (disch := omega) only [wX_joinBoth_141, j3, z, vp_in_nI, nI_clamp, nI_leI, nI_ltI, nI_eq, nI_add, nI_1, pk_mul, an_m36, an_n36, an_b468, forall_eq, true_and, and_true, true_implies, false_implies, not_true, not_false_iff, implies_true, pk_un, pk_us, ap_wrN, ap_wrS]
          refine ap_le (fun m j a => wX_joinBoth_193 post (wX_joinBoth_116 post (nI x) (nI y) (nI (c + t)) tc lv n) (nI x) (nI y) (nI (c + t)) (nI i) (nI (468 + i * (c + t))) tc lv m (nI j) tx (upd rk 13 (nI C)) (upd rw 13 (nI r)) (upd cl 13 (nI (c + t))) a gv wt)
            (fun j => ap_wr nb (fun i => if i % (c + t) < c then d (i / (c + t) * c + i % (c + t)) else e (i / (c + t) * t + (i % (c + t) - c))) (i * (c + t) + c + j)) t (by rw [Nat.add_zero]) (fun m => ?_) (fun m j hj jh => ?_)
          · have z : t ≤ t := Nat.le_refl t
            rw [Nat.succ_mul] at ih
            simp (disch := omega) only [wX_joinBoth_193, i3, z, vp_in_nI, nI_clamp, nI_leI, nI_ltI, nI_eq, nI_add, nI_1, pk_mul, an_m36, an_n36, an_b468, forall_eq, true_and, and_true, true_implies, false_implies, not_true, not_false_iff, implies_true, pk_un, pk_us, ap_wrN, ap_wrS]
            rw [Nat.add_assoc]
            exact ih
          · have z : ¬ t ≤ j := by omega
            have eq : e (i * t + j) = (fun i => if i % (c + t) < c then d (i / (c + t) * c + i % (c + t)) else e (i / (c + t) * t + (i % (c + t) - c))) (i * (c + t) + c + j) := by
              dsimp only
              rw [Nat.add_assoc, ap_md1 (show c + j < c + t by omega), ap_dv1 (show c + j < c + t by omega), if_neg (by omega), show c + j - c = j by omega]
            have ix : 468 + i * (c + t) + c + j = 468 + (i * (c + t) + c + j) := by omega
            have iy : y * 36 + i * t + j = y * 36 + (i * t + j) := by omega
            simp (disch := omega) only [wX_joinBoth_193, i3, j3, z, iy, ix, k4, ap_wrH nb (fun i => if i % (c + t) < c then d (i / (c + t) * c + i % (c + t)) else e (i / (c + t) * t + (i % (c + t) - c))) (i * (c + t) + c + j) eq, vp_in_nI, nI_clamp, nI_leI, nI_ltI, nI_eq, nI_add, nI_1, pk_mul, an_m36, an_n36, an_b468, forall_eq, true_and, and_true, true_implies, false_implies, not_true, not_false_iff, implies_true, pk_un, pk_us, ap_wrN, ap_wrS]
            exact jh
        · have z : ¬ c ≤ j := by omega
          have eq : d (i * c + j) = (fun i => if i % (c + t) < c then d (i / (c + t) * c + i % (c + t)) else e (i / (c + t) * t + (i % (c + t) - c))) (i * (c + t) + j) := by
            dsimp only
            rw [ap_md1 (show j < c + t by omega), ap_dv1 (show j < c + t by omega), if_pos hj]
          have ix : 468 + i * (c + t) + j = 468 + (i * (c + t) + j) := by omega
          have iy : x * 36 + i * c + j = x * 36 + (i * c + j) := by omega
          simp (disch := omega) only [wX_joinBoth_141, j3, z, iy, ix, h4, ap_wrH nb (fun i => if i % (c + t) < c then d (i / (c + t) * c + i % (c + t)) else e (i / (c + t) * t + (i % (c + t) - c))) (i * (c + t) + j) eq, vp_in_nI, nI_clamp, nI_leI, nI_ltI, nI_eq, nI_add, nI_1, pk_mul, an_m36, an_n36, an_b468, forall_eq, true_and, and_true, true_implies, false_implies, not_true, not_false_iff, implies_true, pk_un, pk_us, ap_wrN, ap_wrS]
          exact jh
    by_cases g3 : z = 0
    · have := hz0 g3
      rw [this.2] at core
      simp (disch := omega) only [wX_joinBoth_84, g2, an_e0, g3, vp_in_nI, nI_clamp, nI_leI, nI_ltI, nI_eq, nI_add, nI_1, pk_mul, an_m36, an_n36, an_b468, forall_eq, true_and, and_true, true_implies, false_implies, not_true, not_false_iff, implies_true, pk_un, pk_us, ap_wrN, ap_wrS]
      exact core
    · have := hz1 g3
      rw [this.2] at core
      simp (disch := omega) only [wX_joinBoth_84, g2, an_e0, g3, vp_in_nI, nI_clamp, nI_leI, nI_ltI, nI_eq, nI_add, nI_1, pk_mul, an_m36, an_n36, an_b468, forall_eq, true_and, and_true, true_implies, false_implies, not_true, not_false_iff, implies_true, pk_un, pk_us, ap_wrN, ap_wrS]
      exact core
  have kR : (R = 2 ∧ S = 2) ∨ (R ≠ 2 ∧ S ≠ 2) := by omega
  by_cases e2 : r = s
  case neg =>
    rw [if_pos e2] at hP
    have q := ax_Pe (by decide) hP
    by_cases a1 : R = 2
    · have a2 : S = 2 := by omega
      simp (disch := omega) only [wpX_joinBoth, wX_joinBoth_15, wX_joinBoth_32, h1, h2, k1, k2, an_e2, a1, a2, e2, vp_in_nI, nI_clamp, nI_leI, nI_ltI, nI_eq, nI_add, nI_1, pk_mul, an_m36, an_n36, an_b468, forall_eq, true_and, and_true, true_implies, false_implies, not_true, not_false_iff, implies_true, pk_un, pk_us, ap_wrN, ap_wrS]
      exact q
    · have a2 : ¬ S = 2 := by omega
      simp (disch := omega) only [wpX_joinBoth, wX_joinBoth_15, wX_joinBoth_32, h1, h2, k1, k2, an_e2, a1, a2, e2, vp_in_nI, nI_clamp, nI_leI, nI_ltI, nI_eq, nI_add, nI_1, pk_mul, an_m36, an_n36, an_b468, forall_eq, true_and, and_true, true_implies, false_implies, not_true, not_false_iff, implies_true, pk_un, pk_us, ap_wrN, ap_wrS]
      exact q
  rw [if_neg (fun z => z e2)] at hP ok
  by_cases a1 : R = 2
  · have a2 : S = 2 := by omega
    simp only [if_pos a1] at hP ok
    have l := L 1 6 2 (by omega) e2 (by omega) (by omega) hP (fun g => by rw [if_neg g] at ok; exact ap_v36 ok)
    simp (disch := omega) only [wpX_joinBoth, wX_joinBoth_15, wX_joinBoth_32, h1, h2, h3, k1, k2, k3, an_e2, a1, a2, e2, z10, vp_in_nI, nI_clamp, nI_leI, nI_ltI, nI_eq, nI_add, nI_1, pk_mul, an_m36, an_n36, an_b468, forall_eq, true_and, and_true, true_implies, false_implies, not_true, not_false_iff, implies_true, pk_un, pk_us, ap_wrN, ap_wrS]
    exact l
  · have a2 : ¬ S = 2 := by omega
    simp only [if_neg a1] at hP ok
    have l := L 0 36 1 (by omega) e2 (by omega) (by omega) hP (fun g => by rw [if_neg g] at ok; exact ap_v36 ok)
    simp (disch := omega) only [wpX_joinBoth, wX_joinBoth_15, wX_joinBoth_32, h1, h2, h3, k1, k2, k3, an_e2, a1, a2, e2, vp_in_nI, nI_clamp, nI_leI, nI_ltI, nI_eq, nI_add, nI_1, pk_mul, an_m36, an_n36, an_b468, forall_eq, true_and, and_true, true_implies, false_implies, not_true, not_false_iff, implies_true, pk_un, pk_us, ap_wrN, ap_wrS]
    exact l
theorem ax_pick {post : Int32 → SX → Prop} {x y R r c S s t : Nat} {d e : Nat → Int32} (x1 : 14 ≤ x) (x2 : x < 46) (y1 : 14 ≤ y) (y2 : y < 46)
    (V : ap_VS R r c) (H : ap_X rk rw cl nb x R r c d) (W : ap_VS S s t) (K : ap_X rk rw cl nb y S s t e)
    (hP : ax_P post tc lv tx rk rw cl nb gv wt (ap_pick R c d S s t e)) : wpX_pickLines post (tc, lv, tx, rk, rw, cl, nb, gv, wt) (nI x) (nI y) := by
  have ok := ap_pickV (d := d) (e := e) V W
  obtain ⟨h1, h2, h3, h4⟩ := H
  obtain ⟨k1, k2, k3, k4⟩ := K
  have vb := ap_vb V
  have wb := ap_vb W
  have v36 := ap_v36 V
  have w36 := ap_v36 W
  unfold ap_pick at hP ok
  by_cases e1 : R = 2
  · rw [if_pos (Or.inl e1)] at hP
    have q := ax_Pe (by decide) hP
    simp (disch := omega) only [wpX_pickLines, h1, an_e2, e1, vp_in_nI, nI_clamp, nI_leI, nI_ltI, nI_eq, nI_add, nI_1, pk_mul, an_m36, an_n36, an_b468, forall_eq, true_and, and_true, true_implies, false_implies, not_true, not_false_iff, implies_true, pk_un, pk_us, ap_wrN, ap_wrS]
    exact q
  by_cases e2 : S = 0
  · rw [if_pos (Or.inr e2)] at hP
    have q := ax_Pe (by decide) hP
    simp (disch := omega) only [wpX_pickLines, h1, k1, an_e2, an_e0, e1, e2, vp_in_nI, nI_clamp, nI_leI, nI_ltI, nI_eq, nI_add, nI_1, pk_mul, an_m36, an_n36, an_b468, forall_eq, true_and, and_true, true_implies, false_implies, not_true, not_false_iff, implies_true, pk_un, pk_us, ap_wrN, ap_wrS]
    exact q
  rw [if_neg (by omega)] at hP ok
  have r1 := ap_v1 V e1
  subst r1
  have flb : ap_fl S s t ≤ 36 := by unfold ap_fl; split <;> omega
  have fl := fun (P : Int32 → Prop) => ax_fl (tc := tc) (lv := lv) (tx := tx) (nb := nb) (gv := gv) (wt := wt) P y2 wb.1 k1 k2 k3
  have st : ∀ n i, i < c → ((¬ d i < 0 ∧ d i < nI (ap_fl S s t)) → wX_pickLines_39 post (nI x) (nI y) (nI c) (nI (ap_fl S s t)) tc lv tx rk rw cl nb gv wt n (nI (i + 1))) → (¬ (¬ d i < 0 ∧ d i < nI (ap_fl S s t)) → post (-15) (tc, lv, tx, rk, rw, cl, nb, gv, wt)) →
      wX_pickLines_39 post (nI x) (nI y) (nI c) (nI (ap_fl S s t)) tc lv tx rk rw cl nb gv wt (n + 1) (nI i) := by
    intro n i hi ha hb
    have z : ¬ c ≤ i := by omega
    simp (disch := omega) only [wX_pickLines_39, z, h4, vp_in_nI, nI_clamp, nI_leI, nI_ltI, nI_eq, nI_add, nI_1, pk_mul, an_m36, an_n36, an_b468, forall_eq, true_and, and_true, true_implies, false_implies, not_true, not_false_iff, implies_true, pk_un, pk_us, ap_wrN, ap_wrS]
    by_cases a1 : d i < 0
    · exact br_t a1 (hb (fun z => z.1 a1))
    · refine br_f a1 ?_
      by_cases a2 : d i < nI (ap_fl S s t)
      · exact br_t a2 (ha ⟨a1, a2⟩)
      · exact br_f a2 (hb (fun z => a2 z.2))
  simp (disch := omega) only [wpX_pickLines, fl, h1, h3, k1, an_e2, an_e0, e1, e2, vp_in_nI, nI_clamp, nI_leI, nI_ltI, nI_eq, nI_add, nI_1, pk_mul, an_m36, an_n36, an_b468, forall_eq, true_and, and_true, true_implies, false_implies, not_true, not_false_iff, implies_true, pk_un, pk_us, ap_wrN, ap_wrS]
  by_cases al : ∀ i, i < c → ¬ d i < 0 ∧ d i < nI (ap_fl S s t)
  case neg =>
    rw [if_neg al] at hP
    have q := ax_Pe (by decide) hP
    refine ap_ls (fun n i => wX_pickLines_39 post (nI x) (nI y) (nI c) (nI (ap_fl S s t)) tc lv tx rk rw cl nb gv wt n (nI i)) (fun i => ∃ j, i ≤ j ∧ j < c ∧ ¬ (¬ d j < 0 ∧ d j < nI (ap_fl S s t))) c (fun ⟨j, a, b, _⟩ => by omega) (fun n i hi hq hk => ?_) ?_
    · refine st n i hi (fun ok => hk ?_) (fun _ => q)
      obtain ⟨j, a, b, g⟩ := hq
      refine ⟨j, ?_, b, g⟩
      by_cases ej : j = i
      · subst ej; exact absurd ok g
      · omega
    · apply Classical.byContradiction
      intro no
      exact al (fun i hi => Classical.byContradiction (fun g => no ⟨i, by omega, hi, g⟩))
  rw [if_pos al] at hP ok
  have a0 : ∀ i, i < c → d i = nI (d i).toNatClampNeg ∧ (d i).toNatClampNeg < ap_fl S s t := fun i hi => by
    obtain ⟨j, hj, ej⟩ := nI_of (al i hi).1
    have g := (al i hi).2
    rw [ej, nI_ltI hj (by omega)] at g
    rw [ej, nI_clamp hj]
    exact ⟨rfl, g⟩
  refine ap_ls (fun n i => wX_pickLines_39 post (nI x) (nI y) (nI c) (nI (ap_fl S s t)) tc lv tx rk rw cl nb gv wt n (nI i)) (fun _ => True) c (fun _ n => ?_) (fun n i hi _ hk => st n i hi (fun _ => hk trivial) (fun g => absurd (al i hi) g)) trivial
  have wW : ap_w S t ≤ 6 := by unfold ap_w ap_VS at *; split <;> omega
  have kb : ∀ k j, k < ap_fl S s t → j < ap_w S t → k * ap_w S t + j < s * t := by
    intro k j hk hj
    unfold ap_w at hj ⊢
    unfold ap_fl at hk
    by_cases z : S = 2
    · rw [if_pos z] at hj hk ⊢
      exact ap_ix hk hj
    · rw [if_neg z] at hj hk ⊢
      have := ap_v1 W z
      subst this
      omega
  have L : ∀ rk' rw' cl' : Nat → Int32, c * ap_w S t ≤ 36 → post 0 (tc, lv, tx, rk', rw', cl', ap_wr nb (fun i => e ((d (i / ap_w S t)).toNatClampNeg * ap_w S t + i % ap_w S t)) (c * ap_w S t), gv, wt) →
      ∃ n, wX_pickLines_182 post (nI x) (nI y) (nI c) (nI (ap_w S t)) tc lv n 0 tx rk' rw' cl' nb gv wt := by
    intro rk' rw' cl' hz q
    generalize ap_w S t = w at *
    refine ap_le (fun n i a => wX_pickLines_182 post (nI x) (nI y) (nI c) (nI w) tc lv n (nI i) tx rk' rw' cl' a gv wt)
      (fun i => ap_wr nb (fun i => e ((d (i / w)).toNatClampNeg * w + i % w)) (i * w)) c (by rw [Nat.zero_mul]; exact ap_wr0 _ _) (fun n => ?_) (fun n i hi ih => ?_)
    · exact br_t (nI_le (Nat.le_refl _) (by omega)) q
    · have z : ¬ c ≤ i := by omega
      have b : i * w + w ≤ c * w := by
        have := Nat.mul_le_mul_right w (show i + 1 ≤ c from hi)
        rw [Nat.succ_mul] at this
        exact this
      simp (disch := omega) only [wX_pickLines_182, z, vp_in_nI, nI_clamp, nI_leI, nI_ltI, nI_eq, nI_add, nI_1, pk_mul, an_m36, an_n36, an_b468, forall_eq, true_and, and_true, true_implies, false_implies, not_true, not_false_iff, implies_true, pk_un, pk_us, ap_wrN, ap_wrS]
      refine ap_le (fun m j a => wX_pickLines_191 post (wX_pickLines_182 post (nI x) (nI y) (nI c) (nI w) tc lv n) (nI x) (nI y) (nI c) (nI w) (nI i) tc lv m (nI j) tx rk' rw' cl' a gv wt)
        (fun j => ap_wr nb (fun i => e ((d (i / w)).toNatClampNeg * w + i % w)) (i * w + j)) w (by rw [Nat.add_zero]) (fun m => ?_) (fun m j hj jh => ?_)
      · have z : w ≤ w := Nat.le_refl _
        rw [Nat.succ_mul] at ih
        simp (disch := omega) only [wX_pickLines_191, z, vp_in_nI, nI_clamp, nI_leI, nI_ltI, nI_eq, nI_add, nI_1, pk_mul, an_m36, an_n36, an_b468, forall_eq, true_and, and_true, true_implies, false_implies, not_true, not_false_iff, implies_true, pk_un, pk_us, ap_wrN, ap_wrS]
        exact ih
      · have z : ¬ w ≤ j := by omega
        obtain ⟨g1, g2⟩ := a0 i hi
        have g3 := kb _ j g2 hj
        have hn : nb (x * 36 + i) = nI (d i).toNatClampNeg := by rw [h4 i (by omega)]; exact g1
        have eq : e ((d i).toNatClampNeg * w + j) = (fun i => e ((d (i / w)).toNatClampNeg * w + i % w)) (i * w + j) := by
          dsimp only
          rw [ap_md1 hj, ap_dv1 hj]
        simp (disch := omega) only [wX_pickLines_191, z, hn, k4, Nat.add_assoc, ap_wrH nb (fun i => e ((d (i / w)).toNatClampNeg * w + i % w)) (i * w + j) eq, vp_in_nI, nI_clamp, nI_leI, nI_ltI, nI_eq, nI_add, nI_1, pk_mul, an_m36, an_n36, an_b468, forall_eq, true_and, and_true, true_implies, false_implies, not_true, not_false_iff, implies_true, pk_un, pk_us, ap_wrN, ap_wrS]
        exact jh
  have z : c ≤ c := Nat.le_refl c
  have g126 : ¬ (S = 2 ∧ 6 < c) → wX_pickLines_126 post (nI x) (nI y) (nI c) (nI (ap_w S t)) tc lv tx rk rw cl nb gv wt := by
    intro g
    rw [if_neg g] at hP ok
    have ok36 := ap_v36 ok
    dsimp only at ok36
    have q := ax_Pk ok36 hP
    by_cases g2 : R + S - 1 = 2
    · simp only [if_pos g2] at q ok36
      have l := L (upd rk 13 (nI (R + S - 1))) (upd rw 13 (nI c)) (upd cl 13 (nI (ap_w S t))) ok36 q
      simp (disch := omega) only [wX_pickLines_126, wX_pickLines_161, wX_pickLines_176, ax_s13, h1, k1, an_e2, g2, an_s1, vp_in_nI, nI_clamp, nI_leI, nI_ltI, nI_eq, nI_add, nI_1, pk_mul, an_m36, an_n36, an_b468, forall_eq, true_and, and_true, true_implies, false_implies, not_true, not_false_iff, implies_true, pk_un, pk_us, ap_wrN, ap_wrS]
      rw [g2] at l
      exact l
    · simp only [if_neg g2, Nat.one_mul] at q ok36
      have l := L (upd rk 13 (nI (R + S - 1))) (upd rw 13 (nI 1)) (upd cl 13 (nI (c * ap_w S t))) ok36 q
      simp (disch := omega) only [wX_pickLines_126, wX_pickLines_161, wX_pickLines_176, ax_s13, h1, k1, an_e2, g2, an_s1, vp_in_nI, nI_clamp, nI_leI, nI_ltI, nI_eq, nI_add, nI_1, pk_mul, an_m36, an_n36, an_b468, forall_eq, true_and, and_true, true_implies, false_implies, not_true, not_false_iff, implies_true, pk_un, pk_us, ap_wrN, ap_wrS]
      exact l
  have z1 : ¬ (1 : Int32) = 0 := by decide
  simp (disch := omega) only [wX_pickLines_39, z, k1, an_e2, vp_in_nI, nI_clamp, nI_leI, nI_ltI, nI_eq, nI_add, nI_1, pk_mul, an_m36, an_n36, an_b468, forall_eq, true_and, and_true, true_implies, false_implies, not_true, not_false_iff, implies_true, pk_un, pk_us, ap_wrN, ap_wrS]
  by_cases g : S = 2
  · have w : ap_w S t = t := if_pos g
    rw [w] at g126
    by_cases g6 : 6 < c
    · rw [if_pos ⟨g, g6⟩] at hP
      have q := ax_Pe (by decide) hP
      have g7 : ¬ c ≤ 6 := by omega
      simp (disch := omega) only [wX_pickLines_95, wX_pickLines_111, an_l6, g, g7, z1, vp_in_nI, nI_clamp, nI_leI, nI_ltI, nI_eq, nI_add, nI_1, pk_mul, an_m36, an_n36, an_b468, forall_eq, true_and, and_true, true_implies, false_implies, not_true, not_false_iff, implies_true, pk_un, pk_us, ap_wrN, ap_wrS]
      exact q
    · have g7 : c ≤ 6 := by omega
      have l := g126 (fun z => g6 z.2)
      simp (disch := omega) only [wX_pickLines_95, wX_pickLines_111, k3, an_l6, g, g7, z1, vp_in_nI, nI_clamp, nI_leI, nI_ltI, nI_eq, nI_add, nI_1, pk_mul, an_m36, an_n36, an_b468, forall_eq, true_and, and_true, true_implies, false_implies, not_true, not_false_iff, implies_true, pk_un, pk_us, ap_wrN, ap_wrS]
      exact l
  · have w : ap_w S t = 1 := if_neg g
    rw [w] at g126
    have l := g126 (fun z => g z.1)
    simp (disch := omega) only [wX_pickLines_95, wX_pickLines_111, an_l6, g, vp_in_nI, nI_clamp, nI_leI, nI_ltI, nI_eq, nI_add, nI_1, pk_mul, an_m36, an_n36, an_b468, forall_eq, true_and, and_true, true_implies, false_implies, not_true, not_false_iff, implies_true, pk_un, pk_us, ap_wrN, ap_wrS]
    exact l
end
