/-! X: scalar functions between two arrays, folds, outer -/
theorem ap_wrH (a g : Nat → Int32) (e : Nat) {v : Int32} (h : v = g e) : upd (ap_wr a g e) (468 + e) v = ap_wr a g (e + 1) := by
  rw [h]; exact ap_wrS a g e
theorem ap_wrE {a g : Nat → Int32} {e : Nat} {v : Int32} (h : v = g e) : upd (ap_wr a g e) (468 + e) v = ap_wr a g (e + 1) := by
  rw [h]; exact ap_wrS a g e
section
variable {tc lv : Int32} {tx rk rw cl nb gv wt : Nat → Int32}
theorem ax_s2L {post : Int32 → SX → Prop} {f x y u v e : Nat} {D E : Nat → Int32} (hf : ag_sc f) (x1 : 14 ≤ x) (x2 : x < 46) (y1 : 14 ≤ y) (y2 : y < 46) (he : e ≤ 36)
    (bx : ∀ i, i < e → i * u < 36) (bY : ∀ i, i < e → i * v < 36) (hx : ∀ i, i < e → nb (x * 36 + i * u) = D i) (hy : ∀ i, i < e → nb (y * 36 + i * v) = E i)
    (hp : post 0 (tc, lv, tx, rk, rw, cl, ap_wr nb (fun i => ap_sf f (D i) (E i)) e, gv, wt)) : ∃ n, wX_scalarBetween_184 post (nI f) (nI x) (nI y) (nI u) (nI v) (nI e) tc lv n 0 tx rk rw cl nb gv wt := by
  refine ap_le (fun n i a => wX_scalarBetween_184 post (nI f) (nI x) (nI y) (nI u) (nI v) (nI e) tc lv n (nI i) tx rk rw cl a gv wt)
    (fun i => ap_wr nb (fun i => ap_sf f (D i) (E i)) i) e (ap_wr0 _ _) (fun n => ?_) (fun n i hi ih => ?_)
  · exact br_t (nI_le (Nat.le_refl _) (by omega)) hp
  · have z : ¬ e ≤ i := by omega
    have b1 := bx i hi
    have b2 := bY i hi
    simp (disch := omega) only [wX_scalarBetween_184, z, ax_sf _ hf, hx, hy, vp_in_nI, nI_clamp, nI_leI, nI_ltI, nI_eq, nI_add, nI_1, pk_mul, an_m36, an_n36, an_b468, forall_eq, true_and, and_true, true_implies, false_implies, not_true, not_false_iff, implies_true, pk_un, pk_us, ap_wrN, ap_wrS]
    exact ih
theorem ax_s2 {post : Int32 → SX → Prop} {f x y R r c S s t : Nat} {d e : Nat → Int32} (hf : ag_sc f) (x1 : 14 ≤ x) (x2 : x < 46) (y1 : 14 ≤ y) (y2 : y < 46)
    (V : ap_VS R r c) (H : ap_X rk rw cl nb x R r c d) (W : ap_VS S s t) (K : ap_X rk rw cl nb y S s t e)
    (hP : ax_P post tc lv tx rk rw cl nb gv wt (ap_s2 R r c d S s t e f)) : wpX_scalarBetween post (tc, lv, tx, rk, rw, cl, nb, gv, wt) (nI f) (nI x) (nI y) := by
  obtain ⟨h1, h2, h3, h4⟩ := H
  obtain ⟨k1, k2, k3, k4⟩ := K
  have vb := ap_vb V
  have wb := ap_vb W
  have v36 := ap_v36 V
  have w36 := ap_v36 W
  have core : ax_P post tc lv tx rk rw cl nb gv wt (0, if R = 0 then S else R, if R = 0 then s else r, if R = 0 then t else c, fun i => ap_sf f (d (if R = 0 then 0 else i)) (e (if S = 0 then 0 else i))) →
      (R ≠ 0 → S ≠ 0 → r * c = s * t) → wX_scalarBetween_98 post (nI f) (nI x) (nI y) tc lv tx rk rw cl nb gv wt := by
    intro hp hz
    by_cases e1 : R = 0
    · subst e1
      obtain ⟨rfl, rfl⟩ := ap_v0 V
      simp only [if_true] at hp
      have q := ax_Pk w36 hp
      by_cases e2 : S = 0
      · subst e2
        obtain ⟨rfl, rfl⟩ := ap_v0 W
        simp (disch := omega) only [wX_scalarBetween_98, wX_scalarBetween_112, wX_scalarBetween_128, wX_scalarBetween_144, ax_sz, ax_s13, h1, h2, h3, k1, k2, k3, an_e0, vp_in_nI, nI_clamp, nI_leI, nI_ltI, nI_eq, nI_add, nI_1, pk_mul, an_m36, an_n36, an_b468, forall_eq, true_and, and_true, true_implies, false_implies, not_true, not_false_iff, implies_true, pk_un, pk_us, ap_wrN, ap_wrS]
        exact ax_s2L (u := 0) (v := 0) hf x1 x2 y1 y2 w36 (fun i _ => by omega) (fun i _ => by omega) (fun i _ => h4 0 (by omega)) (fun i _ => k4 0 (by omega)) q
      · simp only [if_neg e2] at q
        simp (disch := omega) only [wX_scalarBetween_98, wX_scalarBetween_112, wX_scalarBetween_128, wX_scalarBetween_144, ax_sz, ax_s13, h1, h2, h3, k1, k2, k3, an_e0, e2, vp_in_nI, nI_clamp, nI_leI, nI_ltI, nI_eq, nI_add, nI_1, pk_mul, an_m36, an_n36, an_b468, forall_eq, true_and, and_true, true_implies, false_implies, not_true, not_false_iff, implies_true, pk_un, pk_us, ap_wrN, ap_wrS]
        exact ax_s2L (u := 0) (v := 1) hf x1 x2 y1 y2 w36 (fun i _ => by omega) (fun i _ => by omega) (fun i _ => h4 0 (by omega)) (fun i hi => by rw [Nat.mul_one]; exact k4 i hi) q
    · simp only [if_neg e1] at hp
      have q := ax_Pk v36 hp
      by_cases e2 : S = 0
      · subst e2
        obtain ⟨rfl, rfl⟩ := ap_v0 W
        simp (disch := omega) only [wX_scalarBetween_98, wX_scalarBetween_112, wX_scalarBetween_128, wX_scalarBetween_144, ax_sz, ax_s13, h1, h2, h3, k1, k2, k3, an_e0, e1, vp_in_nI, nI_clamp, nI_leI, nI_ltI, nI_eq, nI_add, nI_1, pk_mul, an_m36, an_n36, an_b468, forall_eq, true_and, and_true, true_implies, false_implies, not_true, not_false_iff, implies_true, pk_un, pk_us, ap_wrN, ap_wrS]
        exact ax_s2L (u := 1) (v := 0) hf x1 x2 y1 y2 v36 (fun i _ => by omega) (fun i _ => by omega) (fun i hi => by rw [Nat.mul_one]; exact h4 i hi) (fun i _ => k4 0 (by omega)) q
      · simp only [if_neg e2] at q
        have hz2 := hz e1 e2
        simp (disch := omega) only [wX_scalarBetween_98, wX_scalarBetween_112, wX_scalarBetween_128, wX_scalarBetween_144, ax_sz, ax_s13, h1, h2, h3, k1, k2, k3, an_e0, e1, e2, vp_in_nI, nI_clamp, nI_leI, nI_ltI, nI_eq, nI_add, nI_1, pk_mul, an_m36, an_n36, an_b468, forall_eq, true_and, and_true, true_implies, false_implies, not_true, not_false_iff, implies_true, pk_un, pk_us, ap_wrN, ap_wrS]
        exact ax_s2L (u := 1) (v := 1) hf x1 x2 y1 y2 v36 (fun i _ => by omega) (fun i _ => by omega) (fun i hi => by rw [Nat.mul_one]; exact h4 i hi) (fun i hi => by rw [Nat.mul_one]; exact k4 i (by omega)) q
  unfold ap_s2 at hP
  by_cases sm : R = S ∧ r = s ∧ c = t
  · rw [if_neg (fun z => z.1 sm)] at hP
    have g := core hP (fun _ _ => by rw [sm.2.1, sm.2.2])
    obtain ⟨rfl, rfl, rfl⟩ := sm
    have z1 : ¬ (1 : Int32) = 0 := by decide
    simp (disch := omega) only [wpX_scalarBetween, wX_scalarBetween_50, h1, h2, h3, k1, k2, k3, z1, vp_in_nI, nI_clamp, nI_leI, nI_ltI, nI_eq, nI_add, nI_1, pk_mul, an_m36, an_n36, an_b468, forall_eq, true_and, and_true, true_implies, false_implies, not_true, not_false_iff, implies_true, pk_un, pk_us, ap_wrN, ap_wrS]
    exact g
  · have g50 : wX_scalarBetween_50 post (nI f) (nI x) (nI y) 0 tc lv tx rk rw cl nb gv wt := by
      by_cases e1 : R = 0
      · rw [if_neg (fun z => z.2.1 e1)] at hP
        have g := core hP (fun z => absurd e1 z)
        simp (disch := omega) only [wX_scalarBetween_50, h1, k1, an_e0, e1, vp_in_nI, nI_clamp, nI_leI, nI_ltI, nI_eq, nI_add, nI_1, pk_mul, an_m36, an_n36, an_b468, forall_eq, true_and, and_true, true_implies, false_implies, not_true, not_false_iff, implies_true, pk_un, pk_us, ap_wrN, ap_wrS]
        exact g
      · by_cases e2 : S = 0
        · rw [if_neg (fun z => z.2.2 e2)] at hP
          have g := core hP (fun _ z => absurd e2 z)
          simp (disch := omega) only [wX_scalarBetween_50, h1, k1, an_e0, e1, e2, vp_in_nI, nI_clamp, nI_leI, nI_ltI, nI_eq, nI_add, nI_1, pk_mul, an_m36, an_n36, an_b468, forall_eq, true_and, and_true, true_implies, false_implies, not_true, not_false_iff, implies_true, pk_un, pk_us, ap_wrN, ap_wrS]
          exact g
        · rw [if_pos ⟨sm, e1, e2⟩] at hP
          by_cases e3 : R = S
          · rw [if_pos e3] at hP
            have q := ax_Pe (by decide) hP
            simp (disch := omega) only [wX_scalarBetween_50, h1, k1, an_e0, e1, e2, e3, vp_in_nI, nI_clamp, nI_leI, nI_ltI, nI_eq, nI_add, nI_1, pk_mul, an_m36, an_n36, an_b468, forall_eq, true_and, and_true, true_implies, false_implies, not_true, not_false_iff, implies_true, pk_un, pk_us, ap_wrN, ap_wrS]
            exact q
          · rw [if_neg e3] at hP
            have q := ax_Pe (by decide) hP
            simp (disch := omega) only [wX_scalarBetween_50, h1, k1, an_e0, e1, e2, e3, vp_in_nI, nI_clamp, nI_leI, nI_ltI, nI_eq, nI_add, nI_1, pk_mul, an_m36, an_n36, an_b468, forall_eq, true_and, and_true, true_implies, false_implies, not_true, not_false_iff, implies_true, pk_un, pk_us, ap_wrN, ap_wrS]
            exact q
    by_cases a1 : R = S
    · by_cases a2 : r = s
      · have a3 : ¬ c = t := fun z => sm ⟨a1, a2, z⟩
        simp (disch := omega) only [wpX_scalarBetween, wX_scalarBetween_49, h1, h2, h3, k1, k2, k3, a1, a2, a3, vp_in_nI, nI_clamp, nI_leI, nI_ltI, nI_eq, nI_add, nI_1, pk_mul, an_m36, an_n36, an_b468, forall_eq, true_and, and_true, true_implies, false_implies, not_true, not_false_iff, implies_true, pk_un, pk_us, ap_wrN, ap_wrS]
        exact g50
      · simp (disch := omega) only [wpX_scalarBetween, wX_scalarBetween_49, h1, h2, h3, k1, k2, k3, a1, a2, vp_in_nI, nI_clamp, nI_leI, nI_ltI, nI_eq, nI_add, nI_1, pk_mul, an_m36, an_n36, an_b468, forall_eq, true_and, and_true, true_implies, false_implies, not_true, not_false_iff, implies_true, pk_un, pk_us, ap_wrN, ap_wrS]
        exact g50
    · simp (disch := omega) only [wpX_scalarBetween, wX_scalarBetween_49, h1, h2, h3, k1, k2, k3, a1, vp_in_nI, nI_clamp, nI_leI, nI_ltI, nI_eq, nI_add, nI_1, pk_mul, an_m36, an_n36, an_b468, forall_eq, true_and, and_true, true_implies, false_implies, not_true, not_false_iff, implies_true, pk_un, pk_us, ap_wrN, ap_wrS]
      exact g50
theorem ax_fold {post : SX → Prop} {f y R r c : Nat} {d : Nat → Int32} (hf : ag_sc f) (y1 : 14 ≤ y) (y2 : y < 46) (V : ap_VS R r c) (H : ap_X rk rw cl nb y R r c d)
    (hP : ax_Q post tc lv tx rk rw cl nb gv wt (ap_fold f R r c d)) : wpX_foldRows post (tc, lv, tx, rk, rw, cl, nb, gv, wt) (nI f) (nI y) := by
  obtain ⟨h1, h2, h3, h4⟩ := H
  have s := ap_v36 V
  have vb := ap_vb V
  have L : ∀ A : Nat, post (tc, lv, tx, upd rk 13 (nI A), upd rw 13 (nI 1), upd cl 13 (nI r), ap_wr nb (fun i => ap_fv f (fun k => d (i * c + k)) c) (1 * r), gv, wt) →
      wX_foldRows_25 post (nI f) (nI y) (nI c) (nI A) 13 tc lv tx rk rw cl nb gv wt := by
    intro A q
    rw [Nat.one_mul] at q
    simp (disch := omega) only [wX_foldRows_25, ax_s13, h2, vp_in_nI, nI_clamp, nI_leI, nI_ltI, nI_eq, nI_add, nI_1, pk_mul, an_m36, an_n36, an_b468, forall_eq, true_and, and_true, true_implies, false_implies, not_true, not_false_iff, implies_true, pk_un, pk_us, ap_wrN, ap_wrS]
    refine ap_le (fun n i a => wX_foldRows_38 post (nI f) (nI y) (nI c) tc lv n (nI i) tx (upd rk 13 (nI A)) (upd rw 13 1) (upd cl 13 (nI r)) a gv wt)
      (fun i => ap_wr nb (fun i => ap_fv f (fun k => d (i * c + k)) c) i) r (ap_wr0 _ _) (fun n => ?_) (fun n i hi ih => ?_)
    · have z : r ≤ r := Nat.le_refl r
      simp (disch := omega) only [wX_foldRows_38, h2, z, vp_in_nI, nI_clamp, nI_leI, nI_ltI, nI_eq, nI_add, nI_1, pk_mul, an_m36, an_n36, an_b468, forall_eq, true_and, and_true, true_implies, false_implies, not_true, not_false_iff, implies_true, pk_un, pk_us, ap_wrN, ap_wrS]
      exact q
    · have z : ¬ r ≤ i := by omega
      have b : i * c + c ≤ r * c := by
        have := Nat.mul_le_mul_right c (show i + 1 ≤ r from hi)
        rw [Nat.succ_mul] at this
        exact this
      simp (disch := omega) only [wX_foldRows_38, h2, z, vp_in_nI, nI_clamp, nI_leI, nI_ltI, nI_eq, nI_add, nI_1, pk_mul, an_m36, an_n36, an_b468, forall_eq, true_and, and_true, true_implies, false_implies, not_true, not_false_iff, implies_true, pk_un, pk_us, ap_wrN, ap_wrS]
      refine ax_fd _ hf (by omega) ?_
      have e : ap_fv f (fun k => ap_wr nb (fun i => ap_fv f (fun k => d (i * c + k)) c) i (y * 36 + i * c + k)) c = ap_fv f (fun k => d (i * c + k)) c := by
        refine ap_fvc (fun k hk => ?_)
        rw [ap_wrN (by omega) (by omega), Nat.add_assoc]
        exact h4 _ (by omega)
      rw [e]
      simp (disch := omega) only [vp_in_nI, nI_clamp, nI_leI, nI_ltI, nI_eq, nI_add, nI_1, pk_mul, an_m36, an_n36, an_b468, forall_eq, true_and, and_true, true_implies, false_implies, not_true, not_false_iff, implies_true, pk_un, pk_us, ap_wrN, ap_wrS]
      exact ih
  by_cases e : R = 2
  · have q := ax_Qk (r := 1) (c := r) (by omega) hP
    simp only [if_pos e] at q
    have g := L 1 q
    simp (disch := omega) only [wpX_foldRows, h1, h3, an_e2, e, vp_in_nI, nI_clamp, nI_leI, nI_ltI, nI_eq, nI_add, nI_1, pk_mul, an_m36, an_n36, an_b468, forall_eq, true_and, and_true, true_implies, false_implies, not_true, not_false_iff, implies_true, pk_un, pk_us, ap_wrN, ap_wrS]
    exact g
  · have q := ax_Qk (r := 1) (c := r) (by omega) hP
    simp only [if_neg e] at q
    have g := L 0 q
    simp (disch := omega) only [wpX_foldRows, h1, h3, an_e2, e, vp_in_nI, nI_clamp, nI_leI, nI_ltI, nI_eq, nI_add, nI_1, pk_mul, an_m36, an_n36, an_b468, forall_eq, true_and, and_true, true_implies, false_implies, not_true, not_false_iff, implies_true, pk_un, pk_us, ap_wrN, ap_wrS]
    exact g
theorem ax_scan {post : SX → Prop} {f y R r c : Nat} {d : Nat → Int32} (hf : ag_sc f) (y1 : 14 ≤ y) (y2 : y < 46) (V : ap_VS R r c) (H : ap_X rk rw cl nb y R r c d)
    (hP : ax_Q post tc lv tx rk rw cl nb gv wt (ap_scan f R r c d)) : wpX_foldStarts post (tc, lv, tx, rk, rw, cl, nb, gv, wt) (nI f) (nI y) := by
  obtain ⟨h1, h2, h3, h4⟩ := H
  have s := ap_v36 V
  have vb := ap_vb V
  have q := ax_Qk s hP
  simp (disch := omega) only [wpX_foldStarts, ax_s13, h1, h2, h3, vp_in_nI, nI_clamp, nI_leI, nI_ltI, nI_eq, nI_add, nI_1, pk_mul, an_m36, an_n36, an_b468, forall_eq, true_and, and_true, true_implies, false_implies, not_true, not_false_iff, implies_true, pk_un, pk_us, ap_wrN, ap_wrS]
  refine ap_le (fun n i a => wX_foldStarts_29 post (nI f) (nI y) (nI c) tc lv n (nI i) tx (upd rk 13 (nI R)) (upd rw 13 (nI r)) (upd cl 13 (nI c)) a gv wt)
    (fun i => ap_wr nb (fun i => ap_fv f (fun k => d (i - i % c + k)) (i % c + 1)) (i * c)) r (by rw [Nat.zero_mul]; exact ap_wr0 _ _) (fun n => ?_) (fun n i hi ih => ?_)
  · have z : r ≤ r := Nat.le_refl r
    simp (disch := omega) only [wX_foldStarts_29, h2, z, vp_in_nI, nI_clamp, nI_leI, nI_ltI, nI_eq, nI_add, nI_1, pk_mul, an_m36, an_n36, an_b468, forall_eq, true_and, and_true, true_implies, false_implies, not_true, not_false_iff, implies_true, pk_un, pk_us, ap_wrN, ap_wrS]
    exact q
  · have z : ¬ r ≤ i := by omega
    have b : i * c + c ≤ r * c := by
      have := Nat.mul_le_mul_right c (show i + 1 ≤ r from hi)
      rw [Nat.succ_mul] at this
      exact this
    simp (disch := omega) only [wX_foldStarts_29, h2, z, vp_in_nI, nI_clamp, nI_leI, nI_ltI, nI_eq, nI_add, nI_1, pk_mul, an_m36, an_n36, an_b468, forall_eq, true_and, and_true, true_implies, false_implies, not_true, not_false_iff, implies_true, pk_un, pk_us, ap_wrN, ap_wrS]
    refine ap_le (fun m j a => wX_foldStarts_43 post (wX_foldStarts_29 post (nI f) (nI y) (nI c) tc lv n) (nI f) (nI y) (nI c) (nI i) tc lv m (nI j) tx (upd rk 13 (nI R)) (upd rw 13 (nI r)) (upd cl 13 (nI c)) a gv wt)
      (fun j => ap_wr nb (fun i => ap_fv f (fun k => d (i - i % c + k)) (i % c + 1)) (i * c + j)) c (by rw [Nat.add_zero]) (fun m => ?_) (fun m j hj jh => ?_)
    · have z : c ≤ c := Nat.le_refl c
      rw [Nat.succ_mul] at ih
      simp (disch := omega) only [wX_foldStarts_43, z, vp_in_nI, nI_clamp, nI_leI, nI_ltI, nI_eq, nI_add, nI_1, pk_mul, an_m36, an_n36, an_b468, forall_eq, true_and, and_true, true_implies, false_implies, not_true, not_false_iff, implies_true, pk_un, pk_us, ap_wrN, ap_wrS]
      exact ih
    · have z : ¬ c ≤ j := by omega
      simp (disch := omega) only [wX_foldStarts_43, z, vp_in_nI, nI_clamp, nI_leI, nI_ltI, nI_eq, nI_add, nI_1, pk_mul, an_m36, an_n36, an_b468, forall_eq, true_and, and_true, true_implies, false_implies, not_true, not_false_iff, implies_true, pk_un, pk_us, ap_wrN, ap_wrS]
      refine ax_fd _ hf (by omega) ?_
      have e2 : ap_fv f (fun k => ap_wr nb (fun i => ap_fv f (fun k => d (i - i % c + k)) (i % c + 1)) (i * c + j) (y * 36 + i * c + k)) (j + 1) = ap_fv f (fun k => d (i * c + k)) (j + 1) := by
        refine ap_fvc (fun k hk => ?_)
        rw [ap_wrN (by omega) (by omega), Nat.add_assoc]
        exact h4 _ (by omega)
      have e : ap_fv f (fun k => d (i * c + k)) (j + 1) = (fun i => ap_fv f (fun k => d (i - i % c + k)) (i % c + 1)) (i * c + j) := by
        dsimp only
        rw [ap_md1 hj, Nat.add_sub_cancel]
      rw [e2]
      simp (disch := omega) only [Nat.add_assoc, ap_wrH nb (fun i => ap_fv f (fun k => d (i - i % c + k)) (i % c + 1)) (i * c + j) e, vp_in_nI, nI_clamp, nI_leI, nI_ltI, nI_eq, nI_add, nI_1, pk_mul, an_m36, an_n36, an_b468, forall_eq, true_and, and_true, true_implies, false_implies, not_true, not_false_iff, implies_true, pk_un, pk_us, ap_wrN, ap_wrS]
      exact jh
theorem ax_outer {post : Int32 → SX → Prop} {f x y R r c S s t : Nat} {d e : Nat → Int32} (hf : ag_sc f) (x1 : 14 ≤ x) (x2 : x < 46) (y1 : 14 ≤ y) (y2 : y < 46)
    (V : ap_VS R r c) (H : ap_X rk rw cl nb x R r c d) (W : ap_VS S s t) (K : ap_X rk rw cl nb y S s t e)
    (hP : ax_P post tc lv tx rk rw cl nb gv wt (ap_outer R r c d S s t e f)) : wpX_outerTable post (tc, lv, tx, rk, rw, cl, nb, gv, wt) (nI f) (nI x) (nI y) := by
  obtain ⟨h1, h2, h3, h4⟩ := H
  obtain ⟨k1, k2, k3, k4⟩ := K
  have vb := ap_vb V
  have wb := ap_vb W
  have v36 := ap_v36 V
  have w36 := ap_v36 W
  have L : ∀ rk' rw' cl' : Nat → Int32, r * c * (s * t) ≤ 36 → post 0 (tc, lv, tx, rk', rw', cl', ap_wr nb (fun i => ap_sf f (d (i / (s * t))) (e (i % (s * t)))) (r * c * (s * t)), gv, wt) →
      ∃ n, wX_outerTable_131 post (nI f) (nI x) (nI y) (nI (r * c)) (nI (s * t)) tc lv n 0 tx rk' rw' cl' nb gv wt := by
    intro rk' rw' cl' hz q
    refine ap_le (fun n i a => wX_outerTable_131 post (nI f) (nI x) (nI y) (nI (r * c)) (nI (s * t)) tc lv n (nI i) tx rk' rw' cl' a gv wt)
      (fun i => ap_wr nb (fun i => ap_sf f (d (i / (s * t))) (e (i % (s * t)))) (i * (s * t))) (r * c) (by rw [Nat.zero_mul]; exact ap_wr0 _ _) (fun n => ?_) (fun n i hi ih => ?_)
    · exact br_t (nI_le (Nat.le_refl _) (by omega)) q
    · have z : ¬ r * c ≤ i := by omega
      have b : i * (s * t) + s * t ≤ r * c * (s * t) := by
        have := Nat.mul_le_mul_right (s * t) (show i + 1 ≤ r * c from hi)
        rw [Nat.succ_mul] at this
        exact this
      simp (disch := omega) only [wX_outerTable_131, z, vp_in_nI, nI_clamp, nI_leI, nI_ltI, nI_eq, nI_add, nI_1, pk_mul, an_m36, an_n36, an_b468, forall_eq, true_and, and_true, true_implies, false_implies, not_true, not_false_iff, implies_true, pk_un, pk_us, ap_wrN, ap_wrS]
      refine ap_le (fun m j a => wX_outerTable_141 post (wX_outerTable_131 post (nI f) (nI x) (nI y) (nI (r * c)) (nI (s * t)) tc lv n) (nI f) (nI x) (nI y) (nI (r * c)) (nI (s * t)) (nI i) tc lv m (nI j) tx rk' rw' cl' a gv wt)
        (fun j => ap_wr nb (fun i => ap_sf f (d (i / (s * t))) (e (i % (s * t)))) (i * (s * t) + j)) (s * t) (by rw [Nat.add_zero]) (fun m => ?_) (fun m j hj jh => ?_)
      · have z : s * t ≤ s * t := Nat.le_refl _
        rw [Nat.succ_mul] at ih
        simp (disch := omega) only [wX_outerTable_141, z, vp_in_nI, nI_clamp, nI_leI, nI_ltI, nI_eq, nI_add, nI_1, pk_mul, an_m36, an_n36, an_b468, forall_eq, true_and, and_true, true_implies, false_implies, not_true, not_false_iff, implies_true, pk_un, pk_us, ap_wrN, ap_wrS]
        exact ih
      · have z : ¬ s * t ≤ j := by omega
        have eq : ap_sf f (d i) (e j) = (fun i => ap_sf f (d (i / (s * t))) (e (i % (s * t)))) (i * (s * t) + j) := by
          dsimp only
          rw [ap_md1 hj, ap_dv1 hj]
        simp (disch := omega) only [wX_outerTable_141, z, ax_sf _ hf, h4, k4, Nat.add_assoc, ap_wrH nb (fun i => ap_sf f (d (i / (s * t))) (e (i % (s * t)))) (i * (s * t) + j) eq, vp_in_nI, nI_clamp, nI_leI, nI_ltI, nI_eq, nI_add, nI_1, pk_mul, an_m36, an_n36, an_b468, forall_eq, true_and, and_true, true_implies, false_implies, not_true, not_false_iff, implies_true, pk_un, pk_us, ap_wrN, ap_wrS]
        exact jh
  unfold ap_outer at hP
  by_cases g1 : 2 < R + S
  · rw [if_pos g1] at hP
    have q := ax_Pe (by decide) hP
    have z : ¬ R + S ≤ 2 := by omega
    simp (disch := omega) only [wpX_outerTable, h1, k1, an_l2, z, vp_in_nI, nI_clamp, nI_leI, nI_ltI, nI_eq, nI_add, nI_1, pk_mul, an_m36, an_n36, an_b468, forall_eq, true_and, and_true, true_implies, false_implies, not_true, not_false_iff, implies_true, pk_un, pk_us, ap_wrN, ap_wrS]
    exact q
  · rw [if_neg g1] at hP
    have z : R + S ≤ 2 := by omega
    by_cases g2 : R = 1 ∧ S = 1
    · rw [if_pos g2] at hP
      obtain ⟨rfl, rfl⟩ := g2
      have r1 := ap_v1 V (by omega)
      have s1 := ap_v1 W (by omega)
      subst r1 s1
      by_cases g3 : 6 < c ∨ 6 < t
      · rw [if_pos g3] at hP
        have q := ax_Pe (by decide) hP
        by_cases g4 : 6 < c
        · simp (disch := omega) only [wpX_outerTable, ax_sz, h1, h2, h3, k1, k2, k3, an_l2, an_e1, an_u6, Nat.one_mul, g4, z, vp_in_nI, nI_clamp, nI_leI, nI_ltI, nI_eq, nI_add, nI_1, pk_mul, an_m36, an_n36, an_b468, forall_eq, true_and, and_true, true_implies, false_implies, not_true, not_false_iff, implies_true, pk_un, pk_us, ap_wrN, ap_wrS]
          exact q
        · have g5 : ¬ t ≤ 6 := by omega
          simp (disch := omega) only [wpX_outerTable, ax_sz, h1, h2, h3, k1, k2, k3, an_l2, an_e1, an_u6, an_l6, Nat.one_mul, g4, g5, z, vp_in_nI, nI_clamp, nI_leI, nI_ltI, nI_eq, nI_add, nI_1, pk_mul, an_m36, an_n36, an_b468, forall_eq, true_and, and_true, true_implies, false_implies, not_true, not_false_iff, implies_true, pk_un, pk_us, ap_wrN, ap_wrS]
          exact q
      · rw [if_neg g3] at hP
        have q := ax_Pk (Nat.le_trans (Nat.mul_le_mul (show c ≤ 6 by omega) (show t ≤ 6 by omega)) (by decide)) hP
        have g4 : ¬ 6 < c := by omega
        have g5 : t ≤ 6 := by omega
        have l := L (upd rk 13 (nI 2)) (upd rw 13 (nI c)) (upd cl 13 (nI t)) (by rw [Nat.one_mul, Nat.one_mul]; exact Nat.le_trans (Nat.mul_le_mul (show c ≤ 6 by omega) g5) (by decide)) (by rw [Nat.one_mul c, Nat.one_mul t] at *; exact q)
        rw [Nat.one_mul, Nat.one_mul] at l
        simp (disch := omega) only [wpX_outerTable, ax_sz, ax_s13, h1, h2, h3, k1, k2, k3, an_l2, an_e1, an_u6, an_l6, Nat.one_mul, g4, g5, z, vp_in_nI, nI_clamp, nI_leI, nI_ltI, nI_eq, nI_add, nI_1, pk_mul, an_m36, an_n36, an_b468, forall_eq, true_and, and_true, true_implies, false_implies, not_true, not_false_iff, implies_true, pk_un, pk_us, ap_wrN, ap_wrS]
        exact l
    · rw [if_neg g2] at hP
      have g85 : wX_outerTable_85 post (nI f) (nI x) (nI y) (nI (r * c)) (nI (s * t)) tc lv tx rk rw cl nb gv wt := by
        by_cases e1 : R = 0
        · simp only [if_pos e1] at hP
          subst e1
          obtain ⟨rfl, rfl⟩ := ap_v0 V
          have q := ax_Pk w36 hP
          have l := L (upd rk 13 (nI S)) (upd rw 13 (nI s)) (upd cl 13 (nI t)) (by omega) (by rw [Nat.mul_one, Nat.one_mul]; exact q)
          simp (disch := omega) only [wX_outerTable_85, wX_outerTable_99, ax_s13, h1, k1, k2, k3, an_e0, vp_in_nI, nI_clamp, nI_leI, nI_ltI, nI_eq, nI_add, nI_1, pk_mul, an_m36, an_n36, an_b468, forall_eq, true_and, and_true, true_implies, false_implies, not_true, not_false_iff, implies_true, pk_un, pk_us, ap_wrN, ap_wrS]
          exact l
        · simp only [if_neg e1] at hP
          have e2 : S = 0 := by omega
          subst e2
          obtain ⟨rfl, rfl⟩ := ap_v0 W
          have q := ax_Pk v36 hP
          have l := L (upd rk 13 (nI R)) (upd rw 13 (nI r)) (upd cl 13 (nI c)) (by omega) (by rw [Nat.mul_one, Nat.mul_one]; exact q)
          simp (disch := omega) only [wX_outerTable_85, wX_outerTable_99, ax_s13, h1, h2, h3, k1, an_e0, e1, vp_in_nI, nI_clamp, nI_leI, nI_ltI, nI_eq, nI_add, nI_1, pk_mul, an_m36, an_n36, an_b468, forall_eq, true_and, and_true, true_implies, false_implies, not_true, not_false_iff, implies_true, pk_un, pk_us, ap_wrN, ap_wrS]
          exact l
      by_cases e1 : R = 1
      · have e2 : ¬ S = 1 := fun z => g2 ⟨e1, z⟩
        simp (disch := omega) only [wpX_outerTable, ax_sz, h1, h2, h3, k1, k2, k3, an_l2, an_e1, e1, e2, vp_in_nI, nI_clamp, nI_leI, nI_ltI, nI_eq, nI_add, nI_1, pk_mul, an_m36, an_n36, an_b468, forall_eq, true_and, and_true, true_implies, false_implies, not_true, not_false_iff, implies_true, pk_un, pk_us, ap_wrN, ap_wrS]
        subst e1
        simp (disch := omega) only [z, vp_in_nI, nI_clamp, nI_leI, nI_ltI, nI_eq, nI_add, nI_1, pk_mul, an_m36, an_n36, an_b468, forall_eq, true_and, and_true, true_implies, false_implies, not_true, not_false_iff, implies_true, pk_un, pk_us, ap_wrN, ap_wrS]
        exact g85
      · simp (disch := omega) only [wpX_outerTable, ax_sz, h1, h2, h3, k1, k2, k3, an_l2, an_e1, e1, z, vp_in_nI, nI_clamp, nI_leI, nI_ltI, nI_eq, nI_add, nI_1, pk_mul, an_m36, an_n36, an_b468, forall_eq, true_and, and_true, true_implies, false_implies, not_true, not_false_iff, implies_true, pk_un, pk_us, ap_wrN, ap_wrS]
        exact g85
end
