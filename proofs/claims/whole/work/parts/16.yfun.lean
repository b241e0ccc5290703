/-! Y: scalar functions, folds, outer, inner -/
theorem an_rm (i w : Nat) : nI i - nI (i / w * w) = nI (i % w) := by
  have h := Nat.div_add_mod' i w
  rw [pk_sub (by omega)]
  exact congrArg nI (by omega)
section
variable {ct lv er : Int32} {tx rk rw wd dt wt fi : Nat → Int32}
theorem ay_s1 {post : SY → Prop} {f y R r c : Nat} {d : Nat → Int32} (hf : ag_sc f) (y1 : 14 ≤ y) (y2 : y < 50) (V : ap_VS R r c) (H : ap_Y rk rw wd dt y R r c d)
    (hP : ay_P post ct lv tx rk rw wd dt wt fi (ap_s1 f R r c d)) : wpY_scalarOne post (ct, lv, 0, tx, rk, rw, wd, dt, wt, fi) (nI f) (nI y) := by
  obtain ⟨h1, h2, h3, h4⟩ := H
  have s := ap_v36 V
  have vb := ap_vb V
  have f1 : f < 100 := by unfold ag_sc at hf; omega
  have flw := ap_flw V
  have flb := ap_flb V
  have wb := ap_wb V
  have q := ay_Pb (b := ap_cp dt y 13 36) s (fun j h => ap_cpN (by omega)) hP
  unfold wpY_scalarOne
  refine ay_cp y2 (b := 13) (by omega) (by omega) ?_
  rw [h1, h2, h3]
  refine ap_le (fun n i a => wY_scalarOne_9 post (nI f) (nI y) n (nI i) ct lv 0 tx (upd rk 13 (nI R)) (upd rw 13 (nI (ap_fl R r c))) (upd wd 13 (nI (ap_w R c))) a wt fi)
    (fun i => ap_wr (ap_cp dt y 13 36) (fun i => ap_sf f (ap_ne f) (d i)) i) (r * c) (ap_wr0 _ _) (fun n => ?_) (fun n i hi ih => ?_)
  · have z : r * c ≤ r * c := Nat.le_refl _
    simp (disch := omega) only [wY_scalarOne_9, ay_sz, h2, h3, flw, z, vp_in_nI, nI_clamp, nI_leI, nI_ltI, nI_eq, nI_add, nI_1, pk_mul, an_m36, an_n36, an_b468, forall_eq, true_and, and_true, true_implies, false_implies, not_true, not_false_iff, implies_true, pk_un, pk_us, ap_wrN, ap_wrS]
    exact q
  · have z : ¬ r * c ≤ i := by omega
    simp (disch := omega) only [wY_scalarOne_9, ay_sz, ay_no, ay_at, ay_wk _ hf, ay_mk, ap_cpN, h2, h3, h4, flw, z, vp_in_nI, nI_clamp, nI_leI, nI_ltI, nI_eq, nI_add, nI_1, pk_mul, an_m36, an_n36, an_b468, forall_eq, true_and, and_true, true_implies, false_implies, not_true, not_false_iff, implies_true, pk_un, pk_us, ap_wrN, ap_wrS]
    exact ih
theorem ay_s2L {post : SY → Prop} {f x y z R r c S s t U u v : Nat} {d e : Nat → Int32} (hf : ag_sc f) (x1 : 14 ≤ x) (x2 : x < 50) (y1 : 14 ≤ y) (y2 : y < 50) (z1 : z = x ∨ z = y)
    (V : ap_VS R r c) (H : ap_Y rk rw wd dt x R r c d) (W : ap_VS S s t) (K : ap_Y rk rw wd dt y S s t e) (Q : ap_VS U u v) (J1 : rk z = nI U) (J2 : rw z = nI (ap_fl U u v)) (J3 : wd z = nI (ap_w U v))
    (hx : ∀ i, i < u * v → (if R = 0 then 0 else i) < r * c) (hy : ∀ i, i < u * v → (if S = 0 then 0 else i) < s * t)
    (hP : ay_P post ct lv tx rk rw wd dt wt fi (0, U, u, v, fun i => ap_sf f (d (if R = 0 then 0 else i)) (e (if S = 0 then 0 else i)))) : wY_scalarTwo_116 post (nI f) (nI x) (nI y) (nI z) ct lv 0 tx rk rw wd dt wt fi := by
  obtain ⟨h1, h2, h3, h4⟩ := H
  obtain ⟨k1, k2, k3, k4⟩ := K
  have vb := ap_vb V
  have wb := ap_vb W
  have qb := ap_vb Q
  have v36 := ap_v36 V
  have w36 := ap_v36 W
  have q36 := ap_v36 Q
  have flw := ap_flw Q
  have q := ay_Pk q36 hP
  simp (disch := omega) only [wY_scalarTwo_116, J1, J2, J3, ay_s3 _ Q, vp_in_nI, nI_clamp, true_and]
  refine ap_le (fun n i a => wY_scalarTwo_148 post (nI f) (nI x) (nI y) (nI z) n (nI i) ct lv 0 tx (upd rk 13 (nI U)) (upd rw 13 (nI (ap_fl U u v))) (upd wd 13 (nI (ap_w U v))) a wt fi)
    (fun i => ap_wr dt (fun i => ap_sf f (d (if R = 0 then 0 else i)) (e (if S = 0 then 0 else i))) i) (u * v) (ap_wr0 _ _) (fun n => ?_) (fun n i hi ih => ?_)
  · have z : u * v ≤ u * v := Nat.le_refl _
    simp (disch := omega) only [wY_scalarTwo_148, ay_sz, J2, J3, flw, z, vp_in_nI, nI_clamp, nI_leI, nI_ltI, nI_eq, nI_add, nI_1, pk_mul, an_m36, an_n36, an_b468, forall_eq, true_and, and_true, true_implies, false_implies, not_true, not_false_iff, implies_true, pk_un, pk_us, ap_wrN, ap_wrS]
    exact q
  · have z : ¬ u * v ≤ i := by omega
    have g1 := hx i hi
    have g2 := hy i hi
    have eq := ap_wrS dt (fun i => ap_sf f (d (if R = 0 then 0 else i)) (e (if S = 0 then 0 else i))) i
    by_cases a1 : R = 0
    · by_cases a2 : S = 0
      · simp only [if_pos a1, if_pos a2] at g1 g2 ih eq ⊢
        simp (disch := omega) only [wY_scalarTwo_148, wY_scalarTwo_178, wY_scalarTwo_198, ay_sz, ay_a0, ay_wk _ hf, ay_mk, J2, J3, h1, k1, an_e0, a1, a2, flw, z, vp_in_nI, nI_clamp, nI_leI, nI_ltI, nI_eq, nI_add, nI_1, pk_mul, an_m36, an_n36, an_b468, forall_eq, true_and, and_true, true_implies, false_implies, not_true, not_false_iff, implies_true, pk_un, pk_us, ap_wrN, ap_wrS]
        have d0 := h4 0 g1
        have e0 := k4 0 g2
        rw [Nat.add_zero] at d0 e0
        rw [d0, e0, eq]
        exact ih
      · simp only [if_pos a1, if_neg a2] at g1 g2 ih eq ⊢
        simp (disch := omega) only [wY_scalarTwo_148, wY_scalarTwo_178, wY_scalarTwo_198, ay_sz, ay_a0, ay_at, ay_wk _ hf, ay_mk, J2, J3, h1, k1, k4, an_e0, a1, a2, flw, z, vp_in_nI, nI_clamp, nI_leI, nI_ltI, nI_eq, nI_add, nI_1, pk_mul, an_m36, an_n36, an_b468, forall_eq, true_and, and_true, true_implies, false_implies, not_true, not_false_iff, implies_true, pk_un, pk_us, ap_wrN, ap_wrS]
        have d0 := h4 0 g1
        rw [Nat.add_zero] at d0
        rw [d0, eq]
        exact ih
    · by_cases a2 : S = 0
      · simp only [if_neg a1, if_pos a2] at g1 g2 ih eq ⊢
        simp (disch := omega) only [wY_scalarTwo_148, wY_scalarTwo_178, wY_scalarTwo_198, ay_sz, ay_a0, ay_at, ay_wk _ hf, ay_mk, J2, J3, h1, h4, k1, an_e0, a1, a2, flw, z, vp_in_nI, nI_clamp, nI_leI, nI_ltI, nI_eq, nI_add, nI_1, pk_mul, an_m36, an_n36, an_b468, forall_eq, true_and, and_true, true_implies, false_implies, not_true, not_false_iff, implies_true, pk_un, pk_us, ap_wrN, ap_wrS]
        have e0 := k4 0 g2
        rw [Nat.add_zero] at e0
        rw [e0, eq]
        exact ih
      · simp only [if_neg a1, if_neg a2] at g1 g2 ih eq ⊢
        simp (disch := omega) only [wY_scalarTwo_148, wY_scalarTwo_178, wY_scalarTwo_198, ay_sz, ay_at, ay_wk _ hf, ay_mk, J2, J3, h1, h4, k1, k4, an_e0, a1, a2, flw, z, vp_in_nI, nI_clamp, nI_leI, nI_ltI, nI_eq, nI_add, nI_1, pk_mul, an_m36, an_n36, an_b468, forall_eq, true_and, and_true, true_implies, false_implies, not_true, not_false_iff, implies_true, pk_un, pk_us, ap_wrN, ap_wrS]
        exact ih
theorem ap_flI {R r c s t : Nat} (V : ap_VS R r c) (W : ap_VS R s t) : (ap_fl R r c = ap_fl R s t ∧ ap_w R c = ap_w R t) ↔ (r = s ∧ c = t) := by
  unfold ap_fl ap_w
  by_cases e : R = 2
  · simp only [if_pos e]
  · simp only [if_neg e, ap_v1 V e, ap_v1 W e, and_true, true_and]
theorem ay_s2 {post : SY → Prop} {f x y R r c S s t : Nat} {d e : Nat → Int32} (hf : ag_sc f) (x1 : 14 ≤ x) (x2 : x < 50) (y1 : 14 ≤ y) (y2 : y < 50)
    (V : ap_VS R r c) (H : ap_Y rk rw wd dt x R r c d) (W : ap_VS S s t) (K : ap_Y rk rw wd dt y S s t e)
    (hP : ay_P post ct lv tx rk rw wd dt wt fi (ap_s2 R r c d S s t e f)) : wpY_scalarTwo post (ct, lv, 0, tx, rk, rw, wd, dt, wt, fi) (nI f) (nI x) (nI y) := by
  have H0 := H
  have K0 := K
  obtain ⟨h1, h2, h3, h4⟩ := H
  obtain ⟨k1, k2, k3, k4⟩ := K
  have vb := ap_vb V
  have wb := ap_vb W
  have f1 := ap_flb V
  have f2 := ap_flb W
  have f3 := ap_wb V
  have f4 := ap_wb W
  have core : ay_P post ct lv tx rk rw wd dt wt fi (0, if R = 0 then S else R, if R = 0 then s else r, if R = 0 then t else c, fun i => ap_sf f (d (if R = 0 then 0 else i)) (e (if S = 0 then 0 else i))) →
      (R ≠ 0 → S ≠ 0 → r * c = s * t) → wY_scalarTwo_102 post (nI f) (nI x) (nI y) ct lv 0 tx rk rw wd dt wt fi := by
    intro hp hz
    by_cases e1 : R = 0
    · simp only [if_pos e1] at hp
      simp (disch := omega) only [wY_scalarTwo_102, h1, an_e0, e1, vp_in_nI, nI_clamp, nI_leI, nI_ltI, nI_eq, nI_add, nI_1, pk_mul, an_m36, an_n36, an_b468, forall_eq, true_and, and_true, true_implies, false_implies, not_true, not_false_iff, implies_true, pk_un, pk_us, ap_wrN, ap_wrS]
      refine ay_s2L (S := S) (s := s) (t := t) (d := d) (e := e) hf x1 x2 y1 y2 (Or.inr rfl) V H0 W K0 W k1 k2 k3 (fun i hi => ?_) (fun i hi => ?_) (by simp only [if_pos e1]; exact hp)
      · rw [if_pos e1]
        subst e1
        obtain ⟨rfl, rfl⟩ := ap_v0 V
        omega
      · split
        · rename_i e2
          subst e2
          obtain ⟨rfl, rfl⟩ := ap_v0 W
          omega
        · exact hi
    · simp only [if_neg e1] at hp
      simp (disch := omega) only [wY_scalarTwo_102, h1, an_e0, e1, vp_in_nI, nI_clamp, nI_leI, nI_ltI, nI_eq, nI_add, nI_1, pk_mul, an_m36, an_n36, an_b468, forall_eq, true_and, and_true, true_implies, false_implies, not_true, not_false_iff, implies_true, pk_un, pk_us, ap_wrN, ap_wrS]
      refine ay_s2L (R := R) (r := r) (c := c) (d := d) (e := e) hf x1 x2 y1 y2 (Or.inl rfl) V H0 W K0 V h1 h2 h3 (fun i hi => ?_) (fun i hi => ?_) (by simp only [if_neg e1]; exact hp)
      · rw [if_neg e1]; exact hi
      · by_cases e2 : S = 0
        · rw [if_pos e2]
          subst e2
          obtain ⟨rfl, rfl⟩ := ap_v0 W
          omega
        · rw [if_neg e2, ← hz e1 e2]; exact hi
  unfold ap_s2 at hP
  by_cases sm : R = S ∧ r = s ∧ c = t
  · rw [if_neg (fun z => z.1 sm)] at hP
    have g := core hP (fun _ _ => by rw [sm.2.1, sm.2.2])
    obtain ⟨rfl, rfl, rfl⟩ := sm
    have z1 : ¬ (1 : Int32) = 0 := by decide
    simp (disch := omega) only [wpY_scalarTwo, wY_scalarTwo_50, h1, h2, h3, k1, k2, k3, z1, vp_in_nI, nI_clamp, nI_leI, nI_ltI, nI_eq, nI_add, nI_1, pk_mul, an_m36, an_n36, an_b468, forall_eq, true_and, and_true, true_implies, false_implies, not_true, not_false_iff, implies_true, pk_un, pk_us, ap_wrN, ap_wrS]
    exact g
  · have g50 : wY_scalarTwo_50 post (nI f) (nI x) (nI y) 0 ct lv 0 tx rk rw wd dt wt fi := by
      have l0 : ∀ a : Nat, (a ≤ 0) = (a = 0) := fun a => by rw [Nat.le_zero]
      by_cases e1 : R = 0
      · rw [if_neg (fun z => z.2.1 e1)] at hP
        have g := core hP (fun z => absurd e1 z)
        simp (disch := omega) only [wY_scalarTwo_50, h1, k1, an_l0, l0, e1, vp_in_nI, nI_clamp, nI_leI, nI_ltI, nI_eq, nI_add, nI_1, pk_mul, an_m36, an_n36, an_b468, forall_eq, true_and, and_true, true_implies, false_implies, not_true, not_false_iff, implies_true, pk_un, pk_us, ap_wrN, ap_wrS]
        exact g
      · by_cases e2 : S = 0
        · rw [if_neg (fun z => z.2.2 e2)] at hP
          have g := core hP (fun _ z => absurd e2 z)
          simp (disch := omega) only [wY_scalarTwo_50, h1, k1, an_l0, l0, e1, e2, vp_in_nI, nI_clamp, nI_leI, nI_ltI, nI_eq, nI_add, nI_1, pk_mul, an_m36, an_n36, an_b468, forall_eq, true_and, and_true, true_implies, false_implies, not_true, not_false_iff, implies_true, pk_un, pk_us, ap_wrN, ap_wrS]
          exact g
        · rw [if_pos ⟨sm, e1, e2⟩] at hP
          by_cases e3 : R = S
          · rw [if_pos e3] at hP
            have q := ay_Pe (by decide) hP
            simp (disch := omega) only [wY_scalarTwo_50, h1, k1, an_l0, l0, e1, e2, e3, vp_in_nI, nI_clamp, nI_leI, nI_ltI, nI_eq, nI_add, nI_1, pk_mul, an_m36, an_n36, an_b468, forall_eq, true_and, and_true, true_implies, false_implies, not_true, not_false_iff, implies_true, pk_un, pk_us, ap_wrN, ap_wrS]
            exact q
          · rw [if_neg e3] at hP
            have q := ay_Pe (by decide) hP
            simp (disch := omega) only [wY_scalarTwo_50, h1, k1, an_l0, l0, e1, e2, e3, vp_in_nI, nI_clamp, nI_leI, nI_ltI, nI_eq, nI_add, nI_1, pk_mul, an_m36, an_n36, an_b468, forall_eq, true_and, and_true, true_implies, false_implies, not_true, not_false_iff, implies_true, pk_un, pk_us, ap_wrN, ap_wrS]
            exact q
    by_cases a1 : R = S
    · subst a1
      have iff := ap_flI V W
      by_cases a2 : ap_fl R r c = ap_fl R s t
      · have a3 : ¬ ap_w R c = ap_w R t := fun z => sm ⟨rfl, iff.mp ⟨a2, z⟩⟩
        simp (disch := omega) only [wpY_scalarTwo, wY_scalarTwo_49, h1, h2, h3, k1, k2, k3, a2, a3, vp_in_nI, nI_clamp, nI_leI, nI_ltI, nI_eq, nI_add, nI_1, pk_mul, an_m36, an_n36, an_b468, forall_eq, true_and, and_true, true_implies, false_implies, not_true, not_false_iff, implies_true, pk_un, pk_us, ap_wrN, ap_wrS]
        exact g50
      · simp (disch := omega) only [wpY_scalarTwo, wY_scalarTwo_49, h1, h2, h3, k1, k2, k3, a2, vp_in_nI, nI_clamp, nI_leI, nI_ltI, nI_eq, nI_add, nI_1, pk_mul, an_m36, an_n36, an_b468, forall_eq, true_and, and_true, true_implies, false_implies, not_true, not_false_iff, implies_true, pk_un, pk_us, ap_wrN, ap_wrS]
        exact g50
    · simp (disch := omega) only [wpY_scalarTwo, wY_scalarTwo_49, h1, h2, h3, k1, k2, k3, a1, vp_in_nI, nI_clamp, nI_leI, nI_ltI, nI_eq, nI_add, nI_1, pk_mul, an_m36, an_n36, an_b468, forall_eq, true_and, and_true, true_implies, false_implies, not_true, not_false_iff, implies_true, pk_un, pk_us, ap_wrN, ap_wrS]
      exact g50
theorem ay_fold {post : SY → Prop} {f y R r c : Nat} {d : Nat → Int32} (hf : ag_sc f) (y1 : 14 ≤ y) (y2 : y < 50) (V : ap_VS R r c) (H : ap_Y rk rw wd dt y R r c d)
    (hP : ay_P post ct lv tx rk rw wd dt wt fi (ap_fold f R r c d)) : wpY_foldAll post (ct, lv, 0, tx, rk, rw, wd, dt, wt, fi) (nI f) (nI y) := by
  obtain ⟨h1, h2, h3, h4⟩ := H
  have s := ap_v36 V
  have vb := ap_vb V
  have L : ∀ A : Nat, A ≤ 1 → (A = 0 → r = 1) → post (ct, lv, 0, tx, upd rk 13 (nI A), upd rw 13 (nI (ap_fl A 1 r)), upd wd 13 (nI (ap_w A r)), ap_wr dt (fun i => ap_fv f (fun k => d (i * c + k)) c) (1 * r), wt, fi) →
      wY_foldAll_31 post (nI f) (nI y) (nI c) (nI r) (nI A) 13 ct lv 0 tx rk rw wd dt wt fi := by
    intro A A1 A0 q
    have e1 : (if A = 0 then (1 : Int32) else nI r) = nI (ap_fl A 1 r) := by
      unfold ap_fl
      rw [if_neg (show ¬ A = 2 by omega)]
      by_cases z : A = 0
      · rw [if_pos z, A0 z]; rfl
      · rw [if_neg z]
    have e2 : (if A < 2 then (1 : Int32) else 1) = nI (ap_w A r) := by
      unfold ap_w
      rw [if_neg (show ¬ A = 2 by omega), if_pos (by omega)]; rfl
    rw [Nat.one_mul] at q
    unfold wY_foldAll_31
    rw [ay_sh _ (by omega), e1, e2]
    refine ap_le (fun n i a => wY_foldAll_40 post (nI f) (nI y) (nI c) (nI r) n (nI i) ct lv 0 tx (upd rk 13 (nI A)) (upd rw 13 (nI (ap_fl A 1 r))) (upd wd 13 (nI (ap_w A r))) a wt fi)
      (fun i => ap_wr dt (fun i => ap_fv f (fun k => d (i * c + k)) c) i) r (ap_wr0 _ _) (fun n => ?_) (fun n i hi ih => ?_)
    · exact br_t (nI_le (Nat.le_refl _) (by omega)) q
    · have z : ¬ r ≤ i := by omega
      have b : i * c + c ≤ r * c := by
        have := Nat.mul_le_mul_right c (show i + 1 ≤ r from hi)
        rw [Nat.succ_mul] at this
        exact this
      simp (disch := omega) only [wY_foldAll_40, z, vp_in_nI, nI_clamp, nI_leI, nI_ltI, nI_eq, nI_add, nI_1, pk_mul, an_m36, an_n36, an_b468, forall_eq, true_and, and_true, true_implies, false_implies, not_true, not_false_iff, implies_true, pk_un, pk_us, ap_wrN, ap_wrS]
      refine ay_fd _ hf (by omega) ?_
      have e : ap_fv f (fun k => ap_wr dt (fun i => ap_fv f (fun k => d (i * c + k)) c) i (y * 36 + (i * c + k))) c = ap_fv f (fun k => d (i * c + k)) c := by
        refine ap_fvc (fun k hk => ?_)
        rw [ap_wrN (by omega) (by omega)]
        exact h4 _ (by omega)
      rw [e]
      simp (disch := omega) only [ay_mk, vp_in_nI, nI_clamp, nI_leI, nI_ltI, nI_eq, nI_add, nI_1, pk_mul, an_m36, an_n36, an_b468, forall_eq, true_and, and_true, true_implies, false_implies, not_true, not_false_iff, implies_true, pk_un, pk_us, ap_wrN, ap_wrS]
      exact ih
  have q := ay_Pk (r := 1) (c := r) (by omega) hP
  by_cases e : R = 2
  · simp only [if_pos e] at q
    have g := L 1 (by omega) (by omega) q
    simp (disch := omega) only [wpY_foldAll, ay_rs _ y2 V h1 h2 h3, ay_rc _ y2 V h1 h2, h1, an_e2, e, vp_in_nI, nI_clamp, nI_leI, nI_ltI, nI_eq, nI_add, nI_1, pk_mul, an_m36, an_n36, an_b468, forall_eq, true_and, and_true, true_implies, false_implies, not_true, not_false_iff, implies_true, pk_un, pk_us, ap_wrN, ap_wrS]
    exact g
  · simp only [if_neg e] at q
    have g := L 0 (by omega) (fun _ => ap_v1 V e) q
    simp (disch := omega) only [wpY_foldAll, ay_rs _ y2 V h1 h2 h3, ay_rc _ y2 V h1 h2, h1, an_e2, e, vp_in_nI, nI_clamp, nI_leI, nI_ltI, nI_eq, nI_add, nI_1, pk_mul, an_m36, an_n36, an_b468, forall_eq, true_and, and_true, true_implies, false_implies, not_true, not_false_iff, implies_true, pk_un, pk_us, ap_wrN, ap_wrS]
    exact g
theorem ay_scan {post : SY → Prop} {f y R r c : Nat} {d : Nat → Int32} (hf : ag_sc f) (y1 : 14 ≤ y) (y2 : y < 50) (V : ap_VS R r c) (H : ap_Y rk rw wd dt y R r c d)
    (hP : ay_P post ct lv tx rk rw wd dt wt fi (ap_scan f R r c d)) : wpY_scanAll post (ct, lv, 0, tx, rk, rw, wd, dt, wt, fi) (nI f) (nI y) := by
  obtain ⟨h1, h2, h3, h4⟩ := H
  have s := ap_v36 V
  have vb := ap_vb V
  have flb := ap_flb V
  have wb := ap_wb V
  have flw := ap_flw V
  have q := ay_Pk s hP
  simp (disch := omega) only [wpY_scanAll, ay_rs _ y2 V h1 h2 h3, h1, h2, h3, ay_s3 _ V, vp_in_nI, nI_clamp, true_and]
  refine ap_le (fun n i a => wY_scanAll_33 post (nI f) (nI y) (nI c) n (nI i) ct lv 0 tx (upd rk 13 (nI R)) (upd rw 13 (nI (ap_fl R r c))) (upd wd 13 (nI (ap_w R c))) a wt fi)
    (fun i => ap_wr dt (fun i => ap_fv f (fun k => d (i - i % c + k)) (i % c + 1)) i) (r * c) (ap_wr0 _ _) (fun n => ?_) (fun n i hi ih => ?_)
  · have z : r * c ≤ r * c := Nat.le_refl _
    simp (disch := omega) only [wY_scanAll_33, ay_sz, h2, h3, flw, z, vp_in_nI, nI_clamp, nI_leI, nI_ltI, nI_eq, nI_add, nI_1, pk_mul, an_m36, an_n36, an_b468, forall_eq, true_and, and_true, true_implies, false_implies, not_true, not_false_iff, implies_true, pk_un, pk_us, ap_wrN, ap_wrS]
    exact q
  · have z : ¬ r * c ≤ i := by omega
    obtain ⟨c0, a1, a2, a3⟩ := ap_dvl hi
    have c1 : ¬ c = 0 := by omega
    have b : i / c * c + c ≤ r * c := by
      have := Nat.mul_le_mul_right c (show i / c + 1 ≤ r from a1)
      rw [Nat.succ_mul] at this
      exact this
    have m1 : i % c ≤ i := Nat.mod_le _ _
    simp (disch := omega) only [wY_scanAll_33, ay_sz, h2, h3, flw, z, an_e0, c1, pk_rem, pk_sub, vp_in_nI, nI_clamp, nI_leI, nI_ltI, nI_eq, nI_add, nI_1, pk_mul, an_m36, an_n36, an_b468, forall_eq, true_and, and_true, true_implies, false_implies, not_true, not_false_iff, implies_true, pk_un, pk_us, ap_wrN, ap_wrS]
    refine ay_fd _ hf (by omega) ?_
    have e : ap_fv f (fun k => ap_wr dt (fun i => ap_fv f (fun k => d (i - i % c + k)) (i % c + 1)) i (y * 36 + (i - i % c + k))) (i % c + 1) = ap_fv f (fun k => d (i - i % c + k)) (i % c + 1) := by
      refine ap_fvc (fun k hk => ?_)
      rw [ap_wrN (by omega) (by omega)]
      exact h4 _ (by omega)
    rw [e]
    simp (disch := omega) only [ay_mk, vp_in_nI, nI_clamp, nI_leI, nI_ltI, nI_eq, nI_add, nI_1, pk_mul, an_m36, an_n36, an_b468, forall_eq, true_and, and_true, true_implies, false_implies, not_true, not_false_iff, implies_true, pk_un, pk_us, ap_wrN, ap_wrS]
    exact ih
theorem ay_outer {post : SY → Prop} {f x y R r c S s t : Nat} {d e : Nat → Int32} (hf : ag_sc f) (x1 : 14 ≤ x) (x2 : x < 50) (y1 : 14 ≤ y) (y2 : y < 50)
    (V : ap_VS R r c) (H : ap_Y rk rw wd dt x R r c d) (W : ap_VS S s t) (K : ap_Y rk rw wd dt y S s t e)
    (hP : ay_P post ct lv tx rk rw wd dt wt fi (ap_outer R r c d S s t e f)) : wpY_outer post (ct, lv, 0, tx, rk, rw, wd, dt, wt, fi) (nI f) (nI x) (nI y) := by
  obtain ⟨h1, h2, h3, h4⟩ := H
  obtain ⟨k1, k2, k3, k4⟩ := K
  have vb := ap_vb V
  have wb := ap_vb W
  have v36 := ap_v36 V
  have w36 := ap_v36 W
  have f1 := ap_flb V
  have f2 := ap_flb W
  have f3 := ap_wb V
  have f4 := ap_wb W
  have flv := ap_flw V
  have flw := ap_flw W
  have L : ∀ rk' rw' wd' : Nat → Int32, rw' x = nI (ap_fl R r c) → wd' x = nI (ap_w R c) → rw' y = nI (ap_fl S s t) → wd' y = nI (ap_w S t) → r * c * (s * t) ≤ 36 →
      post (ct, lv, 0, tx, rk', rw', wd', ap_wr dt (fun i => ap_sf f (d (i / (s * t))) (e (i % (s * t)))) (r * c * (s * t)), wt, fi) → wY_outer_137 post (nI f) (nI x) (nI y) ct lv 0 tx rk' rw' wd' dt wt fi := by
    intro rk' rw' wd' j2 j3 i2 i3 hz q
    simp (disch := omega) only [wY_outer_137, ay_sz, i2, i3, flw, vp_in_nI, nI_clamp, nI_leI, nI_ltI, nI_eq, nI_add, nI_1, pk_mul, an_m36, an_n36, an_b468, forall_eq, true_and, and_true, true_implies, false_implies, not_true, not_false_iff, implies_true, pk_un, pk_us, ap_wrN, ap_wrS]
    refine ap_le (fun n i a => wY_outer_147 post (nI f) (nI x) (nI y) (nI (s * t)) n (nI i) ct lv 0 tx rk' rw' wd' a wt fi)
      (fun i => ap_wr dt (fun i => ap_sf f (d (i / (s * t))) (e (i % (s * t)))) i) (r * c * (s * t)) (ap_wr0 _ _) (fun n => ?_) (fun n i hi ih => ?_)
    · have z : r * c * (s * t) ≤ r * c * (s * t) := Nat.le_refl _
      simp (disch := omega) only [wY_outer_147, ay_sz, j2, j3, flv, z, vp_in_nI, nI_clamp, nI_leI, nI_ltI, nI_eq, nI_add, nI_1, pk_mul, an_m36, an_n36, an_b468, forall_eq, true_and, and_true, true_implies, false_implies, not_true, not_false_iff, implies_true, pk_un, pk_us, ap_wrN, ap_wrS]
      exact q
    · have z : ¬ r * c * (s * t) ≤ i := by omega
      obtain ⟨c0, a1, a2, a3⟩ := ap_dvl hi
      have c1 : ¬ s * t = 0 := by omega
      have a0 := Nat.zero_le (i / (s * t))
      simp (disch := omega) only [wY_outer_147, ay_sz, ay_at, ay_wk _ hf, ay_mk, j2, j3, flv, z, an_e0, c1, an_rm, pk_div, h4, k4, vp_in_nI, nI_clamp, nI_leI, nI_ltI, nI_eq, nI_add, nI_1, pk_mul, an_m36, an_n36, an_b468, forall_eq, true_and, and_true, true_implies, false_implies, not_true, not_false_iff, implies_true, pk_un, pk_us, ap_wrN, ap_wrS]
      exact ih
  have g99 : ∀ (U u v : Nat), (U = S ∧ u = s ∧ v = t ∧ R = 0) ∨ (U = R ∧ u = r ∧ v = c ∧ R ≠ 0 ∧ S = 0) → ay_P post ct lv tx rk rw wd dt wt fi (0, U, u, v, fun i => ap_sf f (d (i / (s * t))) (e (i % (s * t)))) → U = R + S → wY_outer_99 post (nI f) (nI x) (nI y) (nI U) ct lv 0 tx rk rw wd dt wt fi := by
    intro U u v hU hp hRS
    rcases hU with ⟨rfl, rfl, rfl, e1⟩ | ⟨rfl, rfl, rfl, e1, e2⟩
    · subst e1
      obtain ⟨rfl, rfl⟩ := ap_v0 V
      have q := ay_Pk w36 hp
      simp (disch := omega) only [wY_outer_99, wY_outer_113, h1, k2, k3, an_e0, ay_s3 _ W, vp_in_nI, nI_clamp, nI_leI, nI_ltI, nI_eq, nI_add, nI_1, pk_mul, an_m36, an_n36, an_b468, forall_eq, true_and, and_true, true_implies, false_implies, not_true, not_false_iff, implies_true, pk_un, pk_us, ap_wrN, ap_wrS]
      exact L _ _ _ (by rw [pk_un (by omega)]; exact h2) (by rw [pk_un (by omega)]; exact h3) (by rw [pk_un (by omega)]; exact k2) (by rw [pk_un (by omega)]; exact k3) (by omega) (by rw [Nat.mul_one, Nat.one_mul]; exact q)
    · subst e2
      obtain ⟨rfl, rfl⟩ := ap_v0 W
      have q := ay_Pk v36 hp
      simp (disch := omega) only [wY_outer_99, wY_outer_113, h1, h2, h3, an_e0, e1, ay_s3 _ V, vp_in_nI, nI_clamp, nI_leI, nI_ltI, nI_eq, nI_add, nI_1, pk_mul, an_m36, an_n36, an_b468, forall_eq, true_and, and_true, true_implies, false_implies, not_true, not_false_iff, implies_true, pk_un, pk_us, ap_wrN, ap_wrS]
      exact L _ _ _ (by rw [pk_un (by omega)]; exact h2) (by rw [pk_un (by omega)]; exact h3) (by rw [pk_un (by omega)]; exact k2) (by rw [pk_un (by omega)]; exact k3) (by omega) (by rw [Nat.mul_one, Nat.mul_one]; exact q)
  unfold ap_outer at hP
  by_cases g1 : 2 < R + S
  · rw [if_pos g1] at hP
    have q := ay_Pe (by decide) hP
    have z : ¬ R + S ≤ 2 := by omega
    simp (disch := omega) only [wpY_outer, h1, k1, an_l2, z, vp_in_nI, nI_clamp, nI_leI, nI_ltI, nI_eq, nI_add, nI_1, pk_mul, an_m36, an_n36, an_b468, forall_eq, true_and, and_true, true_implies, false_implies, not_true, not_false_iff, implies_true, pk_un, pk_us, ap_wrN, ap_wrS]
    exact q
  · rw [if_neg g1] at hP
    have z : R + S ≤ 2 := by omega
    by_cases g2 : R = 1 ∧ S = 1
    · rw [if_pos g2] at hP
      obtain ⟨rfl, rfl⟩ := g2
      have r1 := ap_v1 V (by omega)
      have s1 := ap_v1 W (by omega)
      subst r1 s1
      have fx : ap_fl 1 1 c = c := rfl
      have fy : ap_fl 1 1 t = t := rfl
      by_cases g3 : 6 < c ∨ 6 < t
      · rw [if_pos g3] at hP
        have q := ay_Pe (by decide) hP
        by_cases g4 : 6 < c
        · simp (disch := omega) only [wpY_outer, h1, h2, k1, fx, an_l2, an_e1, an_u6, g4, z, vp_in_nI, nI_clamp, nI_leI, nI_ltI, nI_eq, nI_add, nI_1, pk_mul, an_m36, an_n36, an_b468, forall_eq, true_and, and_true, true_implies, false_implies, not_true, not_false_iff, implies_true, pk_un, pk_us, ap_wrN, ap_wrS]
          exact q
        · have g5 : ¬ t ≤ 6 := by omega
          simp (disch := omega) only [wpY_outer, h1, h2, k1, k2, fx, fy, an_l2, an_e1, an_u6, an_l6, g4, g5, z, vp_in_nI, nI_clamp, nI_leI, nI_ltI, nI_eq, nI_add, nI_1, pk_mul, an_m36, an_n36, an_b468, forall_eq, true_and, and_true, true_implies, false_implies, not_true, not_false_iff, implies_true, pk_un, pk_us, ap_wrN, ap_wrS]
          exact q
      · rw [if_neg g3] at hP
        have ct6 : c * t ≤ 36 := Nat.le_trans (Nat.mul_le_mul (show c ≤ 6 by omega) (show t ≤ 6 by omega)) (by decide)
        have q := ay_Pk ct6 hP
        have g4 : ¬ 6 < c := by omega
        have g5 : t ≤ 6 := by omega
        have fq := ay_s3 (ct := ct) (lv := lv) (er := 0) (tx := tx) (rk := rk) (rw := rw) (wd := wd) (dt := dt) (wt := wt) (fi := fi) (fun u => match u with | (ct, lv, er, tx, rk, rw, wd, dt, wt, fi) => wY_outer_137 post (nI f) (nI x) (nI y) ct lv er tx rk rw wd dt wt fi) (ap_mk2 (show c ≤ 6 by omega) g5)
        have l := L (upd rk 13 (nI 2)) (upd rw 13 (nI (ap_fl 2 c t))) (upd wd 13 (nI (ap_w 2 t))) (by rw [pk_un (by omega)]; exact h2) (by rw [pk_un (by omega)]; exact h3) (by rw [pk_un (by omega)]; exact k2) (by rw [pk_un (by omega)]; exact k3) (by rw [Nat.one_mul, Nat.one_mul]; exact ct6) (by rw [Nat.one_mul c, Nat.one_mul t] at *; exact q)
        simp (disch := omega) only [wpY_outer, h1, h2, k1, k2, fx, fy, an_l2, an_e1, an_u6, an_l6, g4, g5, z, vp_in_nI, nI_clamp, nI_leI, nI_ltI, nI_eq, nI_add, nI_1, pk_mul, an_m36, an_n36, an_b468, forall_eq, true_and, and_true, true_implies, false_implies, not_true, not_false_iff, implies_true, pk_un, pk_us, ap_wrN, ap_wrS]
        exact fq.mpr l
    · rw [if_neg g2] at hP
      have g85 : wY_outer_99 post (nI f) (nI x) (nI y) (nI (R + S)) ct lv 0 tx rk rw wd dt wt fi := by
        by_cases e1 : R = 0
        · simp only [if_pos e1] at hP
          have := g99 S s t (Or.inl ⟨rfl, rfl, rfl, e1⟩) hP (by omega)
          rw [show R + S = S by omega]
          exact this
        · simp only [if_neg e1] at hP
          have := g99 R r c (Or.inr ⟨rfl, rfl, rfl, e1, by omega⟩) hP (by omega)
          rw [show R + S = R by omega]
          exact this
      by_cases e1 : R = 1
      · have e2 : ¬ S = 1 := fun z => g2 ⟨e1, z⟩
        subst e1
        simp (disch := omega) only [wpY_outer, h1, k1, an_l2, an_e1, e2, z, vp_in_nI, nI_clamp, nI_leI, nI_ltI, nI_eq, nI_add, nI_1, pk_mul, an_m36, an_n36, an_b468, forall_eq, true_and, and_true, true_implies, false_implies, not_true, not_false_iff, implies_true, pk_un, pk_us, ap_wrN, ap_wrS]
        exact g85
      · simp (disch := omega) only [wpY_outer, h1, k1, an_l2, an_e1, e1, z, vp_in_nI, nI_clamp, nI_leI, nI_ltI, nI_eq, nI_add, nI_1, pk_mul, an_m36, an_n36, an_b468, forall_eq, true_and, and_true, true_implies, false_implies, not_true, not_false_iff, implies_true, pk_un, pk_us, ap_wrN, ap_wrS]
        exact g85
end
