/-! Y: shape, count, turn, back -/
theorem ap_cp13 {dt : Nat → Int32} {y : Nat} : ∀ j, (j < 468 ∨ 504 ≤ j) → ap_cp dt y 13 36 j = dt j := fun _ h => ap_cpN (by omega)
section
variable {ct lv er : Int32} {tx rk rw wd dt wt fi : Nat → Int32}
theorem ay_shape {post : SY → Prop} {y R r c : Nat} {d : Nat → Int32} (y1 : 14 ≤ y) (y2 : y < 50) (V : ap_VS R r c) (H : ap_Y rk rw wd dt y R r c d)
    (hP : ay_P post ct lv tx rk rw wd dt wt fi (ap_shape R r c)) : wpY_lengths post (ct, lv, 0, tx, rk, rw, wd, dt, wt, fi) (nI y) := by
  obtain ⟨h1, h2, h3, h4⟩ := H
  have vb := ap_vb V
  have w : upd (upd dt (468 + 0) (nI (ap_fl R r c))) (468 + 1) (nI (ap_w R c)) = ap_wr dt (fun i => if i = 0 then nI (ap_fl R r c) else nI (ap_w R c)) 2 := by
    have a := ap_wrS dt (fun i => if i = 0 then nI (ap_fl R r c) else nI (ap_w R c)) 0
    have b := ap_wrS dt (fun i => if i = 0 then nI (ap_fl R r c) else nI (ap_w R c)) 1
    rw [← a, ap_wr0] at b
    exact b
  have m0 := fun (P : SY → Prop) (rk rw wd dt : Nat → Int32) (v : Int32) => ay_mk (ct := ct) (lv := lv) (er := 0) (tx := tx) (rk := rk) (rw := rw) (wd := wd) (dt := dt) (wt := wt) (fi := fi) P (i := 0) (by omega) v
  have m1 := fun (P : SY → Prop) (rk rw wd dt : Nat → Int32) (v : Int32) => ay_mk (ct := ct) (lv := lv) (er := 0) (tx := tx) (rk := rk) (rw := rw) (wd := wd) (dt := dt) (wt := wt) (fi := fi) P (i := 1) (by omega) v
  have sh := fun (P : SY → Prop) (a b : Int32) => ay_sh (ct := ct) (lv := lv) (er := 0) (tx := tx) (rk := rk) (rw := rw) (wd := wd) (dt := dt) (wt := wt) (fi := fi) P (R := 1) (by omega) a b
  rw [nI_0] at m0
  rw [show nI 1 = 1 from rfl] at m1 sh
  simp (disch := omega) only [wpY_lengths, sh, m0, m1, h1, h2, h3, w, vp_in_nI, nI_clamp, nI_leI, nI_ltI, nI_eq, nI_add, nI_1, pk_mul, an_m36, an_n36, an_b468, forall_eq, true_and, and_true, true_implies, false_implies, not_true, not_false_iff, implies_true, pk_un, pk_us, ap_wrN, ap_wrS]
  refine hP _ _ _ _ ⟨fun _ h => ⟨pk_un h, pk_un h, pk_un h⟩, fun _ h => ap_wrN (by omega) (by omega)⟩ (fun _ => ⟨pk_us, ?_, ?_, fun i h => ?_⟩)
  · rw [pk_us]; rfl
  · rw [pk_us]; rfl
  · have hi : i < 1 * R := h
    rw [show 13 * 36 + i = 468 + i from rfl, ap_wrI (by omega)]
    show (if i = 0 then nI (ap_fl R r c) else nI (ap_w R c)) = if i = 0 then nI (if R = 2 then r else c) else nI c
    by_cases e : i = 0
    · rw [if_pos e, if_pos e]; rfl
    · rw [if_neg e, if_neg e]
      unfold ap_w
      rw [if_pos (by omega)]
theorem ay_resh {post : SY → Prop} {x y R r c S s t : Nat} {d e : Nat → Int32} (x1 : 14 ≤ x) (x2 : x < 50) (y1 : 14 ≤ y) (y2 : y < 50)
    (V : ap_VS R r c) (H : ap_Y rk rw wd dt x R r c d) (W : ap_VS S s t) (K : ap_Y rk rw wd dt y S s t e)
    (hP : ay_P post ct lv tx rk rw wd dt wt fi (ap_resh R r c d s t e)) : wpY_reshape post (ct, lv, 0, tx, rk, rw, wd, dt, wt, fi) (nI x) (nI y) := by
  have ok := ap_reshV (R := R) (r := r) (c := c) (d := d) (s := s) (t := t) (e := e)
  obtain ⟨h1, h2, h3, h4⟩ := H
  obtain ⟨k1, k2, k3, k4⟩ := K
  have vb := ap_vb V
  have v36 := ap_v36 V
  have w36 := ap_v36 W
  have wb := ap_vb W
  have flv := ap_flw V
  have flw := ap_flw W
  have f1 := ap_flb V
  have f2 := ap_flb W
  have f3 := ap_wb V
  have f4 := ap_wb W
  unfold ap_resh at hP ok
  by_cases e1 : R = 2
  · rw [if_pos e1] at hP
    have q := ay_Pe (by decide) hP
    simp (disch := omega) only [wpY_reshape, wY_reshape_21, ay_sz, h1, h2, h3, flv, an_e2, e1, vp_in_nI, nI_clamp, nI_leI, nI_ltI, nI_eq, nI_add, nI_1, pk_mul, an_m36, an_n36, an_b468, forall_eq, true_and, and_true, true_implies, false_implies, not_true, not_false_iff, implies_true, pk_un, pk_us, ap_wrN, ap_wrS]
    exact q
  rw [if_neg e1] at hP ok
  by_cases e2 : 2 < r * c
  · rw [if_pos e2] at hP
    have q := ay_Pe (by decide) hP
    have z : ¬ r * c ≤ 2 := by omega
    simp (disch := omega) only [wpY_reshape, wY_reshape_21, ay_sz, h1, h2, h3, flv, an_e2, an_l2, e1, z, vp_in_nI, nI_clamp, nI_leI, nI_ltI, nI_eq, nI_add, nI_1, pk_mul, an_m36, an_n36, an_b468, forall_eq, true_and, and_true, true_implies, false_implies, not_true, not_false_iff, implies_true, pk_un, pk_us, ap_wrN, ap_wrS]
    exact q
  rw [if_neg e2] at hP ok
  have z2 : r * c ≤ 2 := by omega
  have M : (∃ n, wY_reshape_46 post (nI x) (nI y) (nI (r * c)) ct lv 0 tx rk rw wd dt wt fi n 0) → wpY_reshape post (ct, lv, 0, tx, rk, rw, wd, dt, wt, fi) (nI x) (nI y) := by
    intro h
    simp (disch := omega) only [wpY_reshape, ay_sz, h1, h2, h3, flv, an_e2, an_l2, e1, z2, vp_in_nI, nI_clamp, nI_leI, nI_ltI, nI_eq, nI_add, nI_1, pk_mul, an_m36, an_n36, an_b468, forall_eq, true_and, and_true, true_implies, false_implies, not_true, not_false_iff, implies_true, pk_un, pk_us, ap_wrN, ap_wrS]
    exact h
  apply M
  have st : ∀ n i, i < r * c → ((¬ d i < 0 ∧ ¬ (if r * c = 1 then 36 else 6) < d i) → wY_reshape_46 post (nI x) (nI y) (nI (r * c)) ct lv 0 tx rk rw wd dt wt fi n (nI (i + 1))) → (¬ (¬ d i < 0 ∧ ¬ (if r * c = 1 then 36 else 6) < d i) → post (ct, lv, (-15), tx, rk, rw, wd, dt, wt, fi)) →
      wY_reshape_46 post (nI x) (nI y) (nI (r * c)) ct lv 0 tx rk rw wd dt wt fi (n + 1) (nI i) := by
    intro n i hi ha hb
    have z : ¬ r * c ≤ i := by omega
    simp (disch := omega) only [wY_reshape_46, wY_reshape_81, ay_at, z, h4, an_e1, vp_in_nI, nI_clamp, nI_leI, nI_ltI, nI_eq, nI_add, nI_1, pk_mul, an_m36, an_n36, an_b468, forall_eq, true_and, and_true, true_implies, false_implies, not_true, not_false_iff, implies_true, pk_un, pk_us, ap_wrN, ap_wrS]
    by_cases a1 : d i < 0
    · exact br_t a1 (hb (fun z => z.1 a1))
    · refine br_f a1 ?_
      by_cases m1 : r * c = 1
      · rw [if_pos m1] at ha hb
        refine br_t m1 ?_
        by_cases a2 : 36 < d i
        · exact br_f (Int32.not_le.mpr a2) (hb (fun z => z.2 a2))
        · exact br_t (Int32.not_lt.mp a2) (ha ⟨a1, a2⟩)
      · rw [if_neg m1] at ha hb
        refine br_f m1 ?_
        by_cases a2 : 6 < d i
        · exact br_f (Int32.not_le.mpr a2) (hb (fun z => z.2 a2))
        · exact br_t (Int32.not_lt.mp a2) (ha ⟨a1, a2⟩)
  by_cases al : ∀ i, i < r * c → ¬ d i < 0 ∧ ¬ (if r * c = 1 then 36 else 6) < d i
  case neg =>
    rw [if_neg al] at hP
    have q := ay_Pe (by decide) hP
    refine ap_ls (fun n i => wY_reshape_46 post (nI x) (nI y) (nI (r * c)) ct lv 0 tx rk rw wd dt wt fi n (nI i)) (fun i => ∃ j, i ≤ j ∧ j < r * c ∧ ¬ (¬ d j < 0 ∧ ¬ (if r * c = 1 then 36 else 6) < d j)) (r * c) (fun ⟨j, a, b, _⟩ => by omega) (fun n i hi hq hk => ?_) ?_
    · refine st n i hi (fun ok => hk ?_) (fun _ => q)
      obtain ⟨j, a, b, g⟩ := hq
      refine ⟨j, ?_, b, g⟩
      by_cases ej : j = i
      · subst ej; exact absurd ok g
      · omega
    · apply Classical.byContradiction
      intro no
      exact al (fun i hi => Classical.byContradiction (fun g => no ⟨i, by omega, hi, g⟩))
  rw [if_pos al] at hP ok
  have ok36 := ap_v36 ok
  dsimp only at ok36
  generalize hG : (fun i : Nat => if s * t = 0 then (0 : Int32) else e (i % (s * t))) = G at *
  have G0 : s * t = 0 → ∀ i, (0 : Int32) = G i := fun h i => by rw [← hG]; exact (if_pos h).symm
  have G1 : ¬ s * t = 0 → ∀ i, e (i % (s * t)) = G i := fun h i => by rw [← hG]; exact (if_neg h).symm
  refine ap_ls (fun n i => wY_reshape_46 post (nI x) (nI y) (nI (r * c)) ct lv 0 tx rk rw wd dt wt fi n (nI i)) (fun _ => True) (r * c) (fun _ n => ?_) (fun n i hi _ hk => st n i hi (fun _ => hk trivial) (fun g => absurd (al i hi) g)) trivial
  have L : ∀ A B C : Nat, ap_VS C A B → ay_P post ct lv tx rk rw wd dt wt fi (0, C, A, B, G) → wY_reshape_130 post (nI y) (nI (ap_w C B)) (nI (ap_fl C A B)) (nI C) 13 ct lv 0 tx rk rw wd dt wt fi := by
    intro A B C vs hp
    have hz := ap_v36 vs
    have p := ay_Pk hz hp
    have flx := ap_flw vs
    have g1 := ap_flb vs
    have g2 := ap_wb vs
    have j2 : upd rw 13 (nI (ap_fl C A B)) y = nI (ap_fl S s t) := by rw [pk_un (by omega)]; exact k2
    have j3 : upd wd 13 (nI (ap_w C B)) y = nI (ap_w S t) := by rw [pk_un (by omega)]; exact k3
    simp (disch := omega) only [wY_reshape_130, ay_s3 _ vs, ay_sz, j2, j3, flw, vp_in_nI, nI_clamp, nI_leI, nI_ltI, nI_eq, nI_add, nI_1, pk_mul, an_m36, an_n36, an_b468, forall_eq, true_and, and_true, true_implies, false_implies, not_true, not_false_iff, implies_true, pk_un, pk_us, ap_wrN, ap_wrS]
    refine ap_le (fun n i a => wY_reshape_143 post (nI y) (nI (s * t)) n (nI i) ct lv 0 tx (upd rk 13 (nI C)) (upd rw 13 (nI (ap_fl C A B))) (upd wd 13 (nI (ap_w C B))) a wt fi)
      (fun i => ap_wr dt G i) (A * B) (ap_wr0 _ _) (fun n => ?_) (fun n i hi ih => ?_)
    · have z : A * B ≤ A * B := Nat.le_refl _
      simp (disch := omega) only [wY_reshape_143, ay_s13, flx, z, vp_in_nI, nI_clamp, nI_leI, nI_ltI, nI_eq, nI_add, nI_1, pk_mul, an_m36, an_n36, an_b468, forall_eq, true_and, and_true, true_implies, false_implies, not_true, not_false_iff, implies_true, pk_un, pk_us, ap_wrN, ap_wrS]
      exact p
    · have z : ¬ A * B ≤ i := by omega
      by_cases s0 : s * t = 0
      · have eq := G0 s0 i
        simp (disch := omega) only [wY_reshape_143, wY_reshape_176, ay_s13, ay_mk, flx, z, an_e0, s0, vp_in_nI, nI_clamp, nI_leI, nI_ltI, nI_eq, nI_add, nI_1, pk_mul, an_m36, an_n36, an_b468, forall_eq, true_and, and_true, true_implies, false_implies, not_true, not_false_iff, implies_true, pk_un, pk_us, ap_wrN, ap_wrS]
        rw [s0] at ih
        rw [ap_wrE eq]
        exact ih
      · have m := Nat.mod_lt i (show 0 < s * t by omega)
        have eq := G1 s0 i
        simp (disch := omega) only [wY_reshape_143, wY_reshape_176, ay_s13, ay_at, ay_mk, flx, z, an_e0, s0, pk_rem, k4, vp_in_nI, nI_clamp, nI_leI, nI_ltI, nI_eq, nI_add, nI_1, pk_mul, an_m36, an_n36, an_b468, forall_eq, true_and, and_true, true_implies, false_implies, not_true, not_false_iff, implies_true, pk_un, pk_us, ap_wrN, ap_wrS]
        rw [ap_wrE eq]
        exact ih
  have a0 : ∀ i, i < r * c → d i = nI (d i).toNatClampNeg := fun i hi => by
    obtain ⟨j, hj, ej⟩ := nI_of (al i hi).1
    rw [ej, nI_clamp hj]
  have z : r * c ≤ r * c := Nat.le_refl _
  have at1 := fun (P : Int32 → Prop) => ay_at (ct := ct) (lv := lv) (er := 0) (tx := tx) (rk := rk) (rw := rw) (wd := wd) (dt := dt) (wt := wt) (fi := fi) P (h := x) (i := 1) (by omega)
  rw [show nI 1 = 1 from rfl] at at1
  simp (disch := omega) only [wY_reshape_46, wY_reshape_115, ay_a0, at1, z, an_l0, an_l1, vp_in_nI, nI_clamp, nI_leI, nI_ltI, nI_eq, nI_add, nI_1, pk_mul, an_m36, an_n36, an_b468, forall_eq, true_and, and_true, true_implies, false_implies, not_true, not_false_iff, implies_true, pk_un, pk_us, ap_wrN, ap_wrS]
  generalize r * c = m at *
  rcases (by omega : m = 0 ∨ m = 1 ∨ m = 2) with rfl | rfl | rfl
  · have l := L 1 1 0 ok hP
    exact br_t (by omega) (br_t (by omega) l)
  · have l := L 1 (d 0).toNatClampNeg 1 ok hP
    have d0 := h4 0 (by omega)
    rw [Nat.add_zero] at d0
    refine br_f (by omega) (br_t (by omega) ?_)
    rw [d0, a0 0 (by omega)]
    exact l
  · have l := L (d 0).toNatClampNeg (d 1).toNatClampNeg 2 ok hP
    have d0 := h4 0 (by omega)
    rw [Nat.add_zero] at d0
    have d1 := h4 1 (by omega)
    refine br_f (by omega) (br_f (by omega) ?_)
    rw [d0, d1, a0 0 (by omega), a0 1 (by omega)]
    exact l
theorem ay_count {post : SY → Prop} {y R r c : Nat} {d : Nat → Int32} (y1 : 14 ≤ y) (y2 : y < 50) (V : ap_VS R r c) (H : ap_Y rk rw wd dt y R r c d)
    (hP : ay_P post ct lv tx rk rw wd dt wt fi (ap_count R d)) : wpY_upTo post (ct, lv, 0, tx, rk, rw, wd, dt, wt, fi) (nI y) := by
  obtain ⟨h1, h2, h3, h4⟩ := H
  have vb := ap_vb V
  unfold ap_count at hP
  by_cases e1 : R = 0
  case neg =>
    rw [if_neg e1] at hP
    have q := ay_Pe (by decide) hP
    simp (disch := omega) only [wpY_upTo, h1, an_e0, e1, vp_in_nI, nI_clamp, nI_leI, nI_ltI, nI_eq, nI_add, nI_1, pk_mul, an_m36, an_n36, an_b468, forall_eq, true_and, and_true, true_implies, false_implies, not_true, not_false_iff, implies_true, pk_un, pk_us, ap_wrN, ap_wrS]
    exact q
  rw [if_pos e1] at hP
  subst e1
  obtain ⟨rfl, rfl⟩ := ap_v0 V
  have d0 := h4 0 (by omega)
  rw [Nat.add_zero] at d0
  by_cases a1 : d 0 < 0
  · rw [if_pos (Or.inl a1)] at hP
    have q := ay_Pe (by decide) hP
    simp (disch := omega) only [wpY_upTo, h1, an_e0, ay_a0, d0, a1, vp_in_nI, nI_clamp, nI_leI, nI_ltI, nI_eq, nI_add, nI_1, pk_mul, an_m36, an_n36, an_b468, forall_eq, true_and, and_true, true_implies, false_implies, not_true, not_false_iff, implies_true, pk_un, pk_us, ap_wrN, ap_wrS]
    exact q
  by_cases a2 : 36 < d 0
  · rw [if_pos (Or.inr a2)] at hP
    have q := ay_Pe (by decide) hP
    simp (disch := omega) only [wpY_upTo, h1, an_e0, ay_a0, d0, a1, Int32.not_le.mpr a2, vp_in_nI, nI_clamp, nI_leI, nI_ltI, nI_eq, nI_add, nI_1, pk_mul, an_m36, an_n36, an_b468, forall_eq, true_and, and_true, true_implies, false_implies, not_true, not_false_iff, implies_true, pk_un, pk_us, ap_wrN, ap_wrS]
    exact q
  rw [if_neg (fun z => z.elim a1 a2)] at hP
  obtain ⟨j, hj, ej⟩ := nI_of a1
  have j36 := ap_c36 (m := 36) (by decide) a2
  rw [ej, nI_clamp hj] at j36
  rw [ej] at a2 d0
  rw [ej, nI_clamp hj] at hP
  have z0 : ¬ nI j < 0 := nI_pos hj
  have sh := fun (P : SY → Prop) (a b : Int32) => ay_sh (ct := ct) (lv := lv) (er := 0) (tx := tx) (rk := rk) (rw := rw) (wd := wd) (dt := dt) (wt := wt) (fi := fi) P (R := 1) (by omega) a b
  rw [show nI 1 = 1 from rfl] at sh
  simp (disch := omega) only [wpY_upTo, h1, an_e0, ay_a0, d0, z0, sh, an_l36, j36, vp_in_nI, nI_clamp, nI_leI, nI_ltI, nI_eq, nI_add, nI_1, pk_mul, an_m36, an_n36, an_b468, forall_eq, true_and, and_true, true_implies, false_implies, not_true, not_false_iff, implies_true, pk_un, pk_us, ap_wrN, ap_wrS]
  refine ap_le (fun n i a => wY_upTo_63 post n (nI i) ct lv 0 tx (upd rk 13 1) (upd rw 13 (if 1 = 0 then 1 else nI j)) (upd wd 13 (if 1 < 2 then 1 else 1)) a wt fi)
    (fun i => ap_wr dt (fun i => nI i) i) 36 (ap_wr0 _ _) (fun n => ?_) (fun n i hi ih => ?_)
  · refine br_t (by decide) (hP _ _ _ _ ⟨fun _ h => ⟨pk_un h, pk_un h, pk_un h⟩, fun _ h => ap_wrN (by omega) (by omega)⟩ (fun _ => ⟨pk_us, pk_us, pk_us, fun i h => ?_⟩))
    have hi : i < 1 * j := h
    rw [show 13 * 36 + i = 468 + i from rfl, ap_wrI (by omega)]
  · have z : ¬ 36 ≤ i := by omega
    simp (disch := omega) only [wY_upTo_63, an_g36, ay_mk, z, vp_in_nI, nI_clamp, nI_leI, nI_ltI, nI_eq, nI_add, nI_1, pk_mul, an_m36, an_n36, an_b468, forall_eq, true_and, and_true, true_implies, false_implies, not_true, not_false_iff, implies_true, pk_un, pk_us, ap_wrN, ap_wrS]
    exact ih
theorem ay_fpL {post : SY → Prop} {J : Int32 → Int32 → Int32 → Int32 → (Nat → Int32) → (Nat → Int32) → (Nat → Int32) → (Nat → Int32) → (Nat → Int32) → (Nat → Int32) → (Nat → Int32) → Prop} {x y k c : Nat} {w : Int32} {d : Nat → Int32} (x2 : x < 50) (hc : rw x = nI c) (c36 : c ≤ 36) (hd : ∀ k, k < c → dt (x * 36 + k) = d k) (hk : k < 36) (hw : dt (y * 36 + k) = w) (y2 : y < 50) :
    ∀ m i n, i + m = c → m < n → J (nI (k + 1)) ct lv er tx rk rw wd (upd dt (468 + k) (nI (ap_fp (fun k => decide (d k = w)) m i))) wt fi → wY_findAll_55 post J (nI x) (nI y) (nI k) ct lv er tx rk rw wd dt wt fi n (nI i) := by
  intro m
  induction m with
  | zero =>
    intro i n h1 hn hp
    obtain ⟨n, rfl⟩ : ∃ k, n = k + 1 := ⟨n - 1, by omega⟩
    have z2 : c ≤ i := by omega
    simp (disch := omega) only [wY_findAll_55, wY_findAll_88, ay_mk, hc, z2, vp_in_nI, nI_clamp, nI_leI, nI_ltI, nI_eq, nI_add, nI_1, pk_mul, an_m36, an_n36, an_b468, forall_eq, true_and, and_true, true_implies, false_implies, not_true, not_false_iff, implies_true, pk_un, pk_us, ap_wrN, ap_wrS]
    exact hp
  | succ m ih =>
    intro i n h1 hn hp
    obtain ⟨n, rfl⟩ : ∃ k, n = k + 1 := ⟨n - 1, by omega⟩
    have z : ¬ c ≤ i := by omega
    unfold ap_fp at hp
    simp (disch := omega) only [wY_findAll_55, wY_findAll_88, ay_at, ay_mk, hc, z, hd, hw, vp_in_nI, nI_clamp, nI_leI, nI_ltI, nI_eq, nI_add, nI_1, pk_mul, an_m36, an_n36, an_b468, forall_eq, true_and, and_true, true_implies, false_implies, not_true, not_false_iff, implies_true, pk_un, pk_us, ap_wrN, ap_wrS]
    by_cases a : d i = w
    · rw [if_pos (by rw [a]; simp)] at hp
      exact br_t a hp
    · rw [if_neg (by simp [a])] at hp
      exact br_f a (ih (i + 1) n (by omega) (by omega) hp)
theorem ay_find {post : SY → Prop} {x y R r c S s t : Nat} {d e : Nat → Int32} (x1 : 14 ≤ x) (x2 : x < 50) (y1 : 14 ≤ y) (y2 : y < 50)
    (V : ap_VS R r c) (H : ap_Y rk rw wd dt x R r c d) (W : ap_VS S s t) (K : ap_Y rk rw wd dt y S s t e)
    (hP : ay_P post ct lv tx rk rw wd dt wt fi (ap_find R c d S s t e)) : wpY_findAll post (ct, lv, 0, tx, rk, rw, wd, dt, wt, fi) (nI x) (nI y) := by
  obtain ⟨h1, h2, h3, h4⟩ := H
  obtain ⟨k1, k2, k3, k4⟩ := K
  have vb := ap_vb V
  have wb := ap_vb W
  have w36 := ap_v36 W
  have flw := ap_flw W
  have f2 := ap_flb W
  have f4 := ap_wb W
  unfold ap_find at hP
  by_cases e1 : R = 1
  case neg =>
    rw [if_neg e1] at hP
    have q := ay_Pe (by decide) hP
    simp (disch := omega) only [wpY_findAll, h1, an_e1, e1, vp_in_nI, nI_clamp, nI_leI, nI_ltI, nI_eq, nI_add, nI_1, pk_mul, an_m36, an_n36, an_b468, forall_eq, true_and, and_true, true_implies, false_implies, not_true, not_false_iff, implies_true, pk_un, pk_us, ap_wrN, ap_wrS]
    exact q
  rw [if_pos e1] at hP
  subst e1
  have r1 := ap_v1 V (by omega)
  subst r1
  have q := ay_Pk w36 hP
  simp (disch := omega) only [wpY_findAll, h1, k1, k2, k3, an_e1, ay_s3 _ W, vp_in_nI, nI_clamp, true_and, true_implies, not_true, false_implies, and_true]
  refine ap_le (fun n i a => wY_findAll_43 post (nI x) (nI y) n (nI i) ct lv 0 tx (upd rk 13 (nI S)) (upd rw 13 (nI (ap_fl S s t))) (upd wd 13 (nI (ap_w S t))) a wt fi)
    (fun i => ap_wr dt (fun i => nI (ap_fp (fun k => decide (d k = e i)) c 0)) i) (s * t) (ap_wr0 _ _) (fun n => ?_) (fun n i hi ih => ?_)
  · have z : s * t ≤ s * t := Nat.le_refl _
    simp (disch := omega) only [wY_findAll_43, ay_sz, k2, k3, flw, z, vp_in_nI, nI_clamp, nI_leI, nI_ltI, nI_eq, nI_add, nI_1, pk_mul, an_m36, an_n36, an_b468, forall_eq, true_and, and_true, true_implies, false_implies, not_true, not_false_iff, implies_true, pk_un, pk_us, ap_wrN, ap_wrS]
    exact q
  · have z : ¬ s * t ≤ i := by omega
    simp (disch := omega) only [wY_findAll_43, ay_sz, k2, k3, flw, z, vp_in_nI, nI_clamp, nI_leI, nI_ltI, nI_eq, nI_add, nI_1, pk_mul, an_m36, an_n36, an_b468, forall_eq, true_and, and_true, true_implies, false_implies, not_true, not_false_iff, implies_true, pk_un, pk_us, ap_wrN, ap_wrS]
    refine ⟨c + 1, ay_fpL (d := d) (c := c) (w := e i) x2 (by rw [pk_un (by omega)]; exact h2) vb.2.2 (fun k hk => ?_) (by omega) ?_ y2 c 0 (c + 1) (by omega) (by omega) ?_⟩
    · rw [ap_wrN (by omega) (by omega)]
      exact h4 k (by omega)
    · rw [ap_wrN (by omega) (by omega)]
      exact k4 i hi
    · rw [ap_wrS dt (fun i => nI (ap_fp (fun k => decide (d k = e i)) c 0)) i]
      exact ih
end
