/-! X: shape, count, turn, back -/
theorem ap_wr1 (a : Nat → Int32) (v : Int32) : upd a 468 v = ap_wr a (fun _ => v) 1 := by
  have h := ap_wrS a (fun _ => v) 0
  rw [ap_wr0] at h
  exact h
section
variable {tc lv : Int32} {tx rk rw cl nb gv wt : Nat → Int32}
theorem ax_shape {post : SX → Prop} {y R r c : Nat} {d : Nat → Int32} (y1 : 14 ≤ y) (y2 : y < 46) (V : ap_VS R r c) (H : ap_X rk rw cl nb y R r c d)
    (hP : ax_Q post tc lv tx rk rw cl nb gv wt (ap_shape R r c)) : wpX_shapeOf post (tc, lv, tx, rk, rw, cl, nb, gv, wt) (nI y) := by
  obtain ⟨h1, h2, h3, h4⟩ := H
  have vb := ap_vb V
  have j1 : upd rk 13 1 y = nI R := by rw [pk_un (by omega)]; exact h1
  have j2 : upd rw 13 1 y = nI r := by rw [pk_un (by omega)]; exact h2
  have j3 : upd cl 13 (nI R) y = nI c := by rw [pk_un (by omega)]; exact h3
  have w : upd (upd nb 468 (nI (ap_fl R r c))) 469 (nI c) = ap_wr nb (fun i => if i = 0 then nI (if R = 2 then r else c) else nI c) 2 := by
    have a := ap_wrS nb (fun i => if i = 0 then nI (if R = 2 then r else c) else nI c) 0
    have b := ap_wrS nb (fun i => if i = 0 then nI (if R = 2 then r else c) else nI c) 1
    rw [← a, ap_wr0] at b
    exact b
  simp (disch := omega) only [wpX_shapeOf, ax_s13, h1, ax_fl _ y2 vb.1 j1 j2 j3, j3, w, vp_in_nI, nI_clamp, nI_leI, nI_ltI, nI_eq, nI_add, nI_1, pk_mul, an_m36, an_n36, an_b468, forall_eq, true_and, and_true, true_implies, false_implies, not_true, not_false_iff, implies_true, pk_un, pk_us, ap_wrN, ap_wrS]
  refine hP _ _ _ _ ⟨fun _ h => ⟨pk_un h, pk_un h, pk_un h⟩, fun _ h => ap_wrN (by omega) (by omega)⟩ ⟨pk_us, pk_us, pk_us, fun i h => ap_wrI ?_⟩
  have : i < 1 * R := h
  omega
theorem ax_resh {post : Int32 → SX → Prop} {x y R r c S s t : Nat} {d e : Nat → Int32} (x1 : 14 ≤ x) (x2 : x < 46) (y1 : 14 ≤ y) (y2 : y < 46)
    (V : ap_VS R r c) (H : ap_X rk rw cl nb x R r c d) (W : ap_VS S s t) (K : ap_X rk rw cl nb y S s t e)
    (hP : ax_P post tc lv tx rk rw cl nb gv wt (ap_resh R r c d s t e)) : wpX_reshape post (tc, lv, tx, rk, rw, cl, nb, gv, wt) (nI x) (nI y) := by
  have ok := ap_reshV (R := R) (r := r) (c := c) (d := d) (s := s) (t := t) (e := e)
  obtain ⟨h1, h2, h3, h4⟩ := H
  obtain ⟨k1, k2, k3, k4⟩ := K
  have vb := ap_vb V
  have v36 := ap_v36 V
  have w36 := ap_v36 W
  have wb := ap_vb W
  unfold ap_resh at hP ok
  by_cases e1 : R = 2
  · rw [if_pos e1] at hP
    have q := ax_Pe (by decide) hP
    simp (disch := omega) only [wpX_reshape, ax_sz, h1, h2, h3, an_e2, e1, vp_in_nI, nI_clamp, nI_leI, nI_ltI, nI_eq, nI_add, nI_1, pk_mul, an_m36, an_n36, an_b468, forall_eq, true_and, and_true, true_implies, false_implies, not_true, not_false_iff, implies_true, pk_un, pk_us, ap_wrN, ap_wrS]
    exact q
  rw [if_neg e1] at hP ok
  by_cases e2 : 2 < r * c
  · rw [if_pos e2] at hP
    have q := ax_Pe (by decide) hP
    have z : ¬ r * c ≤ 2 := by omega
    simp (disch := omega) only [wpX_reshape, ax_sz, h1, h2, h3, an_e2, an_l2, e1, z, vp_in_nI, nI_clamp, nI_leI, nI_ltI, nI_eq, nI_add, nI_1, pk_mul, an_m36, an_n36, an_b468, forall_eq, true_and, and_true, true_implies, false_implies, not_true, not_false_iff, implies_true, pk_un, pk_us, ap_wrN, ap_wrS]
    exact q
  rw [if_neg e2] at hP ok
  have z2 : r * c ≤ 2 := by omega
  have M : (∃ n, wX_reshape_44 post (nI x) (nI y) (nI (r * c)) (if r * c = 1 then 36 else 6) tc lv tx rk rw cl nb gv wt n 0) → wpX_reshape post (tc, lv, tx, rk, rw, cl, nb, gv, wt) (nI x) (nI y) := by
    intro h
    by_cases e3 : r * c = 1
    · rw [if_pos e3] at h
      simp (disch := omega) only [wpX_reshape, ax_sz, h1, h2, h3, an_e2, an_l2, an_e1, e1, z2, vp_in_nI, nI_clamp, nI_leI, nI_ltI, nI_eq, nI_add, nI_1, pk_mul, an_m36, an_n36, an_b468, forall_eq, true_and, and_true, true_implies, false_implies, not_true, not_false_iff, implies_true, pk_un, pk_us, ap_wrN, ap_wrS]
      simp only [e3, true_implies, not_true, false_implies, and_true] at h ⊢
      exact h
    · rw [if_neg e3] at h
      simp (disch := omega) only [wpX_reshape, ax_sz, h1, h2, h3, an_e2, an_l2, an_e1, e1, z2, e3, vp_in_nI, nI_clamp, nI_leI, nI_ltI, nI_eq, nI_add, nI_1, pk_mul, an_m36, an_n36, an_b468, forall_eq, true_and, and_true, true_implies, false_implies, not_true, not_false_iff, implies_true, pk_un, pk_us, ap_wrN, ap_wrS]
      exact h
  apply M
  generalize (if r * c = 1 then (36 : Int32) else 6) = mx at *
  have st : ∀ n i, i < r * c → ((¬ d i < 0 ∧ ¬ mx < d i) → wX_reshape_44 post (nI x) (nI y) (nI (r * c)) mx tc lv tx rk rw cl nb gv wt n (nI (i + 1))) → (¬ (¬ d i < 0 ∧ ¬ mx < d i) → post (-15) (tc, lv, tx, rk, rw, cl, nb, gv, wt)) →
      wX_reshape_44 post (nI x) (nI y) (nI (r * c)) mx tc lv tx rk rw cl nb gv wt (n + 1) (nI i) := by
    intro n i hi ha hb
    have z : ¬ r * c ≤ i := by omega
    simp (disch := omega) only [wX_reshape_44, z, h4, vp_in_nI, nI_clamp, nI_leI, nI_ltI, nI_eq, nI_add, nI_1, pk_mul, an_m36, an_n36, an_b468, forall_eq, true_and, and_true, true_implies, false_implies, not_true, not_false_iff, implies_true, pk_un, pk_us, ap_wrN, ap_wrS]
    by_cases a1 : d i < 0
    · simp only [a1, true_implies, not_true, false_implies, and_true]
      exact hb (fun z => z.1 a1)
    · simp only [a1, false_implies, not_false_iff, true_implies, true_and]
      by_cases a2 : mx < d i
      · simp only [Int32.not_le.mpr a2, false_implies, not_false_iff, true_implies, true_and]
        exact hb (fun z => z.2 a2)
      · simp only [Int32.not_lt.mp a2, true_implies, not_true, false_implies, and_true]
        exact ha ⟨a1, a2⟩
  by_cases al : ∀ i, i < r * c → ¬ d i < 0 ∧ ¬ mx < d i
  case neg =>
    rw [if_neg al] at hP
    have q := ax_Pe (by decide) hP
    refine ap_ls (fun n i => wX_reshape_44 post (nI x) (nI y) (nI (r * c)) mx tc lv tx rk rw cl nb gv wt n (nI i)) (fun i => ∃ j, i ≤ j ∧ j < r * c ∧ ¬ (¬ d j < 0 ∧ ¬ mx < d j)) (r * c) (fun ⟨j, a, b, _⟩ => by omega) (fun n i hi hq hk => ?_) ?_
    · refine st n i hi (fun ok => hk ?_) (fun _ => q)
      obtain ⟨j, a, b, g⟩ := hq
      refine ⟨j, ?_, b, g⟩
      by_cases ej : j = i
      · subst ej; exact absurd ok g
      · omega
    · apply Classical.byContradiction
      intro no
      exact al (fun i hi => Classical.byContradiction (fun g => no ⟨i, by omega, hi, g⟩))
  rw [if_pos al] at hP ok
  have ok36 := ap_v36 ok
  dsimp only at ok36
  have q := ax_Pk ok36 hP
  generalize hG : (fun i : Nat => if s * t = 0 then (0 : Int32) else e (i % (s * t))) = G at *
  have G0 : s * t = 0 → ∀ i, (0 : Int32) = G i := fun h i => by rw [← hG]; exact (if_pos h).symm
  have G1 : ¬ s * t = 0 → ∀ i, e (i % (s * t)) = G i := fun h i => by rw [← hG]; exact (if_neg h).symm
  refine ap_ls (fun n i => wX_reshape_44 post (nI x) (nI y) (nI (r * c)) mx tc lv tx rk rw cl nb gv wt n (nI i)) (fun _ => True) (r * c) (fun _ n => ?_) (fun n i hi _ hk => st n i hi (fun _ => hk trivial) (fun g => absurd (al i hi) g)) trivial
  have L : ∀ A B C : Nat, A * B ≤ 36 → post 0 (tc, lv, tx, upd rk 13 (nI C), upd rw 13 (nI A), upd cl 13 (nI B), ap_wr nb G (A * B), gv, wt) →
      wX_reshape_126 post (nI y) (nI C) (nI A) (nI B) tc lv tx rk rw cl nb gv wt := by
    intro A B C hz p
    have j2 : upd rw 13 (nI A) y = nI s := by rw [pk_un (by omega)]; exact k2
    have j3 : upd cl 13 (nI B) y = nI t := by rw [pk_un (by omega)]; exact k3
    simp (disch := omega) only [wX_reshape_126, ax_s13, ax_sz, j2, j3, vp_in_nI, nI_clamp, nI_leI, nI_ltI, nI_eq, nI_add, nI_1, pk_mul, an_m36, an_n36, an_b468, forall_eq, true_and, and_true, true_implies, false_implies, not_true, not_false_iff, implies_true, pk_un, pk_us, ap_wrN, ap_wrS]
    refine ap_le (fun n i a => wX_reshape_149 post (nI y) (nI A) (nI B) (nI (s * t)) tc lv n (nI i) tx (upd rk 13 (nI C)) (upd rw 13 (nI A)) (upd cl 13 (nI B)) a gv wt)
      (fun i => ap_wr nb G i) (A * B) (ap_wr0 _ _) (fun n => ?_) (fun n i hi ih => ?_)
    · have z : A * B ≤ A * B := Nat.le_refl _
      simp (disch := omega) only [wX_reshape_149, z, vp_in_nI, nI_clamp, nI_leI, nI_ltI, nI_eq, nI_add, nI_1, pk_mul, an_m36, an_n36, an_b468, forall_eq, true_and, and_true, true_implies, false_implies, not_true, not_false_iff, implies_true, pk_un, pk_us, ap_wrN, ap_wrS]
      exact p
    · have z : ¬ A * B ≤ i := by omega
      by_cases s0 : s * t = 0
      · have eq := G0 s0 i
        simp (disch := omega) only [wX_reshape_149, z, an_e0, s0, vp_in_nI, nI_clamp, nI_leI, nI_ltI, nI_eq, nI_add, nI_1, pk_mul, an_m36, an_n36, an_b468, forall_eq, true_and, and_true, true_implies, false_implies, not_true, not_false_iff, implies_true, pk_un, pk_us, ap_wrN, ap_wrS]
        rw [s0] at ih
        rw [ap_wrE eq]
        exact ih
      · have m := Nat.mod_lt i (show 0 < s * t by omega)
        have eq := G1 s0 i
        simp (disch := omega) only [wX_reshape_149, z, an_e0, s0, pk_rem, k4, vp_in_nI, nI_clamp, nI_leI, nI_ltI, nI_eq, nI_add, nI_1, pk_mul, an_m36, an_n36, an_b468, forall_eq, true_and, and_true, true_implies, false_implies, not_true, not_false_iff, implies_true, pk_un, pk_us, ap_wrN, ap_wrS]
        rw [ap_wrE eq]
        exact ih
  have a0 : ∀ i, i < r * c → d i = nI (d i).toNatClampNeg := fun i hi => by
    obtain ⟨j, hj, ej⟩ := nI_of (al i hi).1
    rw [ej, nI_clamp hj]
  have z : r * c ≤ r * c := Nat.le_refl _
  simp (disch := omega) only [wX_reshape_44, z, an_e2, vp_in_nI, nI_clamp, nI_leI, nI_ltI, nI_eq, nI_add, nI_1, pk_mul, an_m36, an_n36, an_b468, forall_eq, true_and, and_true, true_implies, false_implies, not_true, not_false_iff, implies_true, pk_un, pk_us, ap_wrN, ap_wrS]
  generalize r * c = m at *
  rcases (by omega : m = 0 ∨ m = 1 ∨ m = 2) with rfl | rfl | rfl
  · have l := L 1 1 0 (by omega) q
    simp only [show ¬ (0 : Nat) = 2 by omega, false_implies, not_false_iff, true_implies, true_and]
    exact br_t rfl l
  · have l := L 1 (d 0).toNatClampNeg 1 ok36 q
    simp only [show ¬ (1 : Nat) = 2 by omega, false_implies, not_false_iff, true_implies, true_and]
    refine br_f (by decide) ?_
    have e9 : nI x * 36 + nI 1 - 1 = nI (x * 36) := by rw [an_m36, nI_add, an_s1 (by omega), Nat.add_sub_cancel]
    rw [e9, nI_clamp (by omega)]
    have d0 := h4 0 (by omega)
    rw [Nat.add_zero] at d0
    rw [d0, a0 0 (by omega)]
    refine ⟨vp_in_nI (by omega) (by omega), ?_⟩
    exact l
  · have l := L (d 0).toNatClampNeg (d 1).toNatClampNeg 2 ok36 q
    simp only [not_true, false_implies, true_implies, and_true]
    have d0 := h4 0 (by omega)
    rw [Nat.add_zero] at d0
    have d1 := h4 1 (by omega)
    have e9 : nI x * 36 + nI 2 - 1 = nI (x * 36 + 1) := by rw [an_m36, nI_add, an_s1 (by omega)]; rfl
    refine br_f (by decide) ?_
    rw [e9, nI_clamp (by omega), d0, d1, a0 0 (by omega), a0 1 (by omega)]
    refine ⟨vp_in_nI (by omega) (by omega), ?_⟩
    exact l
theorem ax_count {post : Int32 → SX → Prop} {y R r c : Nat} {d : Nat → Int32} (y1 : 14 ≤ y) (y2 : y < 46) (V : ap_VS R r c) (H : ap_X rk rw cl nb y R r c d)
    (hP : ax_P post tc lv tx rk rw cl nb gv wt (ap_count R d)) : wpX_countTo post (tc, lv, tx, rk, rw, cl, nb, gv, wt) (nI y) := by
  obtain ⟨h1, h2, h3, h4⟩ := H
  have vb := ap_vb V
  unfold ap_count at hP
  by_cases e1 : R = 0
  case neg =>
    rw [if_neg e1] at hP
    have q := ax_Pe (by decide) hP
    simp (disch := omega) only [wpX_countTo, h1, an_e0, e1, vp_in_nI, nI_clamp, nI_leI, nI_ltI, nI_eq, nI_add, nI_1, pk_mul, an_m36, an_n36, an_b468, forall_eq, true_and, and_true, true_implies, false_implies, not_true, not_false_iff, implies_true, pk_un, pk_us, ap_wrN, ap_wrS]
    exact q
  rw [if_pos e1] at hP
  subst e1
  obtain ⟨rfl, rfl⟩ := ap_v0 V
  have d0 := h4 0 (by omega)
  rw [Nat.add_zero] at d0
  by_cases a1 : d 0 < 0
  · rw [if_pos (Or.inl a1)] at hP
    have q := ax_Pe (by decide) hP
    simp (disch := omega) only [wpX_countTo, h1, an_e0, d0, a1, vp_in_nI, nI_clamp, nI_leI, nI_ltI, nI_eq, nI_add, nI_1, pk_mul, an_m36, an_n36, an_b468, forall_eq, true_and, and_true, true_implies, false_implies, not_true, not_false_iff, implies_true, pk_un, pk_us, ap_wrN, ap_wrS]
    exact q
  by_cases a2 : 36 < d 0
  · rw [if_pos (Or.inr a2)] at hP
    have q := ax_Pe (by decide) hP
    simp (disch := omega) only [wpX_countTo, h1, an_e0, d0, a1, Int32.not_le.mpr a2, vp_in_nI, nI_clamp, nI_leI, nI_ltI, nI_eq, nI_add, nI_1, pk_mul, an_m36, an_n36, an_b468, forall_eq, true_and, and_true, true_implies, false_implies, not_true, not_false_iff, implies_true, pk_un, pk_us, ap_wrN, ap_wrS]
    exact q
  rw [if_neg (fun z => z.elim a1 a2)] at hP
  obtain ⟨j, hj, ej⟩ := nI_of a1
  have j36 := ap_c36 (m := 36) (by decide) a2
  rw [ej, nI_clamp hj] at j36
  have q := ax_Pk (show 1 * (d 0).toNatClampNeg ≤ 36 by rw [ej, nI_clamp hj]; omega) hP
  rw [ej, nI_clamp hj, Nat.one_mul] at q
  rw [ej] at a2 d0
  have a3 := Int32.not_lt.mp a2
  have z0 : ¬ nI j < 0 := nI_pos hj
  simp (disch := omega) only [wpX_countTo, h1, an_e0, d0, z0, ax_s13, an_l36, j36, vp_in_nI, nI_clamp, nI_leI, nI_ltI, nI_eq, nI_add, nI_1, pk_mul, an_m36, an_n36, an_b468, forall_eq, true_and, and_true, true_implies, false_implies, not_true, not_false_iff, implies_true, pk_un, pk_us, ap_wrN, ap_wrS]
  refine ap_le (fun n i a => wX_countTo_46 post (nI j) tc lv n (nI i) tx (upd rk 13 1) (upd rw 13 1) (upd cl 13 (nI j)) a gv wt)
    (fun i => ap_wr nb (fun i => nI i) i) j (ap_wr0 _ _) (fun n => ?_) (fun n i hi ih => ?_)
  · exact br_t (nI_le (Nat.le_refl _) (by omega)) q
  · have z : ¬ j ≤ i := by omega
    simp (disch := omega) only [wX_countTo_46, z, vp_in_nI, nI_clamp, nI_leI, nI_ltI, nI_eq, nI_add, nI_1, pk_mul, an_m36, an_n36, an_b468, forall_eq, true_and, and_true, true_implies, false_implies, not_true, not_false_iff, implies_true, pk_un, pk_us, ap_wrN, ap_wrS]
    exact ih
theorem ax_fpL (post : Int32 → Prop) {x c : Nat} {w : Int32} {d : Nat → Int32} (x2 : x < 46) (hc : cl x = nI c) (c36 : c ≤ 36) (hd : ∀ k, k < c → nb (x * 36 + k) = d k) :
    ∀ m i n, i + m = c → m < n → post (nI (ap_fp (fun k => decide (d k = w)) m i)) → wX_firstPlace_2 post (nI x) w tc lv tx rk rw cl nb gv wt n (nI i) := by
  intro m
  induction m with
  | zero =>
    intro i n h1 hn hp
    obtain ⟨n, rfl⟩ : ∃ k, n = k + 1 := ⟨n - 1, by omega⟩
    have z : i = c := by omega
    have z2 : c ≤ i := by omega
    simp (disch := omega) only [wX_firstPlace_2, hc, z2, vp_in_nI, nI_clamp, nI_leI, nI_ltI, nI_eq, nI_add, nI_1, pk_mul, an_m36, an_n36, an_b468, forall_eq, true_and, and_true, true_implies, false_implies, not_true, not_false_iff, implies_true, pk_un, pk_us, ap_wrN, ap_wrS]
    rw [← z]
    exact hp
  | succ m ih =>
    intro i n h1 hn hp
    obtain ⟨n, rfl⟩ : ∃ k, n = k + 1 := ⟨n - 1, by omega⟩
    have z : ¬ c ≤ i := by omega
    unfold ap_fp at hp
    simp (disch := omega) only [wX_firstPlace_2, hc, z, hd, vp_in_nI, nI_clamp, nI_leI, nI_ltI, nI_eq, nI_add, nI_1, pk_mul, an_m36, an_n36, an_b468, forall_eq, true_and, and_true, true_implies, false_implies, not_true, not_false_iff, implies_true, pk_un, pk_us, ap_wrN, ap_wrS]
    by_cases a : d i = w
    · rw [if_pos (by rw [a]; simp)] at hp
      exact br_t a hp
    · rw [if_neg (by simp [a])] at hp
      exact br_f a (ih (i + 1) n (by omega) (by omega) hp)
theorem ax_find {post : Int32 → SX → Prop} {x y R r c S s t : Nat} {d e : Nat → Int32} (x1 : 14 ≤ x) (x2 : x < 46) (y1 : 14 ≤ y) (y2 : y < 46)
    (V : ap_VS R r c) (H : ap_X rk rw cl nb x R r c d) (W : ap_VS S s t) (K : ap_X rk rw cl nb y S s t e)
    (hP : ax_P post tc lv tx rk rw cl nb gv wt (ap_find R c d S s t e)) : wpX_firstPlaces post (tc, lv, tx, rk, rw, cl, nb, gv, wt) (nI x) (nI y) := by
  obtain ⟨h1, h2, h3, h4⟩ := H
  obtain ⟨k1, k2, k3, k4⟩ := K
  have vb := ap_vb V
  have w36 := ap_v36 W
  unfold ap_find at hP
  by_cases e1 : R = 1
  case neg =>
    rw [if_neg e1] at hP
    have q := ax_Pe (by decide) hP
    simp (disch := omega) only [wpX_firstPlaces, h1, an_e1, e1, vp_in_nI, nI_clamp, nI_leI, nI_ltI, nI_eq, nI_add, nI_1, pk_mul, an_m36, an_n36, an_b468, forall_eq, true_and, and_true, true_implies, false_implies, not_true, not_false_iff, implies_true, pk_un, pk_us, ap_wrN, ap_wrS]
    exact q
  rw [if_pos e1] at hP
  subst e1
  have r1 := ap_v1 V (by omega)
  subst r1
  have q := ax_Pk w36 hP
  simp (disch := omega) only [wpX_firstPlaces, h1, an_e1, ax_sz, ax_s13, k1, k2, k3, vp_in_nI, nI_clamp, nI_leI, nI_ltI, nI_eq, nI_add, nI_1, pk_mul, an_m36, an_n36, an_b468, forall_eq, true_and, and_true, true_implies, false_implies, not_true, not_false_iff, implies_true, pk_un, pk_us, ap_wrN, ap_wrS]
  refine ap_le (fun n i a => wX_firstPlaces_46 post (nI x) (nI y) (nI (s * t)) tc lv n (nI i) tx (upd rk 13 (nI S)) (upd rw 13 (nI s)) (upd cl 13 (nI t)) a gv wt)
    (fun i => ap_wr nb (fun i => nI (ap_fp (fun k => decide (d k = e i)) c 0)) i) (s * t) (ap_wr0 _ _) (fun n => ?_) (fun n i hi ih => ?_)
  · exact br_t (nI_le (Nat.le_refl _) (by omega)) q
  · have z : ¬ s * t ≤ i := by omega
    simp (disch := omega) only [wX_firstPlaces_46, z, k4, wpX_firstPlace, vp_in_nI, nI_clamp, nI_leI, nI_ltI, nI_eq, nI_add, nI_1, pk_mul, an_m36, an_n36, an_b468, forall_eq, true_and, and_true, true_implies, false_implies, not_true, not_false_iff, implies_true, pk_un, pk_us, ap_wrN, ap_wrS]
    refine ⟨c + 1, ax_fpL (d := d) _ x2 (by rw [pk_un (by omega)]; exact h3) vb.2.2 (fun k hk => ?_) c 0 (c + 1) (by omega) (by omega) ?_⟩
    · rw [ap_wrN (by omega) (by omega)]
      exact h4 k (by omega)
    · simp (disch := omega) only [vp_in_nI, nI_clamp, nI_leI, nI_ltI, nI_eq, nI_add, nI_1, pk_mul, an_m36, an_n36, an_b468, forall_eq, true_and, and_true, true_implies, false_implies, not_true, not_false_iff, implies_true, pk_un, pk_us, ap_wrN, ap_wrS]
      exact ih
end
