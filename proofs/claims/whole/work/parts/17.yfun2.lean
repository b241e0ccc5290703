/-! Y: inner, shape, count -/
section
variable {ct lv er : Int32} {tx rk rw wd dt wt fi : Nat → Int32}
theorem ay_inL (post : Int32 → Prop) {f g s x y w col l : Nat} (hf : ag_sc f) (hg : ag_sc g) (hs : x * 36 + s + l + 1 ≤ 1800) (hq : ∀ i, i ≤ l → y * 36 + (i * w + col) < 1800) : ∀ m n, m ≤ l → l - m < n →
    post (ap_fr f (fun i => ap_sf g (dt (x * 36 + (s + i))) (dt (y * 36 + (i * w + col)))) l l) →
    wY_inner_45 post (nI f) (nI g) (nI s) (nI x) (nI y) (nI col) (nI (l + 1)) (nI w) ct lv er tx rk rw wd dt wt fi n (ap_fr f (fun i => ap_sf g (dt (x * 36 + (s + i))) (dt (y * 36 + (i * w + col)))) l m) (nI (l - m) - 1) := by
  intro m n hm hn hp
  induction n generalizing m with
  | zero => omega
  | succ n ih =>
    by_cases e : l - m = 0
    · have e2 : m = l := by omega
      subst e2
      rw [e]
      exact br_t (by decide) hp
    · obtain ⟨k, hk⟩ : ∃ k, l - m = k + 1 := ⟨l - m - 1, by omega⟩
      have z : ¬ nI k < 0 := nI_pos (by omega)
      have z2 : ¬ k = l := by omega
      have b := hq k (by omega)
      rw [hk, nI_pred]
      simp (disch := omega) only [wY_inner_45, vp_in_nI, nI_clamp, nI_leI, nI_ltI, nI_eq, nI_add, nI_1, pk_mul, an_m36, an_n36, an_b468, forall_eq, true_and, and_true, true_implies, false_implies, not_true, not_false_iff, implies_true, pk_un, pk_us, ap_wrN, ap_wrS, z, z2, nI_pred, ay_at, ay_wk _ hf, ay_wk _ hg]
      have h := ih (m + 1) (by omega) (by omega)
      have e3 : l - (m + 1) = k := by omega
      rw [e3] at h
      rw [show ap_fr f (fun i => ap_sf g (dt (x * 36 + (s + i))) (dt (y * 36 + (i * w + col)))) l (m + 1) = ap_sf f (ap_sf g (dt (x * 36 + (s + k))) (dt (y * 36 + (k * w + col)))) (ap_fr f (fun i => ap_sf g (dt (x * 36 + (s + i))) (dt (y * 36 + (i * w + col)))) l m) by rw [← e3]; rfl] at h
      rw [show nI k + -1 = nI k - 1 from (Int32.sub_eq_add_neg _ _).symm]
      exact h
theorem ay_in (post : Int32 → Prop) {f g s x y w col k : Nat} (hf : ag_sc f) (hg : ag_sc g) (hs : x * 36 + s + k ≤ 1800) (hq : ∀ i, i < k → y * 36 + (i * w + col) < 1800)
    (hp : post (ap_fv f (fun i => ap_sf g (dt (x * 36 + (s + i))) (dt (y * 36 + (i * w + col)))) k)) : wY_inner_30 post (nI f) (nI g) (nI s) (nI x) (nI y) (nI col) (nI k) (nI w) ct lv er tx rk rw wd dt wt fi := by
  have f1 : f < 100 := by unfold ag_sc at hf; omega
  unfold ap_fv at hp
  by_cases e : k = 0
  · rw [if_pos e] at hp
    subst e
    simp (disch := omega) only [wY_inner_30, ay_no, vp_in_nI, nI_clamp, nI_leI, nI_ltI, nI_eq, nI_add, nI_1, pk_mul, an_m36, an_n36, an_b468, forall_eq, true_and, and_true, true_implies, false_implies, not_true, not_false_iff, implies_true, pk_un, pk_us, ap_wrN, ap_wrS]
    exact ⟨1, br_t (by decide) hp⟩
  · rw [if_neg e] at hp
    obtain ⟨l, rfl⟩ : ∃ l, k = l + 1 := ⟨k - 1, by omega⟩
    rw [Nat.add_sub_cancel] at hp
    have z : ¬ nI l < 0 := nI_pos (by omega)
    have b := hq l (by omega)
    simp (disch := omega) only [wY_inner_30, ay_no, nI_pred, forall_eq]
    obtain ⟨n, hn⟩ : ∃ n, n = l + 1 := ⟨_, rfl⟩
    refine ⟨n + 1, ?_⟩
    simp (disch := omega) only [wY_inner_45, vp_in_nI, nI_clamp, nI_leI, nI_ltI, nI_eq, nI_add, nI_1, pk_mul, an_m36, an_n36, an_b468, forall_eq, true_and, and_true, true_implies, false_implies, not_true, not_false_iff, implies_true, pk_un, pk_us, ap_wrN, ap_wrS, z, nI_pred, ay_at, ay_wk _ hf, ay_wk _ hg]
    rw [show nI l + -1 = nI l - 1 from (Int32.sub_eq_add_neg _ _).symm]
    exact ay_inL post hf hg (by omega) (fun i hi => hq i (by omega)) 0 n (by omega) (by omega) hp
theorem ay_inner {post : SY → Prop} {f g x y R r c S s t : Nat} {d e : Nat → Int32} (hf : ag_sc f) (hg : ag_sc g) (x1 : 14 ≤ x) (x2 : x < 50) (y1 : 14 ≤ y) (y2 : y < 50)
    (V : ap_VS R r c) (H : ap_Y rk rw wd dt x R r c d) (W : ap_VS S s t) (K : ap_Y rk rw wd dt y S s t e)
    (hP : ay_P post ct lv tx rk rw wd dt wt fi (ap_inner R r c d S s t e f g)) : wpY_innerAll post (ct, lv, 0, tx, rk, rw, wd, dt, wt, fi) (nI f) (nI g) (nI x) (nI y) := by
  have ok := ap_innerV (d := d) (e := e) (f := f) (g := g) V W
  obtain ⟨h1, h2, h3, h4⟩ := H
  obtain ⟨k1, k2, k3, k4⟩ := K
  have vb := ap_vb V
  have wb := ap_vb W
  have v36 := ap_v36 V
  have w36 := ap_v36 W
  have f1 := ap_flb V
  have f2 := ap_flb W
  have f3 := ap_wb V
  have f4 := ap_wb W
  unfold ap_inner at hP ok
  by_cases e1 : R = 0
  · rw [if_pos (Or.inl e1)] at hP
    have q := ay_Pe (by decide) hP
    simp (disch := omega) only [wpY_innerAll, h1, an_e0, e1, vp_in_nI, nI_clamp, nI_leI, nI_ltI, nI_eq, nI_add, nI_1, pk_mul, an_m36, an_n36, an_b468, forall_eq, true_and, and_true, true_implies, false_implies, not_true, not_false_iff, implies_true, pk_un, pk_us, ap_wrN, ap_wrS]
    exact q
  by_cases e2 : S = 0
  · rw [if_pos (Or.inr e2)] at hP
    have q := ay_Pe (by decide) hP
    simp (disch := omega) only [wpY_innerAll, h1, k1, an_e0, e1, e2, vp_in_nI, nI_clamp, nI_leI, nI_ltI, nI_eq, nI_add, nI_1, pk_mul, an_m36, an_n36, an_b468, forall_eq, true_and, and_true, true_implies, false_implies, not_true, not_false_iff, implies_true, pk_un, pk_us, ap_wrN, ap_wrS]
    exact q
  rw [if_neg (by omega)] at hP ok
  by_cases e3 : c = ap_fl S s t
  case neg =>
    rw [if_neg e3] at hP
    have q := ay_Pe (by decide) hP
    simp (disch := omega) only [wpY_innerAll, ay_rs _ x2 V h1 h2 h3, h1, k1, k2, an_e0, e1, e2, e3, vp_in_nI, nI_clamp, nI_leI, nI_ltI, nI_eq, nI_add, nI_1, pk_mul, an_m36, an_n36, an_b468, forall_eq, true_and, and_true, true_implies, false_implies, not_true, not_false_iff, implies_true, pk_un, pk_us, ap_wrN, ap_wrS]
    exact q
  rw [if_pos e3] at hP ok
  have ok36 := ap_v36 ok
  dsimp only at ok36
  have q := ay_Pk ok36 hP
  have kb : ∀ k j, k < c → j < ap_w S t → k * ap_w S t + j < s * t := by
    intro k j hk hj
    unfold ap_w at hj ⊢
    unfold ap_fl at e3
    by_cases z : S = 2
    · rw [if_pos z] at hj e3 ⊢
      subst e3
      exact ap_ix hk hj
    · rw [if_neg z] at hj e3 ⊢
      have := ap_v1 W z
      subst this
      omega
  have kw : ∀ (P : Int32 → Prop) (rk' rw' wd' dt' : Nat → Int32) (a b : Nat), rk' x = nI R → rw' x = nI (ap_fl R r c) → wd' x = nI (ap_w R c) → rk' y = nI S → wd' y = nI (ap_w S t) → a + c ≤ r * c → (∀ k, k < c → k * ap_w S t + b < s * t) →
      P (ap_fv f (fun i => ap_sf g (dt' (x * 36 + (a + i))) (dt' (y * 36 + (i * ap_w S t + b)))) c) → wpY_inner P (ct, lv, 0, tx, rk', rw', wd', dt', wt, fi) (nI f) (nI g) (nI a) (nI x) (nI y) (nI b) := by
    intro P rk' rw' wd' dt' a b j1 j2 j3 i1 i3 ha hb hp
    have l : wY_inner_30 P (nI f) (nI g) (nI a) (nI x) (nI y) (nI b) (nI c) (nI (ap_w S t)) ct lv 0 tx rk' rw' wd' dt' wt fi :=
      ay_in P hf hg (by omega) (fun i hi => by have := hb i hi; omega) hp
    by_cases z : S = 2
    · simp (disch := omega) only [wpY_inner, ay_rs _ x2 V j1 j2 j3, i1, i3, an_e2, z, vp_in_nI, nI_clamp, nI_leI, nI_ltI, nI_eq, nI_add, nI_1, pk_mul, an_m36, an_n36, an_b468, forall_eq, true_and, and_true, true_implies, false_implies, not_true, not_false_iff, implies_true, pk_un, pk_us, ap_wrN, ap_wrS]
      rw [z] at l
      exact l
    · have w : ap_w S t = 1 := if_neg z
      rw [w] at l
      simp (disch := omega) only [wpY_inner, ay_rs _ x2 V j1 j2 j3, i1, an_e2, z, vp_in_nI, nI_clamp, nI_leI, nI_ltI, nI_eq, nI_add, nI_1, pk_mul, an_m36, an_n36, an_b468, forall_eq, true_and, and_true, true_implies, false_implies, not_true, not_false_iff, implies_true, pk_un, pk_us, ap_wrN, ap_wrS]
      exact l
  have g77 : wY_innerAll_77 post (nI f) (nI g) (nI x) (nI y) (nI r) (nI (ap_w S t)) ct lv 0 tx rk rw wd dt wt fi := by
    have L : ∀ A B C : Nat, A ≤ 2 → r * ap_w S t ≤ 36 → post (ct, lv, 0, tx, upd rk 13 (nI A), upd rw 13 (if A = 0 then 1 else nI B), upd wd 13 (if A < 2 then 1 else nI (ap_w S t)), ap_wr dt (fun i => ap_fv f (fun k => ap_sf g (d (i / ap_w S t * c + k)) (e (k * ap_w S t + i % ap_w S t))) c) (r * ap_w S t), wt, fi) →
        wY_innerAll_119 post (nI f) (nI g) (nI x) (nI y) (nI r) (nI (ap_w S t)) (nI B) (nI A) 13 ct lv 0 tx rk rw wd dt wt fi := by
      intro A B C A2 hz p
      unfold wY_innerAll_119
      rw [ay_sh _ A2]
      refine ap_le (fun n i a => wY_innerAll_127 post (nI f) (nI g) (nI x) (nI y) (nI r) (nI (ap_w S t)) n (nI i) ct lv 0 tx (upd rk 13 (nI A)) (upd rw 13 (if A = 0 then 1 else nI B)) (upd wd 13 (if A < 2 then 1 else nI (ap_w S t))) a wt fi)
        (fun i => ap_wr dt (fun i => ap_fv f (fun k => ap_sf g (d (i / ap_w S t * c + k)) (e (k * ap_w S t + i % ap_w S t))) c) i) (r * ap_w S t) (ap_wr0 _ _) (fun n => ?_) (fun n i hi ih => ?_)
      · have z : r * ap_w S t ≤ r * ap_w S t := Nat.le_refl _
        simp (disch := omega) only [wY_innerAll_127, z, vp_in_nI, nI_clamp, nI_leI, nI_ltI, nI_eq, nI_add, nI_1, pk_mul, an_m36, an_n36, an_b468, forall_eq, true_and, and_true, true_implies, false_implies, not_true, not_false_iff, implies_true, pk_un, pk_us, ap_wrN, ap_wrS]
        exact p
      · have z : ¬ r * ap_w S t ≤ i := by omega
        have j1 : upd rk 13 (nI A) x = nI R := by rw [pk_un (by omega)]; exact h1
        have j2 : upd rw 13 (if A = 0 then 1 else nI B) x = nI (ap_fl R r c) := by rw [pk_un (by omega)]; exact h2
        have j3 : upd wd 13 (if A < 2 then 1 else nI (ap_w S t)) x = nI (ap_w R c) := by rw [pk_un (by omega)]; exact h3
        have i1 : upd rk 13 (nI A) y = nI S := by rw [pk_un (by omega)]; exact k1
        have i3 : upd wd 13 (if A < 2 then 1 else nI (ap_w S t)) y = nI (ap_w S t) := by rw [pk_un (by omega)]; exact k3
        obtain ⟨c0, a1, a2, a3⟩ := ap_dvl hi
        have c1 : ¬ ap_w S t = 0 := by omega
        have a0 := Nat.zero_le (i / ap_w S t)
        have b2 : i / ap_w S t * c + c ≤ r * c := by
          have := Nat.mul_le_mul_right c (show i / ap_w S t + 1 ≤ r from a1)
          rw [Nat.succ_mul] at this
          exact this
        have kk := kb
        simp (disch := omega) only [wY_innerAll_127, ay_rs _ x2 V j1 j2 j3, z, an_e0, c1, an_rm, pk_div, vp_in_nI, nI_clamp, nI_leI, nI_ltI, nI_eq, nI_add, nI_1, pk_mul, an_m36, an_n36, an_b468, forall_eq, true_and, and_true, true_implies, false_implies, not_true, not_false_iff, implies_true, pk_un, pk_us, ap_wrN, ap_wrS]
        refine kw _ _ _ _ _ (i / ap_w S t * c) (i % ap_w S t) j1 j2 j3 i1 i3 b2 (fun k hk => kb k _ hk a2) ?_
        have e2 : ap_fv f (fun k => ap_sf g (ap_wr dt (fun i => ap_fv f (fun k => ap_sf g (d (i / ap_w S t * c + k)) (e (k * ap_w S t + i % ap_w S t))) c) i (x * 36 + (i / ap_w S t * c + k))) (ap_wr dt (fun i => ap_fv f (fun k => ap_sf g (d (i / ap_w S t * c + k)) (e (k * ap_w S t + i % ap_w S t))) c) i (y * 36 + (k * ap_w S t + i % ap_w S t)))) c
            = ap_fv f (fun k => ap_sf g (d (i / ap_w S t * c + k)) (e (k * ap_w S t + i % ap_w S t))) c := by
          refine ap_fvc (fun k hk => ?_)
          have := kb k (i % ap_w S t) hk a2
          rw [ap_wrN (by omega) (by omega), ap_wrN (by omega) (by omega), h4 _ (by omega), k4 _ (by omega)]
        rw [e2]
        simp (disch := omega) only [ay_mk, vp_in_nI, nI_clamp, nI_leI, nI_ltI, nI_eq, nI_add, nI_1, pk_mul, an_m36, an_n36, an_b468, forall_eq, true_and, and_true, true_implies, false_implies, not_true, not_false_iff, implies_true, pk_un, pk_us, ap_wrN, ap_wrS]
        exact ih
    have sub : nI (R + S) - 2 = nI (R + S - 2) := pk_sub (b := 2) (by omega)
    by_cases a1 : R = 2
    · by_cases a2 : S = 2
      · subst a1 a2
        have l := L 2 r 0 (by omega) ok36 q
        simp (disch := omega) only [wY_innerAll_77, h1, k1, an_e2, sub, vp_in_nI, nI_clamp, nI_leI, nI_ltI, nI_eq, nI_add, nI_1, pk_mul, an_m36, an_n36, an_b468, forall_eq, true_and, and_true, true_implies, false_implies, not_true, not_false_iff, implies_true, pk_un, pk_us, ap_wrN, ap_wrS]
        exact l
      · have e4 : S = 1 := by omega
        subst a1 e4
        have q1 := ay_Pk (R := 1) (r := 1) (c := r * 1) (by omega) hP
        rw [Nat.mul_one, Nat.one_mul] at q1
        have l := L 1 r 0 (by omega) (by rw [show r * ap_w 1 t = r from Nat.mul_one r]; omega) (by rw [show r * ap_w 1 t = r from Nat.mul_one r]; exact q1)
        simp (disch := omega) only [wY_innerAll_77, h1, k1, an_e2, sub, vp_in_nI, nI_clamp, nI_leI, nI_ltI, nI_eq, nI_add, nI_1, pk_mul, an_m36, an_n36, an_b468, forall_eq, true_and, and_true, true_implies, false_implies, not_true, not_false_iff, implies_true, pk_un, pk_us, ap_wrN, ap_wrS]
        exact l
    · have e5 : R = 1 := by omega
      subst e5
      have r1 := ap_v1 V (by omega)
      subst r1
      by_cases a2 : S = 2
      · subst a2
        have q1 := ay_Pk (R := 1) (r := 1) (c := 1 * t) (by omega) hP
        rw [Nat.one_mul, Nat.one_mul] at q1
        have l := L 1 (ap_w 2 t) 0 (by omega) (by omega) (by rw [show 1 * ap_w 2 t = t from Nat.one_mul t]; exact q1)
        have z12 : ¬ (1 : Nat) = 2 := by omega
        simp (disch := omega) only [wY_innerAll_77, h1, k1, an_e2, sub, z12, vp_in_nI, nI_clamp, nI_leI, nI_ltI, nI_eq, nI_add, nI_1, pk_mul, an_m36, an_n36, an_b468, forall_eq, true_and, and_true, true_implies, false_implies, not_true, not_false_iff, implies_true, pk_un, pk_us, ap_wrN, ap_wrS]
        exact l
      · have e4 : S = 1 := by omega
        subst e4
        have q1 := ay_Pk (R := 0) (r := 1) (c := 1) (by omega) hP
        have l := L 0 (ap_w 1 t) 0 (by omega) (by omega) q1
        have z12 : ¬ (1 : Nat) = 2 := by omega
        simp (disch := omega) only [wY_innerAll_77, h1, k1, an_e2, sub, z12, vp_in_nI, nI_clamp, nI_leI, nI_ltI, nI_eq, nI_add, nI_1, pk_mul, an_m36, an_n36, an_b468, forall_eq, true_and, and_true, true_implies, false_implies, not_true, not_false_iff, implies_true, pk_un, pk_us, ap_wrN, ap_wrS]
        exact l
  simp (disch := omega) only [wpY_innerAll, ay_rs _ x2 V h1 h2 h3, ay_rc _ x2 V h1 h2, h1, k1, k2, k3, an_e0, e1, e2, vp_in_nI, nI_clamp, nI_leI, nI_ltI, nI_eq, nI_add, nI_1, pk_mul, an_m36, an_n36, an_b468, forall_eq, true_and, and_true, true_implies, false_implies, not_true, not_false_iff, implies_true, pk_un, pk_us, ap_wrN, ap_wrS]
  simp only [← e3, true_implies, not_true, false_implies, and_true]
  by_cases z : S = 2
  · simp (disch := omega) only [an_e2, z, vp_in_nI, nI_clamp, nI_leI, nI_ltI, nI_eq, nI_add, nI_1, pk_mul, an_m36, an_n36, an_b468, forall_eq, true_and, and_true, true_implies, false_implies, not_true, not_false_iff, implies_true, pk_un, pk_us, ap_wrN, ap_wrS]
    rw [z] at g77
    exact g77
  · have w : ap_w S t = 1 := if_neg z
    rw [w] at g77
    simp (disch := omega) only [an_e2, z, vp_in_nI, nI_clamp, nI_leI, nI_ltI, nI_eq, nI_add, nI_1, pk_mul, an_m36, an_n36, an_b468, forall_eq, true_and, and_true, true_implies, false_implies, not_true, not_false_iff, implies_true, pk_un, pk_us, ap_wrN, ap_wrS]
    exact g77
end
