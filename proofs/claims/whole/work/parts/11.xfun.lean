/-! X: inner, shape, count, turn, back -/
theorem an_s1 {a : Nat} (h : 1 ≤ a) : nI a - 1 = nI (a - 1) := pk_sub (b := 1) h
theorem an_m1s {a : Nat} (h : 1 ≤ a) : nI a + -1 = nI (a - 1) := by
  rw [← Int32.sub_eq_add_neg]; exact an_s1 h
theorem ap_uq {p q p' q' w : Nat} (hq : q < w) (hq' : q' < w) (h : p * w + q = p' * w + q') : p = p' ∧ q = q' := by
  have a := congrArg (· / w) h
  have b := congrArg (· % w) h
  rw [ap_dv1 hq, ap_dv1 hq'] at a
  rw [ap_md1 hq, ap_md1 hq'] at b
  exact ⟨a, b⟩
section
variable {tc lv : Int32} {tx rk rw cl nb gv wt : Nat → Int32}
theorem ax_inL (post : Int32 → Prop) {f g s q w l : Nat} (hf : ag_sc f) (hg : ag_sc g) (hs : s + l + 1 ≤ 1656) (hq : ∀ i, i ≤ l → q + i * w < 1656) : ∀ m n, m ≤ l → l - m < n →
    post (ap_fr f (fun i => ap_sf g (nb (s + i)) (nb (q + i * w))) l l) →
    wX_innerNumber_12 post (nI f) (nI g) (nI s) (nI q) (nI w) (nI (l + 1)) tc lv tx rk rw cl nb gv wt n (ap_fr f (fun i => ap_sf g (nb (s + i)) (nb (q + i * w))) l m) (nI (l - m) - 1) := by
  intro m n hm hn hp
  induction n generalizing m with
  | zero => omega
  | succ n ih =>
    by_cases e : l - m = 0
    · have e2 : m = l := by omega
      subst e2
      rw [e]
      exact br_t (by decide) hp
    · obtain ⟨k, hk⟩ : ∃ k, l - m = k + 1 := ⟨l - m - 1, by omega⟩
      have z : ¬ nI k < 0 := nI_pos (by omega)
      have z2 : ¬ k = l := by omega
      have b := hq k (by omega)
      rw [hk, nI_pred]
      simp (disch := omega) only [wX_innerNumber_12, vp_in_nI, nI_clamp, nI_leI, nI_ltI, nI_eq, nI_add, nI_1, pk_mul, an_m36, an_n36, an_b468, forall_eq, true_and, and_true, true_implies, false_implies, not_true, not_false_iff, implies_true, pk_un, pk_us, ap_wrN, ap_wrS, z, z2, nI_pred, ax_sf _ hf, ax_sf _ hg]
      have h := ih (m + 1) (by omega) (by omega)
      have e3 : l - (m + 1) = k := by omega
      rw [e3] at h
      rw [show ap_fr f (fun i => ap_sf g (nb (s + i)) (nb (q + i * w))) l (m + 1) = ap_sf f (ap_sf g (nb (s + k)) (nb (q + k * w))) (ap_fr f (fun i => ap_sf g (nb (s + i)) (nb (q + i * w))) l m) by rw [← e3]; rfl] at h
      rw [show nI k + -1 = nI k - 1 from (Int32.sub_eq_add_neg _ _).symm]
      exact h
theorem ax_in (post : Int32 → Prop) {f g s q w k : Nat} (hf : ag_sc f) (hg : ag_sc g) (hs : s + k ≤ 1656) (hq : ∀ i, i < k → q + i * w < 1656)
    (hp : post (ap_fv f (fun i => ap_sf g (nb (s + i)) (nb (q + i * w))) k)) : wpX_innerNumber post (tc, lv, tx, rk, rw, cl, nb, gv, wt) (nI f) (nI g) (nI s) (nI q) (nI w) (nI k) := by
  have f1 : f < 100 := by unfold ag_sc at hf; omega
  unfold ap_fv at hp
  by_cases e : k = 0
  · rw [if_pos e] at hp
    subst e
    simp (disch := omega) only [wpX_innerNumber, ax_ne, vp_in_nI, nI_clamp, nI_leI, nI_ltI, nI_eq, nI_add, nI_1, pk_mul, an_m36, an_n36, an_b468, forall_eq, true_and, and_true, true_implies, false_implies, not_true, not_false_iff, implies_true, pk_un, pk_us, ap_wrN, ap_wrS]
    exact ⟨1, br_t (by decide) hp⟩
  · rw [if_neg e] at hp
    obtain ⟨l, rfl⟩ : ∃ l, k = l + 1 := ⟨k - 1, by omega⟩
    rw [Nat.add_sub_cancel] at hp
    have z : ¬ nI l < 0 := nI_pos (by omega)
    have b := hq l (by omega)
    simp (disch := omega) only [wpX_innerNumber, ax_ne, nI_pred, forall_eq]
    obtain ⟨n, hn⟩ : ∃ n, n = l + 1 := ⟨_, rfl⟩
    refine ⟨n + 1, ?_⟩
    simp (disch := omega) only [wX_innerNumber_12, vp_in_nI, nI_clamp, nI_leI, nI_ltI, nI_eq, nI_add, nI_1, pk_mul, an_m36, an_n36, an_b468, forall_eq, true_and, and_true, true_implies, false_implies, not_true, not_false_iff, implies_true, pk_un, pk_us, ap_wrN, ap_wrS, z, nI_pred, ax_sf _ hf, ax_sf _ hg]
    rw [show nI l + -1 = nI l - 1 from (Int32.sub_eq_add_neg _ _).symm]
    exact ax_inL post hf hg (by omega) (fun i hi => hq i (by omega)) 0 n (by omega) (by omega) hp
theorem ax_inner {post : Int32 → SX → Prop} {f g x y R r c S s t : Nat} {d e : Nat → Int32} (hf : ag_sc f) (hg : ag_sc g) (x1 : 14 ≤ x) (x2 : x < 46) (y1 : 14 ≤ y) (y2 : y < 46)
    (V : ap_VS R r c) (H : ap_X rk rw cl nb x R r c d) (W : ap_VS S s t) (K : ap_X rk rw cl nb y S s t e)
    (hP : ax_P post tc lv tx rk rw cl nb gv wt (ap_inner R r c d S s t e f g)) : wpX_innerTable post (tc, lv, tx, rk, rw, cl, nb, gv, wt) (nI f) (nI g) (nI x) (nI y) := by
  have ok := ap_innerV (d := d) (e := e) (f := f) (g := g) V W
  obtain ⟨h1, h2, h3, h4⟩ := H
  obtain ⟨k1, k2, k3, k4⟩ := K
  have vb := ap_vb V
  have wb := ap_vb W
  have v36 := ap_v36 V
  have w36 := ap_v36 W
  unfold ap_inner at hP ok
  by_cases e1 : R = 0
  · rw [if_pos (Or.inl e1)] at hP
    have q := ax_Pe (by decide) hP
    simp (disch := omega) only [wpX_innerTable, h1, an_e0, e1, vp_in_nI, nI_clamp, nI_leI, nI_ltI, nI_eq, nI_add, nI_1, pk_mul, an_m36, an_n36, an_b468, forall_eq, true_and, and_true, true_implies, false_implies, not_true, not_false_iff, implies_true, pk_un, pk_us, ap_wrN, ap_wrS]
    exact q
  by_cases e2 : S = 0
  · rw [if_pos (Or.inr e2)] at hP
    have q := ax_Pe (by decide) hP
    simp (disch := omega) only [wpX_innerTable, h1, k1, an_e0, e1, e2, vp_in_nI, nI_clamp, nI_leI, nI_ltI, nI_eq, nI_add, nI_1, pk_mul, an_m36, an_n36, an_b468, forall_eq, true_and, and_true, true_implies, false_implies, not_true, not_false_iff, implies_true, pk_un, pk_us, ap_wrN, ap_wrS]
    exact q
  rw [if_neg (by omega)] at hP ok
  have flb : ap_fl S s t ≤ 36 := by unfold ap_fl; split <;> omega
  by_cases e3 : c = ap_fl S s t
  case neg =>
    rw [if_neg e3] at hP
    have q := ax_Pe (by decide) hP
    simp (disch := omega) only [wpX_innerTable, ax_fl _ y2 wb.1 k1 k2 k3, h1, h3, k1, an_e0, e1, e2, e3, vp_in_nI, nI_clamp, nI_leI, nI_ltI, nI_eq, nI_add, nI_1, pk_mul, an_m36, an_n36, an_b468, forall_eq, true_and, and_true, true_implies, false_implies, not_true, not_false_iff, implies_true, pk_un, pk_us, ap_wrN, ap_wrS]
    exact q
  rw [if_pos e3] at hP ok
  have ok36 := ap_v36 ok
  dsimp only at ok36
  have wW : ap_w S t ≤ 6 := by unfold ap_w ap_VS at *; split <;> omega
  have kb : ∀ k j, k < c → j < ap_w S t → k * ap_w S t + j < s * t := by
    intro k j hk hj
    unfold ap_w at hj ⊢
    unfold ap_fl at e3
    by_cases z : S = 2
    · rw [if_pos z] at hj e3 ⊢
      subst e3
      exact ap_ix hk hj
    · rw [if_neg z] at hj e3 ⊢
      have := ap_v1 W z
      subst this
      omega
  have L : ∀ rk' rw' cl' : Nat → Int32, rw' x = nI r → cl' x = nI c → r * ap_w S t ≤ 36 → post 0 (tc, lv, tx, rk', rw', cl', ap_wr nb (fun i => ap_fv f (fun k => ap_sf g (d (i / ap_w S t * c + k)) (e (k * ap_w S t + i % ap_w S t))) c) (r * ap_w S t), gv, wt) →
      ∃ n, wX_innerTable_138 post (nI f) (nI g) (nI x) (nI y) (nI (ap_w S t)) tc lv n 0 tx rk' rw' cl' nb gv wt := by
    intro rk' rw' cl' j2 j3 hz q
    generalize ap_w S t = w at *
    refine ap_le (fun n i a => wX_innerTable_138 post (nI f) (nI g) (nI x) (nI y) (nI w) tc lv n (nI i) tx rk' rw' cl' a gv wt)
      (fun i => ap_wr nb (fun i => ap_fv f (fun k => ap_sf g (d (i / w * c + k)) (e (k * w + i % w))) c) (i * w)) r (by rw [Nat.zero_mul]; exact ap_wr0 _ _) (fun n => ?_) (fun n i hi ih => ?_)
    · have z : r ≤ r := Nat.le_refl r
      simp (disch := omega) only [wX_innerTable_138, j2, z, vp_in_nI, nI_clamp, nI_leI, nI_ltI, nI_eq, nI_add, nI_1, pk_mul, an_m36, an_n36, an_b468, forall_eq, true_and, and_true, true_implies, false_implies, not_true, not_false_iff, implies_true, pk_un, pk_us, ap_wrN, ap_wrS]
      exact q
    · have z : ¬ r ≤ i := by omega
      have b : i * w + w ≤ r * w := by
        have := Nat.mul_le_mul_right w (show i + 1 ≤ r from hi)
        rw [Nat.succ_mul] at this
        exact this
      have b2 : i * c + c ≤ r * c := by
        have := Nat.mul_le_mul_right c (show i + 1 ≤ r from hi)
        rw [Nat.succ_mul] at this
        exact this
      simp (disch := omega) only [wX_innerTable_138, j2, z, vp_in_nI, nI_clamp, nI_leI, nI_ltI, nI_eq, nI_add, nI_1, pk_mul, an_m36, an_n36, an_b468, forall_eq, true_and, and_true, true_implies, false_implies, not_true, not_false_iff, implies_true, pk_un, pk_us, ap_wrN, ap_wrS]
      refine ap_le (fun m j a => wX_innerTable_152 post (wX_innerTable_138 post (nI f) (nI g) (nI x) (nI y) (nI w) tc lv n) (nI f) (nI g) (nI x) (nI y) (nI w) (nI i) tc lv m (nI j) tx rk' rw' cl' a gv wt)
        (fun j => ap_wr nb (fun i => ap_fv f (fun k => ap_sf g (d (i / w * c + k)) (e (k * w + i % w))) c) (i * w + j)) w (by rw [Nat.add_zero]) (fun m => ?_) (fun m j hj jh => ?_)
      · have z : w ≤ w := Nat.le_refl _
        rw [Nat.succ_mul] at ih
        simp (disch := omega) only [wX_innerTable_152, z, vp_in_nI, nI_clamp, nI_leI, nI_ltI, nI_eq, nI_add, nI_1, pk_mul, an_m36, an_n36, an_b468, forall_eq, true_and, and_true, true_implies, false_implies, not_true, not_false_iff, implies_true, pk_un, pk_us, ap_wrN, ap_wrS]
        exact ih
      · have z : ¬ w ≤ j := by omega
        simp (disch := omega) only [wX_innerTable_152, z, j3, vp_in_nI, nI_clamp, nI_leI, nI_ltI, nI_eq, nI_add, nI_1, pk_mul, an_m36, an_n36, an_b468, forall_eq, true_and, and_true, true_implies, false_implies, not_true, not_false_iff, implies_true, pk_un, pk_us, ap_wrN, ap_wrS]
        refine ax_in _ hf hg (by omega) (fun k hk => by have := kb k j hk hj; omega) ?_
        have e2 : ap_fv f (fun k => ap_sf g (ap_wr nb (fun i => ap_fv f (fun k => ap_sf g (d (i / w * c + k)) (e (k * w + i % w))) c) (i * w + j) (x * 36 + i * c + k)) (ap_wr nb (fun i => ap_fv f (fun k => ap_sf g (d (i / w * c + k)) (e (k * w + i % w))) c) (i * w + j) (y * 36 + j + k * w))) c
            = ap_fv f (fun k => ap_sf g (d (i * c + k)) (e (k * w + j))) c := by
          refine ap_fvc (fun k hk => ?_)
          have := kb k j hk hj
          rw [ap_wrN (by omega) (by omega), ap_wrN (by omega) (by omega), Nat.add_assoc, h4 _ (by omega), show y * 36 + j + k * w = y * 36 + (k * w + j) by omega, k4 _ (by omega)]
        have eq : ap_fv f (fun k => ap_sf g (d (i * c + k)) (e (k * w + j))) c = (fun i => ap_fv f (fun k => ap_sf g (d (i / w * c + k)) (e (k * w + i % w))) c) (i * w + j) := by
          dsimp only
          rw [ap_md1 hj, ap_dv1 hj]
        rw [e2]
        simp (disch := omega) only [Nat.add_assoc, ap_wrH nb (fun i => ap_fv f (fun k => ap_sf g (d (i / w * c + k)) (e (k * w + i % w))) c) (i * w + j) eq, vp_in_nI, nI_clamp, nI_leI, nI_ltI, nI_eq, nI_add, nI_1, pk_mul, an_m36, an_n36, an_b468, forall_eq, true_and, and_true, true_implies, false_implies, not_true, not_false_iff, implies_true, pk_un, pk_us, ap_wrN, ap_wrS]
        exact jh
  have q := ax_Pk ok36 hP
  have g62 : wX_innerTable_62 post (nI f) (nI g) (nI x) (nI y) (nI (ap_w S t)) tc lv tx rk rw cl nb gv wt := by
    have sel : ap_w S t ≤ 6 := wW
    by_cases a1 : R = 2
    · by_cases a2 : S = 2
      · simp only [if_pos (show R = 2 ∧ S = 2 from ⟨a1, a2⟩)] at q ok36
        have l := L (upd rk 13 (nI 2)) (upd rw 13 (nI r)) (upd cl 13 (nI (ap_w S t))) (by rw [pk_un (by omega)]; exact h2) (by rw [pk_un (by omega)]; exact h3) ok36 (by rw [show R + S - 2 = 2 by omega] at q; exact q)
        simp (disch := omega) only [wX_innerTable_62, ax_s13, h1, h2, k1, an_e2, a1, a2, vp_in_nI, nI_clamp, nI_leI, nI_ltI, nI_eq, nI_add, nI_1, pk_mul, an_m36, an_n36, an_b468, forall_eq, true_and, and_true, true_implies, false_implies, not_true, not_false_iff, implies_true, pk_un, pk_us, ap_wrN, ap_wrS]
        rw [a2] at l
        exact l
      · simp only [if_neg (show ¬ (R = 2 ∧ S = 2) from fun z => a2 z.2), Nat.one_mul] at q ok36
        have l := L (upd rk 13 (nI (R + S - 2))) (upd rw 13 (nI 1)) (upd cl 13 (nI (r * ap_w S t))) (by rw [pk_un (by omega)]; exact h2) (by rw [pk_un (by omega)]; exact h3) ok36 q
        have sub : nI (R + S) - 2 = nI (R + S - 2) := pk_sub (b := 2) (by omega)
        simp (disch := omega) only [wX_innerTable_62, wX_innerTable_103, ax_s13, h1, h2, k1, an_e2, a2, sub, vp_in_nI, nI_clamp, nI_leI, nI_ltI, nI_eq, nI_add, nI_1, pk_mul, an_m36, an_n36, an_b468, forall_eq, true_and, and_true, true_implies, false_implies, not_true, not_false_iff, implies_true, pk_un, pk_us, ap_wrN, ap_wrS]
        simp only [a1, true_implies, not_true, false_implies, and_true]
        rw [a1] at l
        exact l
    · simp only [if_neg (show ¬ (R = 2 ∧ S = 2) from fun z => a1 z.1), Nat.one_mul] at q ok36
      have l := L (upd rk 13 (nI (R + S - 2))) (upd rw 13 (nI 1)) (upd cl 13 (nI (r * ap_w S t))) (by rw [pk_un (by omega)]; exact h2) (by rw [pk_un (by omega)]; exact h3) ok36 q
      have sub : nI (R + S) - 2 = nI (R + S - 2) := pk_sub (b := 2) (by omega)
      simp (disch := omega) only [wX_innerTable_62, wX_innerTable_103, ax_s13, h1, h2, k1, an_e2, a1, sub, vp_in_nI, nI_clamp, nI_leI, nI_ltI, nI_eq, nI_add, nI_1, pk_mul, an_m36, an_n36, an_b468, forall_eq, true_and, and_true, true_implies, false_implies, not_true, not_false_iff, implies_true, pk_un, pk_us, ap_wrN, ap_wrS]
      exact l
  have fl := ax_fl (tc := tc) (lv := lv) (tx := tx) (nb := nb) (gv := gv) (wt := wt) (h := y) (c := t) (fun r_6 => ((nI c = r_6 → vp_in (nI y) 46 ∧ ((nI S = 2 → vp_in (nI y) 46 ∧ wX_innerTable_62 post (nI f) (nI g) (nI x) (nI y) (nI t) tc lv tx rk rw cl nb gv wt) ∧ (¬ nI S = 2 → wX_innerTable_62 post (nI f) (nI g) (nI x) (nI y) 1 tc lv tx rk rw cl nb gv wt))) ∧ (¬ nI c = r_6 → post (-14) (tc, lv, tx, rk, rw, cl, nb, gv, wt)))) y2 wb.1 k1 k2 k3
  simp (disch := omega) only [wpX_innerTable, h1, h3, k1, k3, an_e0, e1, e2, vp_in_nI, nI_clamp, nI_leI, nI_ltI, nI_eq, nI_add, nI_1, pk_mul, an_m36, an_n36, an_b468, forall_eq, true_and, and_true, true_implies, false_implies, not_true, not_false_iff, implies_true, pk_un, pk_us, ap_wrN, ap_wrS]
  simp (disch := omega) only [vp_in_nI, nI_clamp, nI_leI, nI_ltI, nI_eq, nI_add, nI_1, pk_mul, an_m36, an_n36, an_b468, forall_eq, true_and, and_true, true_implies, false_implies, not_true, not_false_iff, implies_true, pk_un, pk_us, ap_wrN, ap_wrS] at fl
  rw [fl]
  rw [← e3]
  unfold ap_w at g62
  by_cases a2 : S = 2
  · rw [if_pos a2] at g62
    simp (disch := omega) only [an_e2, a2, vp_in_nI, nI_clamp, nI_leI, nI_ltI, nI_eq, nI_add, nI_1, pk_mul, an_m36, an_n36, an_b468, forall_eq, true_and, and_true, true_implies, false_implies, not_true, not_false_iff, implies_true, pk_un, pk_us, ap_wrN, ap_wrS]
    exact g62
  · rw [if_neg a2] at g62
    simp (disch := omega) only [an_e2, a2, vp_in_nI, nI_clamp, nI_leI, nI_ltI, nI_eq, nI_add, nI_1, pk_mul, an_m36, an_n36, an_b468, forall_eq, true_and, and_true, true_implies, false_implies, not_true, not_false_iff, implies_true, pk_un, pk_us, ap_wrN, ap_wrS]
    exact g62
end
