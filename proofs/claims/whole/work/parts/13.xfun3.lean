/-! X: turn, back, first, ravel, rise -/
section
variable {tc lv : Int32} {tx rk rw cl nb gv wt : Nat → Int32}
theorem ax_turn {post : SX → Prop} {y R r c : Nat} {d : Nat → Int32} (y1 : 14 ≤ y) (y2 : y < 46) (V : ap_VS R r c) (H : ap_X rk rw cl nb y R r c d)
    (hP : ax_Q post tc lv tx rk rw cl nb gv wt (ap_turn R r c d)) : wpX_turnOver post (tc, lv, tx, rk, rw, cl, nb, gv, wt) (nI y) := by
  have vb := ap_vb V
  have v36 := ap_v36 V
  unfold ap_turn at hP
  by_cases e1 : R = 2
  case neg =>
    rw [if_neg e1] at hP
    have H0 := H
    obtain ⟨h1, h2, h3, h4⟩ := H
    simp (disch := omega) only [wpX_turnOver, h1, an_e2, e1, vp_in_nI, nI_clamp, nI_leI, nI_ltI, nI_eq, nI_add, nI_1, pk_mul, an_m36, an_n36, an_b468, forall_eq, true_and, and_true, true_implies, false_implies, not_true, not_false_iff, implies_true, pk_un, pk_us, ap_wrN, ap_wrS]
    exact ax_cp y2 (b := 13) (by omega) (by omega) (hP _ _ _ _ ap_cpF (ap_cpX v36 H0))
  rw [if_pos e1] at hP
  subst e1
  obtain ⟨h1, h2, h3, h4⟩ := H
  simp (disch := omega) only [wpX_turnOver, h1, h2, h3, an_e2, ax_s13, vp_in_nI, nI_clamp, nI_leI, nI_ltI, nI_eq, nI_add, nI_1, pk_mul, an_m36, an_n36, an_b468, forall_eq, true_and, and_true, true_implies, false_implies, not_true, not_false_iff, implies_true, pk_un, pk_us, ap_wrN, ap_wrS]
  have j2 : upd rw 13 (nI c) y = nI r := by rw [pk_un (by omega)]; exact h2
  have j3 : upd cl 13 (nI r) y = nI c := by rw [pk_un (by omega)]; exact h3
  refine pk_loop (fun n i a => wX_turnOver_39 post (nI y) tc lv n (nI i) tx (upd rk 13 2) (upd rw 13 (nI c)) (upd cl 13 (nI r)) a gv wt)
    (fun i a => (∀ j, (j < 468 ∨ 504 ≤ j) → a j = nb j) ∧ ∀ p q, p < r → q < c → p * c + q < i * c → a (468 + (q * r + p)) = d (p * c + q)) r 0 nb (by omega) ⟨fun _ _ => rfl, fun p q _ _ h => by omega⟩ (fun n a hI => ?_) (fun n i a hi hI ih => ?_)
  · have z : r ≤ r := Nat.le_refl r
    simp (disch := omega) only [wX_turnOver_39, j2, z, vp_in_nI, nI_clamp, nI_leI, nI_ltI, nI_eq, nI_add, nI_1, pk_mul, an_m36, an_n36, an_b468, forall_eq, true_and, and_true, true_implies, false_implies, not_true, not_false_iff, implies_true, pk_un, pk_us, ap_wrN, ap_wrS]
    refine hP _ _ _ _ ⟨fun _ h => ⟨pk_un h, pk_un h, pk_un h⟩, fun j h => hI.1 j (by omega)⟩ ⟨pk_us, pk_us, pk_us, fun j h => ?_⟩
    have hj : j < c * r := h
    obtain ⟨r0, a1, a2, a3⟩ := ap_dvl hj
    have g := hI.2 (j % r) (j / r) a2 a1 (ap_ix a2 a1)
    rw [a3] at g
    exact g
  · have z : ¬ r ≤ i := by omega
    simp (disch := omega) only [wX_turnOver_39, j2, z, vp_in_nI, nI_clamp, nI_leI, nI_ltI, nI_eq, nI_add, nI_1, pk_mul, an_m36, an_n36, an_b468, forall_eq, true_and, and_true, true_implies, false_implies, not_true, not_false_iff, implies_true, pk_un, pk_us, ap_wrN, ap_wrS]
    refine pk_loop (fun m j a => wX_turnOver_51 post (wX_turnOver_39 post (nI y) tc lv n) (nI y) (nI i) tc lv m (nI j) tx (upd rk 13 2) (upd rw 13 (nI c)) (upd cl 13 (nI r)) a gv wt)
      (fun k a => (∀ j, (j < 468 ∨ 504 ≤ j) → a j = nb j) ∧ ∀ p q, p < r → q < c → p * c + q < i * c + k → a (468 + (q * r + p)) = d (p * c + q)) c 0 a (by omega) ⟨hI.1, fun p q h1 h2 h3 => hI.2 p q h1 h2 (by omega)⟩ (fun m b hJ => ?_) (fun m k b hk hJ jh => ?_)
    · have z : c ≤ c := Nat.le_refl c
      simp (disch := omega) only [wX_turnOver_51, j3, z, vp_in_nI, nI_clamp, nI_leI, nI_ltI, nI_eq, nI_add, nI_1, pk_mul, an_m36, an_n36, an_b468, forall_eq, true_and, and_true, true_implies, false_implies, not_true, not_false_iff, implies_true, pk_un, pk_us, ap_wrN, ap_wrS]
      exact ih b ⟨hJ.1, fun p q h1 h2 h3 => hJ.2 p q h1 h2 (by rw [Nat.succ_mul] at h3; exact h3)⟩
    · have z : ¬ c ≤ k := by omega
      have b1 := ap_ix hi hk
      have b2 := ap_ix hk hi
      rw [Nat.mul_comm c r] at b2
      have g : b (y * 36 + (i * c + k)) = d (i * c + k) := by rw [hJ.1 _ (by omega)]; exact h4 _ b1
      simp (disch := omega) only [wX_turnOver_51, j2, j3, z, Nat.add_assoc, g, vp_in_nI, nI_clamp, nI_leI, nI_ltI, nI_eq, nI_add, nI_1, pk_mul, an_m36, an_n36, an_b468, forall_eq, true_and, and_true, true_implies, false_implies, not_true, not_false_iff, implies_true, pk_un, pk_us, ap_wrN, ap_wrS]
      refine jh _ ⟨fun j h => ?_, fun p q h1 h2 h3 => ?_⟩
      · rw [pk_un (by omega)]; exact hJ.1 j h
      · by_cases e : p * c + q = i * c + k
        · obtain ⟨rfl, rfl⟩ := ap_uq h2 hk e
          rw [pk_us]
        · have ne : ¬ q * r + p = k * r + i := fun z => by
            obtain ⟨rfl, rfl⟩ := ap_uq h1 hi z
            exact e rfl
          rw [pk_un (by omega)]
          exact hJ.2 p q h1 h2 (by omega)
theorem ax_rev {post : SX → Prop} {y R r c : Nat} {d : Nat → Int32} (y1 : 14 ≤ y) (y2 : y < 46) (V : ap_VS R r c) (H : ap_X rk rw cl nb y R r c d)
    (hP : ax_Q post tc lv tx rk rw cl nb gv wt (ap_rev R r c d)) : wpX_reverseRows post (tc, lv, tx, rk, rw, cl, nb, gv, wt) (nI y) := by
  obtain ⟨h1, h2, h3, h4⟩ := H
  have s := ap_v36 V
  have vb := ap_vb V
  have q := ax_Qk s hP
  simp (disch := omega) only [wpX_reverseRows, ax_s13, h1, h2, h3, vp_in_nI, nI_clamp, nI_leI, nI_ltI, nI_eq, nI_add, nI_1, pk_mul, an_m36, an_n36, an_b468, forall_eq, true_and, and_true, true_implies, false_implies, not_true, not_false_iff, implies_true, pk_un, pk_us, ap_wrN, ap_wrS]
  refine ap_le (fun n i a => wX_reverseRows_28 post (nI y) (nI c) tc lv n (nI i) tx (upd rk 13 (nI R)) (upd rw 13 (nI r)) (upd cl 13 (nI c)) a gv wt)
    (fun i => ap_wr nb (fun i => d (i - i % c + (c - 1 - i % c))) (i * c)) r (by rw [Nat.zero_mul]; exact ap_wr0 _ _) (fun n => ?_) (fun n i hi ih => ?_)
  · have z : r ≤ r := Nat.le_refl r
    simp (disch := omega) only [wX_reverseRows_28, h2, z, vp_in_nI, nI_clamp, nI_leI, nI_ltI, nI_eq, nI_add, nI_1, pk_mul, an_m36, an_n36, an_b468, forall_eq, true_and, and_true, true_implies, false_implies, not_true, not_false_iff, implies_true, pk_un, pk_us, ap_wrN, ap_wrS]
    exact q
  · have z : ¬ r ≤ i := by omega
    have b : i * c + c ≤ r * c := by
      have := Nat.mul_le_mul_right c (show i + 1 ≤ r from hi)
      rw [Nat.succ_mul] at this
      exact this
    simp (disch := omega) only [wX_reverseRows_28, h2, z, vp_in_nI, nI_clamp, nI_leI, nI_ltI, nI_eq, nI_add, nI_1, pk_mul, an_m36, an_n36, an_b468, forall_eq, true_and, and_true, true_implies, false_implies, not_true, not_false_iff, implies_true, pk_un, pk_us, ap_wrN, ap_wrS]
    refine ap_le (fun m j a => wX_reverseRows_41 post (wX_reverseRows_28 post (nI y) (nI c) tc lv n) (nI y) (nI c) (nI i) tc lv m (nI j) tx (upd rk 13 (nI R)) (upd rw 13 (nI r)) (upd cl 13 (nI c)) a gv wt)
      (fun j => ap_wr nb (fun i => d (i - i % c + (c - 1 - i % c))) (i * c + j)) c (by rw [Nat.add_zero]) (fun m => ?_) (fun m j hj jh => ?_)
    · have z : c ≤ c := Nat.le_refl c
      rw [Nat.succ_mul] at ih
      simp (disch := omega) only [wX_reverseRows_41, z, vp_in_nI, nI_clamp, nI_leI, nI_ltI, nI_eq, nI_add, nI_1, pk_mul, an_m36, an_n36, an_b468, forall_eq, true_and, and_true, true_implies, false_implies, not_true, not_false_iff, implies_true, pk_un, pk_us, ap_wrN, ap_wrS]
      exact ih
    · have z : ¬ c ≤ j := by omega
      have ix : y * 36 + (i * c + c) - 1 - j = y * 36 + (i * c + (c - 1 - j)) := by omega
      have eq : d (i * c + (c - 1 - j)) = (fun i => d (i - i % c + (c - 1 - i % c))) (i * c + j) := by
        dsimp only
        rw [ap_md1 hj, Nat.add_sub_cancel]
      simp (disch := omega) only [wX_reverseRows_41, z, an_s1, pk_sub, ix, h4, Nat.add_assoc, ap_wrH nb (fun i => d (i - i % c + (c - 1 - i % c))) (i * c + j) eq, vp_in_nI, nI_clamp, nI_leI, nI_ltI, nI_eq, nI_add, nI_1, pk_mul, an_m36, an_n36, an_b468, forall_eq, true_and, and_true, true_implies, false_implies, not_true, not_false_iff, implies_true, pk_un, pk_us, ap_wrN, ap_wrS]
      exact jh
theorem ax_rot {post : Int32 → SX → Prop} {x y R r c S s t : Nat} {d e : Nat → Int32} (x1 : 14 ≤ x) (x2 : x < 46) (y1 : 14 ≤ y) (y2 : y < 46)
    (V : ap_VS R r c) (H : ap_X rk rw cl nb x R r c d) (W : ap_VS S s t) (K : ap_X rk rw cl nb y S s t e)
    (hP : ax_P post tc lv tx rk rw cl nb gv wt (ap_rot R d S s t e)) : wpX_rotate post (tc, lv, tx, rk, rw, cl, nb, gv, wt) (nI x) (nI y) := by
  obtain ⟨h1, h2, h3, h4⟩ := H
  obtain ⟨k1, k2, k3, k4⟩ := K
  have vb := ap_vb V
  have wb := ap_vb W
  have w36 := ap_v36 W
  unfold ap_rot at hP
  by_cases e1 : R = 0
  case neg =>
    rw [if_neg e1] at hP
    have q := ax_Pe (by decide) hP
    simp (disch := omega) only [wpX_rotate, h1, an_e0, e1, vp_in_nI, nI_clamp, nI_leI, nI_ltI, nI_eq, nI_add, nI_1, pk_mul, an_m36, an_n36, an_b468, forall_eq, true_and, and_true, true_implies, false_implies, not_true, not_false_iff, implies_true, pk_un, pk_us, ap_wrN, ap_wrS]
    exact q
  rw [if_pos e1] at hP
  subst e1
  obtain ⟨rfl, rfl⟩ := ap_v0 V
  have d0 := h4 0 (by omega)
  rw [Nat.add_zero] at d0
  have q := ax_Pk w36 hP
  have L : ∀ sh : Nat, sh ≤ 36 → (0 < t → sh = ((d 0).toInt % t).toNat) → ∃ n, wX_rotate_66 post (nI y) (nI t) (nI sh) tc lv n 0 tx (upd rk 13 (nI S)) (upd rw 13 (nI s)) (upd cl 13 (nI t)) nb gv wt := by
    intro sh sb hs
    refine ap_le (fun n i a => wX_rotate_66 post (nI y) (nI t) (nI sh) tc lv n (nI i) tx (upd rk 13 (nI S)) (upd rw 13 (nI s)) (upd cl 13 (nI t)) a gv wt)
      (fun i => ap_wr nb (fun i => e (i - i % t + (i % t + ((d 0).toInt % t).toNat) % t)) (i * t)) s (by rw [Nat.zero_mul]; exact ap_wr0 _ _) (fun n => ?_) (fun n i hi ih => ?_)
    · have z : s ≤ s := Nat.le_refl s
      simp (disch := omega) only [wX_rotate_66, k2, z, vp_in_nI, nI_clamp, nI_leI, nI_ltI, nI_eq, nI_add, nI_1, pk_mul, an_m36, an_n36, an_b468, forall_eq, true_and, and_true, true_implies, false_implies, not_true, not_false_iff, implies_true, pk_un, pk_us, ap_wrN, ap_wrS]
      exact q
    · have z : ¬ s ≤ i := by omega
      have b : i * t + t ≤ s * t := by
        have := Nat.mul_le_mul_right t (show i + 1 ≤ s from hi)
        rw [Nat.succ_mul] at this
        exact this
      simp (disch := omega) only [wX_rotate_66, k2, z, vp_in_nI, nI_clamp, nI_leI, nI_ltI, nI_eq, nI_add, nI_1, pk_mul, an_m36, an_n36, an_b468, forall_eq, true_and, and_true, true_implies, false_implies, not_true, not_false_iff, implies_true, pk_un, pk_us, ap_wrN, ap_wrS]
      refine ap_le (fun m j a => wX_rotate_80 post (wX_rotate_66 post (nI y) (nI t) (nI sh) tc lv n) (nI y) (nI t) (nI sh) (nI i) tc lv m (nI j) tx (upd rk 13 (nI S)) (upd rw 13 (nI s)) (upd cl 13 (nI t)) a gv wt)
        (fun j => ap_wr nb (fun i => e (i - i % t + (i % t + ((d 0).toInt % t).toNat) % t)) (i * t + j)) t (by rw [Nat.add_zero]) (fun m => ?_) (fun m j hj jh => ?_)
      · have z : t ≤ t := Nat.le_refl t
        rw [Nat.succ_mul] at ih
        simp (disch := omega) only [wX_rotate_80, z, vp_in_nI, nI_clamp, nI_leI, nI_ltI, nI_eq, nI_add, nI_1, pk_mul, an_m36, an_n36, an_b468, forall_eq, true_and, and_true, true_implies, false_implies, not_true, not_false_iff, implies_true, pk_un, pk_us, ap_wrN, ap_wrS]
        exact ih
      · have z : ¬ t ≤ j := by omega
        have t0 : ¬ t = 0 := by omega
        have ml := Nat.mod_lt (j + sh) (show 0 < t by omega)
        have eq : e (i * t + (j + sh) % t) = (fun i => e (i - i % t + (i % t + ((d 0).toInt % t).toNat) % t)) (i * t + j) := by
          dsimp only
          rw [ap_md1 hj, Nat.add_sub_cancel, hs (by omega)]
        simp (disch := omega) only [wX_rotate_80, z, an_e0, t0, pk_rem, k4, Nat.add_assoc, ap_wrH nb (fun i => e (i - i % t + (i % t + ((d 0).toInt % t).toNat) % t)) (i * t + j) eq, vp_in_nI, nI_clamp, nI_leI, nI_ltI, nI_eq, nI_add, nI_1, pk_mul, an_m36, an_n36, an_b468, forall_eq, true_and, and_true, true_implies, false_implies, not_true, not_false_iff, implies_true, pk_un, pk_us, ap_wrN, ap_wrS]
        exact jh
  simp (disch := omega) only [wpX_rotate, h1, k1, k2, k3, an_e0, ax_s13, vp_in_nI, nI_clamp, nI_leI, nI_ltI, nI_eq, nI_add, nI_1, pk_mul, an_m36, an_n36, an_b468, forall_eq, true_and, and_true, true_implies, false_implies, not_true, not_false_iff, implies_true, pk_un, pk_us, ap_wrN, ap_wrS]
  by_cases t0 : t = 0
  · have l := L 0 (by omega) (by omega)
    simp only [t0, true_implies, not_true, false_implies, and_true] at l ⊢
    exact l
  · simp only [t0, false_implies, not_false_iff, true_implies, true_and]
    have sc : ap_sf 27 (nI t) (d 0) = nI ((d 0).toInt % t).toNat := by
      rw [show ap_sf 27 (nI t) (d 0) = ap_rs (nI t) (d 0) from rfl]
      exact ap_rsN (by omega) (by omega) _
    have m0 := Int.emod_nonneg (d 0).toInt (b := t) (by omega)
    have m1 := Int.emod_lt_of_pos (d 0).toInt (b := t) (by omega)
    have l := L ((d 0).toInt % t).toNat (by omega) (fun _ => rfl)
    rw [← sc, ← d0] at l
    have g := (ax_sf (fun r_19 => ∃ n66, wX_rotate_66 post (nI y) (nI t) r_19 tc lv n66 0 tx (upd rk 13 (nI S)) (upd rw 13 (nI s)) (upd cl 13 (nI t)) nb gv wt) (f := 27) (by decide) (nI t) (nb (x * 36))).mpr l
    exact g
theorem ax_first {post : SX → Prop} {y R r c : Nat} {d : Nat → Int32} (y1 : 14 ≤ y) (y2 : y < 46) (V : ap_VS R r c) (H : ap_X rk rw cl nb y R r c d)
    (hP : ax_Q post tc lv tx rk rw cl nb gv wt (ap_first r c d)) : wpX_takeFirst post (tc, lv, tx, rk, rw, cl, nb, gv, wt) (nI y) := by
  obtain ⟨h1, h2, h3, h4⟩ := H
  have s := ap_v36 V
  have q := ax_Qk (r := 1) (c := 1) (by omega) hP
  by_cases e : r * c = 0
  · simp only [if_pos e, Nat.mul_one, ← ap_wr1] at q
    simp (disch := omega) only [wpX_takeFirst, wX_takeFirst_21, ax_sz, ax_s13, h2, h3, an_e0, e, vp_in_nI, nI_clamp, nI_leI, nI_ltI, nI_eq, nI_add, nI_1, pk_mul, an_m36, an_n36, an_b468, forall_eq, true_and, and_true, true_implies, false_implies, not_true, not_false_iff, implies_true, pk_un, pk_us, ap_wrN, ap_wrS]
    exact q
  · simp only [if_neg e, Nat.mul_one, ← ap_wr1] at q
    have d0 := h4 0 (by omega)
    rw [Nat.add_zero] at d0
    simp (disch := omega) only [wpX_takeFirst, wX_takeFirst_21, ax_sz, ax_s13, h2, h3, an_e0, e, d0, vp_in_nI, nI_clamp, nI_leI, nI_ltI, nI_eq, nI_add, nI_1, pk_mul, an_m36, an_n36, an_b468, forall_eq, true_and, and_true, true_implies, false_implies, not_true, not_false_iff, implies_true, pk_un, pk_us, ap_wrN, ap_wrS]
    exact q
theorem ax_ravel {post : SX → Prop} {y R r c : Nat} {d : Nat → Int32} (y1 : 14 ≤ y) (y2 : y < 46) (V : ap_VS R r c) (H : ap_X rk rw cl nb y R r c d)
    (hP : ax_Q post tc lv tx rk rw cl nb gv wt (ap_ravel r c d)) : wpX_ravel post (tc, lv, tx, rk, rw, cl, nb, gv, wt) (nI y) := by
  have s := ap_v36 V
  obtain ⟨h1, h2, h3, h4⟩ := H
  simp (disch := omega) only [wpX_ravel, ax_sz, h2, h3, vp_in_nI, nI_clamp, nI_leI, nI_ltI, nI_eq, nI_add, nI_1, pk_mul, an_m36, an_n36, an_b468, forall_eq, true_and, and_true, true_implies, false_implies, not_true, not_false_iff, implies_true, pk_un, pk_us, ap_wrN, ap_wrS]
  refine ax_cp y2 (b := 13) (by omega) (by omega) ?_
  simp (disch := omega) only [ax_s13]
  refine hP _ _ _ _ ⟨fun _ h => ⟨?_, ?_, ?_⟩, fun _ h => ap_cpN h⟩ ⟨pk_us, pk_us, pk_us, fun i h => ?_⟩
  · rw [pk_un h, pk_un h]
  · rw [pk_un h, pk_un h]
  · rw [pk_un h, pk_un h]
  · have hi : i < 1 * (r * c) := h
    rw [ap_cpI (by omega)]
    exact h4 i (by omega)
theorem ax_rpL (post : Int32 → Prop) {y i c : Nat} {d : Nat → Int32} (y2 : y < 46) (hi : i < c) (hc : cl y = nI c) (c36 : c ≤ 36) (hd : ∀ k, k < c → nb (y * 36 + k) = d k)
    (hp : post (nI (ap_pl d i c))) : wpX_risenPlace post (tc, lv, tx, rk, rw, cl, nb, gv, wt) (nI y) (nI i) := by
  simp (disch := omega) only [wpX_risenPlace, hd, vp_in_nI, nI_clamp, nI_leI, nI_ltI, nI_eq, nI_add, nI_1, pk_mul, an_m36, an_n36, an_b468, forall_eq, true_and, and_true, true_implies, false_implies, not_true, not_false_iff, implies_true, pk_un, pk_us, ap_wrN, ap_wrS]
  refine ap_le (fun n k a => wX_risenPlace_18 post (nI y) (nI i) (d i) tc lv tx rk rw cl nb gv wt n (nI a) (nI k)) (fun k => ap_pl d i k) c rfl (fun n => ?_) (fun n k hk ih => ?_)
  · have z : c ≤ c := Nat.le_refl c
    simp (disch := omega) only [wX_risenPlace_18, hc, z, vp_in_nI, nI_clamp, nI_leI, nI_ltI, nI_eq, nI_add, nI_1, pk_mul, an_m36, an_n36, an_b468, forall_eq, true_and, and_true, true_implies, false_implies, not_true, not_false_iff, implies_true, pk_un, pk_us, ap_wrN, ap_wrS]
    exact hp
  · have z : ¬ c ≤ k := by omega
    have pl := (ap_plL (d := d) (i := i) k).1
    unfold ap_pl at ih
    simp (disch := omega) only [wX_risenPlace_18, hc, z, hd, vp_in_nI, nI_clamp, nI_leI, nI_ltI, nI_eq, nI_add, nI_1, pk_mul, an_m36, an_n36, an_b468, forall_eq, true_and, and_true, true_implies, false_implies, not_true, not_false_iff, implies_true, pk_un, pk_us, ap_wrN, ap_wrS]
    by_cases a : d k < d i
    · rw [if_pos (Or.inl a)] at ih
      exact br_t a ih
    · refine br_f a ?_
      by_cases b : d k = d i
      · by_cases g : k < i
        · rw [if_pos (Or.inr ⟨b, g⟩)] at ih
          exact br_t b (br_f (by omega) ih)
        · rw [if_neg (fun z => z.elim a (fun z => g z.2))] at ih
          exact br_t b (br_t (by omega) ih)
      · rw [if_neg (fun z => z.elim a (fun z => b z.1))] at ih
        exact br_f b ih
theorem ax_rise {post : Int32 → SX → Prop} {y R r c : Nat} {d : Nat → Int32} (y1 : 14 ≤ y) (y2 : y < 46) (V : ap_VS R r c) (H : ap_X rk rw cl nb y R r c d)
    (hP : ax_P post tc lv tx rk rw cl nb gv wt (ap_rise R c d)) : wpX_risingPlaces post (tc, lv, tx, rk, rw, cl, nb, gv, wt) (nI y) := by
  obtain ⟨h1, h2, h3, h4⟩ := H
  have vb := ap_vb V
  unfold ap_rise at hP
  by_cases e1 : R = 1
  case neg =>
    rw [if_neg e1] at hP
    have q := ax_Pe (by decide) hP
    simp (disch := omega) only [wpX_risingPlaces, h1, an_e1, e1, vp_in_nI, nI_clamp, nI_leI, nI_ltI, nI_eq, nI_add, nI_1, pk_mul, an_m36, an_n36, an_b468, forall_eq, true_and, and_true, true_implies, false_implies, not_true, not_false_iff, implies_true, pk_un, pk_us, ap_wrN, ap_wrS]
    exact q
  rw [if_pos e1] at hP
  subst e1
  have r1 := ap_v1 V (by omega)
  subst r1
  have j3 : upd cl 13 (nI c) y = nI c := by rw [pk_un (by omega)]; exact h3
  simp (disch := omega) only [wpX_risingPlaces, h1, h3, an_e1, ax_s13, vp_in_nI, nI_clamp, nI_leI, nI_ltI, nI_eq, nI_add, nI_1, pk_mul, an_m36, an_n36, an_b468, forall_eq, true_and, and_true, true_implies, false_implies, not_true, not_false_iff, implies_true, pk_un, pk_us, ap_wrN, ap_wrS]
  refine pk_loop (fun n i a => wX_risingPlaces_29 post (nI y) tc lv n (nI i) tx (upd rk 13 1) (upd rw 13 1) (upd cl 13 (nI c)) a gv wt)
    (fun i a => (∀ j, (j < 468 ∨ 504 ≤ j) → a j = nb j) ∧ ∀ k, k < i → a (468 + ap_pl d k c) = nI k) c 0 nb (by omega) ⟨fun _ _ => rfl, fun k h => by omega⟩ (fun n a hI => ?_) (fun n i a hi hI ih => ?_)
  · have z : c ≤ c := Nat.le_refl c
    simp (disch := omega) only [wX_risingPlaces_29, j3, z, vp_in_nI, nI_clamp, nI_leI, nI_ltI, nI_eq, nI_add, nI_1, pk_mul, an_m36, an_n36, an_b468, forall_eq, true_and, and_true, true_implies, false_implies, not_true, not_false_iff, implies_true, pk_un, pk_us, ap_wrN, ap_wrS]
    refine hP.2 rfl _ _ _ _ ⟨fun _ h => ⟨pk_un h, pk_un h, pk_un h⟩, fun j h => hI.1 j (by omega)⟩ ⟨pk_us, pk_us, pk_us, fun j h => ?_⟩
    have hj : j < 1 * c := h
    obtain ⟨i, hi, rfl⟩ := ap_riseS (d := d) (show j < c by omega)
    rw [hI.2 i hi]
    dsimp only
    rw [ap_riseE hi]
  · have z : ¬ c ≤ i := by omega
    have pl := (ap_plL (d := d) (i := i) c).2 hi
    simp (disch := omega) only [wX_risingPlaces_29, j3, z, vp_in_nI, nI_clamp, nI_leI, nI_ltI, nI_eq, nI_add, nI_1, pk_mul, an_m36, an_n36, an_b468, forall_eq, true_and, and_true, true_implies, false_implies, not_true, not_false_iff, implies_true, pk_un, pk_us, ap_wrN, ap_wrS]
    refine ax_rpL (d := d) _ y2 hi j3 vb.2.2 (fun k hk => by rw [hI.1 _ (by omega)]; exact h4 k (by omega)) ?_
    simp (disch := omega) only [vp_in_nI, nI_clamp, nI_leI, nI_ltI, nI_eq, nI_add, nI_1, pk_mul, an_m36, an_n36, an_b468, forall_eq, true_and, and_true, true_implies, false_implies, not_true, not_false_iff, implies_true, pk_un, pk_us, ap_wrN, ap_wrS]
    refine ih _ ⟨fun j h => ?_, fun k hk => ?_⟩
    · rw [pk_un (by omega)]; exact hI.1 j h
    · by_cases e : k = i
      · subst e; rw [pk_us]
      · have ne : ¬ ap_pl d k c = ap_pl d i c := fun z => e (ap_plI (by omega) hi z)
        rw [pk_un (by omega)]
        exact hI.2 k (by omega)
end
