/-! Y: turn, back, first, ravel, rise -/
theorem an_l0n {n : Nat} (h0 : 0 < n) (h : n < 2 ^ 31) : ¬ (nI n).toInt64 = 0 := by
  rw [nI_l h]
  intro e
  have := (lN_eq (a := n) (b := 0) h (by omega)).mp e
  omega
section
variable {ct lv er : Int32} {tx rk rw wd dt wt fi : Nat → Int32}
theorem ay_turn {post : SY → Prop} {y R r c : Nat} {d : Nat → Int32} (y1 : 14 ≤ y) (y2 : y < 50) (V : ap_VS R r c) (H : ap_Y rk rw wd dt y R r c d)
    (hP : ay_P post ct lv tx rk rw wd dt wt fi (ap_turn R r c d)) : wpY_turn post (ct, lv, 0, tx, rk, rw, wd, dt, wt, fi) (nI y) := by
  have vb := ap_vb V
  have v36 := ap_v36 V
  unfold ap_turn at hP
  by_cases e1 : R = 2
  case neg =>
    rw [if_neg e1] at hP
    have H0 := H
    obtain ⟨h1, h2, h3, h4⟩ := H
    have z : ¬ 2 ≤ R := by omega
    simp (disch := omega) only [wpY_turn, h1, an_g2, z, vp_in_nI, nI_clamp, nI_leI, nI_ltI, nI_eq, nI_add, nI_1, pk_mul, an_m36, an_n36, an_b468, forall_eq, true_and, and_true, true_implies, false_implies, not_true, not_false_iff, implies_true, pk_un, pk_us, ap_wrN, ap_wrS]
    exact ay_cp y2 (b := 13) (by omega) (by omega) (hP _ _ _ _ ap_cpF (fun _ => ap_cpY v36 H0))
  rw [if_pos e1] at hP
  subst e1
  obtain ⟨h1, h2, h3, h4⟩ := H
  have vs := ap_v2 V
  have h2' : rw y = nI r := h2
  have h3' : wd y = nI c := h3
  have sh := fun (P : SY → Prop) (a b : Int32) => ay_sh (ct := ct) (lv := lv) (er := 0) (tx := tx) (rk := rk) (rw := rw) (wd := wd) (dt := dt) (wt := wt) (fi := fi) P (R := 2) (by omega) a b
  rw [show nI 2 = 2 from rfl] at sh
  have z : 2 ≤ 2 := Nat.le_refl 2
  simp (disch := omega) only [wpY_turn, h1, h2', h3', an_g2, sh, z, vp_in_nI, nI_clamp, nI_leI, nI_ltI, nI_eq, nI_add, nI_1, pk_mul, an_m36, an_n36, an_b468, forall_eq, true_and, and_true, true_implies, false_implies, not_true, not_false_iff, implies_true, pk_un, pk_us, ap_wrN, ap_wrS]
  rw [show (if 2 = 0 then (1 : Int32) else nI c) = nI c from rfl, show (if 2 < 2 then (1 : Int32) else nI r) = nI r from rfl]
  have j2 : upd rw 13 (nI c) y = nI r := by rw [pk_un (by omega)]; exact h2
  have j3 : upd wd 13 (nI r) y = nI c := by rw [pk_un (by omega)]; exact h3
  refine pk_loop (fun n i a => wY_turn_39 post (nI y) n (nI i) ct lv 0 tx (upd rk 13 2) (upd rw 13 (nI c)) (upd wd 13 (nI r)) a wt fi)
    (fun i a => (∀ j, (j < 468 ∨ 504 ≤ j) → a j = dt j) ∧ ∀ p q, p < r → q < c → p * c + q < i → a (468 + (q * r + p)) = d (p * c + q)) (r * c) 0 dt (by omega) ⟨fun _ _ => rfl, fun p q _ _ h => by omega⟩ (fun n a hI => ?_) (fun n i a hi hI ih => ?_)
  · have z : r * c ≤ r * c := Nat.le_refl _
    simp (disch := omega) only [wY_turn_39, ay_sz, j2, j3, z, vp_in_nI, nI_clamp, nI_leI, nI_ltI, nI_eq, nI_add, nI_1, pk_mul, an_m36, an_n36, an_b468, forall_eq, true_and, and_true, true_implies, false_implies, not_true, not_false_iff, implies_true, pk_un, pk_us, ap_wrN, ap_wrS]
    refine hP _ _ _ _ ⟨fun _ h => ⟨pk_un h, pk_un h, pk_un h⟩, fun j h => hI.1 j (by omega)⟩ (fun _ => ⟨pk_us, pk_us, pk_us, fun j h => ?_⟩)
    have hj : j < c * r := h
    obtain ⟨r0, a1, a2, a3⟩ := ap_dvl hj
    have g := hI.2 (j % r) (j / r) a2 a1 (ap_ix a2 a1)
    rw [a3] at g
    exact g
  · have z : ¬ r * c ≤ i := by omega
    obtain ⟨c0, a1, a2, a3⟩ := ap_dvl hi
    have c1 : ¬ c = 0 := by omega
    have b2 := ap_ix a2 a1
    rw [Nat.mul_comm c r] at b2
    have g : a (y * 36 + i) = d i := by rw [hI.1 _ (by omega)]; exact h4 _ hi
    have a0 := Nat.zero_le (i / c)
    simp (disch := omega) only [wY_turn_39, ay_sz, ay_at, ay_mk, j2, j3, z, an_e0, c1, an_rm, pk_div, g, vp_in_nI, nI_clamp, nI_leI, nI_ltI, nI_eq, nI_add, nI_1, pk_mul, an_m36, an_n36, an_b468, forall_eq, true_and, and_true, true_implies, false_implies, not_true, not_false_iff, implies_true, pk_un, pk_us, ap_wrN, ap_wrS]
    refine ih _ ⟨fun j h => ?_, fun p q h1 h2 h3 => ?_⟩
    · rw [pk_un (by omega)]; exact hI.1 j h
    · by_cases e : p * c + q = i
      · have e2 : p * c + q = i / c * c + i % c := by omega
        obtain ⟨rfl, rfl⟩ := ap_uq h2 a2 e2
        rw [pk_us, a3]
      · have ne : ¬ q * r + p = i % c * r + i / c := fun z => by
          obtain ⟨rfl, rfl⟩ := ap_uq h1 a1 z
          exact e a3
        rw [pk_un (by omega)]
        exact hI.2 p q h1 h2 (by omega)
theorem ay_bk {post : SY → Prop} {y R r c o : Nat} {d : Nat → Int32} {x : Int32} {b : Int64} {F : Nat → Nat} (y1 : 14 ≤ y) (y2 : y < 50) (V : ap_VS R r c) (H : ap_Y rk rw wd dt y R r c d)
    (o1 : o ≤ 1) (hb : o = 0 → b = x.toInt64) (hF : o = 0 → ∀ k, k < c → F k = (((k : Int) + x.toInt) % c).toNat) (hF1 : o = 1 → ∀ k, k < c → F k = c - 1 - k) (hFb : ∀ k, k < c → F k < c)
    (hP : ∀ rk' rw' wd' dt', ap_F 13 rk rw wd dt rk' rw' wd' dt' → ap_Y rk' rw' wd' dt' 13 R r c (fun i => d (i - i % c + F (i % c))) → post (ct, lv, er, tx, rk', rw', wd', dt', wt, fi)) : wpY_back post (ct, lv, er, tx, rk, rw, wd, dt, wt, fi) (nI y) b (nI o) := by
  have vb := ap_vb V
  have v36 := ap_v36 V
  have flw := ap_flw V
  have f1 := ap_flb V
  have f3 := ap_wb V
  have H0 := H
  obtain ⟨h1, h2, h3, h4⟩ := H
  unfold wpY_back
  refine ay_cp y2 (b := 13) (by omega) (by omega) ?_
  rw [h1, h2, h3]
  have j1 : upd rk 13 (nI R) y = nI R := by rw [pk_un (by omega)]; exact h1
  have j2 : upd rw 13 (nI (ap_fl R r c)) y = nI (ap_fl R r c) := by rw [pk_un (by omega)]; exact h2
  have j3 : upd wd 13 (nI (ap_w R c)) y = nI (ap_w R c) := by rw [pk_un (by omega)]; exact h3
  simp (disch := omega) only [ay_rs _ y2 V j1 j2 j3]
  by_cases e0 : R = 0
  · subst e0
    obtain ⟨rfl, rfl⟩ := ap_v0 V
    have l0 : 0 ≤ 0 := Nat.le_refl 0
    have z : ¬ 1 * 1 ≤ 0 := by omega
    have cpY := ap_cpY (q := 13) v36 H0
    rw [h1, h2, h3] at cpY
    have cpF := ap_cpF (rk := rk) (rw := rw) (cl := wd) (nb := dt) (p := y) (q := 13) (x := nI 0) (y := nI (ap_fl 0 1 1)) (z := nI (ap_w 0 1))
    refine ⟨1, ?_⟩
    rw [← nI_0]
    simp (disch := omega) only [wY_back_17, ay_sz, j1, j2, j3, flw, an_l0, l0, z, vp_in_nI, nI_clamp, nI_leI, nI_ltI, nI_eq, nI_add, nI_1, pk_mul, an_m36, an_n36, an_b468, forall_eq, true_and, and_true, true_implies, false_implies, not_true, not_false_iff, implies_true, pk_un, pk_us, ap_wrN, ap_wrS]
    refine hP _ _ _ _ cpF ⟨cpY.1, cpY.2.1, cpY.2.2.1, fun i hi => ?_⟩
    have i0 : i = 0 := by omega
    subst i0
    have f0 := hFb 0 (by omega)
    rw [cpY.2.2.2 0 hi]
    show d 0 = d (0 - 0 % 1 + F (0 % 1))
    have e9 : (0 : Nat) % 1 = 0 := rfl
    rw [e9, show F 0 = 0 by omega]
  have l0 : ¬ R ≤ 0 := by omega
  refine ap_le (fun n i a => wY_back_17 post (nI y) b (nI o) (nI c) n (nI i) ct lv er tx (upd rk 13 (nI R)) (upd rw 13 (nI (ap_fl R r c))) (upd wd 13 (nI (ap_w R c))) a wt fi)
    (fun i => ap_wr (ap_cp dt y 13 36) (fun i => d (i - i % c + F (i % c))) i) (r * c) (ap_wr0 _ _) (fun n => ?_) (fun n i hi ih => ?_)
  · have z : r * c ≤ r * c := Nat.le_refl _
    simp (disch := omega) only [wY_back_17, ay_sz, j2, j3, flw, z, vp_in_nI, nI_clamp, nI_leI, nI_ltI, nI_eq, nI_add, nI_1, pk_mul, an_m36, an_n36, an_b468, forall_eq, true_and, and_true, true_implies, false_implies, not_true, not_false_iff, implies_true, pk_un, pk_us, ap_wrN, ap_wrS]
    exact hP _ _ _ _ ⟨fun _ h => ⟨pk_un h, pk_un h, pk_un h⟩, fun j h => (ap_wrN (by omega) (by omega)).trans (ap_cpN (by omega))⟩ ap_Y13
  · have z : ¬ r * c ≤ i := by omega
    obtain ⟨c0, a1, a2, a3⟩ := ap_dvl hi
    have c1 : ¬ c = 0 := by omega
    have c64 : ¬ (nI c).toInt64 = 0 := an_l0n c0 (by omega)
    have m1 : i % c ≤ i := Nat.mod_le _ _
    have fb := hFb (i % c) a2
    have bb := ap_ix a1 fb
    have b9 : i - i % c + F (i % c) < r * c := by omega
    have ix : i - i % c + F (i % c) = i - i % c + F (i % c) := rfl
    have eq := ap_wrS (ap_cp dt y 13 36) (fun i => d (i - i % c + F (i % c))) i
    have g : ap_wr (ap_cp dt y 13 36) (fun i => d (i - i % c + F (i % c))) i (y * 36 + (i - i % c + F (i % c))) = d (i - i % c + F (i % c)) := by
      rw [ap_wrN (by omega) (by omega), ap_cpN (by omega)]
      exact h4 _ b9
    by_cases eo : o = 0
    · have fk := hF eo (i % c) a2
      have bk := an_bk (k := i % c) (w := c) x c0 (by omega) (by omega) rfl rfl rfl
      rw [← fk] at bk
      have b0 := hb eo
      subst b0 eo
      simp (disch := omega) only [wY_back_17, wY_back_76, ay_sz, ay_at, ay_mk, j1, j2, j3, flw, z, an_l0, l0, an_e0, c1, c64, pk_rem, pk_sub, bk, g, vp_in_nI, nI_clamp, nI_leI, nI_ltI, nI_eq, nI_add, nI_1, pk_mul, an_m36, an_n36, an_b468, forall_eq, true_and, and_true, true_implies, false_implies, not_true, not_false_iff, implies_true, pk_un, pk_us, ap_wrN, ap_wrS]
      exact ih
    · have eo1 : o = 1 := by omega
      have fk := hF1 eo1 (i % c) a2
      subst eo1
      have e10 : ¬ (1 : Nat) = 0 := by omega
      simp (disch := omega) only [wY_back_17, wY_back_76, ay_sz, ay_at, ay_mk, j1, j2, j3, flw, z, an_l0, l0, an_e0, c1, e10, pk_rem, pk_sub, an_s1, ← fk, g, vp_in_nI, nI_clamp, nI_leI, nI_ltI, nI_eq, nI_add, nI_1, pk_mul, an_m36, an_n36, an_b468, forall_eq, true_and, and_true, true_implies, false_implies, not_true, not_false_iff, implies_true, pk_un, pk_us, ap_wrN, ap_wrS]
      exact ih
theorem ay_rev {post : SY → Prop} {y R r c : Nat} {d : Nat → Int32} (y1 : 14 ≤ y) (y2 : y < 50) (V : ap_VS R r c) (H : ap_Y rk rw wd dt y R r c d)
    (hP : ay_P post ct lv tx rk rw wd dt wt fi (ap_rev R r c d)) : wpY_back post (ct, lv, 0, tx, rk, rw, wd, dt, wt, fi) (nI y) 0 1 :=
  ay_bk (o := 1) (x := 0) (F := fun k => c - 1 - k) y1 y2 V H (by omega) (by omega) (by omega) (fun _ _ _ => rfl) (fun k h => by omega) (fun rk' rw' wd' dt' F Y => hP rk' rw' wd' dt' F (fun _ => Y))
theorem ay_rot {post : SY → Prop} {x y R r c S s t : Nat} {d e : Nat → Int32} (x1 : 14 ≤ x) (x2 : x < 50) (y1 : 14 ≤ y) (y2 : y < 50)
    (V : ap_VS R r c) (H : ap_Y rk rw wd dt x R r c d) (W : ap_VS S s t) (K : ap_Y rk rw wd dt y S s t e)
    (hP : ay_P post ct lv tx rk rw wd dt wt fi (ap_rot R d S s t e)) : (nI R = 0 → wY_applyTwo_165 post (nI x) (nI y) 0 ct lv 0 tx rk rw wd dt wt fi) ∧ (¬ nI R = 0 → wY_applyTwo_165 post (nI x) (nI y) (-13) ct lv 0 tx rk rw wd dt wt fi) := by
  obtain ⟨h1, h2, h3, h4⟩ := H
  have vb := ap_vb V
  unfold ap_rot at hP
  have md : ∀ (v : Int32) (k : Nat), k < t → (((k : Int) + v.toInt) % t).toNat < t := fun v k h => by
    have m0 := Int.emod_nonneg ((k : Int) + v.toInt) (b := t) (by omega)
    have m1 := Int.emod_lt_of_pos ((k : Int) + v.toInt) (b := t) (by omega)
    omega
  by_cases e1 : R = 0
  · rw [if_pos e1] at hP
    subst e1
    obtain ⟨rfl, rfl⟩ := ap_v0 V
    have d0 := h4 0 (by omega)
    rw [Nat.add_zero] at d0
    refine br_t nI_0 ?_
    simp (disch := omega) only [wY_applyTwo_165, ay_a0, d0]
    refine ay_bk (o := 0) (x := d 0) (F := fun k => (((k : Int) + (d 0).toInt) % t).toNat) y1 y2 W K (by omega) (fun _ => rfl) (fun _ _ _ => rfl) (by omega) (md _) (fun rk' rw' wd' dt' F Y => hP rk' rw' wd' dt' F (fun _ => ?_))
    refine ⟨Y.1, Y.2.1, Y.2.2.1, fun i hi => ?_⟩
    have hi' : i < s * t := hi
    obtain ⟨t0, a1, a2, a3⟩ := ap_dvl hi'
    rw [Y.2.2.2 i hi]
    show e (i - i % t + ((((i % t : Nat) : Int) + (d 0).toInt) % t).toNat) = e (i - i % t + (i % t + ((d 0).toInt % t).toNat) % t)
    rw [an_rt (k := i % t) (d 0).toInt t0]
  · rw [if_neg e1] at hP
    refine br_f (nI_ne0 (by omega) (by omega)) ?_
    simp (disch := omega) only [wY_applyTwo_165, ay_a0]
    exact ay_bk (o := 0) (x := dt (x * 36)) (F := fun k => (((k : Int) + (dt (x * 36)).toInt) % t).toNat) y1 y2 W K (by omega) (fun _ => rfl) (fun _ _ _ => rfl) (by omega) (md _) (fun rk' rw' wd' dt' F Y => hP rk' rw' wd' dt' F (fun z => absurd z (by decide)))
theorem ay_first {post : SY → Prop} {y R r c : Nat} {d : Nat → Int32} (y1 : 14 ≤ y) (y2 : y < 50) (V : ap_VS R r c) (H : ap_Y rk rw wd dt y R r c d)
    (hP : ay_P post ct lv tx rk rw wd dt wt fi (ap_first r c d)) : wpY_first post (ct, lv, 0, tx, rk, rw, wd, dt, wt, fi) (nI y) := by
  obtain ⟨h1, h2, h3, h4⟩ := H
  have s := ap_v36 V
  have flw := ap_flw V
  have f1 := ap_flb V
  have f3 := ap_wb V
  have q := ay_Pk (r := 1) (c := 1) (by omega) hP
  have m0 := fun (P : SY → Prop) (v : Int32) => ay_mk (ct := ct) (lv := lv) (er := 0) (tx := tx) (rk := rk) (rw := rw) (wd := wd) (dt := dt) (wt := wt) (fi := fi) P (i := 0) (by omega) v
  have sh := fun (P : SY → Prop) (dt : Nat → Int32) (a b : Int32) => ay_sh (ct := ct) (lv := lv) (er := 0) (tx := tx) (rk := rk) (rw := rw) (wd := wd) (dt := dt) (wt := wt) (fi := fi) P (R := 0) (by omega) a b
  rw [nI_0] at m0 sh
  rw [show (468 + 0 : Nat) = 468 from rfl] at m0
  by_cases e : r * c = 0
  · simp only [if_pos e, Nat.mul_one, ← ap_wr1] at q
    simp (disch := omega) only [wpY_first, wY_first_20, ay_sz, h2, h3, flw, an_e0, e, m0, sh, vp_in_nI, nI_clamp, nI_leI, nI_ltI, nI_eq, nI_add, nI_1, pk_mul, an_m36, an_n36, an_b468, forall_eq, true_and, and_true, true_implies, false_implies, not_true, not_false_iff, implies_true, pk_un, pk_us, ap_wrN, ap_wrS]
    exact q
  · simp only [if_neg e, Nat.mul_one, ← ap_wr1] at q
    have d0 := h4 0 (by omega)
    rw [Nat.add_zero] at d0
    simp (disch := omega) only [wpY_first, wY_first_20, ay_sz, ay_a0, h2, h3, flw, an_e0, e, d0, m0, sh, vp_in_nI, nI_clamp, nI_leI, nI_ltI, nI_eq, nI_add, nI_1, pk_mul, an_m36, an_n36, an_b468, forall_eq, true_and, and_true, true_implies, false_implies, not_true, not_false_iff, implies_true, pk_un, pk_us, ap_wrN, ap_wrS]
    exact q
theorem ay_ravel {post : SY → Prop} {y R r c : Nat} {d : Nat → Int32} (y1 : 14 ≤ y) (y2 : y < 50) (V : ap_VS R r c) (H : ap_Y rk rw wd dt y R r c d)
    (hP : ay_P post ct lv tx rk rw wd dt wt fi (ap_ravel r c d)) : wpY_ravel post (ct, lv, 0, tx, rk, rw, wd, dt, wt, fi) (nI y) := by
  have s := ap_v36 V
  have flw := ap_flw V
  have f1 := ap_flb V
  have f3 := ap_wb V
  obtain ⟨h1, h2, h3, h4⟩ := H
  unfold wpY_ravel
  refine ay_cp y2 (b := 13) (by omega) (by omega) ?_
  have sh := fun (P : SY → Prop) (rk rw wd dt : Nat → Int32) (a b : Int32) => ay_sh (ct := ct) (lv := lv) (er := 0) (tx := tx) (rk := rk) (rw := rw) (wd := wd) (dt := dt) (wt := wt) (fi := fi) P (R := 1) (by omega) a b
  rw [show nI 1 = 1 from rfl] at sh
  simp (disch := omega) only [ay_sz, h2, h3, flw, sh, vp_in_nI, nI_clamp, nI_leI, nI_ltI, nI_eq, nI_add, nI_1, pk_mul, an_m36, an_n36, an_b468, forall_eq, true_and, and_true, true_implies, false_implies, not_true, not_false_iff, implies_true, pk_un, pk_us, ap_wrN, ap_wrS]
  refine hP _ _ _ _ ⟨fun _ h => ⟨?_, ?_, ?_⟩, fun _ h => ap_cpN h⟩ (fun _ => ⟨pk_us, pk_us, pk_us, fun i h => ?_⟩)
  · rw [pk_un h, pk_un h]
  · rw [pk_un h, pk_un h]
  · rw [pk_un h, pk_un h]
  · have hi : i < 1 * (r * c) := h
    rw [ap_cpI (by omega)]
    exact h4 i (by omega)
theorem ay_rpL {post : SY → Prop} {J : Int32 → Int32 → Int32 → Int32 → (Nat → Int32) → (Nat → Int32) → (Nat → Int32) → (Nat → Int32) → (Nat → Int32) → (Nat → Int32) → (Nat → Int32) → Prop} {y i c : Nat} {d : Nat → Int32} (y2 : y < 50) (hi : i < c) (hc : rw y = nI c) (c36 : c ≤ 36) (hd : ∀ k, k < c → dt (y * 36 + k) = d k)
    (hp : J (nI (i + 1)) ct lv er tx rk rw wd (upd dt (468 + ap_pl d i c) (nI i)) wt fi) : ∃ n, wY_rise_48 post J (nI y) (nI i) ct lv er tx rk rw wd dt wt fi n 0 0 := by
  refine ap_le (fun n k a => wY_rise_48 post J (nI y) (nI i) ct lv er tx rk rw wd dt wt fi n (nI a) (nI k)) (fun k => ap_pl d i k) c rfl (fun n => ?_) (fun n k hk ih => ?_)
  · have z : c ≤ c := Nat.le_refl c
    have pl := (ap_plL (d := d) (i := i) c).2 hi
    simp (disch := omega) only [wY_rise_48, ay_mk, hc, z, vp_in_nI, nI_clamp, nI_leI, nI_ltI, nI_eq, nI_add, nI_1, pk_mul, an_m36, an_n36, an_b468, forall_eq, true_and, and_true, true_implies, false_implies, not_true, not_false_iff, implies_true, pk_un, pk_us, ap_wrN, ap_wrS]
    exact hp
  · have z : ¬ c ≤ k := by omega
    have z1 : ¬ (1 : Int32) = 0 := by decide
    have pl := (ap_plL (d := d) (i := i) k).1
    unfold ap_pl at ih
    simp (disch := omega) only [wY_rise_48, wY_rise_97, wY_rise_101, wY_rise_102, ay_at, hc, z, hd, z1, vp_in_nI, nI_clamp, nI_leI, nI_ltI, nI_eq, nI_add, nI_1, pk_mul, an_m36, an_n36, an_b468, forall_eq, true_and, and_true, true_implies, false_implies, not_true, not_false_iff, implies_true, pk_un, pk_us, ap_wrN, ap_wrS]
    by_cases a : d k < d i
    · rw [if_pos (Or.inl a)] at ih
      exact br_t a ih
    · refine br_f a ?_
      by_cases b : d k = d i
      · by_cases g : k < i
        · rw [if_pos (Or.inr ⟨b, g⟩)] at ih
          exact br_t b (br_f (by omega) ih)
        · rw [if_neg (fun z => z.elim a (fun z => g z.2))] at ih
          exact br_t b (br_t (by omega) ih)
      · rw [if_neg (fun z => z.elim a (fun z => b z.1))] at ih
        exact br_f b ih
theorem ay_rise {post : SY → Prop} {y R r c : Nat} {d : Nat → Int32} (y1 : 14 ≤ y) (y2 : y < 50) (V : ap_VS R r c) (H : ap_Y rk rw wd dt y R r c d)
    (hP : ay_P post ct lv tx rk rw wd dt wt fi (ap_rise R c d)) : wpY_rise post (ct, lv, 0, tx, rk, rw, wd, dt, wt, fi) (nI y) := by
  obtain ⟨h1, h2, h3, h4⟩ := H
  have vb := ap_vb V
  unfold ap_rise at hP
  by_cases e1 : R = 1
  case neg =>
    rw [if_neg e1] at hP
    have q := ay_Pe (by decide) hP
    simp (disch := omega) only [wpY_rise, h1, an_e1, e1, vp_in_nI, nI_clamp, nI_leI, nI_ltI, nI_eq, nI_add, nI_1, pk_mul, an_m36, an_n36, an_b468, forall_eq, true_and, and_true, true_implies, false_implies, not_true, not_false_iff, implies_true, pk_un, pk_us, ap_wrN, ap_wrS]
    exact q
  rw [if_pos e1] at hP
  subst e1
  have r1 := ap_v1 V (by omega)
  subst r1
  have h2' : rw y = nI c := h2
  have j2 : upd rw 13 (nI c) y = nI c := by rw [pk_un (by omega)]; exact h2
  have sh := fun (P : SY → Prop) (a b : Int32) => ay_sh (ct := ct) (lv := lv) (er := 0) (tx := tx) (rk := rk) (rw := rw) (wd := wd) (dt := dt) (wt := wt) (fi := fi) P (R := 1) (by omega) a b
  rw [show nI 1 = 1 from rfl] at sh
  simp (disch := omega) only [wpY_rise, h1, h2', an_e1, sh, vp_in_nI, nI_clamp, nI_leI, nI_ltI, nI_eq, nI_add, nI_1, pk_mul, an_m36, an_n36, an_b468, forall_eq, true_and, and_true, true_implies, false_implies, not_true, not_false_iff, implies_true, pk_un, pk_us, ap_wrN, ap_wrS]
  rw [show (if 1 = 0 then (1 : Int32) else nI c) = nI c from rfl]
  refine pk_loop (fun n i a => wY_rise_33 post (nI y) n (nI i) ct lv 0 tx (upd rk 13 1) (upd rw 13 (nI c)) (upd wd 13 (if 1 < 2 then 1 else 1)) a wt fi)
    (fun i a => (∀ j, (j < 468 ∨ 504 ≤ j) → a j = dt j) ∧ ∀ k, k < i → a (468 + ap_pl d k c) = nI k) c 0 dt (by omega) ⟨fun _ _ => rfl, fun k h => by omega⟩ (fun n a hI => ?_) (fun n i a hi hI ih => ?_)
  · have z : c ≤ c := Nat.le_refl c
    simp (disch := omega) only [wY_rise_33, j2, z, vp_in_nI, nI_clamp, nI_leI, nI_ltI, nI_eq, nI_add, nI_1, pk_mul, an_m36, an_n36, an_b468, forall_eq, true_and, and_true, true_implies, false_implies, not_true, not_false_iff, implies_true, pk_un, pk_us, ap_wrN, ap_wrS]
    refine hP _ _ _ _ ⟨fun _ h => ⟨pk_un h, pk_un h, pk_un h⟩, fun j h => hI.1 j (by omega)⟩ (fun _ => ⟨pk_us, pk_us, pk_us, fun j h => ?_⟩)
    have hj : j < 1 * c := h
    obtain ⟨i, hi, rfl⟩ := ap_riseS (d := d) (show j < c by omega)
    rw [show 13 * 36 + ap_pl d i c = 468 + ap_pl d i c from rfl, hI.2 i hi]
    dsimp only
    rw [ap_riseE hi]
  · have z : ¬ c ≤ i := by omega
    have pl := (ap_plL (d := d) (i := i) c).2 hi
    simp (disch := omega) only [wY_rise_33, j2, z, vp_in_nI, nI_clamp, nI_leI, nI_ltI, nI_eq, nI_add, nI_1, pk_mul, an_m36, an_n36, an_b468, forall_eq, true_and, and_true, true_implies, false_implies, not_true, not_false_iff, implies_true, pk_un, pk_us, ap_wrN, ap_wrS]
    refine ay_rpL (d := d) y2 hi j2 vb.2.2 (fun k hk => by rw [hI.1 _ (by omega)]; exact h4 k (by omega)) ?_
    refine ih _ ⟨fun j h => ?_, fun k hk => ?_⟩
    · rw [pk_un (by omega)]; exact hI.1 j h
    · by_cases e : k = i
      · subst e; rw [pk_us]
      · have ne : ¬ ap_pl d k c = ap_pl d i c := fun z => e (ap_plI (by omega) hi z)
        rw [pk_un (by omega)]
        exact hI.2 k (by omega)
end
