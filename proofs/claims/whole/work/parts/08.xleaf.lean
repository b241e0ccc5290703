/-! X: the small methods -/
theorem ax_i13 : vp_in 13 46 := vp_in_nI (n := 13) (by omega) (by omega)
theorem ax_c13 : (13 : Int32).toNatClampNeg = 13 := nI_clamp (n := 13) (by omega)
section
variable {tc lv : Int32} {tx rk rw cl nb gv wt : Nat → Int32}
theorem ax_s13 (post : SX → Prop) (a b c : Int32) : wpX_setShape post (tc, lv, tx, rk, rw, cl, nb, gv, wt) 13 a b c = post (tc, lv, tx, upd rk 13 a, upd rw 13 b, upd cl 13 c, nb, gv, wt) := by
  simp only [wpX_setShape, ax_i13, ax_c13, forall_eq, true_and]
theorem ax_ss (post : SX → Prop) {h : Nat} (hh : h < 46) (a b c : Int32) : wpX_setShape post (tc, lv, tx, rk, rw, cl, nb, gv, wt) (nI h) a b c = post (tc, lv, tx, upd rk h a, upd rw h b, upd cl h c, nb, gv, wt) := by
  simp (disch := omega) only [wpX_setShape, vp_in_nI, nI_clamp, forall_eq, true_and]
theorem ax_sz (post : Int32 → Prop) {h : Nat} (hh : h < 46) : wpX_sizeOf post (tc, lv, tx, rk, rw, cl, nb, gv, wt) (nI h) = post (rw h * cl h) := by
  simp (disch := omega) only [wpX_sizeOf, vp_in_nI, nI_clamp, true_and]
theorem ax_fl (post : Int32 → Prop) {h R r c : Nat} (hh : h < 46) (hR : R ≤ 2) (h1 : rk h = nI R) (h2 : rw h = nI r) (h3 : cl h = nI c) : wpX_firstLength post (tc, lv, tx, rk, rw, cl, nb, gv, wt) (nI h) = post (nI (ap_fl R r c)) := by
  simp (disch := omega) only [wpX_firstLength, vp_in_nI, nI_clamp, true_and, h1, h2, h3, an_e2]
  unfold ap_fl
  by_cases e : R = 2
  · simp only [e, true_implies, not_true, false_implies, and_true, if_true]
  · simp only [e, false_implies, not_false_iff, true_implies, true_and, if_false]
end
theorem ax_ne (post : Int32 → Prop) {f : Nat} (hf : f < 100) : wpX_neutral post (nI f) = post (ap_ne f) := by
  simp (disch := omega) only [wpX_neutral, an_e22]
  unfold ap_ne
  by_cases e : f = 22
  · simp only [e, true_implies, not_true, false_implies, and_true, if_true]
  · simp only [e, false_implies, not_false_iff, true_implies, true_and, if_false]
theorem ax_dv (x : Int32) : ap_dv x = if 0 ≤ x then x.toInt64 else -x.toInt64 := by
  unfold ap_dv
  by_cases h : x < 0
  · rw [if_pos h, if_neg (by rw [Int32.not_le]; exact h)]
  · rw [if_neg h, if_pos (Int32.not_lt.mp h)]
theorem ax_d0 {x : Int32} (h : ¬ x = 0) : ¬ ap_dv x = 0 := by
  intro e
  apply h
  have e2 := congrArg Int64.toInt e
  unfold ap_dv at e2
  have z : (0 : Int64).toInt = 0 := by decide
  have b1 := x.le_toInt
  have b2 := x.toInt_lt
  apply Int32.toInt_inj.mp
  rw [show (0 : Int32).toInt = 0 from by decide]
  split at e2
  · rw [Jvm.Kit.i64_neg (by rw [Jvm.Kit.i64_of_i32]; omega), Jvm.Kit.i64_of_i32, z] at e2
    omega
  · rw [Jvm.Kit.i64_of_i32, z] at e2
    exact e2
theorem ax_rs (post : Int32 → Prop) {x y : Int32} (h : ¬ x = 0) : wX_scalar_118 post y (ap_dv x) = post (ap_rs x y) := by
  simp only [wX_scalar_118, ax_d0 h, not_false_iff, true_and, forall_eq]
  unfold ap_rs
  rw [if_neg h, show y.toInt64 - y.toInt64 / ap_dv x * ap_dv x = ap_rm x y from rfl]
  by_cases c : ap_rm x y < 0
  · have c2 : ¬ 0 ≤ ap_rm x y := by rw [Int64.not_le]; exact c
    simp only [c, c2, false_implies, not_false_iff, true_implies, true_and, if_true]
  · have c2 : 0 ≤ ap_rm x y := Int64.not_lt.mp c
    simp only [c, c2, true_implies, not_true, false_implies, and_true, if_false]
theorem ax_rest (post : Int32 → Prop) (x y : Int32) : ((x = 0 → post y) ∧ (¬ x = 0 → ((0 ≤ x → wX_scalar_118 post y x.toInt64) ∧ (¬ 0 ≤ x → wX_scalar_118 post y (-x.toInt64))))) = post (ap_rs x y) := by
  by_cases h : x = 0
  · simp only [h, true_implies, not_true, false_implies, and_true]
    unfold ap_rs
    rw [if_pos rfl]
  · rw [← ax_rs post h, ax_dv]
    by_cases c : 0 ≤ x
    · simp only [h, c, false_implies, not_false_iff, true_implies, true_and, not_true, and_true, if_true]
    · simp only [h, c, false_implies, not_false_iff, true_implies, true_and, if_false]
theorem ax_sf (post : Int32 → Prop) {f : Nat} (hf : ag_sc f) (x y : Int32) : wpX_scalar post (nI f) x y = post (ap_sf f x y) := by
  have e := ax_rest post x y
  have l1 : (x ≤ y) = ¬ (y < x) := by rw [Int32.not_lt]
  have l2 : (y ≤ x) = ¬ (x < y) := by rw [Int32.not_lt]
  rcases (by unfold ag_sc at hf; omega : f = 20 ∨ f = 21 ∨ f = 22 ∨ f = 23 ∨ f = 24 ∨ f = 25 ∨ f = 26 ∨ f = 27) with rfl | rfl | rfl | rfl | rfl | rfl | rfl | rfl
  · simp (disch := omega) [wpX_scalar, ap_sf, an_e20, an_t20, an_u26]
  · simp (disch := omega) [wpX_scalar, ap_sf, an_e20, an_e21, an_t20, an_u26]
  · simp (disch := omega) [wpX_scalar, ap_sf, an_e20, an_e21, an_e22, an_t20, an_u26]
  · by_cases c : y < x <;> simp (disch := omega) [wpX_scalar, ap_sf, an_e20, an_e21, an_e22, an_e23, an_t20, an_u26, l1, c]
  · by_cases c : x < y <;> simp (disch := omega) [wpX_scalar, ap_sf, an_e20, an_e21, an_e22, an_e23, an_e24, an_t20, an_u26, l2, c]
  · by_cases c : x = y <;> simp (disch := omega) [wpX_scalar, ap_sf, an_e20, an_e21, an_e22, an_e23, an_e24, an_e25, an_t20, an_u26, c]
  · by_cases c : x < y <;> simp (disch := omega) [wpX_scalar, ap_sf, an_e20, an_e21, an_e22, an_e23, an_e24, an_e25, an_e26, an_t20, an_u26, l2, c]
  · have a1 : ¬ (nI 27 < 20) := by decide
    have a2 : 26 < nI 27 := by decide
    simp only [wpX_scalar, a1, a2, false_implies, not_false_iff, true_implies, true_and, not_true, and_true]
    exact e
section
variable {tc lv : Int32} {tx rk rw cl nb gv wt : Nat → Int32}
theorem ax_fdL (post : Int32 → Prop) {f s l : Nat} (hf : ag_sc f) (hs : s + l + 1 ≤ 1656) : ∀ m n, m ≤ l → l - m < n → post (ap_fr f (fun i => nb (s + i)) l l) →
    wX_fold_26 post (nI f) (nI s) tc lv tx rk rw cl nb gv wt n (ap_fr f (fun i => nb (s + i)) l m) (nI (l - m) - 1) := by
  intro m n hm hn hp
  induction n generalizing m with
  | zero => omega
  | succ n ih =>
    by_cases e : l - m = 0
    · have e2 : m = l := by omega
      subst e2
      rw [e]
      exact br_t (by decide) hp
    · obtain ⟨q, hq⟩ : ∃ q, l - m = q + 1 := ⟨l - m - 1, by omega⟩
      have z : ¬ nI q < 0 := nI_pos (by omega)
      rw [hq, nI_pred]
      simp (disch := omega) only [wX_fold_26, vp_in_nI, nI_clamp, nI_leI, nI_ltI, nI_eq, nI_add, nI_1, pk_mul, an_m36, an_n36, an_b468, forall_eq, true_and, and_true, true_implies, false_implies, not_true, not_false_iff, implies_true, pk_un, pk_us, ap_wrN, ap_wrS, z, ax_sf _ hf]
      have h := ih (m + 1) (by omega) (by omega)
      have e3 : l - (m + 1) = q := by omega
      rw [e3] at h
      rw [show ap_fr f (fun i => nb (s + i)) l (m + 1) = ap_sf f (nb (s + q)) (ap_fr f (fun i => nb (s + i)) l m) by rw [← e3]; rfl] at h
      rw [show nI q + -1 = nI q - 1 from (Int32.sub_eq_add_neg _ _).symm]
      exact h
theorem ax_fd (post : Int32 → Prop) {f s k : Nat} (hf : ag_sc f) (hs : s + k ≤ 1656) (hp : post (ap_fv f (fun i => nb (s + i)) k)) : wpX_fold post (tc, lv, tx, rk, rw, cl, nb, gv, wt) (nI f) (nI s) (nI k) := by
  unfold ap_fv at hp
  by_cases e : k = 0
  · rw [if_pos e] at hp
    subst e
    simp (disch := omega) only [wpX_fold, ax_ne, nI_0, true_implies, not_true, false_implies, and_true]
    exact hp
  · rw [if_neg e] at hp
    obtain ⟨l, rfl⟩ : ∃ l, k = l + 1 := ⟨k - 1, by omega⟩
    rw [Nat.add_sub_cancel] at hp
    have z : ¬ nI (l + 1) = 0 := nI_ne0 (by omega) (by omega)
    have z2 : nI (l + 1) - 2 = nI l - 1 := by
      rw [← nI_1, show (2 : Int32) = 1 + 1 from rfl, ← Int32.sub_sub, Int32.add_sub_cancel]
    simp (disch := omega) only [wpX_fold, z, z2, nI_add, ← Nat.add_assoc, nI_pred, vp_in_nI, nI_clamp, nI_leI, nI_ltI, nI_eq, nI_add, nI_1, pk_mul, an_m36, an_n36, an_b468, forall_eq, true_and, and_true, true_implies, false_implies, not_true, not_false_iff, implies_true, pk_un, pk_us, ap_wrN, ap_wrS]
    exact ⟨l + 1, ax_fdL post hf (by omega) 0 (l + 1) (by omega) (by omega) hp⟩
end
