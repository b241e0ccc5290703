/-! Y: the small methods -/
theorem ap_flw {R r c : Nat} (V : ap_VS R r c) : ap_fl R r c * ap_w R c = r * c := by
  unfold ap_fl ap_w
  by_cases e : R = 2
  · rw [if_pos e, if_pos e]
  · rw [if_neg e, if_neg e, ap_v1 V e, Nat.mul_one, Nat.one_mul]
theorem ap_flb {R r c : Nat} (V : ap_VS R r c) : ap_fl R r c ≤ 36 := by
  have := ap_vb V
  unfold ap_fl
  split <;> omega
theorem ap_wb {R r c : Nat} (V : ap_VS R r c) : ap_w R c ≤ 6 := by
  unfold ap_w ap_VS at *
  split <;> omega
theorem ay_i13 : vp_in 13 50 := vp_in_nI (n := 13) (by omega) (by omega)
def ay_P (post : SY → Prop) (ct lv : Int32) (tx rk rw wd dt wt fi : Nat → Int32) (T : ap_T) : Prop :=
  ∀ rk' rw' wd' dt', ap_F 13 rk rw wd dt rk' rw' wd' dt' → (T.1 = 0 → ap_Y rk' rw' wd' dt' 13 T.2.1 T.2.2.1 T.2.2.2.1 T.2.2.2.2) → post (ct, lv, T.1, tx, rk', rw', wd', dt', wt, fi)
section
variable {ct lv er : Int32} {tx rk rw wd dt wt fi : Nat → Int32}
theorem ay_Pe {post : SY → Prop} {e : Int32} (he : e ≠ 0) (h : ay_P post ct lv tx rk rw wd dt wt fi (ap_er e)) : post (ct, lv, e, tx, rk, rw, wd, dt, wt, fi) :=
  h rk rw wd dt (ap_Fr _ _ _ _ _) (fun z => absurd z he)
theorem ay_Pb {post : SY → Prop} {R r c : Nat} {g b : Nat → Int32} (hs : r * c ≤ 36) (hb : ∀ j, (j < 468 ∨ 504 ≤ j) → b j = dt j) (h : ay_P post ct lv tx rk rw wd dt wt fi (0, R, r, c, g)) :
    post (ct, lv, 0, tx, upd rk 13 (nI R), upd rw 13 (nI (ap_fl R r c)), upd wd 13 (nI (ap_w R c)), ap_wr b g (r * c), wt, fi) :=
  h _ _ _ _ ⟨fun _ h => ⟨pk_un h, pk_un h, pk_un h⟩, fun j h => (ap_wrN hs (by omega)).trans (hb j (by omega))⟩ (fun _ => ap_Y13)
theorem ay_Pk {post : SY → Prop} {R r c : Nat} {g : Nat → Int32} (hs : r * c ≤ 36) (h : ay_P post ct lv tx rk rw wd dt wt fi (0, R, r, c, g)) :
    post (ct, lv, 0, tx, upd rk 13 (nI R), upd rw 13 (nI (ap_fl R r c)), upd wd 13 (nI (ap_w R c)), ap_wr dt g (r * c), wt, fi) := ay_Pb hs (fun _ _ => rfl) h
theorem ay_sz (post : Int32 → Prop) {h : Nat} (hh : h < 50) : wpY_sizeOf post (ct, lv, er, tx, rk, rw, wd, dt, wt, fi) (nI h) = post (rw h * wd h) := by
  simp (disch := omega) only [wpY_sizeOf, vp_in_nI, nI_clamp, true_and]
theorem ay_s13 (post : Int32 → Prop) : wpY_sizeOf post (ct, lv, er, tx, rk, rw, wd, dt, wt, fi) 13 = post (rw 13 * wd 13) := by
  simp only [wpY_sizeOf, ay_i13, ax_c13, true_and]
theorem ay_at (post : Int32 → Prop) {h i : Nat} (hh : h * 36 + i < 1800) : wpY_numberAt post (ct, lv, er, tx, rk, rw, wd, dt, wt, fi) (nI h) (nI i) = post (dt (h * 36 + i)) := by
  simp (disch := omega) only [wpY_numberAt, an_n36, nI_add, vp_in_nI, nI_clamp, true_and]
theorem ay_a0 (post : Int32 → Prop) {h : Nat} (hh : h * 36 < 1800) : wpY_numberAt post (ct, lv, er, tx, rk, rw, wd, dt, wt, fi) (nI h) 0 = post (dt (h * 36)) := by
  simp (disch := omega) only [wpY_numberAt, an_n36, an_a0, vp_in_nI, nI_clamp, true_and, Nat.add_zero]
theorem ay_mk (post : SY → Prop) {i : Nat} (hi : i < 36) (v : Int32) : wpY_make post (ct, lv, er, tx, rk, rw, wd, dt, wt, fi) (nI i) v = post (ct, lv, er, tx, rk, rw, wd, upd dt (468 + i) v, wt, fi) := by
  simp (disch := omega) only [wpY_make, an_b468, vp_in_nI, nI_clamp, true_and, forall_eq]
theorem ay_rs (post : Int32 → Prop) {h R r c : Nat} (hh : h < 50) (V : ap_VS R r c) (h1 : rk h = nI R) (h2 : rw h = nI (ap_fl R r c)) (h3 : wd h = nI (ap_w R c)) : wpY_rowSize post (ct, lv, er, tx, rk, rw, wd, dt, wt, fi) (nI h) = post (nI c) := by
  have vb := ap_vb V
  simp (disch := omega) only [wpY_rowSize, vp_in_nI, nI_clamp, true_and, h1, h2, h3, an_e2]
  unfold ap_fl ap_w
  by_cases e : R = 2
  · simp only [e, true_implies, not_true, false_implies, and_true, if_true]
  · simp only [e, false_implies, not_false_iff, true_implies, true_and, if_false]
theorem ay_rc (post : Int32 → Prop) {h R r c : Nat} (hh : h < 50) (V : ap_VS R r c) (h1 : rk h = nI R) (h2 : rw h = nI (ap_fl R r c)) : wpY_rowCount post (ct, lv, er, tx, rk, rw, wd, dt, wt, fi) (nI h) = post (nI r) := by
  have vb := ap_vb V
  simp (disch := omega) only [wpY_rowCount, vp_in_nI, nI_clamp, true_and, h1, h2, an_e2]
  unfold ap_fl
  by_cases e : R = 2
  · simp only [e, true_implies, not_true, false_implies, and_true, if_true]
  · simp only [e, false_implies, not_false_iff, true_implies, true_and, ap_v1 V e]
    rfl
theorem ay_sp (post : SY → Prop) {p R : Nat} (hp : p < 50) (hR : R ≤ 2) (a b : Int32) : wpY_shape post (ct, lv, er, tx, rk, rw, wd, dt, wt, fi) (nI p) (nI R) a b = post (ct, lv, er, tx, upd rk p (nI R), upd rw p (if R = 0 then 1 else a), upd wd p (if R < 2 then 1 else b), dt, wt, fi) := by
  simp (disch := omega) only [wpY_shape, wY_shape_21, vp_in_nI, nI_clamp, true_and, forall_eq, an_e0, an_g2]
  rcases (by omega : R = 0 ∨ R = 1 ∨ R = 2) with rfl | rfl | rfl
  · simp
  · simp
  · simp
theorem ay_sh (post : SY → Prop) {R : Nat} (hR : R ≤ 2) (a b : Int32) : wpY_shape post (ct, lv, er, tx, rk, rw, wd, dt, wt, fi) 13 (nI R) a b = post (ct, lv, er, tx, upd rk 13 (nI R), upd rw 13 (if R = 0 then 1 else a), upd wd 13 (if R < 2 then 1 else b), dt, wt, fi) := ay_sp (p := 13) post (by omega) hR a b
theorem ay_sv (post : SY → Prop) {p R r c : Nat} (hp : p < 50) (V : ap_VS R r c) : wpY_shape post (ct, lv, er, tx, rk, rw, wd, dt, wt, fi) (nI p) (nI R) (nI (ap_fl R r c)) (nI (ap_w R c)) = post (ct, lv, er, tx, upd rk p (nI R), upd rw p (nI (ap_fl R r c)), upd wd p (nI (ap_w R c)), dt, wt, fi) := by
  have vb := ap_vb V
  rw [ay_sp post hp vb.1]
  have e1 : (if R = 0 then (1 : Int32) else nI (ap_fl R r c)) = nI (ap_fl R r c) := by
    by_cases e : R = 0
    · subst e
      obtain ⟨rfl, rfl⟩ := ap_v0 V
      rfl
    · rw [if_neg e]
  have e2 : (if R < 2 then (1 : Int32) else nI (ap_w R c)) = nI (ap_w R c) := by
    by_cases e : R < 2
    · rw [if_pos e]
      unfold ap_w
      rw [if_neg (by omega)]
      rfl
    · rw [if_neg e]
  rw [e1, e2]
theorem ay_s3 (post : SY → Prop) {R r c : Nat} (V : ap_VS R r c) : wpY_shape post (ct, lv, er, tx, rk, rw, wd, dt, wt, fi) 13 (nI R) (nI (ap_fl R r c)) (nI (ap_w R c)) = post (ct, lv, er, tx, upd rk 13 (nI R), upd rw 13 (nI (ap_fl R r c)), upd wd 13 (nI (ap_w R c)), dt, wt, fi) := ay_sv (p := 13) post (by omega) V
theorem ay_no (post : Int32 → Prop) {f : Nat} (hf : f < 100) : wpY_none post (ct, lv, er, tx, rk, rw, wd, dt, wt, fi) (nI f) = post (ap_ne f) := by
  simp (disch := omega) only [wpY_none, an_e22]
  unfold ap_ne
  by_cases e : f = 22
  · simp only [e, true_implies, not_true, false_implies, and_true, if_true]
  · simp only [e, false_implies, not_false_iff, true_implies, true_and, if_false]
theorem ay_rm (post : Int32 → Prop) {x y : Int32} : wY_work_130 post y (ap_dv x) ct lv er tx rk rw wd dt wt fi = post (ap_rs x y) := by
  by_cases h : x = 0
  · subst h
    have e : ap_dv 0 = 0 := by decide
    simp only [wY_work_130, e, true_implies, not_true, false_implies, and_true]
    unfold ap_rs
    rw [if_pos rfl]
  · simp only [wY_work_130, ax_d0 h, not_false_iff, true_and, forall_eq, false_implies, true_implies]
    unfold ap_rs
    rw [if_neg h, show y.toInt64 - y.toInt64 / ap_dv x * ap_dv x = ap_rm x y from rfl]
    by_cases c : ap_rm x y < 0
    · have c2 : ¬ 0 ≤ ap_rm x y := by rw [Int64.not_le]; exact c
      simp only [c, c2, false_implies, not_false_iff, true_implies, true_and, if_true]
    · have c2 : 0 ≤ ap_rm x y := Int64.not_lt.mp c
      simp only [c, c2, true_implies, not_true, false_implies, and_true, if_false]
theorem ay_wk (post : Int32 → Prop) {f : Nat} (hf : ag_sc f) (x y : Int32) : wpY_work post (ct, lv, er, tx, rk, rw, wd, dt, wt, fi) (nI f) x y = post (ap_sf f x y) := by
  have l1 : (x ≤ y) = ¬ (y < x) := by rw [Int32.not_lt]
  have l2 : (y ≤ x) = ¬ (x < y) := by rw [Int32.not_lt]
  have d10 : ¬ (1 : Int32) = 0 := by decide
  have d01 : ¬ (0 : Int32) = 1 := by decide
  have fl : ∀ a b : Nat, a < 100 → b < 100 → a < b → ¬ nI b ≤ nI a := fun a b h1 h2 h => nI_ge h (by omega)
  rcases (by unfold ag_sc at hf; omega : f = 20 ∨ f = 21 ∨ f = 22 ∨ f = 23 ∨ f = 24 ∨ f = 25 ∨ f = 26 ∨ f = 27) with rfl | rfl | rfl | rfl | rfl | rfl | rfl | rfl
  · simp (disch := omega) [wpY_work, ap_sf, an_e20, an_g23]
  · simp (disch := omega) [wpY_work, ap_sf, an_e20, an_e21, an_g23]
  · simp (disch := omega) [wpY_work, ap_sf, an_e20, an_e21, an_e22, an_g23]
  · by_cases c : y < x <;> simp (disch := omega) [wpY_work, wY_work_51, wY_work_61, ap_sf, an_e23, an_g23, an_g25, l1, c]
  · by_cases c : y < x
    · have c2 : ¬ x < y := by rw [Int32.not_lt]; exact Int32.le_of_lt c
      simp (disch := omega) [wpY_work, wY_work_51, wY_work_61, ap_sf, an_e23, an_g23, an_g25, l1, c, c2]
    · by_cases c2 : x < y
      · simp (disch := omega) [wpY_work, wY_work_51, wY_work_61, ap_sf, an_e23, an_g23, an_g25, l1, c, c2]
      · have e : x = y := Int32.le_antisymm (Int32.not_lt.mp c) (Int32.not_lt.mp c2)
        subst e
        simp (disch := omega) [wpY_work, wY_work_51, wY_work_61, ap_sf, an_e23, an_g23, an_g25, c]
  · by_cases c : x = y <;> simp (disch := omega) [wpY_work, wY_work_105, ap_sf, an_e23, an_e25, an_g23, an_g25, an_g27, c]
  · by_cases c : x < y <;> simp (disch := omega) [wpY_work, wY_work_105, ap_sf, an_e23, an_e25, an_g23, an_g25, an_g27, l2, c]
  · have a1 : 23 ≤ nI 27 := by decide
    have a2 : 25 ≤ nI 27 := by decide
    have a3 : 27 ≤ nI 27 := by decide
    simp only [wpY_work, a1, a2, a3, true_implies, not_true, false_implies, and_true]
    have e := ay_rm (ct := ct) (lv := lv) (er := er) (tx := tx) (rk := rk) (rw := rw) (wd := wd) (dt := dt) (wt := wt) (fi := fi) post (x := x) (y := y)
    rw [ax_dv] at e
    rw [show ap_sf 27 x y = ap_rs x y from rfl, ← e]
    by_cases c : 0 ≤ x
    · simp only [c, true_implies, not_true, false_implies, and_true, if_true]
    · simp only [c, false_implies, not_false_iff, true_implies, true_and, if_false]
theorem ay_cp {post : SY → Prop} {a b : Nat} (ha : a < 50) (hb : b < 50) (hab : a ≠ b) (hp : post (ct, lv, er, tx, upd rk b (rk a), upd rw b (rw a), upd wd b (wd a), ap_cp dt a b 36, wt, fi)) : wpY_copy post (ct, lv, er, tx, rk, rw, wd, dt, wt, fi) (nI a) (nI b) := by
  simp (disch := omega) only [wpY_copy, vp_in_nI, nI_clamp, nI_leI, nI_ltI, nI_eq, nI_add, nI_1, pk_mul, an_m36, an_n36, an_b468, forall_eq, true_and, and_true, true_implies, false_implies, not_true, not_false_iff, implies_true, pk_un, pk_us, ap_wrN, ap_wrS]
  refine ap_le (fun n i s => wY_copy_38 post (nI a) (nI b) ct lv er n (nI i) tx (upd rk b (rk a)) (upd rw b (rw a)) (upd wd b (wd a)) s wt fi) (fun i => ap_cp dt a b i) 36 (ap_cp0 _ _ _) (fun n => ?_) (fun n i hi ih => ?_)
  · exact br_t (by decide) hp
  · have z : ¬ 36 ≤ i := by omega
    simp (disch := omega) only [wY_copy_38, an_g36, z, ap_cpS hab, vp_in_nI, nI_clamp, nI_leI, nI_ltI, nI_eq, nI_add, nI_1, pk_mul, an_m36, an_n36, an_b468, forall_eq, true_and, and_true, true_implies, false_implies, not_true, not_false_iff, implies_true, pk_un, pk_us, ap_wrN, ap_wrS]
    exact ih
theorem ay_fdL (post : Int32 → Prop) {f p s l : Nat} (hf : ag_sc f) (hs : p * 36 + s + l + 1 ≤ 1800) : ∀ m n, m ≤ l → l - m < n → post (ap_fr f (fun i => dt (p * 36 + (s + i))) l l) →
    wY_fold_32 post (nI f) (nI p) (nI s) ct lv er tx rk rw wd dt wt fi n (ap_fr f (fun i => dt (p * 36 + (s + i))) l m) (nI (l - m) - 1) := by
  intro m n hm hn hp
  induction n generalizing m with
  | zero => omega
  | succ n ih =>
    by_cases e : l - m = 0
    · have e2 : m = l := by omega
      subst e2
      rw [e]
      exact br_t (by decide) hp
    · obtain ⟨q, hq⟩ : ∃ q, l - m = q + 1 := ⟨l - m - 1, by omega⟩
      have z : ¬ nI q < 0 := nI_pos (by omega)
      rw [hq, nI_pred]
      simp (disch := omega) only [wY_fold_32, ay_at, ay_wk _ hf, vp_in_nI, nI_clamp, nI_leI, nI_ltI, nI_eq, nI_add, nI_1, pk_mul, an_m36, an_n36, an_b468, forall_eq, true_and, and_true, true_implies, false_implies, not_true, not_false_iff, implies_true, pk_un, pk_us, ap_wrN, ap_wrS, z]
      have h := ih (m + 1) (by omega) (by omega)
      have e3 : l - (m + 1) = q := by omega
      rw [e3] at h
      rw [show ap_fr f (fun i => dt (p * 36 + (s + i))) l (m + 1) = ap_sf f (dt (p * 36 + (s + q))) (ap_fr f (fun i => dt (p * 36 + (s + i))) l m) by rw [← e3]; rfl] at h
      rw [show nI q + -1 = nI q - 1 from (Int32.sub_eq_add_neg _ _).symm]
      exact h
theorem ay_fd (post : Int32 → Prop) {f p s k : Nat} (hf : ag_sc f) (hs : p * 36 + s + k ≤ 1800) (hp : post (ap_fv f (fun i => dt (p * 36 + (s + i))) k)) : wpY_fold post (ct, lv, er, tx, rk, rw, wd, dt, wt, fi) (nI f) (nI p) (nI s) (nI k) := by
  have f1 : f < 100 := by unfold ag_sc at hf; omega
  unfold ap_fv at hp
  by_cases e : k = 0
  · rw [if_pos e] at hp
    subst e
    simp (disch := omega) only [wpY_fold, ay_no, nI_0, true_implies, not_true, false_implies, and_true, forall_eq]
    exact ⟨1, br_t (by decide) hp⟩
  · rw [if_neg e] at hp
    obtain ⟨l, rfl⟩ : ∃ l, k = l + 1 := ⟨k - 1, by omega⟩
    rw [Nat.add_sub_cancel] at hp
    have z : ¬ nI (l + 1) = 0 := nI_ne0 (by omega) (by omega)
    have z2 : nI (l + 1) - 2 = nI l - 1 := by
      rw [← nI_1, show (2 : Int32) = 1 + 1 from rfl, ← Int32.sub_sub, Int32.add_sub_cancel]
    have z3 : nI s + nI (l + 1) - 1 = nI (s + l) := by rw [nI_add, ← Nat.add_assoc, nI_pred]
    simp (disch := omega) only [wpY_fold, z, z2, z3, ay_at, false_implies, not_false_iff, true_implies, true_and, forall_eq]
    exact ⟨l + 1, ay_fdL post hf (by omega) 0 (l + 1) (by omega) (by omega) hp⟩
end
