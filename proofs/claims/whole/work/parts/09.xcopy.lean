/-! copies; what X's functions promise -/
def ap_cp (a : Nat → Int32) (p q k : Nat) : Nat → Int32 := fun j => if q * 36 ≤ j ∧ j < q * 36 + k then a (p * 36 + (j - q * 36)) else a j
theorem ap_cp0 (a : Nat → Int32) (p q : Nat) : ap_cp a p q 0 = a := by
  funext j; unfold ap_cp; rw [if_neg (by omega)]
theorem ap_cpS {a : Nat → Int32} {p q k : Nat} (h : p ≠ q) (hk : k < 36) : upd (ap_cp a p q k) (q * 36 + k) (ap_cp a p q k (p * 36 + k)) = ap_cp a p q (k + 1) := by
  funext j
  unfold ap_cp upd
  by_cases e : j = q * 36 + k
  · subst e
    dsimp only
    rw [if_pos rfl, if_neg (show ¬ (q * 36 ≤ p * 36 + k ∧ p * 36 + k < q * 36 + k) by omega), if_pos (show q * 36 ≤ q * 36 + k ∧ q * 36 + k < q * 36 + (k + 1) by omega), show q * 36 + k - q * 36 = k by omega]
  · rw [if_neg e]
    dsimp only
    by_cases e2 : q * 36 ≤ j ∧ j < q * 36 + k
    · rw [if_pos e2, if_pos (by omega)]
    · rw [if_neg e2, if_neg (by omega)]
theorem ap_cpN {a : Nat → Int32} {p q j : Nat} (h : j < q * 36 ∨ q * 36 + 36 ≤ j) : ap_cp a p q 36 j = a j := by
  unfold ap_cp; rw [if_neg (by omega)]
theorem ap_cpI {a : Nat → Int32} {p q i : Nat} (h : i < 36) : ap_cp a p q 36 (q * 36 + i) = a (p * 36 + i) := by
  unfold ap_cp; rw [if_pos (by omega), show q * 36 + i - q * 36 = i by omega]
theorem ap_cpF {rk rw cl nb : Nat → Int32} {p q : Nat} {x y z : Int32} : ap_F q rk rw cl nb (upd rk q x) (upd rw q y) (upd cl q z) (ap_cp nb p q 36) :=
  ⟨fun _ h => ⟨pk_un h, pk_un h, pk_un h⟩, fun _ h => ap_cpN h⟩
theorem ap_cpX {rk rw cl nb d : Nat → Int32} {p q R r c : Nat} (V : r * c ≤ 36) (H : ap_X rk rw cl nb p R r c d) : ap_X (upd rk q (rk p)) (upd rw q (rw p)) (upd cl q (cl p)) (ap_cp nb p q 36) q R r c d := by
  obtain ⟨a, b, e, g⟩ := H
  exact ⟨by rw [pk_us]; exact a, by rw [pk_us]; exact b, by rw [pk_us]; exact e, fun i hi => (ap_cpI (by omega)).trans (g i hi)⟩
theorem ap_cpY {rk rw cl nb d : Nat → Int32} {p q R r c : Nat} (V : r * c ≤ 36) (H : ap_Y rk rw cl nb p R r c d) : ap_Y (upd rk q (rk p)) (upd rw q (rw p)) (upd cl q (cl p)) (ap_cp nb p q 36) q R r c d := by
  obtain ⟨a, b, e, g⟩ := H
  exact ⟨by rw [pk_us]; exact a, by rw [pk_us]; exact b, by rw [pk_us]; exact e, fun i hi => (ap_cpI (by omega)).trans (g i hi)⟩
def ax_P (post : Int32 → SX → Prop) (tc lv : Int32) (tx rk rw cl nb gv wt : Nat → Int32) (T : ap_T) : Prop :=
  (T.1 ≠ 0 → post T.1 (tc, lv, tx, rk, rw, cl, nb, gv, wt)) ∧ (T.1 = 0 → ∀ rk' rw' cl' nb', ap_F 13 rk rw cl nb rk' rw' cl' nb' → ap_X rk' rw' cl' nb' 13 T.2.1 T.2.2.1 T.2.2.2.1 T.2.2.2.2 → post 0 (tc, lv, tx, rk', rw', cl', nb', gv, wt))
def ax_Q (post : SX → Prop) (tc lv : Int32) (tx rk rw cl nb gv wt : Nat → Int32) (T : ap_T) : Prop :=
  ∀ rk' rw' cl' nb', ap_F 13 rk rw cl nb rk' rw' cl' nb' → ap_X rk' rw' cl' nb' 13 T.2.1 T.2.2.1 T.2.2.2.1 T.2.2.2.2 → post (tc, lv, tx, rk', rw', cl', nb', gv, wt)
section
variable {tc lv : Int32} {tx rk rw cl nb gv wt : Nat → Int32}
theorem ax_Pe {post : Int32 → SX → Prop} {e : Int32} (he : e ≠ 0) (h : ax_P post tc lv tx rk rw cl nb gv wt (ap_er e)) : post e (tc, lv, tx, rk, rw, cl, nb, gv, wt) := h.1 he
theorem ax_Pk {post : Int32 → SX → Prop} {R r c : Nat} {g : Nat → Int32} (hs : r * c ≤ 36) (h : ax_P post tc lv tx rk rw cl nb gv wt (0, R, r, c, g)) :
    post 0 (tc, lv, tx, upd rk 13 (nI R), upd rw 13 (nI r), upd cl 13 (nI c), ap_wr nb g (r * c), gv, wt) := h.2 rfl _ _ _ _ (ap_F13 hs) ap_X13
theorem ax_Qk {post : SX → Prop} {R r c : Nat} {g : Nat → Int32} (hs : r * c ≤ 36) (h : ax_Q post tc lv tx rk rw cl nb gv wt (0, R, r, c, g)) :
    post (tc, lv, tx, upd rk 13 (nI R), upd rw 13 (nI r), upd cl 13 (nI c), ap_wr nb g (r * c), gv, wt) := h _ _ _ _ (ap_F13 hs) ap_X13
theorem ax_cp {post : SX → Prop} {a b : Nat} (ha : a < 46) (hb : b < 46) (hab : a ≠ b) (hp : post (tc, lv, tx, upd rk b (rk a), upd rw b (rw a), upd cl b (cl a), ap_cp nb a b 36, gv, wt)) : wpX_copyArray post (tc, lv, tx, rk, rw, cl, nb, gv, wt) (nI a) (nI b) := by
  simp (disch := omega) only [wpX_copyArray, ax_ss, vp_in_nI, nI_clamp, nI_leI, nI_ltI, nI_eq, nI_add, nI_1, pk_mul, an_m36, an_n36, an_b468, forall_eq, true_and, and_true, true_implies, false_implies, not_true, not_false_iff, implies_true, pk_un, pk_us, ap_wrN, ap_wrS]
  refine ap_le (fun n i s => wX_copyArray_25 post (nI a) (nI b) tc lv n (nI i) tx (upd rk b (rk a)) (upd rw b (rw a)) (upd cl b (cl a)) s gv wt) (fun i => ap_cp nb a b i) 36 (ap_cp0 _ _ _) (fun n => ?_) (fun n i hi ih => ?_)
  · exact br_t (by decide) hp
  · have z : ¬ 36 ≤ i := by omega
    simp (disch := omega) only [wX_copyArray_25, an_g36, z, ap_cpS hab, vp_in_nI, nI_clamp, nI_leI, nI_ltI, nI_eq, nI_add, nI_1, pk_mul, an_m36, an_n36, an_b468, forall_eq, true_and, and_true, true_implies, false_implies, not_true, not_false_iff, implies_true, pk_un, pk_us, ap_wrN, ap_wrS]
    exact ih
theorem ax_s1 {post : SX → Prop} {f y R r c : Nat} {d : Nat → Int32} (hf : ag_sc f) (y1 : 14 ≤ y) (y2 : y < 46) (V : ap_VS R r c) (H : ap_X rk rw cl nb y R r c d)
    (hP : ax_Q post tc lv tx rk rw cl nb gv wt (ap_s1 f R r c d)) : wpX_scalarAlone post (tc, lv, tx, rk, rw, cl, nb, gv, wt) (nI f) (nI y) := by
  obtain ⟨h1, h2, h3, h4⟩ := H
  have s := ap_v36 V
  have f1 : f < 100 := by unfold ag_sc at hf; omega
  simp (disch := omega) only [wpX_scalarAlone, ax_ne, ax_sz, ax_s13, h1, h2, h3, vp_in_nI, nI_clamp, nI_leI, nI_ltI, nI_eq, nI_add, nI_1, pk_mul, an_m36, an_n36, an_b468, forall_eq, true_and, and_true, true_implies, false_implies, not_true, not_false_iff, implies_true, pk_un, pk_us, ap_wrN, ap_wrS]
  refine ap_le (fun n i a => wX_scalarAlone_39 post (nI f) (nI y) (ap_ne f) (nI (r * c)) tc lv n (nI i) tx (upd rk 13 (nI R)) (upd rw 13 (nI r)) (upd cl 13 (nI c)) a gv wt)
    (fun i => ap_wr nb (fun i => ap_sf f (ap_ne f) (d i)) i) (r * c) (ap_wr0 _ _) (fun n => ?_) (fun n i hi ih => ?_)
  · exact br_t (nI_le (Nat.le_refl _) (by omega)) (ax_Qk s hP)
  · have z : ¬ r * c ≤ i := by omega
    simp (disch := omega) only [wX_scalarAlone_39, z, ax_sf _ hf, h4, vp_in_nI, nI_clamp, nI_leI, nI_ltI, nI_eq, nI_add, nI_1, pk_mul, an_m36, an_n36, an_b468, forall_eq, true_and, and_true, true_implies, false_implies, not_true, not_false_iff, implies_true, pk_un, pk_us, ap_wrN, ap_wrS]
    exact ih
end
