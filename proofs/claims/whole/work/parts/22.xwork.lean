/-! X: the function that waits is put to its arrays -/
/-- the places below m but 13 keep what they hold -/
def ap_K (m : Nat) (rk rw cl nb rk' rw' cl' nb' : Nat → Int32) : Prop :=
  ∀ j, j < m → j ≠ 13 → rk' j = rk j ∧ rw' j = rw j ∧ cl' j = cl j ∧ ∀ i, i < 36 → nb' (j * 36 + i) = nb (j * 36 + i)
theorem ap_Kr (m : Nat) (rk rw cl nb : Nat → Int32) : ap_K m rk rw cl nb rk rw cl nb := fun _ _ _ => ⟨rfl, rfl, rfl, fun _ _ => rfl⟩
theorem ap_Kt {m : Nat} {a1 a2 a3 a4 b1 b2 b3 b4 c1 c2 c3 c4 : Nat → Int32} (h : ap_K m a1 a2 a3 a4 b1 b2 b3 b4) (k : ap_K m b1 b2 b3 b4 c1 c2 c3 c4) : ap_K m a1 a2 a3 a4 c1 c2 c3 c4 := fun j h1 h2 => by
  obtain ⟨x, y, z, w⟩ := h j h1 h2
  obtain ⟨x', y', z', w'⟩ := k j h1 h2
  exact ⟨x'.trans x, y'.trans y, z'.trans z, fun i hi => (w' i hi).trans (w i hi)⟩
theorem ap_Km {m m' : Nat} (hm : m' ≤ m) {a1 a2 a3 a4 b1 b2 b3 b4 : Nat → Int32} (h : ap_K m a1 a2 a3 a4 b1 b2 b3 b4) : ap_K m' a1 a2 a3 a4 b1 b2 b3 b4 := fun j h1 h2 => h j (by omega) h2
theorem ap_KF {m q : Nat} {a1 a2 a3 a4 b1 b2 b3 b4 : Nat → Int32} (hq : q = 13 ∨ m ≤ q) (h : ap_F q a1 a2 a3 a4 b1 b2 b3 b4) : ap_K m a1 a2 a3 a4 b1 b2 b3 b4 := fun j h1 h2 => by
  obtain ⟨x, y, z⟩ := h.1 j (by omega)
  exact ⟨x, y, z, fun i hi => h.2 _ (by omega)⟩
theorem ap_KX {m j R r c : Nat} {d a1 a2 a3 a4 b1 b2 b3 b4 : Nat → Int32} (h : ap_K m a1 a2 a3 a4 b1 b2 b3 b4) (hj : j < m) (h13 : j ≠ 13) (V : r * c ≤ 36) (H : ap_X a1 a2 a3 a4 j R r c d) : ap_X b1 b2 b3 b4 j R r c d := by
  obtain ⟨x, y, z, w⟩ := h j hj h13
  exact ⟨x.trans H.1, y.trans H.2.1, z.trans H.2.2.1, fun i hi => (w i (by omega)).trans (H.2.2.2 i hi)⟩
theorem ap_KY {m j R r c : Nat} {d a1 a2 a3 a4 b1 b2 b3 b4 : Nat → Int32} (h : ap_K m a1 a2 a3 a4 b1 b2 b3 b4) (hj : j < m) (h13 : j ≠ 13) (V : r * c ≤ 36) (H : ap_Y a1 a2 a3 a4 j R r c d) : ap_Y b1 b2 b3 b4 j R r c d := by
  obtain ⟨x, y, z, w⟩ := h j hj h13
  exact ⟨x.trans H.1, y.trans H.2.1, z.trans H.2.2.1, fun i hi => (w i (by omega)).trans (H.2.2.2 i hi)⟩
def ax_R (post : Int32 → SX → Prop) (y : Nat) (tc lv : Int32) (tx rk rw cl nb gv wt : Nat → Int32) (T : ap_T) : Prop :=
  (T.1 ≠ 0 → post T.1 (tc, lv, tx, rk, rw, cl, nb, gv, wt)) ∧ (T.1 = 0 → ∀ rk' rw' cl' nb', ap_K y rk rw cl nb rk' rw' cl' nb' → ap_X rk' rw' cl' nb' y T.2.1 T.2.2.1 T.2.2.2.1 T.2.2.2.2 → post 0 (tc, lv, tx, rk', rw', cl', nb', gv, wt))
section
variable {tc lv : Int32} {tx rk rw cl nb gv wt : Nat → Int32}
theorem ax_W1 {post : Int32 → SX → Prop} {y : Nat} {T : ap_T} (y1 : 14 ≤ y) (y2 : y < 46) (ok : ap_ok T) (h : ax_R post y tc lv tx rk rw cl nb gv wt T) :
    ax_P (fun r u => match u with | (tc, lv, tx, rk, rw, cl, nb, gv, wt) => wX_workAlone_247 post (nI y) r tc lv tx rk rw cl nb gv wt) tc lv tx rk rw cl nb gv wt T := by
  refine ⟨fun n => br_f n (h.1 n), fun z rk' rw' cl' nb' F X => br_t rfl ?_⟩
  have v := ap_v36 ok
  refine ax_cp (a := 13) (b := y) (by omega) y2 (by omega) (h.2 z _ _ _ _ ?_ (ap_cpX v X))
  exact ap_Kt (ap_KF (Or.inl rfl) F) (ap_KF (Or.inr (Nat.le_refl y)) ap_cpF)
theorem ax_W1q {post : Int32 → SX → Prop} {y : Nat} {T : ap_T} (y1 : 14 ≤ y) (y2 : y < 46) (ok : ap_ok T) (z : T.1 = 0) (h : ax_R post y tc lv tx rk rw cl nb gv wt T) :
    ax_Q (fun u => match u with | (tc, lv, tx, rk, rw, cl, nb, gv, wt) => wX_workAlone_247 post (nI y) 0 tc lv tx rk rw cl nb gv wt) tc lv tx rk rw cl nb gv wt T := fun rk' rw' cl' nb' F X => (ax_W1 y1 y2 ok h).2 z rk' rw' cl' nb' F X
theorem ax_W2 {post : Int32 → SX → Prop} {y : Nat} {T : ap_T} (y1 : 14 ≤ y) (y2 : y < 46) (ok : ap_ok T) (h : ax_R post y tc lv tx rk rw cl nb gv wt T) :
    ax_P (fun r u => match u with | (tc, lv, tx, rk, rw, cl, nb, gv, wt) => wX_workWithLeft_306 post (nI y) r tc lv tx rk rw cl nb gv wt) tc lv tx rk rw cl nb gv wt T := by
  refine ⟨fun n => br_f n (h.1 n), fun z rk' rw' cl' nb' F X => br_t rfl ?_⟩
  have v := ap_v36 ok
  refine ax_cp (a := 13) (b := y) (by omega) y2 (by omega) (h.2 z _ _ _ _ ?_ (ap_cpX v X))
  exact ap_Kt (ap_KF (Or.inl rfl) F) (ap_KF (Or.inr (Nat.le_refl y)) ap_cpF)
theorem ax_tk (post : Int32 → Prop) {n p : Nat} {tn : Nat → Nat} (hn : n ≤ 30) (ht : ∀ j, tx j = nI (tn j)) (hp : p < n) : wpX_tokenAt post (nI n, lv, tx, rk, rw, cl, nb, gv, wt) (nI p) = post (nI (tn p)) := by
  have z : ¬ n ≤ p := by omega
  have z0 : ¬ nI p < 0 := nI_pos (by omega)
  simp (disch := omega) only [wpX_tokenAt, ht, z, z0, vp_in_nI, nI_clamp, nI_leI, nI_ltI, nI_eq, nI_add, nI_1, pk_mul, an_m36, an_n36, an_b468, forall_eq, true_and, and_true, true_implies, false_implies, not_true, not_false_iff, implies_true, pk_un, pk_us, ap_wrN, ap_wrS]
theorem ax_tkn (post : Int32 → Prop) {n p : Nat} (hn : n ≤ 30) (hp : n ≤ p) (hp2 : p < 1000) : wpX_tokenAt post (nI n, lv, tx, rk, rw, cl, nb, gv, wt) (nI p) = post (-1) := by
  have z0 : ¬ nI p < 0 := nI_pos (by omega)
  simp (disch := omega) only [wpX_tokenAt, hp, z0, vp_in_nI, nI_clamp, nI_leI, nI_ltI, nI_eq, nI_add, nI_1, pk_mul, an_m36, an_n36, an_b468, forall_eq, true_and, and_true, true_implies, false_implies, not_true, not_false_iff, implies_true, pk_un, pk_us, ap_wrN, ap_wrS]
theorem ax_tkm (post : Int32 → Prop) : wpX_tokenAt post (tc, lv, tx, rk, rw, cl, nb, gv, wt) (nI 0 - 1) = post (-1) := by
  have z0 : nI 0 - 1 < 0 := by decide
  simp only [wpX_tokenAt, z0, true_implies, not_true, false_implies, and_true]
end
theorem ax_S1 (post : Int32 → Prop) {t : Nat} (h : ag_sc t) : wpX_isScalar post (nI t) = post 1 := by
  have a : ¬ t < 20 := by omega
  have b : ¬ 27 < t := by omega
  simp (disch := omega) only [wpX_isScalar, an_t20, an_u27, a, b, vp_in_nI, nI_clamp, nI_leI, nI_ltI, nI_eq, nI_add, nI_1, pk_mul, an_m36, an_n36, an_b468, forall_eq, true_and, and_true, true_implies, false_implies, not_true, not_false_iff, implies_true, pk_un, pk_us, ap_wrN, ap_wrS]
theorem ax_S0 (post : Int32 → Prop) {t : Nat} (h2 : t < 1000) (h : ¬ ag_sc t) : wpX_isScalar post (nI t) = post 0 := by
  simp (disch := omega) only [wpX_isScalar, an_t20, an_u27]
  by_cases a : t < 20
  · simp only [a, true_implies, not_true, false_implies, and_true]
  · have b : 27 < t := by omega
    simp only [a, b, false_implies, not_false_iff, true_implies, true_and, not_true, and_true]
theorem ax_M1 (post : Int32 → Prop) {t : Nat} (h : ag_mx t) : wpX_isMixed post (nI t) = post 1 := by
  have a : ¬ t < 30 := by omega
  have b : ¬ 38 < t := by omega
  simp (disch := omega) only [wpX_isMixed, an_t30, an_u38, a, b, vp_in_nI, nI_clamp, nI_leI, nI_ltI, nI_eq, nI_add, nI_1, pk_mul, an_m36, an_n36, an_b468, forall_eq, true_and, and_true, true_implies, false_implies, not_true, not_false_iff, implies_true, pk_un, pk_us, ap_wrN, ap_wrS]
theorem ax_M0 (post : Int32 → Prop) {t : Nat} (h2 : t < 1000) (h : ¬ ag_mx t) : wpX_isMixed post (nI t) = post 0 := by
  simp (disch := omega) only [wpX_isMixed, an_t30, an_u38]
  by_cases a : t < 30
  · simp only [a, true_implies, not_true, false_implies, and_true]
  · have b : 38 < t := by omega
    simp only [a, b, false_implies, not_false_iff, true_implies, true_and, not_true, and_true]
theorem ax_N1 (post : Int32 → Prop) {t : Nat} (h : ag_nm t) : wpX_isNameToken post (nI t) = post 1 := by
  have a : ¬ t < 10 := by omega
  have b : ¬ 15 < t := by omega
  simp (disch := omega) only [wpX_isNameToken, an_t10, an_u15, a, b, vp_in_nI, nI_clamp, nI_leI, nI_ltI, nI_eq, nI_add, nI_1, pk_mul, an_m36, an_n36, an_b468, forall_eq, true_and, and_true, true_implies, false_implies, not_true, not_false_iff, implies_true, pk_un, pk_us, ap_wrN, ap_wrS]
theorem ax_N0 (post : Int32 → Prop) {t : Nat} (h2 : t < 1000) (h : ¬ ag_nm t) : wpX_isNameToken post (nI t) = post 0 := by
  simp (disch := omega) only [wpX_isNameToken, an_t10, an_u15]
  by_cases a : t < 10
  · simp only [a, true_implies, not_true, false_implies, and_true]
  · have b : 15 < t := by omega
    simp only [a, b, false_implies, not_false_iff, true_implies, true_and, not_true, and_true]
theorem ax_D1 (post : Int32 → Prop) {t : Nat} (h : t ≤ 9) : wpX_isNumberToken post (nI t) = post 1 := by
  have a : ¬ t < 0 := by omega
  have b : ¬ 9 < t := by omega
  simp (disch := omega) only [wpX_isNumberToken, an_t0, an_u9, a, b, vp_in_nI, nI_clamp, nI_leI, nI_ltI, nI_eq, nI_add, nI_1, pk_mul, an_m36, an_n36, an_b468, forall_eq, true_and, and_true, true_implies, false_implies, not_true, not_false_iff, implies_true, pk_un, pk_us, ap_wrN, ap_wrS]
theorem ax_D0 (post : Int32 → Prop) {t : Nat} (h2 : t < 1000) (h : ¬ t ≤ 9) : wpX_isNumberToken post (nI t) = post 0 := by
  have a : ¬ t < 0 := by omega
  have b : 9 < t := by omega
  simp (disch := omega) only [wpX_isNumberToken, an_t0, an_u9, a, b, vp_in_nI, nI_clamp, nI_leI, nI_ltI, nI_eq, nI_add, nI_1, pk_mul, an_m36, an_n36, an_b468, forall_eq, true_and, and_true, true_implies, false_implies, not_true, not_false_iff, implies_true, pk_un, pk_us, ap_wrN, ap_wrS]
theorem ax_Dm (post : Int32 → Prop) : wpX_isNumberToken post (-1) = post 0 := by
  have a : (-1 : Int32) < 0 := by decide
  simp only [wpX_isNumberToken, a, true_implies, not_true, false_implies, and_true]
section
variable {tc lv : Int32} {tx rk rw cl nb gv wt : Nat → Int32}
theorem ag_kA {tn : Nat → Nat} {n q : Nat} (s : ag_sc (tn q)) (b : q + 1 < n) (e : tn (q + 1) = 40) : ag_k tn n q = 1 := by
  unfold ag_k
  rw [if_neg (show ¬ tn q = 42 by omega), if_neg (fun z => z s), if_pos ⟨b, e⟩]
theorem ag_kB {tn : Nat → Nat} {n q : Nat} (s : ag_sc (tn q)) (b : q + 1 < n) (e : tn (q + 1) = 41) : ag_k tn n q = 2 := by
  unfold ag_k
  rw [if_neg (show ¬ tn q = 42 by omega), if_neg (fun z => z s), if_neg (by omega), if_pos ⟨b, e⟩]
theorem ag_kD {tn : Nat → Nat} {n q : Nat} (s : ag_sc (tn q)) (b : q + 1 < n) (e : tn (q + 1) = 43) : ag_k tn n q = 4 := by
  unfold ag_k
  rw [if_neg (show ¬ tn q = 42 by omega), if_neg (fun z => z s), if_neg (by omega), if_neg (by omega), if_pos ⟨b, e⟩]
theorem ag_k0 {tn : Nat → Nat} {n q : Nat} (s : ag_sc (tn q)) (b : q + 1 < n → tn (q + 1) ≠ 40 ∧ tn (q + 1) ≠ 41 ∧ tn (q + 1) ≠ 43) : ag_k tn n q = 0 := by
  unfold ag_k
  rw [if_neg (show ¬ tn q = 42 by omega), if_neg (fun z => z s), if_neg (by omega), if_neg (by omega), if_neg (by omega)]
theorem ag_kM {tn : Nat → Nat} {n q : Nat} (s : ag_mx (tn q)) : ag_k tn n q = 0 := by
  unfold ag_k
  rw [if_neg (show ¬ tn q = 42 by omega), if_pos (by omega)]
theorem ag_kO {tn : Nat → Nat} {n q : Nat} (s : tn q = 42) : ag_k tn n q = 3 := by
  unfold ag_k
  rw [if_pos s]
/-- which case the function at q is -/
def ag_cs (tn : Nat → Nat) (n q : Nat) : Nat := if ag_k tn n q = 0 then (if ag_sc (tn q) then 20 else tn q) else if ag_k tn n q = 1 then 40 else if ag_k tn n q = 2 then 41 else if ag_k tn n q = 3 then 42 else 43
theorem ax_cs (post : Int32 → Prop) {n q : Nat} {tn : Nat → Nat} (hn : n ≤ 30) (ht : ∀ j, tx j = nI (tn j)) (hk : ∀ j, ag_tok (tn j)) (h : ag_wf tn n q) : wpX_caseOf post (nI n, lv, tx, rk, rw, cl, nb, gv, wt) (nI q) = post (nI (ag_cs tn n q)) := by
  have q30 := h.1
  have t0 := ag_tk (hk q)
  have t1 := ag_tk (hk (q + 1))
  by_cases s : ag_sc (tn q)
  · have n42 : ¬ tn q = 42 := by omega
    by_cases b : q + 1 < n
    · by_cases b40 : tn (q + 1) = 40
      · have e : ag_cs tn n q = 40 := by unfold ag_cs; rw [ag_kA s b b40]; rfl
        simp (disch := omega) only [wpX_caseOf, ax_tk _ hn ht, ax_S1 _ s, e, an_e40, b40, show ¬ (1 : Int32) = 0 by decide, vp_in_nI, nI_clamp, nI_leI, nI_ltI, nI_eq, nI_add, nI_1, pk_mul, an_m36, an_n36, an_b468, forall_eq, true_and, and_true, true_implies, false_implies, not_true, not_false_iff, implies_true, pk_un, pk_us, ap_wrN, ap_wrS]
      · by_cases b41 : tn (q + 1) = 41
        · have e : ag_cs tn n q = 41 := by unfold ag_cs; rw [ag_kB s b b41]; rfl
          simp (disch := omega) only [wpX_caseOf, ax_tk _ hn ht, ax_S1 _ s, e, an_e40, an_e41, b40, b41, show ¬ (1 : Int32) = 0 by decide, show ¬ (41 : Nat) = 40 by decide, vp_in_nI, nI_clamp, nI_leI, nI_ltI, nI_eq, nI_add, nI_1, pk_mul, an_m36, an_n36, an_b468, forall_eq, true_and, and_true, true_implies, false_implies, not_true, not_false_iff, implies_true, pk_un, pk_us, ap_wrN, ap_wrS]
        · by_cases b43 : tn (q + 1) = 43
          · have e : ag_cs tn n q = 43 := by unfold ag_cs; rw [ag_kD s b b43]; rfl
            simp (disch := omega) only [wpX_caseOf, ax_tk _ hn ht, ax_S1 _ s, e, an_e40, an_e41, an_e43, b43, show ¬ (1 : Int32) = 0 by decide, show ¬ (43 : Nat) = 40 by decide, show ¬ (43 : Nat) = 41 by decide, vp_in_nI, nI_clamp, nI_leI, nI_ltI, nI_eq, nI_add, nI_1, pk_mul, an_m36, an_n36, an_b468, forall_eq, true_and, and_true, true_implies, false_implies, not_true, not_false_iff, implies_true, pk_un, pk_us, ap_wrN, ap_wrS]
          · have e : ag_cs tn n q = 20 := by
              unfold ag_cs
              rw [ag_k0 s (fun _ => ⟨b40, b41, b43⟩), if_pos rfl, if_pos s]
            simp (disch := omega) only [wpX_caseOf, ax_tk _ hn ht, ax_S1 _ s, e, an_e40, an_e41, an_e43, b40, b41, b43, show ¬ (1 : Int32) = 0 by decide, vp_in_nI, nI_clamp, nI_leI, nI_ltI, nI_eq, nI_add, nI_1, pk_mul, an_m36, an_n36, an_b468, forall_eq, true_and, and_true, true_implies, false_implies, not_true, not_false_iff, implies_true, pk_un, pk_us, ap_wrN, ap_wrS]
            rfl
    · have e : ag_cs tn n q = 20 := by
        unfold ag_cs
        rw [ag_k0 s (fun z => absurd z b), if_pos rfl, if_pos s]
      simp (disch := omega) only [wpX_caseOf, ax_tk _ hn ht, ax_tkn _ hn, ax_S1 _ s, e, show ¬ (1 : Int32) = 0 by decide, show ¬ (-1 : Int32) = 40 by decide, show ¬ (-1 : Int32) = 41 by decide, show ¬ (-1 : Int32) = 43 by decide, vp_in_nI, nI_clamp, nI_leI, nI_ltI, nI_eq, nI_add, nI_1, pk_mul, an_m36, an_n36, an_b468, forall_eq, true_and, and_true, true_implies, false_implies, not_true, not_false_iff, implies_true, pk_un, pk_us, ap_wrN, ap_wrS]
      rfl
  · have e : ag_cs tn n q = tn q := by
      unfold ag_cs
      by_cases o : tn q = 42
      · rw [ag_kO o, o]; rfl
      · have m : ag_mx (tn q) := by
          rcases h.2 with z | z | z
          · exact z
          · exact absurd z.1 o
          · exact absurd z.1 s
        rw [ag_kM m, if_pos rfl, if_neg s]
    simp (disch := omega) only [wpX_caseOf, ax_tk _ hn ht, ax_S0 _ (show tn q < 1000 by omega) s, e, vp_in_nI, nI_clamp, nI_leI, nI_ltI, nI_eq, nI_add, nI_1, pk_mul, an_m36, an_n36, an_b468, forall_eq, true_and, and_true, true_implies, false_implies, not_true, not_false_iff, implies_true, pk_un, pk_us, ap_wrN, ap_wrS]
end
