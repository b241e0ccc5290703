/-! a run of numbers as an operand, on both sides -/
def ap_wz (a g : Nat → Int32) (b e : Nat) : Nat → Int32 := fun j => if b ≤ j ∧ j < b + e then g (j - b) else a j
theorem ap_wz0 (a g : Nat → Int32) (b : Nat) : ap_wz a g b 0 = a := by
  funext j; unfold ap_wz; rw [if_neg (by omega)]
theorem ap_wzS {a g : Nat → Int32} {b e : Nat} {v : Int32} (h : v = g e) : upd (ap_wz a g b e) (b + e) v = ap_wz a g b (e + 1) := by
  funext j
  unfold ap_wz upd
  by_cases z : j = b + e
  · subst z; rw [if_pos rfl, if_pos (by omega), Nat.add_sub_cancel_left, h]
  · rw [if_neg z]
    dsimp only
    by_cases h2 : b ≤ j ∧ j < b + e
    · rw [if_pos h2, if_pos (by omega)]
    · rw [if_neg h2, if_neg (by omega)]
theorem ap_wzN {a g : Nat → Int32} {b e j : Nat} (h : j < b ∨ b + e ≤ j) : ap_wz a g b e j = a j := by
  unfold ap_wz; rw [if_neg (by omega)]
theorem ap_wzI {a g : Nat → Int32} {b e i : Nat} (h : i < e) : ap_wz a g b e (b + i) = g i := by
  unfold ap_wz; rw [if_pos (by omega), Nat.add_sub_cancel_left]
def ar_num (tn : Nat → Nat) (f i : Nat) : ar_A := (if i = f then 0 else 1, 1, i - f + 1, fun k => nI (tn (f + k)))
theorem ar_numV {tn : Nat → Nat} {f i : Nat} (h : f ≤ i) (hi : i < 30) : ap_VS (ar_num tn f i).1 (ar_num tn f i).2.1 (ar_num tn f i).2.2.1 := by
  by_cases e : i = f
  · exact Or.inl ⟨if_pos e, rfl, by show i - f + 1 = 1; omega⟩
  · exact Or.inr (Or.inl ⟨if_neg e, rfl, by show i - f + 1 ≤ 36; omega⟩)
section
variable {tc lv : Int32} {tx rk rw cl nb gv wt : Nat → Int32} {tn : Nat → Nat} {n : Nat} {L : Nat → ar_A} {S : Nat → Nat}
theorem ax_ld {post : Int32 → SX → Prop} {f i l : Nat} (hn : n ≤ 30) (ht : ∀ j, tx j = nI (tn j)) (hk : ∀ j, ag_tok (tn j)) (l15 : l ≤ 15) (hf : f ≤ i) (hi : i < n) (hd : ∀ j, f ≤ j → j ≤ i → tn j ≤ 9) (he : i + 1 < n → ¬ tn (i + 1) ≤ 9)
    (hp : ∀ rk' rw' cl' nb', ap_F (14 + l + 1) rk rw cl nb rk' rw' cl' nb' → ar_XA rk' rw' cl' nb' (14 + l + 1) (ar_num tn f i) → post 0 (nI n, nI l, tx, rk', rw', cl', nb', gv, wt)) :
    wpX_loadOperand post (nI n, nI l, tx, rk, rw, cl, nb, gv, wt) (nI f) := by
  have t0 := hd f (Nat.le_refl f) hf
  have z1 : ¬ (1 : Int32) = 0 := by decide
  have ex : ∀ rk' rw' cl' nb' : Nat → Int32, ap_F (14 + l + 1) rk rw cl nb rk' rw' cl' nb' → True := fun _ _ _ _ _ => trivial
  have fin : wX_loadOperand_111 post (nI (14 + l + 1)) (nI (i - f + 1)) (nI n) (nI l) tx rk rw cl (ap_wz nb (fun k => nI (tn (f + k))) ((14 + l + 1) * 36) (i - f + 1)) gv wt := by
    have F : ∀ a b c : Int32, ap_F (14 + l + 1) rk rw cl nb (upd rk (14 + l + 1) a) (upd rw (14 + l + 1) b) (upd cl (14 + l + 1) c) (ap_wz nb (fun k => nI (tn (f + k))) ((14 + l + 1) * 36) (i - f + 1)) :=
      fun a b c => ⟨fun _ h => ⟨pk_un h, pk_un h, pk_un h⟩, fun j h => ap_wzN (by omega)⟩
    have V := ar_numV (tn := tn) hf (show i < 30 by omega)
    by_cases e : i = f
    · have g1 : i - f + 1 = 1 := by omega
      have q := hp _ _ _ _ (F (nI 0) (nI 1) (nI (i - f + 1))) ⟨V, by rw [pk_us]; exact congrArg nI (if_pos e).symm, pk_us, pk_us, fun k hk => ap_wzI (by have : k < 1 * (i - f + 1) := hk; omega)⟩
      simp (disch := omega) only [wX_loadOperand_111, wX_loadOperand_124, an_e1, eq_true g1, ax_ss, vp_in_nI, nI_clamp, nI_leI, nI_ltI, nI_eq, nI_add, nI_1, pk_mul, an_m36, an_n36, an_b468, forall_eq, true_and, and_true, true_implies, false_implies, not_true, not_false_iff, implies_true, pk_un, pk_us, ap_wrN, ap_wrS]
      exact q
    · have g1 : ¬ i - f + 1 = 1 := by omega
      have q := hp _ _ _ _ (F (nI 1) (nI 1) (nI (i - f + 1))) ⟨V, by rw [pk_us]; exact congrArg nI (if_neg e).symm, pk_us, pk_us, fun k hk => ap_wzI (by have : k < 1 * (i - f + 1) := hk; omega)⟩
      simp (disch := omega) only [wX_loadOperand_111, wX_loadOperand_124, an_e1, g1, ax_ss, vp_in_nI, nI_clamp, nI_leI, nI_ltI, nI_eq, nI_add, nI_1, pk_mul, an_m36, an_n36, an_b468, forall_eq, true_and, and_true, true_implies, false_implies, not_true, not_false_iff, implies_true, pk_un, pk_us, ap_wrN, ap_wrS]
      exact q
  simp (disch := omega) only [wpX_loadOperand, ax_tk _ hn ht, ax_N0 _ (show tn f < 1000 by omega) (show ¬ ag_nm (tn f) by omega), an_b14, vp_in_nI, nI_clamp, nI_leI, nI_ltI, nI_eq, nI_add, nI_1, pk_mul, an_m36, an_n36, an_b468, forall_eq, true_and, and_true, true_implies, false_implies, not_true, not_false_iff, implies_true, pk_un, pk_us, ap_wrN, ap_wrS]
  refine ap_le (fun m k a => wX_loadOperand_61 post (nI (14 + l + 1)) (nI n) (nI l) m (nI k) (nI (f + k)) tx rk rw cl a gv wt) (fun k => ap_wz nb (fun k => nI (tn (f + k))) ((14 + l + 1) * 36) k) (i - f + 1) (ap_wz0 _ _ _) (fun m => ?_) (fun m k hk2 ih => ?_)
  · have e1 : f + (i - f + 1) = i + 1 := by omega
    rw [e1]
    by_cases b : i + 1 < n
    · have z : ¬ n ≤ i + 1 := by omega
      have t1 := ag_tk (hk (i + 1))
      simp (disch := omega) only [wX_loadOperand_61, z, ht, ax_D0 _ (show tn (i + 1) < 1000 by omega) (he b), vp_in_nI, nI_clamp, nI_leI, nI_ltI, nI_eq, nI_add, nI_1, pk_mul, an_m36, an_n36, an_b468, forall_eq, true_and, and_true, true_implies, false_implies, not_true, not_false_iff, implies_true, pk_un, pk_us, ap_wrN, ap_wrS]
      exact fin
    · have z : n ≤ i + 1 := by omega
      simp (disch := omega) only [wX_loadOperand_61, z, vp_in_nI, nI_clamp, nI_leI, nI_ltI, nI_eq, nI_add, nI_1, pk_mul, an_m36, an_n36, an_b468, forall_eq, true_and, and_true, true_implies, false_implies, not_true, not_false_iff, implies_true, pk_un, pk_us, ap_wrN, ap_wrS]
      exact fin
  · have z : ¬ n ≤ f + k := by omega
    have d9 := hd (f + k) (by omega) (by omega)
    have eq := ap_wzS (a := nb) (g := fun k => nI (tn (f + k))) (b := (14 + l + 1) * 36) (e := k) (v := nI (tn (f + k))) rfl
    simp (disch := omega) only [wX_loadOperand_61, z, ht, ax_D1 _ d9, z1, eq, vp_in_nI, nI_clamp, nI_leI, nI_ltI, nI_eq, nI_add, nI_1, pk_mul, an_m36, an_n36, an_b468, forall_eq, true_and, and_true, true_implies, false_implies, not_true, not_false_iff, implies_true, pk_un, pk_us, ap_wrN, ap_wrS]
    exact ih
theorem ax_vN {post : Int32 → SX → Prop} {f i l : Nat} (hn : n ≤ 30) (ht : ∀ j, tx j = nI (tn j)) (hk : ∀ j, ag_tok (tn j)) (l15 : l ≤ 15) (H : ar_XL tn n L S rk rw cl nb wt l) (s1 : S l ≠ 1) (hf : f ≤ i) (hi : i < n) (hd : ∀ j, f ≤ j → j ≤ i → tn j ≤ 9) (he : i + 1 < n → ¬ tn (i + 1) ≤ 9) (hb : 1 ≤ f → ¬ tn (f - 1) ≤ 9)
    (hE : (ar_op tn n L S l (ar_num tn f i)).1 ≠ 0 → ∀ rk' rw' cl' nb' wt', ap_K (14 + l) rk rw cl nb rk' rw' cl' nb' → post (ar_op tn n L S l (ar_num tn f i)).1 (nI n, nI l, tx, rk', rw', cl', nb', gv, wt'))
    (hO : (ar_op tn n L S l (ar_num tn f i)).1 = 0 → ∀ rk' rw' cl' nb' wt', ap_K (14 + l) rk rw cl nb rk' rw' cl' nb' → ar_XA rk' rw' cl' nb' (14 + l) (ar_op tn n L S l (ar_num tn f i)).2 → (∀ j, j ≠ l → wt' j = wt j) → wt' l = -1 → post 0 (nI n, nI l, tx, rk', rw', cl', nb', gv, wt')) :
    wpX_visit post (nI n, nI l, tx, rk, rw, cl, nb, gv, wt) (nI f) := by
  have t0 := hd f (Nat.le_refl f) hf
  have z1 : ¬ (1 : Int32) = 0 := by decide
  have h51 : tn f ≠ 51 := by omega
  simp (disch := omega) only [wpX_visit, ax_tk _ hn ht, an_e51, h51, ax_sOn1 _ hn ht hk (show f < n by omega) t0 hb, z1, vp_in_nI, nI_clamp, nI_leI, nI_ltI, nI_eq, nI_add, nI_1, pk_mul, an_m36, an_n36, an_b468, forall_eq, true_and, and_true, true_implies, false_implies, not_true, not_false_iff, implies_true, pk_un, pk_us, ap_wrN, ap_wrS]
  refine ax_ld hn ht hk l15 hf hi hd he (fun rk' rw' cl' nb' F X => ?_)
  dsimp only
  refine br_t rfl ?_
  have K : ap_K (14 + l) rk rw cl nb rk' rw' cl' nb' := ap_KF (Or.inr (by omega)) F
  have H2 : ar_XL tn n L S rk' rw' cl' nb' wt l := by
    obtain ⟨a, b, c⟩ := H
    exact ⟨a, b, fun z => ⟨(c z).1, ap_FX F (by omega) (ap_v36 (c z).1) (c z).2⟩⟩
  refine ax_op hn ht hk l15 H2 s1 X (fun e2 => ?_) (fun e2 rk2 rw2 cl2 nb2 wt2 K2 X2 v1 v2 => ?_)
  · exact hE e2 _ _ _ _ _ K
  · exact hO e2 _ _ _ _ _ (ap_Kt K K2) X2 v1 v2
end
section
variable {ct lv er : Int32} {tx rk rw wd dt wt fi : Nat → Int32} {tn : Nat → Nat} {n : Nat} {L : Nat → ar_A} {S : Nat → Nat}
theorem ay_rn {post : Int32 → SY → Prop} {f i l : Nat} (hn : n ≤ 30) (ht : ∀ j, tx j = nI (tn j)) (hk : ∀ j, ag_tok (tn j)) (l15 : l ≤ 15) (H : ar_YL tn n L S rk rw wd dt wt fi l) (s1 : S l ≠ 1) (hf : f ≤ i) (hi : i < n) (hd : ∀ j, f ≤ j → j ≤ i → tn j ≤ 9) (hb : 1 ≤ f → ¬ tn (f - 1) ≤ 9)
    (hO : ∀ rk' rw' wd' dt', ap_K (14 + l * 2) rk rw wd dt rk' rw' wd' dt' → ((ar_op tn n L S l (ar_num tn f i)).1 = 0 → ar_YA rk' rw' wd' dt' (14 + l * 2) (ar_op tn n L S l (ar_num tn f i)).2) → post (nI f) (nI n, nI l, (ar_op tn n L S l (ar_num tn f i)).1, tx, rk', rw', wd', dt', upd wt l (-1), upd fi l 1)) :
    wpY_readNumbers post (nI n, nI l, 0, tx, rk, rw, wd, dt, wt, fi) (nI i) := by
  have V := ar_numV (tn := tn) hf (show i < 30 by omega)
  have fin : wY_readNumbers_25 post (nI i) (nI f) (nI n) (nI l) 0 tx rk rw wd dt wt fi := by
    have fl56 : ∀ rk' rw' wd' : Nat → Int32, (∀ j, j ≠ 14 + l * 2 + 1 → rk' j = rk j ∧ rw' j = rw j ∧ wd' j = wd j) → rk' (14 + l * 2 + 1) = nI (ar_num tn f i).1 → rw' (14 + l * 2 + 1) = nI (i - f + 1) → wd' (14 + l * 2 + 1) = nI 1 →
        ∃ m, wY_readNumbers_56 post (nI i) (nI f) (nI (14 + l * 2 + 1)) (nI n) (nI l) 0 m (nI f) tx rk' rw' wd' dt wt fi := by
      intro rk' rw' wd' hF q1 q2 q3
      refine ap_le (fun m k a => wY_readNumbers_56 post (nI i) (nI f) (nI (14 + l * 2 + 1)) (nI n) (nI l) 0 m (nI (f + k)) tx rk' rw' wd' a wt fi) (fun k => ap_wz dt (fun k => nI (tn (f + k))) ((14 + l * 2 + 1) * 36) k) (i - f + 1) (ap_wz0 _ _ _) (fun m => ?_) (fun m k hk2 ih => ?_)
      · have e1 : f + (i - f + 1) = i + 1 := by omega
        rw [e1]
        have z : i < i + 1 := by omega
        simp (disch := omega) only [wY_readNumbers_56, z, vp_in_nI, nI_clamp, nI_leI, nI_ltI, nI_eq, nI_add, nI_1, pk_mul, an_m36, an_n36, an_b468, forall_eq, true_and, and_true, true_implies, false_implies, not_true, not_false_iff, implies_true, pk_un, pk_us, ap_wrN, ap_wrS]
        have F : ap_F (14 + l * 2 + 1) rk rw wd dt rk' rw' wd' (ap_wz dt (fun k => nI (tn (f + k))) ((14 + l * 2 + 1) * 36) (i - f + 1)) := ⟨hF, fun j h => ap_wzN (by omega)⟩
        have K : ap_K (14 + l * 2) rk rw wd dt rk' rw' wd' (ap_wz dt (fun k => nI (tn (f + k))) ((14 + l * 2 + 1) * 36) (i - f + 1)) := ap_KF (Or.inr (by omega)) F
        have H2 : ar_YL tn n L S rk' rw' wd' (ap_wz dt (fun k => nI (tn (f + k))) ((14 + l * 2 + 1) * 36) (i - f + 1)) wt fi l := by
          obtain ⟨a, b, c, d⟩ := H
          exact ⟨a, b, fun z => ⟨(c z).1, (c z).2.1, ap_FY F (by omega) (ap_v36 (c z).2.1) (c z).2.2⟩, d⟩
        have n2 : ¬ (ar_num tn f i).1 = 2 := by
          show ¬ (if i = f then 0 else 1) = 2
          split <;> omega
        have YA : ar_YA rk' rw' wd' (ap_wz dt (fun k => nI (tn (f + k))) ((14 + l * 2 + 1) * 36) (i - f + 1)) (14 + l * 2 + 1) (ar_num tn f i) := by
          refine ⟨V, q1, ?_, ?_, fun k hk => ap_wzI ?_⟩
          · rw [q2]; unfold ap_fl; rw [if_neg n2]; rfl
          · rw [q3]; unfold ap_w; rw [if_neg n2]
          · have : k < 1 * (i - f + 1) := hk
            omega
        exact ay_op l15 H2 s1 YA (fun rk2 rw2 wd2 dt2 K2 Y2 => hO rk2 rw2 wd2 dt2 (ap_Kt K K2) Y2)
      · have z : ¬ i < f + k := by omega
        have ix : (14 + l * 2 + 1) * 36 + (f + k) - f = (14 + l * 2 + 1) * 36 + k := by omega
        have eq := ap_wzS (a := dt) (g := fun k => nI (tn (f + k))) (b := (14 + l * 2 + 1) * 36) (e := k) (v := nI (tn (f + k))) rfl
        simp (disch := omega) only [wY_readNumbers_56, z, ht, pk_sub, ix, eq, vp_in_nI, nI_clamp, nI_leI, nI_ltI, nI_eq, nI_add, nI_1, pk_mul, an_m36, an_n36, an_b468, forall_eq, true_and, and_true, true_implies, false_implies, not_true, not_false_iff, implies_true, pk_un, pk_us, ap_wrN, ap_wrS]
        exact ih
    have sub : nI i - nI f + 1 = nI (i - f + 1) := by rw [pk_sub hf, nI_1]
    by_cases e : f = i
    · have sh := fun (P : SY → Prop) (a b : Int32) => ay_sp (ct := nI n) (lv := nI l) (er := 0) (tx := tx) (rk := rk) (rw := rw) (wd := wd) (dt := dt) (wt := wt) (fi := fi) P (p := 14 + l * 2 + 1) (R := 0) (by omega) (by omega) a b
      rw [nI_0] at sh
      simp (disch := omega) only [wY_readNumbers_25, wY_readNumbers_44, wpY_valuePlace, an_n2, an_b14, eq_true e, sub, sh, vp_in_nI, nI_clamp, nI_leI, nI_ltI, nI_eq, nI_add, nI_1, pk_mul, an_m36, an_n36, an_b468, forall_eq, true_and, and_true, true_implies, false_implies, not_true, not_false_iff, implies_true, pk_un, pk_us, ap_wrN, ap_wrS]
      refine fl56 _ _ _ (fun j hj => ⟨pk_un hj, pk_un hj, pk_un hj⟩) ?_ ?_ pk_us
      · rw [pk_us]
        exact congrArg nI (if_pos e.symm).symm
      · rw [pk_us, show i - f + 1 = 1 by omega]
        rfl
    · have sh := fun (P : SY → Prop) (a b : Int32) => ay_sp (ct := nI n) (lv := nI l) (er := 0) (tx := tx) (rk := rk) (rw := rw) (wd := wd) (dt := dt) (wt := wt) (fi := fi) P (p := 14 + l * 2 + 1) (R := 1) (by omega) (by omega) a b
      rw [show nI 1 = 1 from rfl] at sh
      simp (disch := omega) only [wY_readNumbers_25, wY_readNumbers_44, wpY_valuePlace, an_n2, an_b14, e, sub, sh, vp_in_nI, nI_clamp, nI_leI, nI_ltI, nI_eq, nI_add, nI_1, pk_mul, an_m36, an_n36, an_b468, forall_eq, true_and, and_true, true_implies, false_implies, not_true, not_false_iff, implies_true, pk_un, pk_us, ap_wrN, ap_wrS]
      refine fl56 _ _ _ (fun j hj => ⟨pk_un hj, pk_un hj, pk_un hj⟩) ?_ pk_us pk_us
      rw [pk_us]
      exact congrArg nI (if_neg (fun z => e z.symm)).symm
  have dn : ∀ d m, f + d ≤ i → d < m → wY_readNumbers_2 post (nI i) (nI n) (nI l) 0 tx rk rw wd dt wt fi m (nI (f + d)) := by
    intro d
    induction d with
    | zero =>
      intro m h1 h2
      obtain ⟨m, rfl⟩ : ∃ k, m = k + 1 := ⟨m - 1, by omega⟩
      rw [show f + 0 = f from rfl]
      by_cases f0 : f ≤ 0
      · simp (disch := omega) only [wY_readNumbers_2, an_l0, f0, vp_in_nI, nI_clamp, nI_leI, nI_ltI, nI_eq, nI_add, nI_1, pk_mul, an_m36, an_n36, an_b468, forall_eq, true_and, and_true, true_implies, false_implies, not_true, not_false_iff, implies_true, pk_un, pk_us, ap_wrN, ap_wrS]
        exact fin
      · have t1 := ag_tk (hk (f - 1))
        have g : 10 ≤ tn (f - 1) := by have := hb (by omega); omega
        simp (disch := omega) only [wY_readNumbers_2, an_l0, f0, an_s1, ht, an_g10, g, vp_in_nI, nI_clamp, nI_leI, nI_ltI, nI_eq, nI_add, nI_1, pk_mul, an_m36, an_n36, an_b468, forall_eq, true_and, and_true, true_implies, false_implies, not_true, not_false_iff, implies_true, pk_un, pk_us, ap_wrN, ap_wrS]
        exact fin
    | succ d ih =>
      intro m h1 h2
      obtain ⟨m, rfl⟩ : ∃ k, m = k + 1 := ⟨m - 1, by omega⟩
      have f0 : ¬ f + (d + 1) ≤ 0 := by omega
      have e1 : f + (d + 1) - 1 = f + d := by omega
      have d9 := hd (f + d) (by omega) (by omega)
      have g : ¬ 10 ≤ tn (f + d) := by omega
      have nx := ih m (by omega) (by omega)
      simp (disch := omega) only [wY_readNumbers_2, an_l0, f0, an_s1, an_m1s, e1, ht, an_g10, g, vp_in_nI, nI_clamp, nI_leI, nI_ltI, nI_eq, nI_add, nI_1, pk_mul, an_m36, an_n36, an_b468, forall_eq, true_and, and_true, true_implies, false_implies, not_true, not_false_iff, implies_true, pk_un, pk_us, ap_wrN, ap_wrS]
      exact nx
  have r := dn (i - f) (i - f + 1) (by omega) (by omega)
  rw [show f + (i - f) = i by omega] at r
  exact ⟨_, r⟩
end
