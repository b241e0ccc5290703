/-! the two readings side by side: brackets, names given, functions, the end -/
section
variable {tx rk0 rw0 cl0 nb0 gv0 yk0 yw0 yd0 yt0 : Nat → Int32} {PX : Int32 → SX → Prop} {Q : Int32 → SX → Int32 → SY → Prop} {tn : Nat → Nat} {n : Nat} {L : Nat → ar_A} {S : Nat → Nat} {N : Nat → Option ar_A}
theorem ar_cF {i j : Nat} (hn : n ≤ 30) (ht : ∀ j, tx j = nI (tn j)) (hk : ∀ j, ag_tok (tn j)) (OK : ag_ok tn n) (XE : ar_XE n tx rk0 rw0 cl0 nb0 gv0 yk0 yw0 yd0 yt0 Q) (hi : i < n) (PC : ar_PC tn S (i + 1)) (hf : ar_fn tn n i j) (st : ag_st tn (i + 1) < 4) (dd : ag_dp tn (i + 1) = ag_dp tn j)
    (ih : ∀ L S N, ar_PC tn S j → ar_XC tn n tx rk0 rw0 cl0 nb0 gv0 yk0 yw0 yd0 yt0 PX Q L S N j) : ar_XC tn n tx rk0 rw0 cl0 nb0 gv0 yk0 yw0 yd0 yt0 PX Q L S N (i + 1) := by
  intro rk rw cl nb gv wt XI hyp F hF
  obtain ⟨ji, wf, hst⟩ := ar_fw hf hi
  have l15 := ag_d15 OK hn (p := i + 1) hi
  have s0 := PC.2.2 st
  have pc1 := PC.1
  obtain ⟨K0, G0, XN, XL⟩ := XI
  generalize hl : ag_dp tn (i + 1) = l at *
  have Hl := XL l (Nat.le_refl l)
  rw [nI_pred]
  have go : ∀ F, j + 1 < F → wX_run_38 PX F 0 (nI j) (nI n) (nI l) tx rk rw cl nb gv wt := by
    intro F hF
    obtain ⟨F, rfl⟩ : ∃ k, F = k + 1 := ⟨F - 1, by omega⟩
    refine ax_go (by omega) (ax_vF hn ht hk l15 Hl s0 (by omega) hst (fun e => ?_) (fun e rk' rw' cl' nb' wt' K X w1 w2 => ?_))
    · refine ax_end (by omega) e (hyp _ _ ?_)
      have ye := XE _ (nI l) rk rw cl nb gv (upd wt l (-1)) e K0 G0
      intro yk yw yd yt ywt yfi YI F2 hF2
      rw [hl] at YI ⊢
      obtain ⟨YB, YN, YL⟩ := YI
      obtain ⟨F2, rfl⟩ : ∃ k, F2 = k + 1 := ⟨F2 - 1, by omega⟩
      rw [nI_pred]
      refine ay_go (by omega) (ay_vF hn ht hk l15 (YL l (Nat.le_refl l)) s0 hi hf (fun bk bw bd bt K2 _ => ?_))
      exact ar_yE ye e l15 (ar_KYB K2 (by omega) YB) F2 _ (by omega)
    · have PC2 : ar_PC tn (ar_u S l (j + 2)) j := by
        refine ⟨fun k hk => ?_, fun _ => ?_, fun _ => ?_⟩
        · rw [ar_un (by omega)]
          exact pc1 k (by omega)
        · rw [← dd, ar_us]
          omega
        · rw [← dd, ar_us]
          omega
      have X2 : ar_XI tn n (ar_u L l (ar_se tn n L S l).2) (ar_u S l (j + 2)) N (ag_dp tn j) rk0 rw0 cl0 nb0 gv0 rk' rw' cl' nb' gv wt' := by
        rw [← dd]
        exact ⟨ap_Kt K0 (ap_Km (by omega) K), G0, fun q hq => ar_KXN K (by omega) hq (XN q hq), ar_XLu XL K X w1 (by omega) (fun z => by omega) (fun _ => ⟨w2, wf⟩)⟩
      have nx := ih _ _ N PC2 rk' rw' cl' nb' gv wt' X2 (fun r u' yc => hyp r u' ?_) F (by omega)
      · rw [← dd] at nx
        exact nx
      · intro yk yw yd yt ywt yfi YI F2 hF2
        rw [hl] at YI ⊢
        obtain ⟨YB, YN, YL⟩ := YI
        obtain ⟨F2, rfl⟩ : ∃ k, F2 = k + 1 := ⟨F2 - 1, by omega⟩
        rw [nI_pred]
        refine ay_go (by omega) (ay_vF hn ht hk l15 (YL l (Nat.le_refl l)) s0 hi hf (fun bk bw bd bt K2 Y => ?_))
        have fl := ((YL l (Nat.le_refl l)).2.2.1 s0).1
        have ny := yc bk bw bd bt (upd (upd ywt l (-1)) l (nI (ag_wd tn n j))) yfi (by
          rw [← dd]
          exact ⟨ar_KYB K2 (by omega) YB, fun q hq => ar_KYN K2 (by omega) hq (YN q hq), ar_YLu YL K2 (Y e) (fun k hk => by rw [pk_un hk, pk_un hk]) (fun _ _ => rfl) fl (by omega) (fun z => by omega) (fun _ => ⟨pk_us, wf⟩)⟩) F2 (by omega)
        rw [← dd] at ny
        dsimp only
        rw [e]
        exact ny
  have q := ax_sk (rk := rk) (rw := rw) (cl := cl) (nb := nb) (gv := gv) (wt := wt) go (i - j) (by omega) (fun t h1 h2 post h => ar_skF hn ht hk hf hi h1 (by omega) h) F (by omega)
  rw [show j + (i - j) = i by omega] at q
  exact q
theorem ar_cB {i : Nat} (hn : n ≤ 30) (ht : ∀ j, tx j = nI (tn j)) (hk : ∀ j, ag_tok (tn j)) (OK : ag_ok tn n) (XE : ar_XE n tx rk0 rw0 cl0 nb0 gv0 yk0 yw0 yd0 yt0 Q) (hi : i < n) (PC : ar_PC tn S (i + 1)) (hf : tn i = 52)
    (ih : ∀ L S N, ar_PC tn S (i - 1) → ar_XC tn n tx rk0 rw0 cl0 nb0 gv0 yk0 yw0 yd0 yt0 PX Q L S N (i - 1)) : ar_XC tn n tx rk0 rw0 cl0 nb0 gv0 yk0 yw0 yd0 yt0 PX Q L S N (i + 1) := by
  intro rk rw cl nb gv wt XI hyp F hF
  obtain ⟨i1, nm, Hf, sf, st, dd⟩ := ag_Rbec hk OK hi hf
  have l15 := ag_d15 OK hn (p := i + 1) hi
  have s0 := PC.2.2 st
  have pc1 := PC.1
  obtain ⟨K0, G0, XN, XL⟩ := XI
  generalize hl : ag_dp tn (i + 1) = l at *
  have Hl := XL l (Nat.le_refl l)
  rw [nI_pred]
  have ii : i - 1 + 1 = i := by omega
  obtain ⟨x, hx⟩ : ∃ x, tn (i - 1) = 10 + x := ⟨tn (i - 1) - 10, by omega⟩
  have e3 : tn (i - 1) - 3 = 7 + x := by omega
  have e10 : tn (i - 1) - 10 = x := by omega
  have go : ∀ F, i - 1 + 1 < F → wX_run_38 PX F 0 (nI (i - 1)) (nI n) (nI l) tx rk rw cl nb gv wt := by
    intro F hF
    obtain ⟨F, rfl⟩ : ∃ k, F = k + 1 := ⟨F - 1, by omega⟩
    refine ax_go (by omega) (ax_vB hn ht hk l15 Hl s0 (by omega) nm (by omega) (by rw [ii]; exact hf) (fun e => ?_) (fun e rk' rw' cl' nb' wt' K X w1 w2 => ?_))
    · refine ax_end (by omega) e (hyp _ _ ?_)
      have ye := XE _ (nI l) rk rw cl nb gv (upd wt l (-1)) e K0 G0
      intro yk yw yd yt ywt yfi YI F2 hF2
      rw [hl] at YI ⊢
      obtain ⟨YB, YN, YL⟩ := YI
      obtain ⟨F2, rfl⟩ : ∃ k, F2 = k + 1 := ⟨F2 - 1, by omega⟩
      rw [nI_pred]
      refine ay_go (by omega) (ay_vB hn ht l15 (YL l (Nat.le_refl l)) s0 hi hf i1 nm (fun _ bk bw bd bt K2 => ?_) (fun z => absurd z e))
      exact ar_yE ye e l15 (ar_KYB K2 (by omega) YB) F2 _ (by omega)
    · rw [e3]
      have PC2 : ar_PC tn (ar_u S l 1) (i - 1) := by
        refine ⟨fun k hk => ?_, fun z => by omega, fun _ => ?_⟩
        · rw [ar_un (by omega)]
          exact pc1 k (by omega)
        · rw [← dd, ar_us]
          omega
      have FX := ap_cpF (rk := rk') (rw := rw') (cl := cl') (nb := nb') (p := 14 + l) (q := 7 + x) (x := rk' (14 + l)) (y := rw' (14 + l)) (z := cl' (14 + l))
      have X2 : ar_XI tn n (ar_u L l (ar_se tn n L S l).2) (ar_u S l 1) (ar_u N x (some (ar_se tn n L S l).2)) (ag_dp tn (i - 1)) rk0 rw0 cl0 nb0 gv0 (upd rk' (7 + x) (rk' (14 + l))) (upd rw' (7 + x) (rw' (14 + l))) (upd cl' (7 + x) (cl' (14 + l))) (ap_cp nb' (14 + l) (7 + x) 36) (upd gv (7 + x) 1) wt' := by
        rw [← dd]
        have XL2 := ar_XLu XL K X w1 (s := 1) (by omega) (fun _ => w2) (fun z => by omega)
        refine ⟨ap_Kt (ap_Kt K0 (ap_Km (by omega) K)) (ap_KF (Or.inr (by omega)) FX), fun j hj => by rw [pk_un (by omega)]; exact G0 j hj, fun q hq => ?_, fun j hj => ?_⟩
        · by_cases e4 : q = x
          · subst e4
            exact Or.inr ⟨_, ar_us, pk_us, X.1, ap_cpX (ap_v36 X.1) X.2⟩
          · rcases ar_KXN K (by omega) hq (XN q hq) with ⟨a, b⟩ | ⟨A, a, b, c⟩
            · exact Or.inl ⟨by rw [ar_un e4]; exact a, by rw [pk_un (by omega)]; exact b⟩
            · exact Or.inr ⟨A, by rw [ar_un e4]; exact a, by rw [pk_un (by omega)]; exact b, c.1, ap_FX FX (by omega) (ap_v36 c.1) c.2⟩
        · obtain ⟨a, b, c⟩ := XL2 j hj
          exact ⟨a, b, fun z => ⟨(c z).1, ap_FX FX (by omega) (ap_v36 (c z).1) (c z).2⟩⟩
      have nx := ih _ _ _ PC2 _ _ _ _ _ wt' X2 (fun r u' yc => hyp r u' ?_) F (by omega)
      · rw [← dd] at nx
        exact nx
      · intro yk yw yd yt ywt yfi YI F2 hF2
        rw [hl] at YI ⊢
        obtain ⟨YB, YN, YL⟩ := YI
        obtain ⟨F2, rfl⟩ : ∃ k, F2 = k + 1 := ⟨F2 - 1, by omega⟩
        rw [nI_pred]
        refine ay_go (by omega) (ay_vB hn ht l15 (YL l (Nat.le_refl l)) s0 hi hf i1 nm (fun z => absurd e z) (fun _ bk bw bd bt K2 Y => ?_))
        rw [e10]
        have fl := ((YL l (Nat.le_refl l)).2.2.1 s0).1
        have FY := ap_cpF (rk := bk) (rw := bw) (cl := bd) (nb := bt) (p := 14 + l * 2) (q := x) (x := bk (14 + l * 2)) (y := bw (14 + l * 2)) (z := bd (14 + l * 2))
        have YL2 := ar_YLu YL K2 Y (wt' := upd ywt l (-1)) (fi' := yfi) (s := 1) (fun k hk => pk_un hk) (fun _ _ => rfl) fl (by omega) (fun _ => pk_us) (fun z => by omega)
        have YB2 := ar_KYB K2 (by omega) YB
        have ny := yc (upd bk x (bk (14 + l * 2))) (upd bw x (bw (14 + l * 2))) (upd bd x (bd (14 + l * 2))) (ap_cp bt (14 + l * 2) x 36) (upd ywt l (-1)) yfi (by
          rw [← dd]
          refine ⟨⟨fun q hq => ap_CF FY (by omega) (YB2.1 q hq), ap_CF FY (by omega) YB2.2⟩, fun q hq => ?_, fun j hj => ?_⟩
          · by_cases e4 : q = x
            · subst e4
              exact Or.inr ⟨_, ar_us, Y.1, ap_cpY (ap_v36 Y.1) Y.2⟩
            · rcases ar_KYN K2 (by omega) hq (YN q hq) with ⟨a, b⟩ | ⟨A, a, c⟩
              · exact Or.inl ⟨by rw [ar_un e4]; exact a, by rw [pk_un e4]; exact b⟩
              · exact Or.inr ⟨A, by rw [ar_un e4]; exact a, c.1, ap_FY FY e4 (ap_v36 c.1) c.2⟩
          · obtain ⟨a, b, c, d⟩ := YL2 j hj
            exact ⟨a, b, fun z => ⟨(c z).1, (c z).2.1, ap_FY FY (by omega) (ap_v36 (c z).2.1) (c z).2.2⟩, d⟩) F2 (by omega)
        rw [← dd] at ny
        exact ny
  have q := ax_sk (rk := rk) (rw := rw) (cl := cl) (nb := nb) (gv := gv) (wt := wt) go 1 (by omega) (fun t h1 h2 post h => ar_skB hn ht hk (by omega) (by rw [show t = i by omega]; exact hf) h) F (by omega)
  rw [ii] at q
  exact q
theorem ar_cO {i : Nat} (hn : n ≤ 30) (ht : ∀ j, tx j = nI (tn j)) (hk : ∀ j, ag_tok (tn j)) (OK : ag_ok tn n) (XE : ar_XE n tx rk0 rw0 cl0 nb0 gv0 yk0 yw0 yd0 yt0 Q) (hi : i < n) (PC : ar_PC tn S (i + 1)) (hf : tn i = 50)
    (ih : ∀ L S N, ar_PC tn S i → ar_XC tn n tx rk0 rw0 cl0 nb0 gv0 yk0 yw0 yd0 yt0 PX Q L S N i) : ar_XC tn n tx rk0 rw0 cl0 nb0 gv0 yk0 yw0 yd0 yt0 PX Q L S N (i + 1) := by
  intro rk rw cl nb gv wt XI hyp F hF
  obtain ⟨Hf, sf, st, dd⟩ := ag_Ropen hk OK hi hf
  have l15 := ag_d15 OK hn (p := i + 1) hi
  have s0 := PC.2.2 st
  have pc1 := PC.1
  obtain ⟨K0, G0, XN, XL⟩ := XI
  rw [dd] at l15 s0 pc1 XL
  generalize hl : ag_dp tn i = l at *
  have s1 := pc1 l (by omega)
  have Hl := XL (l + 1) (Nat.le_refl _)
  have Hl' := XL l (by omega)
  rw [nI_pred, dd]
  obtain ⟨F, rfl⟩ : ∃ k, F = k + 1 := ⟨F - 1, by omega⟩
  have XL0 : ∀ j, j ≤ l → ar_XL tn n L S rk rw cl nb wt j := fun j hj => XL j (by omega)
  refine ax_go (by omega) (ax_vO hn ht hk l15 Hl Hl' s0 s1 hi hf (fun e => ?_) (fun e e2 rk' rw' cl' nb' wt' K => ?_) (fun e e2 rk' rw' cl' nb' wt' K X w1 w2 => ?_))
  · refine ax_end (by omega) e (hyp _ _ ?_)
    have ye := XE _ (nI (l + 1)) rk rw cl nb gv (upd wt (l + 1) (-1)) e K0 G0
    intro yk yw yd yt ywt yfi YI F2 hF2
    rw [dd] at YI ⊢
    obtain ⟨YB, YN, YL⟩ := YI
    obtain ⟨F2, rfl⟩ : ∃ k, F2 = k + 1 := ⟨F2 - 1, by omega⟩
    rw [nI_pred]
    refine ay_go (by omega) (ay_vO hn ht l15 (YL (l + 1) (Nat.le_refl _)) (YL l (by omega)) s0 s1 hi hf (fun _ bk bw bd bt bwt bfi K2 => ?_) (fun z => absurd z e))
    exact ar_yE ye e (by omega) (ar_KYB K2 (by omega) YB) F2 _ (by omega)
  · refine ax_end (by omega) e2 (hyp _ _ ?_)
    have ye := XE _ (nI l) rk' rw' cl' nb' gv wt' e2 (ap_Kt K0 (ap_Km (by omega) K)) G0
    intro yk yw yd yt ywt yfi YI F2 hF2
    rw [dd] at YI ⊢
    obtain ⟨YB, YN, YL⟩ := YI
    obtain ⟨F2, rfl⟩ : ∃ k, F2 = k + 1 := ⟨F2 - 1, by omega⟩
    rw [nI_pred]
    refine ay_go (by omega) (ay_vO hn ht l15 (YL (l + 1) (Nat.le_refl _)) (YL l (by omega)) s0 s1 hi hf (fun z => absurd e z) (fun _ bk bw bd bt bwt bfi K2 _ _ _ _ => ?_))
    exact ar_yE ye e2 (by omega) (ar_KYB K2 (by omega) YB) F2 _ (by omega)
  · have PC2 : ar_PC tn (ar_u S l 1) i := by
      refine ⟨fun k hk => ?_, fun z => by omega, fun _ => ?_⟩
      · rw [ar_un (by omega)]
        exact pc1 k (by omega)
      · rw [hl, ar_us]
        omega
    have w1' : ∀ j, j ≤ l → j ≠ l → wt' j = wt j := fun j h1 h2 => w1 j (by omega)
    have X2 : ar_XI tn n (ar_u L l (ar_op tn n L S l (ar_se tn n L S (l + 1)).2).2) (ar_u S l 1) N (ag_dp tn i) rk0 rw0 cl0 nb0 gv0 rk' rw' cl' nb' gv wt' := by
      rw [hl]
      refine ⟨ap_Kt K0 (ap_Km (by omega) K), G0, fun q hq => ar_KXN K (by omega) hq (XN q hq), fun j hj => ?_⟩
      unfold ar_XL
      by_cases ej : j = l
      · subst ej
        rw [ar_us, ar_us]
        exact ⟨fun _ => w2, fun z => by omega, fun _ => X⟩
      · rw [ar_un ej, ar_un ej, w1 j (by omega)]
        obtain ⟨a, b, c⟩ := XL0 j hj
        exact ⟨a, b, fun z => ar_KXA K (by omega) (by omega) (c z)⟩
    have nx := ih _ _ N PC2 rk' rw' cl' nb' gv wt' X2 (fun r u' yc => hyp r u' ?_) F (by omega)
    · rw [hl] at nx
      exact nx
    · intro yk yw yd yt ywt yfi YI F2 hF2
      rw [dd] at YI ⊢
      obtain ⟨YB, YN, YL⟩ := YI
      obtain ⟨F2, rfl⟩ : ∃ k, F2 = k + 1 := ⟨F2 - 1, by omega⟩
      rw [nI_pred]
      refine ay_go (by omega) (ay_vO hn ht l15 (YL (l + 1) (Nat.le_refl _)) (YL l (by omega)) s0 s1 hi hf (fun z => absurd e z) (fun _ bk bw bd bt bwt bfi K2 Y v1 v2 v3 => ?_))
      have ny := yc bk bw bd bt bwt bfi (by
        rw [hl]
        refine ⟨ar_KYB K2 (by omega) YB, fun q hq => ar_KYN K2 (by omega) hq (YN q hq), fun j hj => ?_⟩
        unfold ar_YL
        by_cases ej : j = l
        · subst ej
          rw [ar_us, ar_us]
          exact ⟨fun _ => v2, fun z => by omega, fun _ => ⟨v3, Y e2⟩, fun z => by omega⟩
        · rw [ar_un ej, ar_un ej, (v1 j (by omega)).1, (v1 j (by omega)).2]
          obtain ⟨a, b, c, d⟩ := YL j (by omega)
          exact ⟨a, b, fun z => ⟨(c z).1, ar_KYA K2 (by omega) (by omega) (c z).2⟩, d⟩) F2 (by omega)
      rw [hl] at ny
      dsimp only
      rw [e2]
      exact ny
/-- what is to be shown at a good end: names and result -/
def ar_OK (n : Nat) (tx : Nat → Int32) (Q : Int32 → SX → Int32 → SY → Prop) : Prop :=
  ∀ (A : ar_A) (N : Nat → Option ar_A) (lv : Int32) (rk rw cl nb gv wt : Nat → Int32) (lv' : Int32) (yk yw yd yt ywt yfi : Nat → Int32),
    ar_XA rk rw cl nb 0 A → (∀ q, q < 6 → (N q = none ∧ gv (1 + q) = 0) ∨ ∃ B, N q = some B ∧ gv (1 + q) = 1 ∧ ar_XA rk rw cl nb (1 + q) B) →
    ar_YA yk yw yd yt 12 A → (∀ q, q < 6 → ar_YN N yk yw yd yt q) → Q (rk 0) (nI n, lv, tx, rk, rw, cl, nb, gv, wt) (yk 12) (nI n, lv', 0, tx, yk, yw, yd, yt, ywt, yfi)
theorem ar_c0 (hn : n ≤ 30) (ht : ∀ j, tx j = nI (tn j)) (hk : ∀ j, ag_tok (tn j)) (XE : ar_XE n tx rk0 rw0 cl0 nb0 gv0 yk0 yw0 yd0 yt0 Q) (XO : ar_OK n tx Q) (PC : ar_PC tn S 0) : ar_XC tn n tx rk0 rw0 cl0 nb0 gv0 yk0 yw0 yd0 yt0 PX Q L S N 0 := by
  intro rk rw cl nb gv wt XI hyp F hF
  have s0 : S 0 ≠ 0 := PC.2.2 (by decide : (1 : Nat) < 4)
  have dp0 : ag_dp tn 0 = 0 := rfl
  obtain ⟨K0, G0, XN, XL⟩ := XI
  rw [dp0] at XL ⊢
  have Hl := XL 0 (Nat.le_refl 0)
  have m1 : nI 0 - 1 < 0 := by decide
  obtain ⟨F, rfl⟩ : ∃ k, F = k + 1 := ⟨F - 1, by omega⟩
  refine br_t m1 (br_t rfl ?_)
  refine ax_se hn ht hk (by omega) Hl s0 (fun e => ?_) (fun e rk' rw' cl' nb' wt' K X w1 w2 => ?_)
  · dsimp only
    refine br_f e (hyp _ _ ?_)
    have ye := XE _ (nI 0) rk rw cl nb gv (upd wt 0 (-1)) e K0 G0
    intro yk yw yd yt ywt yfi YI F2 hF2
    rw [dp0] at YI ⊢
    obtain ⟨YB, YN, YL⟩ := YI
    obtain ⟨F2, rfl⟩ : ∃ k, F2 = k + 1 := ⟨F2 - 1, by omega⟩
    refine br_t m1 ?_
    unfold wY_run_86
    refine ay_se (by omega) (YL 0 (Nat.le_refl 0)) s0 (fun bk bw bd bt K2 _ => ?_)
    have en := ar_yE (fi := yfi) (wt := upd ywt 0 (-1)) (l := 0) ye e (by omega) (ar_KYB K2 (by omega) YB) 1 (-1) (by omega)
    have en2 := (en.1 (by decide))
    unfold wY_run_86 at en2
    have z : ¬ (0 : Int32) ≤ -1 := by decide
    simp (disch := omega) only [wpY_settle, e, pk_us, show (-1 : Int32) < 0 from by decide, vp_in_nI, nI_clamp, forall_eq, true_and, and_true, true_implies, false_implies, not_true, not_false_iff] at en2
    have uu : upd (upd ywt 0 (-1)) 0 (-1) = upd ywt 0 (-1) := by
      funext j
      by_cases h : j = 0
      · rw [h, pk_us, pk_us]
      · rw [pk_un h]
    rw [uu] at en2
    exact en2
  · dsimp only
    refine br_t rfl ?_
    have XN2 : ∀ q, q < 6 → ar_XN N rk' rw' cl' nb' gv q := fun q hq => ar_KXN K (by omega) hq (XN q hq)
    refine ax_cn (a := 7) (b := 1) (by omega) (by omega) (by omega) (fun q hq => ?_) (fun ak aw al an agv c1 c2 => ?_)
    · rcases XN2 q hq with ⟨_, g⟩ | ⟨_, _, g, _⟩
      · exact Or.inl g
      · exact Or.inr g
    · dsimp only
      refine ax_cp (a := 14) (b := 0) (by omega) (by omega) (by omega) ?_
      dsimp only
      refine hyp _ _ ?_
      have X14 : ar_XA ak aw al an 14 (ar_se tn n L S 0).2 := ⟨X.1, ap_CX (c2 14 (by omega)).1 (ap_v36 X.1) X.2⟩
      intro yk yw yd yt ywt yfi YI F2 hF2
      rw [dp0] at YI ⊢
      obtain ⟨YB, YN, YL⟩ := YI
      obtain ⟨F2, rfl⟩ : ∃ k, F2 = k + 1 := ⟨F2 - 1, by omega⟩
      refine br_t m1 ?_
      unfold wY_run_86
      refine ay_se (by omega) (YL 0 (Nat.le_refl 0)) s0 (fun bk bw bd bt K2 Y => ?_)
      dsimp only
      rw [e]
      refine ⟨1, br_f (by decide) (br_t rfl (br_t rfl ?_))⟩
      refine ay_cp (a := 14) (b := 12) (by omega) (by omega) (by omega) ?_
      dsimp only
      have Y14 := Y e
      refine XO (ar_se tn n L S 0).2 N _ _ _ _ _ _ _ _ _ _ _ _ _ _ ⟨X.1, ap_cpX (ap_v36 X.1) X14.2⟩ (fun q hq => ?_) ⟨Y14.1, ap_cpY (ap_v36 Y14.1) Y14.2⟩ (fun q hq => ?_)
      · rcases XN2 q hq with ⟨a, g⟩ | ⟨B, a, g, XB⟩
        · exact Or.inl ⟨a, (c1 q hq).2.trans g⟩
        · exact Or.inr ⟨B, a, (c1 q hq).2.trans g, XB.1, ap_FX ap_cpF (by omega) (ap_v36 XB.1) (ap_CX (c1 q hq).1 (ap_v36 XB.1) XB.2)⟩
      · rcases ar_KYN K2 (by omega) hq (YN q hq) with ⟨a, g⟩ | ⟨B, a, YB'⟩
        · exact Or.inl ⟨a, by rw [pk_un (by omega)]; exact g⟩
        · exact Or.inr ⟨B, a, YB'.1, ap_FY ap_cpF (by omega) (ap_v36 YB'.1) YB'.2⟩
theorem ar_LK (hn : n ≤ 30) (ht : ∀ j, tx j = nI (tn j)) (hk : ∀ j, ag_tok (tn j)) (OK : ag_ok tn n) (XE : ar_XE n tx rk0 rw0 cl0 nb0 gv0 yk0 yw0 yd0 yt0 Q) (XO : ar_OK n tx Q) :
    ∀ m p, p ≤ m → p ≤ n → ag_H tn n p → ∀ L S N, ar_PC tn S p → ar_XC tn n tx rk0 rw0 cl0 nb0 gv0 yk0 yw0 yd0 yt0 PX Q L S N p := by
  intro m
  induction m with
  | zero =>
    intro p h1 _ _ L S N PC
    have e : p = 0 := by omega
    subst e
    exact ar_c0 hn ht hk XE XO PC
  | succ m ih =>
    intro p h1 hp hH L S N PC
    by_cases p0 : p = 0
    · subst p0
      exact ar_c0 hn ht hk XE XO PC
    obtain ⟨i, rfl⟩ : ∃ i, p = i + 1 := ⟨p - 1, by omega⟩
    have hi : i < n := by omega
    have tk := hk i
    have n42 := ag_R42 hk OK hi hH
    unfold ag_tok at tk
    by_cases a : tn i ≤ 9
    · obtain ⟨f, f1, f2, f3⟩ := ar_run tn i a
      have R := ag_Rnum hk OK hi f1 f2 f3
      exact ar_cN hn ht hk OK XE hi hH PC f1 f2 f3 (fun L S N pc => ih f (by omega) (by omega) R.1 L S N pc)
    by_cases b : ag_nm (tn i)
    · have R := ag_Rname hk OK hi hH b
      exact ar_cM hn ht hk OK XE hi hH PC b (fun L S N pc => ih i (by omega) (by omega) R.1 L S N pc)
    by_cases c : tn i = 51
    · have R := ag_Rclose hk OK hi c
      exact ar_cC hn ht hk OK hi PC c (fun L S N pc => ih i (by omega) (by omega) R.1 L S N pc)
    by_cases d : tn i = 50
    · have R := ag_Ropen hk OK hi d
      exact ar_cO hn ht hk OK XE hi PC d (fun L S N pc => ih i (by omega) (by omega) R.1 L S N pc)
    by_cases e : tn i = 52
    · have R := ag_Rbec hk OK hi e
      exact ar_cB hn ht hk OK XE hi PC e (fun L S N pc => ih (i - 1) (by omega) (by omega) R.2.2.1 L S N pc)
    by_cases f : ag_mx (tn i)
    · have R := ag_Rmx hk OK hi f
      exact ar_cF (j := i) hn ht hk OK XE hi PC (Or.inl ⟨f, rfl⟩) R.2.1 R.2.2 (fun L S N pc => ih i (by omega) (by omega) R.1 L S N pc)
    by_cases g : tn i = 40 ∨ tn i = 41
    · have R := ag_Rsl hk OK hi g
      exact ar_cF (j := i - 1) hn ht hk OK XE hi PC (Or.inr (Or.inl ⟨g, R.1, R.2.1, rfl, R.2.2.2.2.2⟩)) R.2.2.2.1 R.2.2.2.2.1 (fun L S N pc => ih (i - 1) (by omega) (by omega) R.2.2.1 L S N pc)
    have s : ag_sc (tn i) := by omega
    obtain ⟨st, R⟩ := ag_Rsc hk OK hi hH s
    rcases R with ⟨r1, r2, r3, r4⟩ | ⟨r1, r2, r3, r4, r5, r6⟩ | ⟨r1, r2, r3, r4⟩
    · exact ar_cF (j := i - 1) hn ht hk OK XE hi PC (Or.inr (Or.inr (Or.inl ⟨s, r1, r2, rfl⟩))) st r4 (fun L S N pc => ih (i - 1) (by omega) (by omega) r3 L S N pc)
    · exact ar_cF (j := i - 2) hn ht hk OK XE hi PC (Or.inr (Or.inr (Or.inr (Or.inl ⟨s, r1, r2, r3, rfl, r6⟩)))) st r5 (fun L S N pc => ih (i - 2) (by omega) (by omega) r4 L S N pc)
    · exact ar_cF (j := i) hn ht hk OK XE hi PC (Or.inr (Or.inr (Or.inr (Or.inr ⟨s, r3, r4, rfl⟩)))) st r2 (fun L S N pc => ih i (by omega) (by omega) r1 L S N pc)
end
