/-! the two readings side by side: steps -/
section
variable {tc lv : Int32} {tx rk rw cl nb gv wt : Nat → Int32} {tn : Nat → Nat} {n : Nat}
theorem ax_go {PX : Int32 → SX → Prop} {F i : Nat} (hi : i < 30) (h : wpX_visit (fun r u => match u with | (tc, lv, tx, rk, rw, cl, nb, gv, wt) => wX_run_38 PX F r (nI i - 1) tc lv tx rk rw cl nb gv wt) (tc, lv, tx, rk, rw, cl, nb, gv, wt) (nI i)) : wX_run_38 PX (F + 1) 0 (nI i) tc lv tx rk rw cl nb gv wt := by
  have z : ¬ nI i < 0 := nI_pos (by omega)
  have e : nI i + -1 = nI i - 1 := (Int32.sub_eq_add_neg _ _).symm
  simp only [wX_run_38, z, e, forall_eq, false_implies, not_false_iff, true_implies, true_and, not_true, and_true]
  exact h
theorem ax_end {PX : Int32 → SX → Prop} {F : Nat} {c x2 : Int32} (hF : 0 < F) (hc : c ≠ 0) (h : PX c (tc, lv, tx, rk, rw, cl, nb, gv, wt)) : wX_run_38 PX F c x2 tc lv tx rk rw cl nb gv wt := by
  obtain ⟨F, rfl⟩ : ∃ k, F = k + 1 := ⟨F - 1, by omega⟩
  have g : wX_run_58 PX c tc lv tx rk rw cl nb gv wt := br_f hc (br_f hc h)
  by_cases z : x2 < 0
  · exact br_t z g
  · exact br_f z (br_f hc g)
theorem ax_sk {PX : Int32 → SX → Prop} {j : Nat} (h : ∀ F, j + 1 < F → wX_run_38 PX F 0 (nI j) tc lv tx rk rw cl nb gv wt) : ∀ d, j + d < 30 → (∀ t, j < t → t ≤ j + d → ∀ post : Int32 → SX → Prop, post 0 (tc, lv, tx, rk, rw, cl, nb, gv, wt) → wpX_visit post (tc, lv, tx, rk, rw, cl, nb, gv, wt) (nI t)) → ∀ F, j + d + 1 < F → wX_run_38 PX F 0 (nI (j + d)) tc lv tx rk rw cl nb gv wt := by
  intro d
  induction d with
  | zero => intro _ _ F hF; exact h F hF
  | succ d ih =>
    intro hd hs F hF
    obtain ⟨F, rfl⟩ : ∃ k, F = k + 1 := ⟨F - 1, by omega⟩
    refine ax_go hd (hs (j + (d + 1)) (by omega) (by omega) _ ?_)
    dsimp only
    have q := ih (by omega) (fun t h1 h2 => hs t h1 (by omega)) F (by omega)
    have e : nI (j + (d + 1)) - 1 = nI (j + d) := nI_pred (j + d)
    rw [e]
    exact q
theorem ar_skF {i j t : Nat} (hn : n ≤ 30) (ht : ∀ j, tx j = nI (tn j)) (hk : ∀ j, ag_tok (tn j)) (hf : ar_fn tn n i j) (hi : i < n) (h1 : j < t) (h2 : t ≤ i) {post : Int32 → SX → Prop} (h : post 0 (nI n, lv, tx, rk, rw, cl, nb, gv, wt)) : wpX_visit post (nI n, lv, tx, rk, rw, cl, nb, gv, wt) (nI t) := by
  rcases hf with ⟨m, rfl⟩ | ⟨g, i1, s, rfl, b⟩ | ⟨s, i1, b, rfl⟩ | ⟨s, i2, b, s2, rfl, b3⟩ | ⟨s, b, b2, rfl⟩
  · omega
  · have e : t = i := by omega
    subst e
    exact ax_skip hn ht hk hi (by omega) (by omega) (by omega) (fun P => ax_sO0 P hn ht hk hi (by omega) (by omega)) (fun P => ax_sF0 P hn ht hk hi (by omega) (by omega) (by omega)) h
  · have e : t = i := by omega
    subst e
    exact ax_skip hn ht hk hi (by omega) (by omega) (by omega) (fun P => ax_sO0 P hn ht hk hi (by omega) (by omega)) (fun P => ax_sFs0 P hn ht hi s i1 (Or.inl b)) h
  · by_cases e : t = i
    · subst e
      exact ax_skip hn ht hk hi (by omega) (by omega) (by omega) (fun P => ax_sO0 P hn ht hk hi (by omega) (by omega)) (fun P => ax_sFs0 P hn ht hi s (by omega) (Or.inr b)) h
    · have e2 : t = i - 1 := by omega
      subst e2
      exact ax_skip hn ht hk (by omega) (by omega) (by omega) (by omega) (fun P => ax_sO0 P hn ht hk (by omega) (by omega) (by omega)) (fun P => ax_sF0 P hn ht hk (by omega) (by omega) (by omega) (by omega)) h
  · omega
theorem ar_skN {f t : Nat} (hn : n ≤ 30) (ht : ∀ j, tx j = nI (tn j)) (hk : ∀ j, ag_tok (tn j)) (hi : t < n) (h1 : f < t) (hd : tn t ≤ 9) (hd2 : tn (t - 1) ≤ 9) {post : Int32 → SX → Prop} (h : post 0 (nI n, lv, tx, rk, rw, cl, nb, gv, wt)) : wpX_visit post (nI n, lv, tx, rk, rw, cl, nb, gv, wt) (nI t) :=
  ax_skip hn ht hk hi (by omega) (by omega) (by omega) (fun P => ax_sOn0 P hn ht hi hd (by omega) hd2) (fun P => ax_sF0 P hn ht hk hi (by omega) (by omega) (by omega)) h
theorem ar_skB {t : Nat} (hn : n ≤ 30) (ht : ∀ j, tx j = nI (tn j)) (hk : ∀ j, ag_tok (tn j)) (hi : t < n) (hd : tn t = 52) {post : Int32 → SX → Prop} (h : post 0 (nI n, lv, tx, rk, rw, cl, nb, gv, wt)) : wpX_visit post (nI n, lv, tx, rk, rw, cl, nb, gv, wt) (nI t) :=
  ax_skip hn ht hk hi (by omega) (by omega) (by omega) (fun P => ax_sO0 P hn ht hk hi (by omega) (by omega)) (fun P => ax_sF0 P hn ht hk hi (by omega) (by omega) (by omega)) h
theorem ar_run (tn : Nat → Nat) : ∀ i, tn i ≤ 9 → ∃ f, f ≤ i ∧ (∀ j, f ≤ j → j ≤ i → tn j ≤ 9) ∧ (1 ≤ f → ¬ tn (f - 1) ≤ 9) := by
  intro i
  induction i with
  | zero => intro h; exact ⟨0, by omega, fun j _ h2 => by rw [show j = 0 by omega]; exact h, fun z => by omega⟩
  | succ i ih =>
    intro h
    by_cases g : tn i ≤ 9
    · obtain ⟨f, a, b, c⟩ := ih g
      refine ⟨f, by omega, fun j h1 h2 => ?_, c⟩
      by_cases e : j = i + 1
      · subst e; exact h
      · exact b j h1 (by omega)
    · exact ⟨i + 1, by omega, fun j h1 h2 => by rw [show j = i + 1 by omega]; exact h, fun _ => g⟩
end
section
variable {ct lv er : Int32} {tx rk rw wd dt wt fi : Nat → Int32}
theorem ay_go {post : Int32 → SY → Prop} {F i : Nat} (hi : i < 30) (h : wpY_readToken (fun r u => match u with | (ct, lv, er, tx, rk, rw, wd, dt, wt, fi) => wY_run_64 post F (r - 1) ct lv er tx rk rw wd dt wt fi) (ct, lv, 0, tx, rk, rw, wd, dt, wt, fi) (nI i)) : wY_run_64 post (F + 1) (nI i) ct lv 0 tx rk rw wd dt wt fi := by
  have z : ¬ nI i < 0 := nI_pos (by omega)
  simp only [wY_run_64, z, forall_eq, false_implies, not_false_iff, true_implies, true_and, not_true, and_true]
  exact h
end
/-- what is to be shown of Y from place p on -/
def ar_YC (tn : Nat → Nat) (n : Nat) (tx rk0 rw0 wd0 dt0 : Nat → Int32) (L : Nat → ar_A) (S : Nat → Nat) (N : Nat → Option ar_A) (p : Nat) (post : Int32 → SY → Prop) : Prop :=
  ∀ rk rw wd dt wt fi, ar_YI tn n L S N (ag_dp tn p) rk0 rw0 wd0 dt0 rk rw wd dt wt fi → ∀ F, p < F → wY_run_64 post F (nI p - 1) (nI n) (nI (ag_dp tn p)) 0 tx rk rw wd dt wt fi
/-- what is to be shown of Y after an error -/
def ar_YE (n : Nat) (tx rk0 rw0 wd0 dt0 : Nat → Int32) (c : Int32) (post : Int32 → SY → Prop) : Prop :=
  ∀ lv rk rw wd dt wt fi, (∀ q, q < 6 → ap_C q q rk0 rw0 wd0 dt0 rk rw wd dt) → ap_C 12 12 rk0 rw0 wd0 dt0 rk rw wd dt → post c (nI n, lv, c, tx, rk, rw, wd, dt, wt, fi)
/-- what is to be shown of X from place p on -/
def ar_XC (tn : Nat → Nat) (n : Nat) (tx rk0 rw0 cl0 nb0 gv0 yk0 yw0 yd0 yt0 : Nat → Int32) (PX : Int32 → SX → Prop) (Q : Int32 → SX → Int32 → SY → Prop) (L : Nat → ar_A) (S : Nat → Nat) (N : Nat → Option ar_A) (p : Nat) : Prop :=
  ∀ rk rw cl nb gv wt, ar_XI tn n L S N (ag_dp tn p) rk0 rw0 cl0 nb0 gv0 rk rw cl nb gv wt → (∀ r u', ar_YC tn n tx yk0 yw0 yd0 yt0 L S N p (Q r u') → PX r u') → ∀ F, p < F → wX_run_38 PX F 0 (nI p - 1) (nI n) (nI (ag_dp tn p)) tx rk rw cl nb gv wt
def ar_XE (n : Nat) (tx rk0 rw0 cl0 nb0 gv0 yk0 yw0 yd0 yt0 : Nat → Int32) (Q : Int32 → SX → Int32 → SY → Prop) : Prop :=
  ∀ (c lv : Int32) (rk rw cl nb gv wt : Nat → Int32), c ≠ 0 → ap_K 7 rk0 rw0 cl0 nb0 rk rw cl nb → (∀ j, j < 7 → gv j = gv0 j) → ar_YE n tx yk0 yw0 yd0 yt0 c (Q c (nI n, lv, tx, rk, rw, cl, nb, gv, wt))
section
variable {tx rk0 rw0 cl0 nb0 gv0 yk0 yw0 yd0 yt0 : Nat → Int32} {PX : Int32 → SX → Prop} {Q : Int32 → SX → Int32 → SY → Prop} {tn : Nat → Nat} {n : Nat} {L : Nat → ar_A} {S : Nat → Nat} {N : Nat → Option ar_A}
/-- Y after an error at a step from i + 1 -/
theorem ar_yE {post : Int32 → SY → Prop} {c : Int32} {l : Nat} {rk rw wd dt wt fi : Nat → Int32} (YE : ar_YE n tx yk0 yw0 yd0 yt0 c post) (hc : c ≠ 0) (l15 : l ≤ 15) (B : ar_YB yk0 yw0 yd0 yt0 rk rw wd dt) : ∀ F x1, 0 < F → wY_run_64 post F x1 (nI n) (nI l) c tx rk rw wd dt wt fi :=
  ay_end l15 hc B (fun rk' rw' wd' dt' wt' h1 h2 => YE (nI l) rk' rw' wd' dt' wt' fi h1 h2)
theorem ar_cN {i f : Nat} (hn : n ≤ 30) (ht : ∀ j, tx j = nI (tn j)) (hk : ∀ j, ag_tok (tn j)) (OK : ag_ok tn n) (XE : ar_XE n tx rk0 rw0 cl0 nb0 gv0 yk0 yw0 yd0 yt0 Q) (hi : i < n) (hH : ag_H tn n (i + 1)) (PC : ar_PC tn S (i + 1))
    (hf : f ≤ i) (hd : ∀ j, f ≤ j → j ≤ i → tn j ≤ 9) (hb : 1 ≤ f → ¬ tn (f - 1) ≤ 9)
    (ih : ∀ L S N, ar_PC tn S f → ar_XC tn n tx rk0 rw0 cl0 nb0 gv0 yk0 yw0 yd0 yt0 PX Q L S N f) : ar_XC tn n tx rk0 rw0 cl0 nb0 gv0 yk0 yw0 yd0 yt0 PX Q L S N (i + 1) := by
  intro rk rw cl nb gv wt XI hyp F hF
  obtain ⟨Hf, sf, s4, dd⟩ := ag_Rnum hk OK hi hf hd hb
  have l15 := ag_d15 OK hn (p := i + 1) hi
  have s1 := PC.2.1 s4
  have st4 : ag_st tn (i + 1) = 4 := (ag_F1 _ (ag_s7 tn i) _ (ag_tk (hk i)) (ag_n0 OK.1 (q := i) (by omega)) (ag_n0 OK.1 (q := i + 1) hi) (hd i hf (Nat.le_refl i))).1
  have he : i + 1 < n → ¬ tn (i + 1) ≤ 9 := fun z => (hH.2 z).1 st4
  obtain ⟨K0, G0, XN, XL⟩ := XI
  generalize hl : ag_dp tn (i + 1) = l at *
  have Hl := XL l (Nat.le_refl l)
  rw [nI_pred]
  have go : ∀ F, f + 1 < F → wX_run_38 PX F 0 (nI f) (nI n) (nI l) tx rk rw cl nb gv wt := by
    intro F hF
    obtain ⟨F, rfl⟩ : ∃ k, F = k + 1 := ⟨F - 1, by omega⟩
    refine ax_go (by omega) ?_
    refine ax_vN hn ht hk l15 Hl s1 hf hi hd he hb (fun e rk' rw' cl' nb' wt' K => ?_) (fun e rk' rw' cl' nb' wt' K X w1 w2 => ?_)
    · refine ax_end (by omega) e (hyp _ _ ?_)
      have ye := XE _ (nI l) rk' rw' cl' nb' gv wt' e (ap_Kt K0 (ap_Km (by omega) K)) G0
      intro yk yw yd yt ywt yfi YI F2 hF2
      rw [hl] at YI ⊢
      obtain ⟨YB, YN, YL⟩ := YI
      obtain ⟨F2, rfl⟩ : ∃ k, F2 = k + 1 := ⟨F2 - 1, by omega⟩
      rw [nI_pred]
      refine ay_go (by omega) (ay_vN hn ht hk l15 (YL l (Nat.le_refl l)) s1 hf hi hd hb (fun bk bw bd bt K2 _ => ?_))
      exact ar_yE ye e l15 (ar_KYB K2 (by omega) YB) F2 _ (by omega)
    · have PC2 : ar_PC tn (ar_u S l 1) f := by
        refine ⟨fun j hj => ?_, fun z => by omega, fun _ => ?_⟩
        · rw [ar_un (by omega)]
          exact PC.1 j (by omega)
        · rw [← dd, ar_us]
          omega
      have X2 : ar_XI tn n (ar_u L l (ar_op tn n L S l (ar_num tn f i)).2) (ar_u S l 1) N (ag_dp tn f) rk0 rw0 cl0 nb0 gv0 rk' rw' cl' nb' gv wt' := by
        rw [← dd]
        exact ⟨ap_Kt K0 (ap_Km (by omega) K), G0, fun q hq => ar_KXN K (by omega) hq (XN q hq), ar_XLu XL K X w1 (by omega) (fun _ => w2) (fun z => by omega)⟩
      have nx := ih _ _ N PC2 rk' rw' cl' nb' gv wt' X2 (fun r u' yc => hyp r u' ?_) F (by omega)
      · rw [← dd] at nx
        exact nx
      · intro yk yw yd yt ywt yfi YI F2 hF2
        rw [hl] at YI ⊢
        obtain ⟨YB, YN, YL⟩ := YI
        obtain ⟨F2, rfl⟩ : ∃ k, F2 = k + 1 := ⟨F2 - 1, by omega⟩
        rw [nI_pred]
        refine ay_go (by omega) (ay_vN hn ht hk l15 (YL l (Nat.le_refl l)) s1 hf hi hd hb (fun bk bw bd bt K2 Y => ?_))
        have ny := yc bk bw bd bt (upd ywt l (-1)) (upd yfi l 1) (by
          rw [← dd]
          exact ⟨ar_KYB K2 (by omega) YB, fun q hq => ar_KYN K2 (by omega) hq (YN q hq), ar_YLu YL K2 (Y e) (fun j hj => pk_un hj) (fun j hj => pk_un hj) pk_us (by omega) (fun _ => pk_us) (fun z => by omega)⟩) F2 (by omega)
        rw [← dd] at ny
        dsimp only
        rw [e]
        exact ny
  have q := ax_sk (rk := rk) (rw := rw) (cl := cl) (nb := nb) (gv := gv) (wt := wt) go (i - f) (by omega) (fun t h1 h2 post h => ar_skN (f := f) hn ht hk (by omega) h1 (hd t (by omega) (by omega)) (hd (t - 1) (by omega) (by omega)) h) F (by omega)
  rw [show f + (i - f) = i by omega] at q
  exact q
theorem ar_cM {i : Nat} (hn : n ≤ 30) (ht : ∀ j, tx j = nI (tn j)) (hk : ∀ j, ag_tok (tn j)) (OK : ag_ok tn n) (XE : ar_XE n tx rk0 rw0 cl0 nb0 gv0 yk0 yw0 yd0 yt0 Q) (hi : i < n) (hH : ag_H tn n (i + 1)) (PC : ar_PC tn S (i + 1)) (hf : ag_nm (tn i))
    (ih : ∀ L S N, ar_PC tn S i → ar_XC tn n tx rk0 rw0 cl0 nb0 gv0 yk0 yw0 yd0 yt0 PX Q L S N i) : ar_XC tn n tx rk0 rw0 cl0 nb0 gv0 yk0 yw0 yd0 yt0 PX Q L S N (i + 1) := by
  intro rk rw cl nb gv wt XI hyp F hF
  obtain ⟨Hf, sf, s4, dd, n52⟩ := ag_Rname hk OK hi hH hf
  have l15 := ag_d15 OK hn (p := i + 1) hi
  have s1 := PC.2.1 s4
  obtain ⟨K0, G0, XN, XL⟩ := XI
  generalize hl : ag_dp tn (i + 1) = l at *
  have Hl := XL l (Nat.le_refl l)
  rw [nI_pred]
  obtain ⟨F, rfl⟩ : ∃ k, F = k + 1 := ⟨F - 1, by omega⟩
  have z11 : (-11 : Int32) ≠ 0 := by decide
  refine ax_go (by omega) (ax_vM hn ht hk l15 Hl s1 hi hf n52 (XN (tn i - 10) (by omega)) (fun e => ?_) (fun A e e2 rk' rw' cl' nb' wt' K => ?_) (fun A e e2 rk' rw' cl' nb' wt' K X w1 w2 => ?_))
  · refine ax_end (by omega) z11 (hyp _ _ ?_)
    have ye := XE _ (nI l) rk rw cl nb gv wt z11 K0 G0
    intro yk yw yd yt ywt yfi YI F2 hF2
    rw [hl] at YI ⊢
    obtain ⟨YB, YN, YL⟩ := YI
    obtain ⟨F2, rfl⟩ : ∃ k, F2 = k + 1 := ⟨F2 - 1, by omega⟩
    rw [nI_pred]
    refine ay_go (by omega) (ay_vM hn ht hk l15 (YL l (Nat.le_refl l)) s1 hi hf (YN (tn i - 10) (by omega)) (fun _ => ?_) (fun A e3 => by rw [e] at e3; exact absurd e3 (by simp)))
    exact ar_yE ye z11 l15 YB F2 _ (by omega)
  · refine ax_end (by omega) e2 (hyp _ _ ?_)
    have ye := XE _ (nI l) rk' rw' cl' nb' gv wt' e2 (ap_Kt K0 (ap_Km (by omega) K)) G0
    intro yk yw yd yt ywt yfi YI F2 hF2
    rw [hl] at YI ⊢
    obtain ⟨YB, YN, YL⟩ := YI
    obtain ⟨F2, rfl⟩ : ∃ k, F2 = k + 1 := ⟨F2 - 1, by omega⟩
    rw [nI_pred]
    refine ay_go (by omega) (ay_vM hn ht hk l15 (YL l (Nat.le_refl l)) s1 hi hf (YN (tn i - 10) (by omega)) (fun e3 => by rw [e] at e3; exact absurd e3 (by simp)) (fun B e3 bk bw bd bt K2 _ => ?_))
    have eB : B = A := by rw [e] at e3; exact (Option.some.inj e3).symm
    subst eB
    exact ar_yE ye e2 l15 (ar_KYB K2 (by omega) YB) F2 _ (by omega)
  · have PC2 : ar_PC tn (ar_u S l 1) i := by
      refine ⟨fun j hj => ?_, fun z => by omega, fun _ => ?_⟩
      · rw [ar_un (by omega)]
        exact PC.1 j (by omega)
      · rw [← dd, ar_us]
        omega
    have X2 : ar_XI tn n (ar_u L l (ar_op tn n L S l A).2) (ar_u S l 1) N (ag_dp tn i) rk0 rw0 cl0 nb0 gv0 rk' rw' cl' nb' gv wt' := by
      rw [← dd]
      exact ⟨ap_Kt K0 (ap_Km (by omega) K), G0, fun q hq => ar_KXN K (by omega) hq (XN q hq), ar_XLu XL K X w1 (by omega) (fun _ => w2) (fun z => by omega)⟩
    have nx := ih _ _ N PC2 rk' rw' cl' nb' gv wt' X2 (fun r u' yc => hyp r u' ?_) F (by omega)
    · rw [← dd] at nx
      exact nx
    · intro yk yw yd yt ywt yfi YI F2 hF2
      rw [hl] at YI ⊢
      obtain ⟨YB, YN, YL⟩ := YI
      obtain ⟨F2, rfl⟩ : ∃ k, F2 = k + 1 := ⟨F2 - 1, by omega⟩
      rw [nI_pred]
      refine ay_go (by omega) (ay_vM hn ht hk l15 (YL l (Nat.le_refl l)) s1 hi hf (YN (tn i - 10) (by omega)) (fun e3 => by rw [e] at e3; exact absurd e3 (by simp)) (fun B e3 bk bw bd bt K2 Y => ?_))
      have eB : B = A := by rw [e] at e3; exact (Option.some.inj e3).symm
      subst eB
      have ny := yc bk bw bd bt (upd ywt l (-1)) (upd yfi l 1) (by
        rw [← dd]
        exact ⟨ar_KYB K2 (by omega) YB, fun q hq => ar_KYN K2 (by omega) hq (YN q hq), ar_YLu YL K2 (Y e2) (fun j hj => pk_un hj) (fun j hj => pk_un hj) pk_us (by omega) (fun _ => pk_us) (fun z => by omega)⟩) F2 (by omega)
      rw [← dd] at ny
      dsimp only
      rw [e2]
      exact ny
theorem ar_cC {i : Nat} (hn : n ≤ 30) (ht : ∀ j, tx j = nI (tn j)) (hk : ∀ j, ag_tok (tn j)) (OK : ag_ok tn n) (hi : i < n) (PC : ar_PC tn S (i + 1)) (hf : tn i = 51)
    (ih : ∀ L S N, ar_PC tn S i → ar_XC tn n tx rk0 rw0 cl0 nb0 gv0 yk0 yw0 yd0 yt0 PX Q L S N i) : ar_XC tn n tx rk0 rw0 cl0 nb0 gv0 yk0 yw0 yd0 yt0 PX Q L S N (i + 1) := by
  intro rk rw cl nb gv wt XI hyp F hF
  obtain ⟨Hf, s4i, s4, dd⟩ := ag_Rclose hk OK hi hf
  have l15 := ag_d15 OK hn (p := i) (by omega)
  have s1 := PC.2.1 s4
  have pc1 := PC.1
  obtain ⟨K0, G0, XN, XL⟩ := XI
  generalize hl : ag_dp tn (i + 1) = l at *
  rw [nI_pred]
  obtain ⟨F, rfl⟩ : ∃ k, F = k + 1 := ⟨F - 1, by omega⟩
  refine ax_go (by omega) (ax_vC hn ht hk hi (by omega) hf ?_)
  dsimp only
  have PC2 : ar_PC tn (ar_u S (l + 1) 0) i := by
    refine ⟨fun j hj => ?_, fun _ => ?_, fun z => by omega⟩
    · rw [ar_un (by omega)]
      by_cases e : j = l
      · subst e; exact s1
      · exact pc1 j (by omega)
    · rw [dd, ar_us]
      omega
  have X2 : ar_XI tn n L (ar_u S (l + 1) 0) N (ag_dp tn i) rk0 rw0 cl0 nb0 gv0 rk rw cl nb gv (upd wt (l + 1) (-1)) := by
    rw [dd]
    refine ⟨K0, G0, XN, fun j hj => ?_⟩
    unfold ar_XL
    by_cases e : j = l + 1
    · subst e
      rw [ar_us]
      exact ⟨fun _ => pk_us, fun z => by omega, fun z => absurd rfl z⟩
    · rw [ar_un e, pk_un e]
      exact XL j (by omega)
  have nx := ih L _ N PC2 rk rw cl nb gv _ X2 (fun r u' yc => hyp r u' ?_) F (by omega)
  · rw [dd] at nx
    exact nx
  · intro yk yw yd yt ywt yfi YI F2 hF2
    rw [hl] at YI ⊢
    obtain ⟨YB, YN, YL⟩ := YI
    obtain ⟨F2, rfl⟩ : ∃ k, F2 = k + 1 := ⟨F2 - 1, by omega⟩
    rw [nI_pred]
    refine ay_go (by omega) (ay_vC hn ht (by omega) hi hf ?_)
    have ny := yc yk yw yd yt (upd ywt (l + 1) (-1)) (upd yfi (l + 1) 0) (by
      rw [dd]
      refine ⟨YB, YN, fun j hj => ?_⟩
      unfold ar_YL
      by_cases e : j = l + 1
      · subst e
        rw [ar_us]
        exact ⟨fun _ => pk_us, fun z => by omega, fun z => absurd rfl z, fun _ => pk_us⟩
      · rw [ar_un e, pk_un e, pk_un e]
        exact YL j (by omega)) F2 (by omega)
    rw [dd] at ny
    exact ny
end
