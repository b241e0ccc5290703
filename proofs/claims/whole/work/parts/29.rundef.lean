/-! run: what stands at a place of the reading from right to left -/
abbrev ar_A : Type := Nat × Nat × Nat × (Nat → Int32)
def ar_XA (rk rw cl nb : Nat → Int32) (h : Nat) (A : ar_A) : Prop := ap_VS A.1 A.2.1 A.2.2.1 ∧ ap_X rk rw cl nb h A.1 A.2.1 A.2.2.1 A.2.2.2
def ar_YA (rk rw wd dt : Nat → Int32) (h : Nat) (A : ar_A) : Prop := ap_VS A.1 A.2.1 A.2.2.1 ∧ ap_Y rk rw wd dt h A.1 A.2.1 A.2.2.1 A.2.2.2
def ar_u {α : Type} (f : Nat → α) (k : Nat) (x : α) : Nat → α := fun j => if j = k then x else f j
theorem ar_us {α : Type} {f : Nat → α} {k : Nat} {x : α} : ar_u f k x k = x := if_pos rfl
theorem ar_un {α : Type} {f : Nat → α} {k j : Nat} {x : α} (h : j ≠ k) : ar_u f k x j = f j := if_neg h
/-- level j on X's side: 0 nothing yet, 1 an array, q + 2 an array for which the function at q waits -/
def ar_XL (tn : Nat → Nat) (n : Nat) (L : Nat → ar_A) (S : Nat → Nat) (rk rw cl nb wt : Nat → Int32) (j : Nat) : Prop :=
  (S j ≤ 1 → wt j = -1) ∧ (2 ≤ S j → wt j = nI (S j - 2) ∧ ag_wf tn n (S j - 2)) ∧ (S j ≠ 0 → ar_XA rk rw cl nb (14 + j) (L j))
def ag_wd (tn : Nat → Nat) (n q : Nat) : Nat := ag_w (ag_k tn n q) (ag_f tn q) (ag_g tn q)
def ar_YL (tn : Nat → Nat) (n : Nat) (L : Nat → ar_A) (S : Nat → Nat) (rk rw wd dt wt fi : Nat → Int32) (j : Nat) : Prop :=
  (S j ≤ 1 → wt j = -1) ∧ (2 ≤ S j → wt j = nI (ag_wd tn n (S j - 2)) ∧ ag_wf tn n (S j - 2)) ∧ (S j ≠ 0 → fi j = 1 ∧ ar_YA rk rw wd dt (14 + j * 2) (L j)) ∧ (S j = 0 → fi j = 0)
def ar_XN (N : Nat → Option ar_A) (rk rw cl nb gv : Nat → Int32) (q : Nat) : Prop := (N q = none ∧ gv (7 + q) = 0) ∨ ∃ A, N q = some A ∧ gv (7 + q) = 1 ∧ ar_XA rk rw cl nb (7 + q) A
def ar_YN (N : Nat → Option ar_A) (rk rw wd dt : Nat → Int32) (q : Nat) : Prop := (N q = none ∧ rk q = -1) ∨ ∃ A, N q = some A ∧ ar_YA rk rw wd dt q A
/-- place b now holds what place a held -/
def ap_C (a b : Nat) (rk rw cl nb rk' rw' cl' nb' : Nat → Int32) : Prop := rk' b = rk a ∧ rw' b = rw a ∧ cl' b = cl a ∧ ∀ i, i < 36 → nb' (b * 36 + i) = nb (a * 36 + i)
theorem ap_CK {a b m : Nat} {rk rw cl nb rk' rw' cl' nb' rk2 rw2 cl2 nb2 : Nat → Int32} (K : ap_K m rk' rw' cl' nb' rk2 rw2 cl2 nb2) (hb : b < m) (h13 : b ≠ 13) (C : ap_C a b rk rw cl nb rk' rw' cl' nb') : ap_C a b rk rw cl nb rk2 rw2 cl2 nb2 := by
  obtain ⟨x, y, z, w⟩ := K b hb h13
  exact ⟨x.trans C.1, y.trans C.2.1, z.trans C.2.2.1, fun i hi => (w i hi).trans (C.2.2.2 i hi)⟩
theorem ap_CF {a b q : Nat} {rk rw cl nb rk' rw' cl' nb' rk2 rw2 cl2 nb2 : Nat → Int32} (F : ap_F q rk' rw' cl' nb' rk2 rw2 cl2 nb2) (hb : b ≠ q) (C : ap_C a b rk rw cl nb rk' rw' cl' nb') : ap_C a b rk rw cl nb rk2 rw2 cl2 nb2 := by
  obtain ⟨x, y, z⟩ := F.1 b hb
  exact ⟨x.trans C.1, y.trans C.2.1, z.trans C.2.2.1, fun i hi => (F.2 _ (by omega)).trans (C.2.2.2 i hi)⟩
theorem ap_Cr (a : Nat) (rk rw cl nb : Nat → Int32) : ap_C a a rk rw cl nb rk rw cl nb := ⟨rfl, rfl, rfl, fun _ _ => rfl⟩
theorem ap_Cc {a b : Nat} {rk rw cl nb : Nat → Int32} : ap_C a b rk rw cl nb (upd rk b (rk a)) (upd rw b (rw a)) (upd cl b (cl a)) (ap_cp nb a b 36) := ⟨pk_us, pk_us, pk_us, fun _ hi => ap_cpI hi⟩
theorem ap_CX {a b R r c : Nat} {d rk rw cl nb rk' rw' cl' nb' : Nat → Int32} (C : ap_C a b rk rw cl nb rk' rw' cl' nb') (V : r * c ≤ 36) (H : ap_X rk rw cl nb a R r c d) : ap_X rk' rw' cl' nb' b R r c d :=
  ⟨C.1.trans H.1, C.2.1.trans H.2.1, C.2.2.1.trans H.2.2.1, fun i hi => (C.2.2.2 i (by omega)).trans (H.2.2.2 i hi)⟩
theorem ap_CY {a b R r c : Nat} {d rk rw cl nb rk' rw' cl' nb' : Nat → Int32} (C : ap_C a b rk rw cl nb rk' rw' cl' nb') (V : r * c ≤ 36) (H : ap_Y rk rw cl nb a R r c d) : ap_Y rk' rw' cl' nb' b R r c d :=
  ⟨C.1.trans H.1, C.2.1.trans H.2.1, C.2.2.1.trans H.2.2.1, fun i hi => (C.2.2.2 i (by omega)).trans (H.2.2.2 i hi)⟩
/-- all that X holds, at level l -/
def ar_XI (tn : Nat → Nat) (n : Nat) (L : Nat → ar_A) (S : Nat → Nat) (N : Nat → Option ar_A) (l : Nat) (rk0 rw0 cl0 nb0 gv0 rk rw cl nb gv wt : Nat → Int32) : Prop :=
  ap_K 7 rk0 rw0 cl0 nb0 rk rw cl nb ∧ (∀ j, j < 7 → gv j = gv0 j) ∧ (∀ q, q < 6 → ar_XN N rk rw cl nb gv q) ∧ ∀ j, j ≤ l → ar_XL tn n L S rk rw cl nb wt j
/-- what Y keeps of the names and of the result as they were -/
def ar_YB (rk0 rw0 wd0 dt0 rk rw wd dt : Nat → Int32) : Prop := (∀ q, q < 6 → ap_C q (6 + q) rk0 rw0 wd0 dt0 rk rw wd dt) ∧ ap_C 12 12 rk0 rw0 wd0 dt0 rk rw wd dt
def ar_YI (tn : Nat → Nat) (n : Nat) (L : Nat → ar_A) (S : Nat → Nat) (N : Nat → Option ar_A) (l : Nat) (rk0 rw0 wd0 dt0 rk rw wd dt wt fi : Nat → Int32) : Prop :=
  ar_YB rk0 rw0 wd0 dt0 rk rw wd dt ∧ (∀ q, q < 6 → ar_YN N rk rw wd dt q) ∧ ∀ j, j ≤ l → ar_YL tn n L S rk rw wd dt wt fi j
/-- what the kind of place p asks of the levels -/
def ar_PC (tn : Nat → Nat) (S : Nat → Nat) (p : Nat) : Prop := (∀ j, j < ag_dp tn p → S j ≠ 1) ∧ (4 ≤ ag_st tn p → S (ag_dp tn p) ≠ 1) ∧ (ag_st tn p < 4 → S (ag_dp tn p) ≠ 0)
/-- the level's array once the waiting function has had it, and an operand put to it -/
def ar_se (tn : Nat → Nat) (n : Nat) (L : Nat → ar_A) (S : Nat → Nat) (l : Nat) : ap_T :=
  if 2 ≤ S l then ap_one (ag_k tn n (S l - 2)) (ag_f tn (S l - 2)) (L l).1 (L l).2.1 (L l).2.2.1 (L l).2.2.2 else (0, L l)
def ar_op (tn : Nat → Nat) (n : Nat) (L : Nat → ar_A) (S : Nat → Nat) (l : Nat) (A : ar_A) : ap_T :=
  if 2 ≤ S l then ap_two A.1 A.2.1 A.2.2.1 A.2.2.2 (L l).1 (L l).2.1 (L l).2.2.1 (L l).2.2.2 (ag_k tn n (S l - 2)) (ag_f tn (S l - 2)) (ag_g tn (S l - 2)) else (0, A)
theorem ar_KXA {m j : Nat} {A : ar_A} {a1 a2 a3 a4 b1 b2 b3 b4 : Nat → Int32} (h : ap_K m a1 a2 a3 a4 b1 b2 b3 b4) (hj : j < m) (h13 : j ≠ 13) (H : ar_XA a1 a2 a3 a4 j A) : ar_XA b1 b2 b3 b4 j A := ⟨H.1, ap_KX h hj h13 (ap_v36 H.1) H.2⟩
theorem ar_KYA {m j : Nat} {A : ar_A} {a1 a2 a3 a4 b1 b2 b3 b4 : Nat → Int32} (h : ap_K m a1 a2 a3 a4 b1 b2 b3 b4) (hj : j < m) (h13 : j ≠ 13) (H : ar_YA a1 a2 a3 a4 j A) : ar_YA b1 b2 b3 b4 j A := ⟨H.1, ap_KY h hj h13 (ap_v36 H.1) H.2⟩
theorem ar_KXN {m q : Nat} {N : Nat → Option ar_A} {a1 a2 a3 a4 b1 b2 b3 b4 gv : Nat → Int32} (h : ap_K m a1 a2 a3 a4 b1 b2 b3 b4) (hm : 13 ≤ m) (hq : q < 6) (H : ar_XN N a1 a2 a3 a4 gv q) : ar_XN N b1 b2 b3 b4 gv q := by
  rcases H with H | ⟨A, e, g, X⟩
  · exact Or.inl H
  · exact Or.inr ⟨A, e, g, ar_KXA h (by omega) (by omega) X⟩
theorem ar_KYN {m q : Nat} {N : Nat → Option ar_A} {a1 a2 a3 a4 b1 b2 b3 b4 : Nat → Int32} (h : ap_K m a1 a2 a3 a4 b1 b2 b3 b4) (hm : 13 ≤ m) (hq : q < 6) (H : ar_YN N a1 a2 a3 a4 q) : ar_YN N b1 b2 b3 b4 q := by
  rcases H with ⟨e, g⟩ | ⟨A, e, Y⟩
  · exact Or.inl ⟨e, (h q (by omega) (by omega)).1.trans g⟩
  · exact Or.inr ⟨A, e, ar_KYA h (by omega) (by omega) Y⟩
theorem ar_KYB {m : Nat} {r0 w0 d0 t0 a1 a2 a3 a4 b1 b2 b3 b4 : Nat → Int32} (h : ap_K m a1 a2 a3 a4 b1 b2 b3 b4) (hm : 13 ≤ m) (H : ar_YB r0 w0 d0 t0 a1 a2 a3 a4) : ar_YB r0 w0 d0 t0 b1 b2 b3 b4 :=
  ⟨fun q hq => ap_CK h (by omega) (by omega) (H.1 q hq), ap_CK h (by omega) (by omega) H.2⟩
/-- X's levels below l stay, level l becomes the array T with status s -/
theorem ar_XLu {tn : Nat → Nat} {n l s : Nat} {L : Nat → ar_A} {S : Nat → Nat} {T : ar_A} {rk rw cl nb wt rk' rw' cl' nb' wt' : Nat → Int32} (H : ∀ j, j ≤ l → ar_XL tn n L S rk rw cl nb wt j) (K : ap_K (14 + l) rk rw cl nb rk' rw' cl' nb') (hX : ar_XA rk' rw' cl' nb' (14 + l) T) (hw : ∀ j, j ≠ l → wt' j = wt j)
    (h1 : s ≠ 0) (h2 : s ≤ 1 → wt' l = -1) (h3 : 2 ≤ s → wt' l = nI (s - 2) ∧ ag_wf tn n (s - 2)) : ∀ j, j ≤ l → ar_XL tn n (ar_u L l T) (ar_u S l s) rk' rw' cl' nb' wt' j := by
  intro j hj
  unfold ar_XL
  by_cases e : j = l
  · subst e
    rw [ar_us, ar_us]
    exact ⟨h2, h3, fun _ => hX⟩
  · rw [ar_un e, ar_un e, hw j e]
    obtain ⟨a, b, c⟩ := H j hj
    exact ⟨a, b, fun z => ar_KXA K (by omega) (by omega) (c z)⟩
theorem ar_YLu {tn : Nat → Nat} {n l s : Nat} {L : Nat → ar_A} {S : Nat → Nat} {T : ar_A} {rk rw cl nb wt fi rk' rw' cl' nb' wt' fi' : Nat → Int32} (H : ∀ j, j ≤ l → ar_YL tn n L S rk rw cl nb wt fi j) (K : ap_K (14 + l * 2) rk rw cl nb rk' rw' cl' nb') (hX : ar_YA rk' rw' cl' nb' (14 + l * 2) T) (hw : ∀ j, j ≠ l → wt' j = wt j) (hf : ∀ j, j ≠ l → fi' j = fi j) (hf1 : fi' l = 1)
    (h1 : s ≠ 0) (h2 : s ≤ 1 → wt' l = -1) (h3 : 2 ≤ s → wt' l = nI (ag_wd tn n (s - 2)) ∧ ag_wf tn n (s - 2)) : ∀ j, j ≤ l → ar_YL tn n (ar_u L l T) (ar_u S l s) rk' rw' cl' nb' wt' fi' j := by
  intro j hj
  unfold ar_YL
  by_cases e : j = l
  · subst e
    rw [ar_us, ar_us]
    exact ⟨h2, h3, fun _ => ⟨hf1, hX⟩, fun z => absurd z h1⟩
  · rw [ar_un e, ar_un e, hw j e, hf j e]
    obtain ⟨a, b, c, d⟩ := H j hj
    exact ⟨a, b, fun z => ⟨(c z).1, ar_KYA K (by omega) (by omega) (c z).2⟩, d⟩
section
variable {tc lv : Int32} {tx rk rw cl nb gv wt : Nat → Int32} {tn : Nat → Nat} {n : Nat} {L : Nat → ar_A} {S : Nat → Nat}
theorem ar_seV {l : Nat} (V : ap_VS (L l).1 (L l).2.1 (L l).2.2.1) : ap_ok (ar_se tn n L S l) := by
  unfold ar_se
  split
  · exact ap_oneV V
  · exact V
theorem ar_opV {l : Nat} {A : ar_A} (V : 2 ≤ S l → ap_VS (L l).1 (L l).2.1 (L l).2.2.1) (W : ap_VS A.1 A.2.1 A.2.2.1) : ap_ok (ar_op tn n L S l A) := by
  unfold ar_op
  split
  · rename_i h
    exact ap_twoV W (V h)
  · exact W
theorem ax_se {post : Int32 → SX → Prop} {l : Nat} (hn : n ≤ 30) (ht : ∀ j, tx j = nI (tn j)) (hk : ∀ j, ag_tok (tn j)) (l15 : l ≤ 15) (H : ar_XL tn n L S rk rw cl nb wt l) (s0 : S l ≠ 0)
    (hE : (ar_se tn n L S l).1 ≠ 0 → post (ar_se tn n L S l).1 (nI n, nI l, tx, rk, rw, cl, nb, gv, upd wt l (-1)))
    (hO : (ar_se tn n L S l).1 = 0 → ∀ rk' rw' cl' nb' wt', ap_K (14 + l) rk rw cl nb rk' rw' cl' nb' → ar_XA rk' rw' cl' nb' (14 + l) (ar_se tn n L S l).2 → (∀ j, j ≠ l → wt' j = wt j) → wt' l = -1 → post 0 (nI n, nI l, tx, rk', rw', cl', nb', gv, wt')) :
    wpX_workAlone post (nI n, nI l, tx, rk, rw, cl, nb, gv, wt) := by
  obtain ⟨a, b, c⟩ := H
  have X := c s0
  have ok := ar_seV (tn := tn) (n := n) (S := S) X.1
  by_cases g : 2 ≤ S l
  · obtain ⟨b1, b2⟩ := b g
    have e : ar_se tn n L S l = ap_one (ag_k tn n (S l - 2)) (ag_f tn (S l - 2)) (L l).1 (L l).2.1 (L l).2.2.1 (L l).2.2.2 := if_pos g
    rw [e] at hE hO ok
    exact ax_wa hn ht hk l15 b2 b1 X.1 X.2 ⟨hE, fun z rk' rw' cl' nb' K Y => hO z rk' rw' cl' nb' _ K ⟨ok, Y⟩ (fun j hj => pk_un hj) pk_us⟩
  · have e : ar_se tn n L S l = (0, L l) := if_neg g
    rw [e] at hO
    exact ax_wa0 l15 (a (by omega)) (hO rfl _ _ _ _ _ (ap_Kr _ _ _ _ _) X (fun _ _ => rfl) (a (by omega)))
theorem ax_op {post : Int32 → SX → Prop} {l : Nat} {A : ar_A} (hn : n ≤ 30) (ht : ∀ j, tx j = nI (tn j)) (hk : ∀ j, ag_tok (tn j)) (l15 : l ≤ 15) (H : ar_XL tn n L S rk rw cl nb wt l) (s1 : S l ≠ 1) (hA : ar_XA rk rw cl nb (14 + l + 1) A)
    (hE : (ar_op tn n L S l A).1 ≠ 0 → post (ar_op tn n L S l A).1 (nI n, nI l, tx, rk, rw, cl, nb, gv, upd wt l (-1)))
    (hO : (ar_op tn n L S l A).1 = 0 → ∀ rk' rw' cl' nb' wt', ap_K (14 + l) rk rw cl nb rk' rw' cl' nb' → ar_XA rk' rw' cl' nb' (14 + l) (ar_op tn n L S l A).2 → (∀ j, j ≠ l → wt' j = wt j) → wt' l = -1 → post 0 (nI n, nI l, tx, rk', rw', cl', nb', gv, wt')) :
    wpX_workWithLeft post (nI n, nI l, tx, rk, rw, cl, nb, gv, wt) := by
  obtain ⟨a, b, c⟩ := H
  by_cases g : 2 ≤ S l
  · obtain ⟨b1, b2⟩ := b g
    have X := c (by omega)
    have ok := ar_opV (tn := tn) (n := n) (S := S) (fun _ => X.1) hA.1
    have e : ar_op tn n L S l A = ap_two A.1 A.2.1 A.2.2.1 A.2.2.2 (L l).1 (L l).2.1 (L l).2.2.1 (L l).2.2.2 (ag_k tn n (S l - 2)) (ag_f tn (S l - 2)) (ag_g tn (S l - 2)) := if_pos g
    rw [e] at hE hO ok
    exact ax_wl hn ht hk l15 b2 b1 hA.1 hA.2 X.1 X.2 ⟨hE, fun z rk' rw' cl' nb' K Y => hO z rk' rw' cl' nb' _ K ⟨ok, Y⟩ (fun j hj => pk_un hj) pk_us⟩
  · have e : ar_op tn n L S l A = (0, A) := if_neg g
    rw [e] at hO
    exact ax_wl0 l15 (a (by omega)) hA.1 hA.2 (fun rk' rw' cl' nb' K Y => hO rfl rk' rw' cl' nb' _ K ⟨hA.1, Y⟩ (fun _ _ => rfl) (a (by omega)))
end
section
variable {ct lv er : Int32} {tx rk rw wd dt wt fi : Nat → Int32} {tn : Nat → Nat} {n : Nat} {L : Nat → ar_A} {S : Nat → Nat}
theorem ay_se {post : SY → Prop} {l : Nat} (l15 : l ≤ 15) (H : ar_YL tn n L S rk rw wd dt wt fi l) (s0 : S l ≠ 0)
    (hO : ∀ rk' rw' wd' dt', ap_K (14 + l * 2) rk rw wd dt rk' rw' wd' dt' → ((ar_se tn n L S l).1 = 0 → ar_YA rk' rw' wd' dt' (14 + l * 2) (ar_se tn n L S l).2) → post (ct, nI l, (ar_se tn n L S l).1, tx, rk', rw', wd', dt', upd wt l (-1), fi)) :
    wpY_settle post (ct, nI l, 0, tx, rk, rw, wd, dt, wt, fi) := by
  obtain ⟨a, b, c, d⟩ := H
  have X := (c s0).2
  have ok := ar_seV (tn := tn) (n := n) (S := S) X.1
  by_cases g : 2 ≤ S l
  · obtain ⟨b1, b2⟩ := b g
    have e : ar_se tn n L S l = ap_one (ag_k tn n (S l - 2)) (ag_f tn (S l - 2)) (L l).1 (L l).2.1 (L l).2.2.1 (L l).2.2.2 := if_pos g
    rw [e] at hO ok
    exact ay_st1 l15 (ag_wk b2) b1 X.1 X.2 (fun rk' rw' wd' dt' K Y => hO rk' rw' wd' dt' K (fun z => ⟨ok, Y z⟩))
  · have e : ar_se tn n L S l = (0, L l) := if_neg g
    rw [e] at hO
    exact ay_st0 l15 (a (by omega)) (hO _ _ _ _ (ap_Kr _ _ _ _ _) (fun _ => X))
theorem ay_op {post : SY → Prop} {l : Nat} {A : ar_A} (l15 : l ≤ 15) (H : ar_YL tn n L S rk rw wd dt wt fi l) (s1 : S l ≠ 1) (hA : ar_YA rk rw wd dt (14 + l * 2 + 1) A)
    (hO : ∀ rk' rw' wd' dt', ap_K (14 + l * 2) rk rw wd dt rk' rw' wd' dt' → ((ar_op tn n L S l A).1 = 0 → ar_YA rk' rw' wd' dt' (14 + l * 2) (ar_op tn n L S l A).2) → post (ct, nI l, (ar_op tn n L S l A).1, tx, rk', rw', wd', dt', upd wt l (-1), upd fi l 1)) :
    wpY_operand post (ct, nI l, 0, tx, rk, rw, wd, dt, wt, fi) := by
  obtain ⟨a, b, c, d⟩ := H
  by_cases g : 2 ≤ S l
  · obtain ⟨b1, b2⟩ := b g
    have X := (c (by omega))
    have ok := ar_opV (tn := tn) (n := n) (S := S) (fun _ => X.2.1) hA.1
    have e : ar_op tn n L S l A = ap_two A.1 A.2.1 A.2.2.1 A.2.2.2 (L l).1 (L l).2.1 (L l).2.2.1 (L l).2.2.2 (ag_k tn n (S l - 2)) (ag_f tn (S l - 2)) (ag_g tn (S l - 2)) := if_pos g
    rw [e] at hO ok
    exact ay_op1 l15 X.1 (ag_wk b2) b1 hA.1 hA.2 X.2.1 X.2.2 (fun rk' rw' wd' dt' K Y => hO rk' rw' wd' dt' K (fun z => ⟨ok, Y z⟩))
  · have e : ar_op tn n L S l A = (0, A) := if_neg g
    rw [e] at hO
    exact ay_op0 l15 (d (by omega)) hA.1 hA.2 (fun rk' rw' wd' dt' K Y => hO rk' rw' wd' dt' K (fun _ => ⟨hA.1, Y⟩))
end
