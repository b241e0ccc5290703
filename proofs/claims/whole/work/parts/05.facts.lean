/-! facts of the pictures: the shapes stay shapes; places of the rising order; rests -/
def ap_ok (T : ap_T) : Prop := ap_VS T.2.1 T.2.2.1 T.2.2.2.1
theorem ap_erV (e : Int32) : ap_ok (ap_er e) := Or.inl ⟨rfl, rfl, rfl⟩
theorem ap_c36 {x : Int32} {m : Nat} (hm : m < 2 ^ 31) (h : ¬ nI m < x) : x.toNatClampNeg ≤ m := by
  by_cases h0 : x < 0
  · have e : x.toInt < 0 := by
      rw [Int32.lt_iff_toInt_lt] at h0; exact h0
    have : x.toNatClampNeg = x.toInt.toNat := rfl
    omega
  · obtain ⟨j, hj, rfl⟩ := nI_of h0
    rw [nI_ltI hm hj] at h
    rw [nI_clamp hj]; omega
theorem ap_mk {T : ap_T} {R r c : Nat} (h1 : T.2.1 = R) (h2 : T.2.2.1 = r) (h3 : T.2.2.2.1 = c) (V : ap_VS R r c) : ap_ok T := by
  unfold ap_ok
  rw [h1, h2, h3]
  exact V
theorem ap_mk0 : ap_VS 0 1 1 := Or.inl ⟨rfl, rfl, rfl⟩
theorem ap_mk1 {c : Nat} (h : c ≤ 36) : ap_VS 1 1 c := Or.inr (Or.inl ⟨rfl, rfl, h⟩)
theorem ap_mk2 {r c : Nat} (h1 : r ≤ 6) (h2 : c ≤ 6) : ap_VS 2 r c := Or.inr (Or.inr ⟨rfl, h1, h2⟩)
theorem ap_v2 {r c : Nat} (h : ap_VS 2 r c) : r ≤ 6 ∧ c ≤ 6 := by
  unfold ap_VS at h; omega
theorem ap_foldV {f R r c : Nat} {d : Nat → Int32} (V : ap_VS R r c) : ap_ok (ap_fold f R r c d) := by
  have vb := ap_vb V
  by_cases h : R = 2
  · exact ap_mk (R := 1) (r := 1) (c := r) (if_pos h) rfl rfl (ap_mk1 (by omega))
  · have r1 := ap_v1 V h
    subst r1
    exact ap_mk (R := 0) (r := 1) (c := 1) (if_neg h) rfl rfl ap_mk0
theorem ap_shapeV {R r c : Nat} (V : ap_VS R r c) : ap_ok (ap_shape R r c) := by
  unfold ap_ok ap_shape ap_VS at *
  dsimp only; omega
theorem ap_countV {R : Nat} {d : Nat → Int32} : ap_ok (ap_count R d) := by
  unfold ap_count
  split
  · split
    · exact ap_erV _
    · rename_i h
      exact Or.inr (Or.inl ⟨rfl, rfl, ap_c36 (m := 36) (by decide) (fun z => h (Or.inr z))⟩)
  · exact ap_erV _
theorem ap_turnV {R r c : Nat} {d : Nat → Int32} (V : ap_VS R r c) : ap_ok (ap_turn R r c d) := by
  unfold ap_turn
  split
  · rename_i h
    unfold ap_ok ap_VS at *
    dsimp only; omega
  · exact V
theorem ap_firstV {r c : Nat} {d : Nat → Int32} : ap_ok (ap_first r c d) := Or.inl ⟨rfl, rfl, rfl⟩
theorem ap_ravelV {R r c : Nat} {d : Nat → Int32} (V : ap_VS R r c) : ap_ok (ap_ravel r c d) := Or.inr (Or.inl ⟨rfl, rfl, ap_v36 V⟩)
theorem ap_riseV {R r c : Nat} {d : Nat → Int32} (V : ap_VS R r c) : ap_ok (ap_rise R c d) := by
  unfold ap_rise
  split
  · exact Or.inr (Or.inl ⟨rfl, rfl, (ap_vb V).2.2⟩)
  · exact ap_erV _
theorem ap_oneV {k f R r c : Nat} {d : Nat → Int32} (V : ap_VS R r c) : ap_ok (ap_one k f R r c d) := by
  unfold ap_one
  repeat' split
  · exact ap_erV _
  · exact ap_foldV V
  · exact V
  · exact V
  · exact ap_shapeV V
  · exact ap_countV
  · exact ap_turnV V
  · exact V
  · exact ap_firstV
  · exact ap_ravelV V
  · exact ap_riseV V
section
variable {R r c : Nat} {d : Nat → Int32} {S s t : Nat} {e : Nat → Int32}
theorem ap_s2V {f : Nat} (V : ap_VS R r c) (W : ap_VS S s t) : ap_ok (ap_s2 R r c d S s t e f) := by
  unfold ap_s2
  split
  · split
    · exact ap_erV _
    · exact ap_erV _
  · unfold ap_ok
    by_cases h : R = 0
    · simp only [if_pos h]; exact W
    · simp only [if_neg h]; exact V
theorem ap_outerV {f : Nat} (V : ap_VS R r c) (W : ap_VS S s t) : ap_ok (ap_outer R r c d S s t e f) := by
  unfold ap_outer
  split
  · exact ap_erV _
  · split
    · split
      · exact ap_erV _
      · unfold ap_ok ap_VS at *; dsimp only; omega
    · unfold ap_ok
      by_cases h : R = 0
      · simp only [if_pos h]; exact W
      · simp only [if_neg h]; exact V
theorem ap_innerV {f g : Nat} (V : ap_VS R r c) (W : ap_VS S s t) : ap_ok (ap_inner R r c d S s t e f g) := by
  have vb := ap_vb V
  have wb := ap_vb W
  unfold ap_inner
  by_cases h0 : R = 0 ∨ S = 0
  · rw [if_pos h0]; exact ap_erV _
  rw [if_neg h0]
  by_cases h3 : c = ap_fl S s t
  case neg => rw [if_neg h3]; exact ap_erV _
  rw [if_pos h3]
  by_cases h1 : R = 2
  · by_cases h2 : S = 2
    · subst h1 h2
      have w : ap_w 2 t = t := rfl
      exact ap_mk (R := 2) (r := r) (c := t) rfl rfl rfl (ap_mk2 (by omega) (ap_v2 W).2)
    · have e2 : S = 1 := by omega
      subst h1 e2
      exact ap_mk (R := 1) (r := 1) (c := r * 1) rfl rfl rfl (ap_mk1 (by omega))
  · have e1 : R = 1 := by omega
    subst e1
    have r1 := ap_v1 V (by omega)
    subst r1
    by_cases h2 : S = 2
    · subst h2
      exact ap_mk (R := 1) (r := 1) (c := 1 * t) rfl rfl rfl (ap_mk1 (by omega))
    · have e2 : S = 1 := by omega
      subst e2
      exact ap_mk (R := 0) (r := 1) (c := 1) rfl rfl rfl ap_mk0
theorem ap_reshV : ap_ok (ap_resh R r c d s t e) := by
  unfold ap_resh
  by_cases h0 : R = 2
  · rw [if_pos h0]; exact ap_erV _
  rw [if_neg h0]
  by_cases h1 : 2 < r * c
  · rw [if_pos h1]; exact ap_erV _
  rw [if_neg h1]
  by_cases h : ∀ i, i < r * c → ¬ d i < 0 ∧ ¬ (if r * c = 1 then 36 else 6) < d i
  · rw [if_pos h]
    generalize r * c = m at *
    rcases (by omega : m = 0 ∨ m = 1 ∨ m = 2) with rfl | rfl | rfl
    · exact ap_mk (R := 0) (r := 1) (c := 1) rfl rfl rfl ap_mk0
    · exact ap_mk (R := 1) (r := 1) (c := (d 0).toNatClampNeg) rfl rfl rfl (ap_mk1 (ap_c36 (m := 36) (by decide) (h 0 (by omega)).2))
    · exact ap_mk (R := 2) (r := (d 0).toNatClampNeg) (c := (d 1).toNatClampNeg) rfl rfl rfl (ap_mk2 (ap_c36 (m := 6) (by decide) (h 0 (by omega)).2) (ap_c36 (m := 6) (by decide) (h 1 (by omega)).2))
  · rw [if_neg h]; exact ap_erV _
theorem ap_findV (W : ap_VS S s t) : ap_ok (ap_find R c d S s t e) := by
  unfold ap_find
  split
  · exact W
  · exact ap_erV _
theorem ap_rotV (W : ap_VS S s t) : ap_ok (ap_rot R d S s t e) := by
  unfold ap_rot
  split
  · exact W
  · exact ap_erV _
theorem ap_linesV {a : Int} {m : Nat} (W : ap_VS S s t) (h : m ≤ if S = 2 then 6 else 36) : ap_ok (ap_lines a m S s t e) := by
  by_cases h2 : S = 2
  · rw [if_pos h2] at h
    subst h2
    exact ap_mk (R := 2) (r := m) (c := t) rfl rfl rfl (ap_mk2 h (ap_v2 W).2)
  · rw [if_neg h2] at h
    exact ap_mk (R := 1) (r := 1) (c := m) (if_neg h2) (if_neg h2) (if_neg h2) (ap_mk1 h)
theorem ap_takeV (W : ap_VS S s t) : ap_ok (ap_take R d S s t e) := by
  unfold ap_take
  by_cases h0 : R = 0
  case neg => rw [if_neg h0]; exact ap_erV _
  rw [if_pos h0]
  by_cases h : (d 0).toInt < -(if S = 2 then 6 else 36) ∨ (if S = 2 then 6 else 36) < (d 0).toInt
  · rw [if_pos h]; exact ap_erV _
  · rw [if_neg h]
    refine ap_linesV W ?_
    by_cases h2 : S = 2
    · simp only [if_pos h2] at h ⊢; omega
    · simp only [if_neg h2] at h ⊢; omega
theorem ap_dropV (W : ap_VS S s t) : ap_ok (ap_drop R d S s t e) := by
  unfold ap_drop
  by_cases h0 : R = 0
  case neg => rw [if_neg h0]; exact ap_erV _
  rw [if_pos h0]
  refine ap_linesV W ?_
  unfold ap_fl ap_VS at *
  by_cases h2 : S = 2
  · simp only [if_pos h2]; omega
  · simp only [if_neg h2]; omega
theorem ap_joinV (V : ap_VS R r c) : ap_ok (ap_join R r c d S s t e) := by
  unfold ap_join
  by_cases h0 : (R = 2 ∧ S ≠ 2) ∨ (R ≠ 2 ∧ S = 2)
  · rw [if_pos h0]; exact ap_erV _
  rw [if_neg h0]
  by_cases h1 : r ≠ s
  · rw [if_pos h1]; exact ap_erV _
  rw [if_neg h1]
  by_cases h : (if R = 2 then 6 else 36) < c + t
  · rw [if_pos h]; exact ap_erV _
  · rw [if_neg h]
    by_cases h2 : R = 2
    · rw [if_pos h2] at h
      subst h2
      exact ap_mk (R := 2) (r := r) (c := c + t) rfl rfl rfl (ap_mk2 (ap_v2 V).1 (by omega))
    · rw [if_neg h2] at h
      have r1 := ap_v1 V h2
      subst r1
      exact ap_mk (R := 1) (r := 1) (c := c + t) (if_neg h2) rfl rfl (ap_mk1 (by omega))
theorem ap_pickV (V : ap_VS R r c) (W : ap_VS S s t) : ap_ok (ap_pick R c d S s t e) := by
  have vb := ap_vb V
  have wb := ap_vb W
  unfold ap_pick
  by_cases h0 : R = 2 ∨ S = 0
  · rw [if_pos h0]; exact ap_erV _
  rw [if_neg h0]
  by_cases h : ∀ i, i < c → ¬ d i < 0 ∧ d i < nI (ap_fl S s t)
  case neg => rw [if_neg h]; exact ap_erV _
  rw [if_pos h]
  by_cases h6 : S = 2 ∧ 6 < c
  · rw [if_pos h6]; exact ap_erV _
  rw [if_neg h6]
  by_cases h1 : R = 1
  · by_cases h2 : S = 2
    · subst h1 h2
      exact ap_mk (R := 2) (r := c) (c := t) rfl rfl rfl (ap_mk2 (by omega) (ap_v2 W).2)
    · have e2 : S = 1 := by omega
      subst h1 e2
      exact ap_mk (R := 1) (r := 1) (c := c * 1) rfl rfl rfl (ap_mk1 (by omega))
  · have e1 : R = 0 := by omega
    subst e1
    obtain ⟨rfl, rfl⟩ := ap_v0 V
    by_cases h2 : S = 2
    · subst h2
      exact ap_mk (R := 1) (r := 1) (c := 1 * t) rfl rfl rfl (ap_mk1 (by omega))
    · have e2 : S = 1 := by omega
      subst e2
      exact ap_mk (R := 0) (r := 1) (c := 1) rfl rfl rfl ap_mk0
theorem ap_twoV {k f g : Nat} (V : ap_VS R r c) (W : ap_VS S s t) : ap_ok (ap_two R r c d S s t e k f g) := by
  unfold ap_two
  repeat' split
  · exact ap_erV _
  · exact ap_outerV V W
  · exact ap_innerV V W
  · exact ap_s2V V W
  · exact ap_reshV
  · exact ap_findV W
  · exact ap_rotV W
  · exact ap_takeV W
  · exact ap_dropV W
  · exact ap_joinV V
  · exact ap_pickV V W
end
/-! the rising order -/
theorem ap_bt {x y z : Int32} {i j k : Nat} (h1 : x < y ∨ (x = y ∧ i < j)) (h2 : y < z ∨ (y = z ∧ j < k)) : x < z ∨ (x = z ∧ i < k) := by
  simp only [Int32.lt_iff_toInt_lt, ← Int32.toInt_inj] at *
  omega
theorem ap_plT {d : Nat → Int32} {i j : Nat} (h : d i < d j ∨ (d i = d j ∧ i < j)) : ∀ n, ap_pl d i n ≤ ap_pl d j n ∧ (i < n → ap_pl d i n < ap_pl d j n) := by
  intro n
  induction n with
  | zero => exact ⟨Nat.le_refl _, fun z => by omega⟩
  | succ n ih =>
    unfold ap_pl
    by_cases a : d n < d i ∨ (d n = d i ∧ n < i)
    · rw [if_pos a, if_pos (ap_bt a h)]
      refine ⟨by omega, fun z => ?_⟩
      by_cases e : i = n
      · subst e
        simp only [Int32.lt_iff_toInt_lt] at a
        omega
      · have := ih.2 (by omega); omega
    · rw [if_neg a]
      by_cases b : d n < d j ∨ (d n = d j ∧ n < j)
      · rw [if_pos b]; exact ⟨by omega, fun _ => by omega⟩
      · rw [if_neg b]
        refine ⟨ih.1, fun z => ?_⟩
        by_cases e : i = n
        · subst e; exact absurd h b
        · exact ih.2 (by omega)
theorem ap_plI {d : Nat → Int32} {i j n : Nat} (hi : i < n) (hj : j < n) (h : ap_pl d i n = ap_pl d j n) : i = j := by
  by_cases e : i = j
  · exact e
  · have t : (d i < d j ∨ (d i = d j ∧ i < j)) ∨ (d j < d i ∨ (d j = d i ∧ j < i)) := by
      simp only [Int32.lt_iff_toInt_lt, ← Int32.toInt_inj]
      omega
    rcases t with t | t
    · have := (ap_plT t n).2 hi; omega
    · have := (ap_plT t n).2 hj; omega
theorem ap_plL {d : Nat → Int32} {i : Nat} : ∀ n, ap_pl d i n ≤ n ∧ (i < n → ap_pl d i n < n) := by
  intro n
  induction n with
  | zero => exact ⟨Nat.le_refl _, fun z => by omega⟩
  | succ n ih =>
    unfold ap_pl
    by_cases a : d n < d i ∨ (d n = d i ∧ n < i)
    · rw [if_pos a]
      refine ⟨by omega, fun z => ?_⟩
      by_cases e : i = n
      · subst e
        simp only [Int32.lt_iff_toInt_lt] at a
        omega
      · have := ih.2 (by omega); omega
    · rw [if_neg a]; omega
theorem ap_php : ∀ (n : Nat) (f : Nat → Nat), (∀ i, i < n → f i < n) → (∀ i j, i < n → j < n → f i = f j → i = j) → ∀ j, j < n → ∃ i, i < n ∧ f i = j := by
  intro n
  induction n with
  | zero => intro f _ _ j hj; omega
  | succ n ih =>
    intro f hf hi j hj
    have hn := hf n (by omega)
    have G := ih (fun i => if f i = n then f n else f i)
      (fun i h => by
        have a := hf i (by omega)
        have b := hi i n (by omega) (by omega)
        split
        · omega
        · omega)
      (fun i k h1 h2 h => by
        have a := hi i k (by omega) (by omega)
        have b := hi i n (by omega) (by omega)
        have c := hi k n (by omega) (by omega)
        split at h <;> split at h <;> omega)
    by_cases e : j = f n
    · exact ⟨n, by omega, e.symm⟩
    · by_cases e2 : j = n
      · obtain ⟨i, h1, h2⟩ := G (f n) (by omega)
        have b := hi i n (by omega) (by omega)
        split at h2
        · exact ⟨i, by omega, by omega⟩
        · omega
      · obtain ⟨i, h1, h2⟩ := G j (by omega)
        split at h2
        · omega
        · exact ⟨i, by omega, h2⟩
theorem ap_fpu {p : Nat → Bool} {a : Nat} (ha : p a = true) : ∀ m s, s ≤ a → a < s + m → (∀ k, s ≤ k → k < a → p k = false) → ap_fp p m s = a := by
  intro m
  induction m with
  | zero => intro s h1 h2 _; omega
  | succ m ih =>
    intro s h1 h2 h3
    unfold ap_fp
    by_cases e : s = a
    · subst e; rw [if_pos ha]
    · rw [if_neg (by rw [h3 s (by omega) (by omega)]; decide)]
      exact ih (s + 1) (by omega) (by omega) (fun k h4 h5 => h3 k (by omega) h5)
theorem ap_riseE {d : Nat → Int32} {c i : Nat} (hi : i < c) : ap_fp (fun k => decide (ap_pl d k c = ap_pl d i c)) c 0 = i :=
  ap_fpu (by simp) c 0 (by omega) (by omega) (fun k _ h => by
    rw [decide_eq_false_iff_not]
    intro z
    have := ap_plI (by omega) hi z
    omega)
theorem ap_riseS {d : Nat → Int32} {c j : Nat} (hj : j < c) : ∃ i, i < c ∧ ap_pl d i c = j :=
  ap_php c (fun i => ap_pl d i c) (fun i h => (ap_plL c).2 h) (fun i k h1 h2 h => ap_plI h1 h2 h) j hj
/-! rests -/
theorem ap_tm {a w : Int} (hw : 0 < w) : (if a.tmod w < 0 then a.tmod w + w else a.tmod w) = a % w := by
  have h := tmod_bounds (a := a) hw
  have e : a % w = a.tmod w % w := by
    have q := Int.tmod_add_mul_tdiv a w
    have z := Int.add_mul_emod_self_left (a.tmod w) w (a.tdiv w)
    rw [q] at z
    exact z
  split
  · rw [e, ← Int.add_emod_right (a.tmod w) w]
    exact (Int.emod_eq_of_lt (by omega) (by omega)).symm
  · rw [e]
    exact (Int.emod_eq_of_lt (by omega) (by omega)).symm
theorem ap_rsN {w : Nat} (h0 : 0 < w) (hw : w < 2 ^ 30) (x : Int32) : ap_rs (nI w) x = nI (x.toInt % w).toNat := by
  have w31 : w < 2 ^ 31 := by omega
  have e1 : ap_dv (nI w) = lN w := by
    unfold ap_dv
    rw [if_neg (nI_pos w31), nI_l w31]
  have e2 : (ap_rm (nI w) x).toInt = x.toInt.tmod w := by
    unfold ap_rm
    rw [e1, Jvm.Kit.i64_rem, Jvm.Kit.i64_of_i32, lN_toInt w31]
  have b := tmod_bounds (a := x.toInt) (M := w) (by omega)
  have t := ap_tm (a := x.toInt) (w := w) (by omega)
  have m0 := Int.emod_nonneg x.toInt (b := w) (by omega)
  have m1 := Int.emod_lt_of_pos x.toInt (b := w) (by omega)
  have lt : (ap_rm (nI w) x < 0) = (x.toInt.tmod w < 0) := by
    rw [Int64.lt_iff_toInt_lt, e2]; rfl
  unfold ap_rs
  rw [if_neg (nI_ne0 h0 w31)]
  apply Int32.toInt_inj.mp
  rw [nI_toInt (n := (x.toInt % w).toNat) (by omega)]
  by_cases c : x.toInt.tmod w < 0
  · rw [if_pos (by rw [lt]; exact c), e1]
    rw [if_pos c] at t
    have e3 : (ap_rm (nI w) x + lN w).toInt = x.toInt.tmod w + w := by
      rw [Jvm.Kit.i64_add (by rw [e2, lN_toInt w31]; omega) (by rw [e2, lN_toInt w31]; omega), e2, lN_toInt w31]
    rw [Jvm.Kit.i32_of_i64 (by rw [e3]; omega) (by rw [e3]; omega), e3]
    omega
  · rw [if_neg (by rw [lt]; exact c)]
    rw [if_neg c] at t
    rw [Jvm.Kit.i32_of_i64 (by rw [e2]; omega) (by rw [e2]; omega), e2]
    omega
