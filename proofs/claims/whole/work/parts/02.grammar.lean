/-! the grammar, over naturals: X's states from left to right, the depth of brackets -/
abbrev ag_sc (t : Nat) : Prop := 20 ≤ t ∧ t ≤ 27
abbrev ag_mx (t : Nat) : Prop := 30 ≤ t ∧ t ≤ 38
abbrev ag_nm (t : Nat) : Prop := 10 ≤ t ∧ t ≤ 15
abbrev ag_tok (t : Nat) : Prop := t ≤ 15 ∨ (20 ≤ t ∧ t ≤ 27) ∨ (30 ≤ t ∧ t ≤ 38) ∨ (40 ≤ t ∧ t ≤ 43) ∨ (50 ≤ t ∧ t ≤ 52)
def ag_step (s t : Nat) : Nat :=
  if s = 3 then (if ag_sc t then 1 else 0)
  else if s = 2 ∧ (t = 40 ∨ t = 41) then 1
  else if s = 2 ∧ t = 43 then 3
  else if ag_sc t then 2
  else if ag_mx t then 1
  else if t = 42 then 3
  else if s = 4 ∨ s = 5 ∨ s = 6 then
    (if s = 4 ∧ t ≤ 9 then 4 else if s = 5 ∧ t = 52 then 1 else if t = 51 then 6 else 0)
  else (if t ≤ 9 then 4 else if ag_nm t then 5 else if t = 50 then 1 else 0)
theorem ag_lt (s t : Nat) : ag_step s t < 7 := by
  unfold ag_step
  repeat' split
  all_goals omega
def ag_c (p : Nat → Nat → Bool) : Bool := (List.range 7).all fun s => (List.range 53).all fun t => p s t
theorem ag_cc {p : Nat → Nat → Bool} (h : ag_c p = true) {s t : Nat} (hs : s < 7) (ht : t < 53) : p s t = true := by
  unfold ag_c at h
  rw [List.all_eq_true] at h
  have a := h s (List.mem_range.mpr hs)
  rw [List.all_eq_true] at a
  exact a t (List.mem_range.mpr ht)
theorem ag_F1 : ∀ s, s < 7 → ∀ t, t < 53 → s ≠ 0 → ag_step s t ≠ 0 → t ≤ 9 → ag_step s t = 4 ∧ (s = 1 ∨ s = 2 ∨ s = 4) :=
  fun _ hs _ ht => of_decide_eq_true (ag_cc (p := fun s t => decide (s ≠ 0 → ag_step s t ≠ 0 → t ≤ 9 → ag_step s t = 4 ∧ (s = 1 ∨ s = 2 ∨ s = 4))) (by decide +kernel) hs ht)
theorem ag_F2 : ∀ s, s < 7 → ∀ t, t < 53 → s ≠ 0 → ag_step s t ≠ 0 → ag_nm t → ag_step s t = 5 ∧ (s = 1 ∨ s = 2) :=
  fun _ hs _ ht => of_decide_eq_true (ag_cc (p := fun s t => decide (s ≠ 0 → ag_step s t ≠ 0 → ag_nm t → ag_step s t = 5 ∧ (s = 1 ∨ s = 2))) (by decide +kernel) hs ht)
theorem ag_F3 : ∀ s, s < 7 → s ≠ 0 → ag_step s 51 ≠ 0 → ag_step s 51 = 6 ∧ 4 ≤ s := by decide +kernel
theorem ag_F4 : ∀ s, s < 7 → s ≠ 0 → ag_step s 50 ≠ 0 → ag_step s 50 = 1 ∧ (s = 1 ∨ s = 2) := by decide +kernel
theorem ag_F5 : ∀ s, s < 7 → s ≠ 0 → ag_step s 52 ≠ 0 → ag_step s 52 = 1 ∧ s = 5 := by decide +kernel
theorem ag_F6 : ∀ s, s < 7 → ∀ t, t < 53 → s ≠ 0 → ag_sc t → (s = 3 ∧ ag_step s t = 1) ∨ (s ≠ 3 ∧ ag_step s t = 2) :=
  fun _ hs _ ht => of_decide_eq_true (ag_cc (p := fun s t => decide (s ≠ 0 → ag_sc t → (s = 3 ∧ ag_step s t = 1) ∨ (s ≠ 3 ∧ ag_step s t = 2))) (by decide +kernel) hs ht)
theorem ag_F7 : ∀ s, s < 7 → ∀ t, t < 53 → s ≠ 0 → ag_step s t ≠ 0 → (t = 40 ∨ t = 41) → ag_step s t = 1 ∧ s = 2 :=
  fun _ hs _ ht => of_decide_eq_true (ag_cc (p := fun s t => decide (s ≠ 0 → ag_step s t ≠ 0 → (t = 40 ∨ t = 41) → ag_step s t = 1 ∧ s = 2)) (by decide +kernel) hs ht)
theorem ag_F8 : ∀ s, s < 7 → ∀ t, t < 53 → s ≠ 0 → ag_step s t ≠ 0 → ag_mx t → ag_step s t = 1 ∧ s ≠ 3 :=
  fun _ hs _ ht => of_decide_eq_true (ag_cc (p := fun s t => decide (s ≠ 0 → ag_step s t ≠ 0 → ag_mx t → ag_step s t = 1 ∧ s ≠ 3)) (by decide +kernel) hs ht)
theorem ag_F8' : ∀ s, s < 7 → ∀ t, t < 53 → s ≠ 3 → ag_mx t → ag_step s t = 1 :=
  fun _ hs _ ht => of_decide_eq_true (ag_cc (p := fun s t => decide (s ≠ 3 → ag_mx t → ag_step s t = 1)) (by decide +kernel) hs ht)
theorem ag_F9 : ∀ s, s < 7 → s ≠ 0 → ag_step s 42 ≠ 0 → ag_step s 42 = 3 ∧ s ≠ 3 := by decide +kernel
theorem ag_F9' : ∀ s, s < 7 → s ≠ 3 → ag_step s 42 = 3 := by decide +kernel
theorem ag_F10 : ∀ s, s < 7 → s ≠ 0 → ag_step s 43 ≠ 0 → ag_step s 43 = 3 ∧ s = 2 := by decide +kernel
theorem ag_F11 : ∀ t, t < 53 → ¬ ag_sc t → ag_step 3 t = 0 := by decide +kernel
theorem ag_F12 : ∀ s, s < 7 → ∀ t, t < 53 → 4 ≤ s → ¬ (s = 4 ∧ t ≤ 9) → ¬ (s = 5 ∧ t = 52) → t ≠ 51 → ¬ ag_sc t → ¬ ag_mx t → t ≠ 42 → ag_step s t = 0 :=
  fun _ hs _ ht => of_decide_eq_true (ag_cc (p := fun s t => decide (4 ≤ s → ¬ (s = 4 ∧ t ≤ 9) → ¬ (s = 5 ∧ t = 52) → t ≠ 51 → ¬ ag_sc t → ¬ ag_mx t → t ≠ 42 → ag_step s t = 0)) (by decide +kernel) hs ht)
theorem ag_F13 {s t : Nat} (h : s = 1 ∨ s = 2) (h1 : ¬ t ≤ 9) (h2 : ¬ ag_nm t) (h3 : t ≠ 50) (h4 : ¬ ag_sc t) (h5 : ¬ ag_mx t) (h6 : t ≠ 42) (h7 : ¬ (s = 2 ∧ (t = 40 ∨ t = 41 ∨ t = 43))) : ag_step s t = 0 := by
  unfold ag_step
  repeat' split
  all_goals omega
theorem ag_B4 : ∀ s, s < 7 → ∀ t, t < 53 → ag_step s t = 4 → t ≤ 9 :=
  fun _ hs _ ht => of_decide_eq_true (ag_cc (p := fun s t => decide (ag_step s t = 4 → t ≤ 9)) (by decide +kernel) hs ht)
theorem ag_B5 : ∀ s, s < 7 → ∀ t, t < 53 → ag_step s t = 5 → ag_nm t :=
  fun _ hs _ ht => of_decide_eq_true (ag_cc (p := fun s t => decide (ag_step s t = 5 → ag_nm t)) (by decide +kernel) hs ht)
theorem ag_B6 : ∀ s, s < 7 → ∀ t, t < 53 → ag_step s t = 6 → t = 51 :=
  fun _ hs _ ht => of_decide_eq_true (ag_cc (p := fun s t => decide (ag_step s t = 6 → t = 51)) (by decide +kernel) hs ht)
theorem ag_B3 : ∀ s, s < 7 → ∀ t, t < 53 → ag_step s t = 3 → t = 42 ∨ (t = 43 ∧ s = 2) :=
  fun _ hs _ ht => of_decide_eq_true (ag_cc (p := fun s t => decide (ag_step s t = 3 → t = 42 ∨ (t = 43 ∧ s = 2))) (by decide +kernel) hs ht)
theorem ag_B2 : ∀ s, s < 7 → ∀ t, t < 53 → ag_step s t = 2 → ag_sc t ∧ s ≠ 3 :=
  fun _ hs _ ht => of_decide_eq_true (ag_cc (p := fun s t => decide (ag_step s t = 2 → ag_sc t ∧ s ≠ 3)) (by decide +kernel) hs ht)
theorem ag_tk {t : Nat} (h : ag_tok t) : t < 53 := by unfold ag_tok at h; omega
def ag_st (tn : Nat → Nat) : Nat → Nat
  | 0 => 1
  | p + 1 => ag_step (ag_st tn p) (tn p)
def ag_dp (tn : Nat → Nat) : Nat → Nat
  | 0 => 0
  | p + 1 => if tn p = 50 then ag_dp tn p + 1 else if tn p = 51 then ag_dp tn p - 1 else ag_dp tn p
def ag_pre (tn : Nat → Nat) (p : Nat) : Prop := ∀ q, q < p → ag_st tn (q + 1) ≠ 0 ∧ (tn q = 51 → 0 < ag_dp tn q)
def ag_ok (tn : Nat → Nat) (n : Nat) : Prop := ag_pre tn n ∧ ag_dp tn n = 0 ∧ 4 ≤ ag_st tn n
/-- p is no place inside of an element of the text -/
def ag_H (tn : Nat → Nat) (n p : Nat) : Prop :=
  ag_st tn p ≠ 3 ∧ (p < n → (ag_st tn p = 4 → ¬ tn p ≤ 9) ∧ (ag_st tn p = 5 → tn p ≠ 52) ∧ (ag_st tn p = 2 → tn p ≠ 40 ∧ tn p ≠ 41 ∧ tn p ≠ 43))
theorem ag_s (tn : Nat → Nat) (p : Nat) : ag_st tn (p + 1) = ag_step (ag_st tn p) (tn p) := rfl
theorem ag_d (tn : Nat → Nat) (p : Nat) : ag_dp tn (p + 1) = if tn p = 50 then ag_dp tn p + 1 else if tn p = 51 then ag_dp tn p - 1 else ag_dp tn p := rfl
theorem ag_s7 (tn : Nat → Nat) (p : Nat) : ag_st tn p < 7 := by
  cases p with
  | zero => exact (by decide : 1 < 7)
  | succ p => exact ag_lt _ _
theorem ag_n0 {tn : Nat → Nat} {p q : Nat} (h : ag_pre tn p) (hq : q ≤ p) : ag_st tn q ≠ 0 := by
  cases q with
  | zero => exact (by decide : (1 : Nat) ≠ 0)
  | succ q => exact (h q hq).1
theorem ag_pre0 (tn : Nat → Nat) : ag_pre tn 0 := fun q hq => absurd hq (Nat.not_lt_zero q)
theorem ag_preS {tn : Nat → Nat} {p : Nat} (h : ag_pre tn p) (h1 : ag_st tn (p + 1) ≠ 0) (h2 : tn p = 51 → 0 < ag_dp tn p) : ag_pre tn (p + 1) := by
  intro q hq
  by_cases e : q = p
  · subst e; exact ⟨h1, h2⟩
  · exact h q (by omega)
theorem ag_no {tn : Nat → Nat} {n p : Nat} (hp : p < n) (h : ag_st tn (p + 1) = 0) : ¬ ag_ok tn n := fun k => (k.1 p hp).1 h
theorem ag_nod {tn : Nat → Nat} {n p : Nat} (hp : p < n) (h : tn p = 51) (h2 : ag_dp tn p = 0) : ¬ ag_ok tn n := fun k => by
  have := (k.1 p hp).2 h
  omega
theorem ag_dle (tn : Nat → Nat) (p : Nat) : ag_dp tn p ≤ p := by
  induction p with
  | zero => exact Nat.le_refl _
  | succ p ih =>
    rw [ag_d]
    repeat' split
    all_goals omega
theorem ag_dge (tn : Nat → Nat) (p q : Nat) : ag_dp tn p ≤ ag_dp tn (p + q) + q := by
  induction q with
  | zero => exact Nat.le_refl _
  | succ q ih =>
    rw [show p + (q + 1) = (p + q) + 1 from rfl, ag_d]
    repeat' split
    all_goals omega
theorem ag_d15 {tn : Nat → Nat} {n p : Nat} (h : ag_ok tn n) (hn : n ≤ 30) (hp : p ≤ n) : ag_dp tn p ≤ 15 := by
  have a := ag_dle tn p
  have b := ag_dge tn p (n - p)
  rw [show p + (n - p) = n by omega, h.2.1] at b
  omega
/-- the size of the function that begins at i -/
def ag_fs (tn : Nat → Nat) (n i : Nat) : Nat :=
  if ag_mx (tn i) then 1
  else if tn i = 42 then (if i + 1 < n ∧ ag_sc (tn (i + 1)) then 2 else 0)
  else if ¬ ag_sc (tn i) then 0
  else if i + 1 < n ∧ tn (i + 1) = 43 then (if i + 2 < n ∧ ag_sc (tn (i + 2)) then 3 else 0)
  else if i + 1 < n ∧ (tn (i + 1) = 40 ∨ tn (i + 1) = 41) then 2 else 1
section
variable {tn : Nat → Nat} {n : Nat} (ht : ∀ j, ag_tok (tn j))
theorem ag_dno {p : Nat} (h1 : tn p ≠ 50) (h2 : tn p ≠ 51) : ag_dp tn (p + 1) = ag_dp tn p := by
  rw [ag_d, if_neg h1, if_neg h2]
/-- a whole function read from left to right -/
theorem ag_fn (ht : ∀ j, ag_tok (tn j)) {i : Nat} (hi : i < n) (hp : ag_pre tn i) (hH : ag_H tn n i) (h0 : 0 < ag_fs tn n i) :
    i + ag_fs tn n i ≤ n ∧ ag_pre tn (i + ag_fs tn n i) ∧ ag_H tn n (i + ag_fs tn n i) ∧ ag_st tn (i + ag_fs tn n i) < 4 ∧ ag_dp tn (i + ag_fs tn n i) = ag_dp tn i := by
  have s0 := ag_n0 hp (Nat.le_refl i)
  have s7 := ag_s7 tn i
  have t0 := ag_tk (ht i)
  have t1 := ag_tk (ht (i + 1))
  have t2 := ag_tk (ht (i + 2))
  unfold ag_fs at h0 ⊢
  by_cases m : ag_mx (tn i)
  · rw [if_pos m] at h0 ⊢
    have e : ag_st tn (i + 1) = 1 := ag_F8' _ s7 _ t0 hH.1 m
    refine ⟨by omega, ag_preS hp (by omega) (by omega), ?_, by omega, ag_dno (by omega) (by omega)⟩
    unfold ag_H; rw [e]; omega
  rw [if_neg m] at h0 ⊢
  by_cases o : tn i = 42
  · rw [if_pos o] at h0 ⊢
    by_cases k : i + 1 < n ∧ ag_sc (tn (i + 1))
    · rw [if_pos k] at h0 ⊢
      have e : ag_st tn (i + 1) = 3 := by rw [ag_s, o]; exact ag_F9' _ s7 hH.1
      have e2 : ag_st tn (i + 2) = 1 := by
        rw [show i + 2 = (i + 1) + 1 from rfl, ag_s, e]
        rcases ag_F6 3 (by decide) _ t1 (by decide) k.2 with h | h
        · exact h.2
        · exact absurd rfl h.1
      have d1 : ag_dp tn (i + 1) = ag_dp tn i := ag_dno (by omega) (by omega)
      have d2 : ag_dp tn (i + 1 + 1) = ag_dp tn (i + 1) := ag_dno (by omega) (by omega)
      refine ⟨by omega, ag_preS (ag_preS hp (by omega) (by omega)) (by rw [show i + 1 + 1 = i + 2 from rfl]; omega) (by omega), ?_, by omega, d2.trans d1⟩
      unfold ag_H; rw [e2]; omega
    · rw [if_neg k] at h0; omega
  rw [if_neg o] at h0 ⊢
  by_cases sc : ag_sc (tn i)
  · rw [if_neg (fun z => z sc)] at h0 ⊢
    have e : ag_st tn (i + 1) = 2 := by
      rw [ag_s]
      rcases ag_F6 _ s7 _ t0 s0 sc with h | h
      · exact absurd h.1 hH.1
      · exact h.2
    have d1 : ag_dp tn (i + 1) = ag_dp tn i := ag_dno (by omega) (by omega)
    have p1 : ag_pre tn (i + 1) := ag_preS hp (by omega) (by omega)
    by_cases k : i + 1 < n ∧ tn (i + 1) = 43
    · rw [if_pos k] at h0 ⊢
      by_cases k2 : i + 2 < n ∧ ag_sc (tn (i + 2))
      · rw [if_pos k2] at h0 ⊢
        have e2 : ag_st tn (i + 2) = 3 := by
          rw [show i + 2 = (i + 1) + 1 from rfl, ag_s, e, k.2]; decide
        have e3 : ag_st tn (i + 3) = 1 := by
          rw [show i + 3 = (i + 2) + 1 from rfl, ag_s, e2]
          rcases ag_F6 3 (by decide) _ t2 (by decide) k2.2 with h | h
          · exact h.2
          · exact absurd rfl h.1
        have d2 : ag_dp tn (i + 1 + 1) = ag_dp tn (i + 1) := ag_dno (by omega) (by omega)
        have d3 : ag_dp tn (i + 2 + 1) = ag_dp tn (i + 2) := ag_dno (by omega) (by omega)
        have p2 : ag_pre tn (i + 2) := ag_preS p1 (by rw [show i + 1 + 1 = i + 2 from rfl]; omega) (by omega)
        refine ⟨by omega, ag_preS p2 (by rw [show i + 2 + 1 = i + 3 from rfl]; omega) (by omega), ?_, by omega, d3.trans (d2.trans d1)⟩
        unfold ag_H; rw [e3]; omega
      · rw [if_neg k2] at h0; omega
    · rw [if_neg k] at h0 ⊢
      by_cases k3 : i + 1 < n ∧ (tn (i + 1) = 40 ∨ tn (i + 1) = 41)
      · rw [if_pos k3]
        have e2 : ag_st tn (i + 2) = 1 := by
          rw [show i + 2 = (i + 1) + 1 from rfl, ag_s, e]
          rcases k3.2 with h | h
          · rw [h]; decide
          · rw [h]; decide
        have d2 : ag_dp tn (i + 1 + 1) = ag_dp tn (i + 1) := ag_dno (by omega) (by omega)
        refine ⟨by omega, ag_preS p1 (by rw [show i + 1 + 1 = i + 2 from rfl]; omega) (by omega), ?_, by omega, d2.trans d1⟩
        unfold ag_H; rw [e2]; omega
      · rw [if_neg k3]
        refine ⟨by omega, p1, ?_, by omega, d1⟩
        unfold ag_H; rw [e]; omega
  · rw [if_pos sc] at h0; omega
/-- a function that is none: the text is no statement, and its token is none of an operand's -/
theorem ag_fn0 (ht : ∀ j, ag_tok (tn j)) {i : Nat} (hi : i < n) (hp : ag_pre tn i) (hH : ag_H tn n i) (h0 : ag_fs tn n i = 0) (hs : tn i = 42 ∨ ag_sc (tn i)) : ¬ ag_ok tn n := by
  have s0 := ag_n0 hp (Nat.le_refl i)
  have s7 := ag_s7 tn i
  have t0 := ag_tk (ht i)
  have t1 := ag_tk (ht (i + 1))
  have t2 := ag_tk (ht (i + 2))
  unfold ag_fs at h0
  rw [if_neg (by omega)] at h0
  by_cases o : tn i = 42
  · rw [if_pos o] at h0
    have e : ag_st tn (i + 1) = 3 := by rw [ag_s, o]; exact ag_F9' _ s7 hH.1
    by_cases k : i + 1 < n
    · have nk : ¬ ag_sc (tn (i + 1)) := fun z => by rw [if_pos ⟨k, z⟩] at h0; omega
      exact ag_no k (by rw [ag_s, e]; exact ag_F11 _ t1 nk)
    · intro z
      have := z.2.2
      rw [show n = i + 1 by omega, e] at this
      omega
  rw [if_neg o] at h0
  have sc : ag_sc (tn i) := hs.resolve_left o
  rw [if_neg (fun z => z sc)] at h0
  have e : ag_st tn (i + 1) = 2 := by
    rw [ag_s]
    rcases ag_F6 _ s7 _ t0 s0 sc with h | h
    · exact absurd h.1 hH.1
    · exact h.2
  by_cases k : i + 1 < n ∧ tn (i + 1) = 43
  · rw [if_pos k] at h0
    have e2 : ag_st tn (i + 2) = 3 := by
      rw [show i + 2 = (i + 1) + 1 from rfl, ag_s, e, k.2]; decide
    by_cases k2 : i + 2 < n
    · have nk : ¬ ag_sc (tn (i + 2)) := fun z => by rw [if_pos ⟨k2, z⟩] at h0; omega
      exact ag_no k2 (by rw [ag_s, e2]; exact ag_F11 _ t2 nk)
    · intro z
      have := z.2.2
      rw [show n = i + 2 by omega, e2] at this
      omega
  · rw [if_neg k] at h0
    split at h0 <;> omega
theorem ag_fs0 {i : Nat} (h : ag_fs tn n i = 0) : ¬ ag_mx (tn i) := fun z => by
  unfold ag_fs at h
  rw [if_pos z] at h
  omega
end
