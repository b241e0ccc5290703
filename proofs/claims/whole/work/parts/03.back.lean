/-! the grammar from right to left -/
section
variable {tn : Nat → Nat} {n : Nat}
/-- what stands ahead of a place that is not behind an unfinished function -/
theorem ag_bf (ht : ∀ j, ag_tok (tn j)) (K : ag_ok tn n) {j : Nat} (hj : j ≤ n) (h : ag_st tn j ≠ 3) (h1 : 1 ≤ j) : tn (j - 1) ≠ 42 ∧ tn (j - 1) ≠ 43 := by
  obtain ⟨q, rfl⟩ : ∃ q, j = q + 1 := ⟨j - 1, by omega⟩
  rw [Nat.add_sub_cancel]
  have s0 := ag_n0 K.1 (q := q) (by omega)
  have s1 := ag_n0 K.1 hj
  have s7 := ag_s7 tn q
  rw [ag_s] at h s1
  constructor
  · intro e; rw [e] at h s1; exact h (ag_F9 _ s7 s0 s1).1
  · intro e; rw [e] at h s1; exact h (ag_F10 _ s7 s0 s1).1
theorem ag_Rname (ht : ∀ j, ag_tok (tn j)) (K : ag_ok tn n) {i : Nat} (hi : i < n) (hH : ag_H tn n (i + 1)) (hk : ag_nm (tn i)) :
    ag_H tn n i ∧ ag_st tn i < 4 ∧ 4 ≤ ag_st tn (i + 1) ∧ ag_dp tn (i + 1) = ag_dp tn i ∧ (i + 1 < n → tn (i + 1) ≠ 52) := by
  have s0 := ag_n0 K.1 (q := i) (by omega)
  have s1 := ag_n0 K.1 (q := i + 1) hi
  have s7 := ag_s7 tn i
  have t0 := ag_tk (ht i)
  have a := ag_F2 _ s7 _ t0 s0 s1 hk
  rw [← ag_s] at a
  refine ⟨?_, by omega, by omega, ag_dno (by omega) (by omega), fun h => (hH.2 h).2.1 a.1⟩
  unfold ag_H; omega
theorem ag_Rclose (ht : ∀ j, ag_tok (tn j)) (K : ag_ok tn n) {i : Nat} (hi : i < n) (hk : tn i = 51) :
    ag_H tn n i ∧ 4 ≤ ag_st tn i ∧ 4 ≤ ag_st tn (i + 1) ∧ ag_dp tn i = ag_dp tn (i + 1) + 1 := by
  have s0 := ag_n0 K.1 (q := i) (by omega)
  have s1 := ag_n0 K.1 (q := i + 1) hi
  have s7 := ag_s7 tn i
  rw [ag_s, hk] at s1
  have a := ag_F3 _ s7 s0 s1
  have d := (K.1 i hi).2 hk
  refine ⟨?_, a.2, by rw [ag_s, hk]; omega, ?_⟩
  · unfold ag_H; omega
  · rw [ag_d, if_neg (by omega), if_pos hk]; omega
theorem ag_Ropen (ht : ∀ j, ag_tok (tn j)) (K : ag_ok tn n) {i : Nat} (hi : i < n) (hk : tn i = 50) :
    ag_H tn n i ∧ ag_st tn i < 4 ∧ ag_st tn (i + 1) < 4 ∧ ag_dp tn (i + 1) = ag_dp tn i + 1 := by
  have s0 := ag_n0 K.1 (q := i) (by omega)
  have s1 := ag_n0 K.1 (q := i + 1) hi
  have s7 := ag_s7 tn i
  rw [ag_s, hk] at s1
  have a := ag_F4 _ s7 s0 s1
  refine ⟨?_, by omega, by rw [ag_s, hk]; omega, ?_⟩
  · unfold ag_H; omega
  · rw [ag_d, if_pos hk]
theorem ag_Rmx (ht : ∀ j, ag_tok (tn j)) (K : ag_ok tn n) {i : Nat} (hi : i < n) (hk : ag_mx (tn i)) :
    ag_H tn n i ∧ ag_st tn (i + 1) < 4 ∧ ag_dp tn (i + 1) = ag_dp tn i := by
  have s0 := ag_n0 K.1 (q := i) (by omega)
  have s1 := ag_n0 K.1 (q := i + 1) hi
  have s7 := ag_s7 tn i
  have t0 := ag_tk (ht i)
  have a := ag_F8 _ s7 _ t0 s0 s1 hk
  rw [← ag_s] at a
  refine ⟨?_, by omega, ag_dno (by omega) (by omega)⟩
  unfold ag_H; omega
theorem ag_Rbec (ht : ∀ j, ag_tok (tn j)) (K : ag_ok tn n) {i : Nat} (hi : i < n) (hk : tn i = 52) :
    1 ≤ i ∧ ag_nm (tn (i - 1)) ∧ ag_H tn n (i - 1) ∧ ag_st tn (i - 1) < 4 ∧ ag_st tn (i + 1) < 4 ∧ ag_dp tn (i + 1) = ag_dp tn (i - 1) := by
  have s0 := ag_n0 K.1 (q := i) (by omega)
  have s1 := ag_n0 K.1 (q := i + 1) hi
  have s7 := ag_s7 tn i
  rw [ag_s, hk] at s1
  have a := ag_F5 _ s7 s0 s1
  have e1 : ag_st tn (i + 1) = 1 := by rw [ag_s, hk]; exact a.1
  cases i with
  | zero => exact absurd a.2 (by decide : ¬ (1 : Nat) = 5)
  | succ i =>
    rw [Nat.add_sub_cancel]
    have t0 := ag_tk (ht i)
    have b := ag_B5 _ (ag_s7 tn i) _ t0 a.2
    have c := ag_F2 _ (ag_s7 tn i) _ t0 (ag_n0 K.1 (q := i) (by omega)) (by rw [← ag_s]; exact s0) b
    refine ⟨by omega, b, ?_, by omega, by omega, ?_⟩
    · unfold ag_H; omega
    · rw [ag_dno (by omega) (by omega), ag_dno (by omega) (by omega)]
/-- behind a scalar function that is not the second of two -/
theorem ag_Rs2 (ht : ∀ j, ag_tok (tn j)) (K : ag_ok tn n) {i : Nat} (hi : i ≤ n) (h2 : ag_st tn i = 2) :
    1 ≤ i ∧ ag_sc (tn (i - 1)) ∧ ag_H tn n (i - 1) ∧ ag_dp tn i = ag_dp tn (i - 1) ∧ (2 ≤ i → tn (i - 2) ≠ 42 ∧ tn (i - 2) ≠ 43) := by
  cases i with
  | zero => exact absurd h2 (by decide : ¬ (1 : Nat) = 2)
  | succ i =>
    rw [Nat.add_sub_cancel]
    have t0 := ag_tk (ht i)
    rw [ag_s] at h2
    have b := ag_B2 _ (ag_s7 tn i) _ t0 h2
    refine ⟨by omega, b.1, ?_, ag_dno (by omega) (by omega), fun h => ?_⟩
    · have := b.2
      unfold ag_H; omega
    · rw [show i + 1 - 2 = i - 1 by omega]
      exact ag_bf ht K (by omega) b.2 (by omega)
theorem ag_Rsl (ht : ∀ j, ag_tok (tn j)) (K : ag_ok tn n) {i : Nat} (hi : i < n) (hk : tn i = 40 ∨ tn i = 41) :
    1 ≤ i ∧ ag_sc (tn (i - 1)) ∧ ag_H tn n (i - 1) ∧ ag_st tn (i + 1) < 4 ∧ ag_dp tn (i + 1) = ag_dp tn (i - 1) ∧ (2 ≤ i → tn (i - 2) ≠ 42 ∧ tn (i - 2) ≠ 43) := by
  have s0 := ag_n0 K.1 (q := i) (by omega)
  have s1 := ag_n0 K.1 (q := i + 1) hi
  have s7 := ag_s7 tn i
  have t0 := ag_tk (ht i)
  have a := ag_F7 _ s7 _ t0 s0 s1 hk
  rw [← ag_s] at a
  have b := ag_Rs2 ht K (by omega) a.2
  exact ⟨b.1, b.2.1, b.2.2.1, by omega, (ag_dno (by omega) (by omega)).trans b.2.2.2.1, b.2.2.2.2⟩
theorem ag_Rsc (ht : ∀ j, ag_tok (tn j)) (K : ag_ok tn n) {i : Nat} (hi : i < n) (hH : ag_H tn n (i + 1)) (hk : ag_sc (tn i)) :
    ag_st tn (i + 1) < 4 ∧
    ((1 ≤ i ∧ tn (i - 1) = 42 ∧ ag_H tn n (i - 1) ∧ ag_dp tn (i + 1) = ag_dp tn (i - 1)) ∨
     (2 ≤ i ∧ tn (i - 1) = 43 ∧ ag_sc (tn (i - 2)) ∧ ag_H tn n (i - 2) ∧ ag_dp tn (i + 1) = ag_dp tn (i - 2) ∧ (3 ≤ i → tn (i - 3) ≠ 42 ∧ tn (i - 3) ≠ 43)) ∨
     (ag_H tn n i ∧ ag_dp tn (i + 1) = ag_dp tn i ∧ (1 ≤ i → tn (i - 1) ≠ 42 ∧ tn (i - 1) ≠ 43) ∧ (i + 1 < n → tn (i + 1) ≠ 40 ∧ tn (i + 1) ≠ 41 ∧ tn (i + 1) ≠ 43))) := by
  have s0 := ag_n0 K.1 (q := i) (by omega)
  have s7 := ag_s7 tn i
  have t0 := ag_tk (ht i)
  have d1 : ag_dp tn (i + 1) = ag_dp tn i := ag_dno (by omega) (by omega)
  rcases ag_F6 _ s7 _ t0 s0 hk with a | a
  · rw [← ag_s] at a
    refine ⟨by omega, ?_⟩
    cases i with
    | zero => exact absurd a.1 (by decide : ¬ (1 : Nat) = 3)
    | succ i =>
      rw [Nat.add_sub_cancel]
      have t1 := ag_tk (ht i)
      rcases ag_B3 _ (ag_s7 tn i) _ t1 a.1 with b | b
      · left
        have c := ag_F9 _ (ag_s7 tn i) (ag_n0 K.1 (q := i) (by omega)) (by rw [← b, ← ag_s]; omega)
        refine ⟨by omega, b, ?_, d1.trans (ag_dno (by omega) (by omega))⟩
        have := c.2
        unfold ag_H; omega
      · right; left
        have c := ag_Rs2 ht K (i := i) (by omega) b.2
        refine ⟨by omega, b.1, ?_, ?_, ?_, fun h => ?_⟩
        · rw [show i + 1 - 2 = i - 1 by omega]; exact c.2.1
        · rw [show i + 1 - 2 = i - 1 by omega]; exact c.2.2.1
        · rw [show i + 1 - 2 = i - 1 by omega, d1, ag_dno (by omega) (by omega)]; exact c.2.2.2.1
        · rw [show i + 1 - 3 = i - 2 by omega]; exact c.2.2.2.2 (by omega)
  · rw [← ag_s] at a
    refine ⟨by omega, Or.inr (Or.inr ⟨?_, d1, fun h => ag_bf ht K (by omega) a.1 h, fun h => (hH.2 h).2.2 a.2⟩)⟩
    have := a.1
    unfold ag_H; omega
theorem ag_R42 (ht : ∀ j, ag_tok (tn j)) (K : ag_ok tn n) {i : Nat} (hi : i < n) (hH : ag_H tn n (i + 1)) : tn i ≠ 42 ∧ tn i ≠ 43 := by
  have := ag_bf ht K (j := i + 1) hi hH.1 (by omega)
  rwa [Nat.add_sub_cancel] at this
/-- a run of numbers, read from its end -/
theorem ag_Rnum (ht : ∀ j, ag_tok (tn j)) (K : ag_ok tn n) {i f : Nat} (hi : i < n) (hf : f ≤ i) (hk : ∀ j, f ≤ j → j ≤ i → tn j ≤ 9) (h0 : 1 ≤ f → ¬ tn (f - 1) ≤ 9) :
    ag_H tn n f ∧ ag_st tn f < 4 ∧ 4 ≤ ag_st tn (i + 1) ∧ ag_dp tn (i + 1) = ag_dp tn f := by
  have st4 : ∀ j, f ≤ j → j ≤ i → ag_st tn (j + 1) = 4 ∧ (ag_st tn j = 1 ∨ ag_st tn j = 2 ∨ ag_st tn j = 4) := fun j h1 h2 => by
    have a := ag_F1 _ (ag_s7 tn j) _ (ag_tk (ht j)) (ag_n0 K.1 (q := j) (by omega)) (by rw [← ag_s]; exact ag_n0 K.1 (q := j + 1) (by omega)) (hk j h1 h2)
    rw [← ag_s] at a
    exact a
  have d : ∀ m, f + m ≤ i → ag_dp tn (f + m + 1) = ag_dp tn f := fun m => by
    induction m with
    | zero => intro h; exact ag_dno (by have := hk f (by omega) (by omega); omega) (by have := hk f (by omega) (by omega); omega)
    | succ m ih =>
      intro h
      have k := hk (f + m + 1) (by omega) (by omega)
      rw [← Nat.add_assoc, ag_dno (by omega) (by omega)]
      exact ih (by omega)
  have dd := d (i - f) (by omega)
  rw [show f + (i - f) + 1 = i + 1 by omega] at dd
  have a := st4 f (by omega) hf
  have n4 : ag_st tn f ≠ 4 := by
    intro e
    cases f with
    | zero => exact absurd e (by decide : ¬ (1 : Nat) = 4)
    | succ f => exact h0 (by omega) (by rw [Nat.add_sub_cancel]; exact ag_B4 _ (ag_s7 tn f) _ (ag_tk (ht f)) e)
  have b := (st4 i hf (Nat.le_refl i)).1
  have c := hk f (by omega) hf
  refine ⟨?_, by omega, by omega, dd⟩
  unfold ag_H; omega
/-- a run of numbers, read from its start: states and depth -/
theorem ag_Fnum (ht : ∀ j, ag_tok (tn j)) {i m : Nat} (hp : ag_pre tn i) (hs : ag_st tn i = 1 ∨ ag_st tn i = 2) (hk : ∀ j, i ≤ j → j < i + m + 1 → tn j ≤ 9) :
    ag_pre tn (i + m + 1) ∧ ag_st tn (i + m + 1) = 4 ∧ ag_dp tn (i + m + 1) = ag_dp tn i := by
  have f1 : ∀ s, s < 7 → ∀ t, t < 53 → (s = 1 ∨ s = 2 ∨ s = 4) → t ≤ 9 → ag_step s t = 4 :=
    fun _ hs _ ht => of_decide_eq_true (ag_cc (p := fun s t => decide ((s = 1 ∨ s = 2 ∨ s = 4) → t ≤ 9 → ag_step s t = 4)) (by decide +kernel) hs ht)
  induction m with
  | zero =>
    have k := hk i (by omega) (by omega)
    have e : ag_st tn (i + 1) = 4 := f1 _ (ag_s7 tn i) _ (ag_tk (ht i)) (by omega) k
    exact ⟨ag_preS hp (by omega) (by omega), e, ag_dno (by omega) (by omega)⟩
  | succ m ih =>
    have k := hk (i + m + 1) (by omega) (by omega)
    obtain ⟨a, b, c⟩ := ih (fun j h1 h2 => hk j h1 (by omega))
    have e : ag_st tn (i + m + 1 + 1) = 4 := f1 _ (ag_s7 tn _) _ (ag_tk (ht _)) (by omega) k
    show ag_pre tn (i + m + 1 + 1) ∧ ag_st tn (i + m + 1 + 1) = 4 ∧ ag_dp tn (i + m + 1 + 1) = ag_dp tn i
    exact ⟨ag_preS a (by omega) (by omega), e, (ag_dno (by omega) (by omega)).trans c⟩
end
