/-! loops whose states are known; indices of rows and columns -/
theorem ap_lp {σ : Type} (W : Nat → Nat → σ → Prop) (a : Nat → σ) (e : Nat) (hx : ∀ n, W (n + 1) e (a e)) (hs : ∀ n i, i < e → W n (i + 1) (a (i + 1)) → W (n + 1) i (a i)) : ∀ n, e < n → W n 0 (a 0) := by
  have h : ∀ m i n, i + m = e → m < n → W n i (a i) := by
    intro m
    induction m with
    | zero =>
      intro i n h1 h2
      obtain ⟨k, rfl⟩ : ∃ k, n = k + 1 := ⟨n - 1, by omega⟩
      rw [show i = e by omega]; exact hx k
    | succ m ih =>
      intro i n h1 h2
      obtain ⟨k, rfl⟩ : ∃ k, n = k + 1 := ⟨n - 1, by omega⟩
      exact hs k i (by omega) (ih (i + 1) k (by omega) (by omega))
  exact fun n hn => h e 0 n (by omega) hn
theorem ap_le {σ : Type} (W : Nat → Nat → σ → Prop) (a : Nat → σ) (e : Nat) {s : σ} (h0 : a 0 = s) (hx : ∀ n, W (n + 1) e (a e)) (hs : ∀ n i, i < e → W n (i + 1) (a (i + 1)) → W (n + 1) i (a i)) : ∃ n, W n 0 s :=
  ⟨e + 1, h0 ▸ ap_lp W a e hx hs (e + 1) (by omega)⟩
/-- a loop that may end early, without a state: f i is its end from i on -/
theorem ap_ls (W : Nat → Nat → Prop) (Q : Nat → Prop) (e : Nat) (hx : Q e → ∀ n, W (n + 1) e) (hs : ∀ n i, i < e → Q i → (Q (i + 1) → W n (i + 1)) → W (n + 1) i) (h0 : Q 0) : ∃ n, W n 0 := by
  have h : ∀ m i, i + m = e → Q i → W (m + 1) i := by
    intro m
    induction m with
    | zero => intro i h1 q; rw [show i = e by omega] at q ⊢; exact hx q 0
    | succ m ih => intro i h1 q; exact hs (m + 1) i (by omega) q (fun q' => ih (i + 1) (by omega) q')
  exact ⟨e + 1, h e 0 (by omega) h0⟩
theorem ap_ix {i r c w : Nat} (hi : i < r) (hc : c < w) : i * w + c < r * w := by
  have h := Nat.mul_le_mul_right w (show i + 1 ≤ r from hi)
  rw [Nat.succ_mul] at h
  omega
theorem ap_dv1 {i c w : Nat} (hc : c < w) : (i * w + c) / w = i := by
  rw [Nat.mul_comm, Nat.mul_add_div (by omega), Nat.div_eq_of_lt hc, Nat.add_zero]
theorem ap_md1 {i c w : Nat} (hc : c < w) : (i * w + c) % w = c := Nat.mul_add_mod_of_lt hc
theorem ap_dvl {i r w : Nat} (h : i < r * w) : 0 < w ∧ i / w < r ∧ i % w < w ∧ i / w * w + i % w = i := by
  have w0 : 0 < w := by
    rcases Nat.eq_zero_or_pos w with z | z
    · rw [z, Nat.mul_zero] at h; omega
    · exact z
  exact ⟨w0, Nat.div_lt_of_lt_mul (by rw [Nat.mul_comm]; exact h), Nat.mod_lt _ w0, Nat.div_add_mod' i w⟩
