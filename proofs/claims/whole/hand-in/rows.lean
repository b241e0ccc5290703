section
theorem pk_us {f : Nat → Int32} {k : Nat} {x : Int32} : upd f k x k = x := if_pos rfl
theorem pk_un {f : Nat → Int32} {k j : Nat} {x : Int32} (h : j ≠ k) : upd f k x j = f j := if_neg h
theorem pk_sub {a b : Nat} (h : b ≤ a) : nI a - nI b = nI (a - b) := by
  obtain ⟨c, rfl⟩ : ∃ c, a = c + b := ⟨a - b, by omega⟩
  rw [← nI_add, Int32.add_sub_cancel, Nat.add_sub_cancel]
theorem pk_m1 (n : Nat) : nI (n + 1) + (-1) = nI n := by
  rw [← nI_1, Int32.add_assoc, show (1 : Int32) + (-1) = 0 from rfl, Int32.add_zero]
theorem pk_mul (a b : Nat) : nI a * nI b = nI (a * b) := (Int32.ofNat_mul a b).symm
theorem pk_div {a d : Nat} (ha : a < 2 ^ 31) (h0 : 0 < d) (hd : d < 2 ^ 31) : nI a / nI d = nI (a / d) := by
  apply Int32.toInt_inj.mp
  rw [lg_idiv_nonneg (by rw [nI_toInt ha]; omega) (by rw [nI_toInt hd]; omega), nI_toInt ha, nI_toInt hd, nI_toInt (Nat.lt_of_le_of_lt (Nat.div_le_self a d) ha)]
  first | rfl | exact (Int.natCast_ediv _ _).symm
theorem pk_rem {a d : Nat} (ha : a < 2 ^ 31) (h0 : 0 < d) (hd : d < 2 ^ 31) : nI a - nI a / nI d * nI d = nI (a % d) := by
  rw [pk_div ha h0 hd, pk_mul, pk_sub (Nat.div_mul_le_self a d)]
  exact congrArg nI (by have := Nat.div_add_mod' a d; omega)
theorem pk_sub_toInt {a b : Nat} (ha : a < 2 ^ 30) (hb : b < 2 ^ 30) : (nI a - nI b).toInt = (a : Int) - b := by
  rw [Int32.toInt_sub, nI_toInt (by omega), nI_toInt (by omega)]
  exact Int.bmod_eq_of_le (by omega) (by omega)
theorem pk_sneg {a b : Nat} (hb : b < 2 ^ 30) (h : a < b) : nI a - nI b < 0 := by
  rw [Int32.lt_iff_toInt_lt, pk_sub_toInt (by omega) hb, show (0 : Int32).toInt = 0 from by decide]
  omega
theorem pk_ix (x : Int32) {n : Nat} (hn : n < 2 ^ 31) : x < 0 ∨ nI n ≤ x ∨ ∃ j : Nat, j < n ∧ x = nI j := by
  by_cases h : x < 0
  · exact Or.inl h
  · obtain ⟨j, hj, rfl⟩ := nI_of h
    by_cases h2 : j < n
    · exact Or.inr (Or.inr ⟨j, h2, rfl⟩)
    · exact Or.inr (Or.inl (nI_le (by omega) hj))
theorem pk_le {x y : Int32} {A B : Prop} (a b : Nat) (f : a ≤ b → A) (g : b < a → B) (hx : x = nI a := by rfl) (hy : y = nI b := by rfl) (ha : a < 2 ^ 31 := by omega) (hb : b < 2 ^ 31 := by omega) : (x ≤ y → A) ∧ (¬ x ≤ y → B) := by
  subst hx hy
  rw [nI_leI ha hb]
  exact ⟨f, fun z => g (by omega)⟩
theorem pk_lt {x y : Int32} {A B : Prop} (a b : Nat) (f : a < b → A) (g : b ≤ a → B) (hx : x = nI a := by rfl) (hy : y = nI b := by rfl) (ha : a < 2 ^ 31 := by omega) (hb : b < 2 ^ 31 := by omega) : (x < y → A) ∧ (¬ x < y → B) := by
  subst hx hy
  rw [nI_ltI ha hb]
  exact ⟨f, fun z => g (by omega)⟩
theorem pk_eq {x y : Int32} {A B : Prop} (a b : Nat) (f : a = b → A) (g : a ≠ b → B) (hx : x = nI a := by rfl) (hy : y = nI b := by rfl) (ha : a < 2 ^ 31 := by omega) (hb : b < 2 ^ 31 := by omega) : (x = y → A) ∧ (¬ x = y → B) := by
  subst hx hy
  rw [nI_eq ha hb]
  exact ⟨f, g⟩
theorem pk_in {x : Int32} (n N : Nat) (h : n < N) (hx : x = nI n := by rfl) (hN : N < 2 ^ 31 := by omega) : vp_in x N := by
  subst hx
  exact vp_in_nI h hN
theorem pk_cl {x : Int32} (n : Nat) (hx : x = nI n := by rfl) (h : n < 2 ^ 31 := by omega) : x.toNatClampNeg = n := by
  subst hx
  exact nI_clamp h
theorem pk_lT {n : Nat} (h : n < 2 ^ 63) : (lN n).toInt = (n : Int) := lg_ofNat_toInt h
theorem pk_lLT {a b : Nat} (ha : a < 2 ^ 63) (hb : b < 2 ^ 63) : lN a < lN b ↔ a < b := by
  rw [Int64.lt_iff_toInt_lt, pk_lT ha, pk_lT hb]; omega
theorem pk_lLE {a b : Nat} (ha : a < 2 ^ 63) (hb : b < 2 ^ 63) : lN a ≤ lN b ↔ a ≤ b := by
  rw [Int64.le_iff_toInt_le, pk_lT ha, pk_lT hb]; omega
theorem pk_lEQ {a b : Nat} (ha : a < 2 ^ 63) (hb : b < 2 ^ 63) : lN a = lN b ↔ a = b := by
  rw [← Int64.toInt_inj, pk_lT ha, pk_lT hb]; omega
theorem pk_lOf {x : Int64} (h : ¬ x < 0) : ∃ k : Nat, k < 2 ^ 63 ∧ x = lN k := by
  rw [Int64.lt_iff_toInt_lt] at h
  have h0 : (0 : Int64).toInt = 0 := by decide
  have hx := Int64.toInt_lt x
  refine ⟨x.toInt.toNat, by omega, Int64.toInt_inj.mp ?_⟩
  rw [pk_lT (by omega)]
  omega
theorem pk_lDiv {a b : Nat} (ha : a < 2 ^ 63) (h0 : 0 < b) (hb : b < 2 ^ 63) : lN a / lN b = lN (a / b) := by
  apply Int64.toInt_inj.mp
  rw [lg_ldiv_nonneg (by rw [pk_lT ha]; omega) (by rw [pk_lT hb]; omega), pk_lT ha, pk_lT hb, pk_lT (Nat.lt_of_le_of_lt (Nat.div_le_self a b) ha)]
  rfl
theorem pk_lRem {a b : Nat} (ha : a < 2 ^ 63) (h0 : 0 < b) (hb : b < 2 ^ 63) : lN a - lN a / lN b * lN b = lN (a % b) := by
  rw [pk_lDiv ha h0 hb, lN_mul, lN_sub (Nat.div_mul_le_self a b)]
  exact congrArg lN (by have := Nat.div_add_mod' a b; omega)
theorem pk_loop {σ : Type} (W : Nat → Nat → σ → Prop) (I : Nat → σ → Prop) (e i0 : Nat) (s : σ) (hi : i0 ≤ e) (h0 : I i0 s) (hx : ∀ n s, I e s → W (n + 1) e s)
    (hs : ∀ n i s, i < e → I i s → (∀ s', I (i + 1) s' → W n (i + 1) s') → W (n + 1) i s) : ∃ n, W n i0 s :=
  ⟨e + 1, loop_i W I e hx hs (e + 1) i0 s hi (by omega) h0⟩
theorem pk_loopD {σ : Type} (W : Nat → Nat → σ → Prop) (I : Nat → σ → Prop) (hx : ∀ n s, I 0 s → W (n + 1) 0 s)
    (hs : ∀ n i s, I (i + 1) s → (∀ s', I i s' → W n i s') → W (n + 1) (i + 1) s) : ∀ (e : Nat) (s : σ), I e s → W (e + 1) e s := by
  intro e
  induction e with
  | zero => exact fun s h => hx 0 s h
  | succ e ih => exact fun s h => hs (e + 1) e s h (fun s' h' => ih s' h')
theorem an_e0 {a : Nat} (h : a < 2 ^ 31) : (nI a = 0) = (a = 0) := propext (nI_eq (b := 0) h (by decide))
theorem an_l0 {a : Nat} (h : a < 2 ^ 31) : (nI a ≤ 0) = (a ≤ 0) := propext (nI_leI (b := 0) h (by decide))
theorem an_g0 {a : Nat} (h : a < 2 ^ 31) : (0 ≤ nI a) = (0 ≤ a) := propext (nI_leI (a := 0) (by decide) h)
theorem an_t0 {a : Nat} (h : a < 2 ^ 31) : (nI a < 0) = (a < 0) := propext (nI_ltI (b := 0) h (by decide))
theorem an_u0 {a : Nat} (h : a < 2 ^ 31) : (0 < nI a) = (0 < a) := propext (nI_ltI (a := 0) (by decide) h)
theorem an_a0 (a : Nat) : nI a + 0 = nI (a + 0) := nI_add a 0
theorem an_b0 (a : Nat) : 0 + nI a = nI (0 + a) := nI_add 0 a
theorem an_m0 (a : Nat) : nI a * 0 = nI (a * 0) := pk_mul a 0
theorem an_n0 (a : Nat) : 0 * nI a = nI (a * 0) := by rw [Nat.mul_comm]; exact pk_mul 0 a
theorem an_k0 : (0 : Int32) = nI 0 := rfl
theorem an_e1 {a : Nat} (h : a < 2 ^ 31) : (nI a = 1) = (a = 1) := propext (nI_eq (b := 1) h (by decide))
theorem an_l1 {a : Nat} (h : a < 2 ^ 31) : (nI a ≤ 1) = (a ≤ 1) := propext (nI_leI (b := 1) h (by decide))
theorem an_g1 {a : Nat} (h : a < 2 ^ 31) : (1 ≤ nI a) = (1 ≤ a) := propext (nI_leI (a := 1) (by decide) h)
theorem an_t1 {a : Nat} (h : a < 2 ^ 31) : (nI a < 1) = (a < 1) := propext (nI_ltI (b := 1) h (by decide))
theorem an_u1 {a : Nat} (h : a < 2 ^ 31) : (1 < nI a) = (1 < a) := propext (nI_ltI (a := 1) (by decide) h)
theorem an_a1 (a : Nat) : nI a + 1 = nI (a + 1) := nI_add a 1
theorem an_b1 (a : Nat) : 1 + nI a = nI (1 + a) := nI_add 1 a
theorem an_m1 (a : Nat) : nI a * 1 = nI (a * 1) := pk_mul a 1
theorem an_n1 (a : Nat) : 1 * nI a = nI (a * 1) := by rw [Nat.mul_comm]; exact pk_mul 1 a
theorem an_k1 : (1 : Int32) = nI 1 := rfl
theorem an_e2 {a : Nat} (h : a < 2 ^ 31) : (nI a = 2) = (a = 2) := propext (nI_eq (b := 2) h (by decide))
theorem an_l2 {a : Nat} (h : a < 2 ^ 31) : (nI a ≤ 2) = (a ≤ 2) := propext (nI_leI (b := 2) h (by decide))
theorem an_g2 {a : Nat} (h : a < 2 ^ 31) : (2 ≤ nI a) = (2 ≤ a) := propext (nI_leI (a := 2) (by decide) h)
theorem an_t2 {a : Nat} (h : a < 2 ^ 31) : (nI a < 2) = (a < 2) := propext (nI_ltI (b := 2) h (by decide))
theorem an_u2 {a : Nat} (h : a < 2 ^ 31) : (2 < nI a) = (2 < a) := propext (nI_ltI (a := 2) (by decide) h)
theorem an_a2 (a : Nat) : nI a + 2 = nI (a + 2) := nI_add a 2
theorem an_b2 (a : Nat) : 2 + nI a = nI (2 + a) := nI_add 2 a
theorem an_m2 (a : Nat) : nI a * 2 = nI (a * 2) := pk_mul a 2
theorem an_n2 (a : Nat) : 2 * nI a = nI (a * 2) := by rw [Nat.mul_comm]; exact pk_mul 2 a
theorem an_k2 : (2 : Int32) = nI 2 := rfl
theorem an_e3 {a : Nat} (h : a < 2 ^ 31) : (nI a = 3) = (a = 3) := propext (nI_eq (b := 3) h (by decide))
theorem an_l3 {a : Nat} (h : a < 2 ^ 31) : (nI a ≤ 3) = (a ≤ 3) := propext (nI_leI (b := 3) h (by decide))
theorem an_g3 {a : Nat} (h : a < 2 ^ 31) : (3 ≤ nI a) = (3 ≤ a) := propext (nI_leI (a := 3) (by decide) h)
theorem an_t3 {a : Nat} (h : a < 2 ^ 31) : (nI a < 3) = (a < 3) := propext (nI_ltI (b := 3) h (by decide))
theorem an_u3 {a : Nat} (h : a < 2 ^ 31) : (3 < nI a) = (3 < a) := propext (nI_ltI (a := 3) (by decide) h)
theorem an_a3 (a : Nat) : nI a + 3 = nI (a + 3) := nI_add a 3
theorem an_b3 (a : Nat) : 3 + nI a = nI (3 + a) := nI_add 3 a
theorem an_m3 (a : Nat) : nI a * 3 = nI (a * 3) := pk_mul a 3
theorem an_n3 (a : Nat) : 3 * nI a = nI (a * 3) := by rw [Nat.mul_comm]; exact pk_mul 3 a
theorem an_k3 : (3 : Int32) = nI 3 := rfl
theorem an_e4 {a : Nat} (h : a < 2 ^ 31) : (nI a = 4) = (a = 4) := propext (nI_eq (b := 4) h (by decide))
theorem an_l4 {a : Nat} (h : a < 2 ^ 31) : (nI a ≤ 4) = (a ≤ 4) := propext (nI_leI (b := 4) h (by decide))
theorem an_g4 {a : Nat} (h : a < 2 ^ 31) : (4 ≤ nI a) = (4 ≤ a) := propext (nI_leI (a := 4) (by decide) h)
theorem an_t4 {a : Nat} (h : a < 2 ^ 31) : (nI a < 4) = (a < 4) := propext (nI_ltI (b := 4) h (by decide))
theorem an_u4 {a : Nat} (h : a < 2 ^ 31) : (4 < nI a) = (4 < a) := propext (nI_ltI (a := 4) (by decide) h)
theorem an_a4 (a : Nat) : nI a + 4 = nI (a + 4) := nI_add a 4
theorem an_b4 (a : Nat) : 4 + nI a = nI (4 + a) := nI_add 4 a
theorem an_m4 (a : Nat) : nI a * 4 = nI (a * 4) := pk_mul a 4
theorem an_n4 (a : Nat) : 4 * nI a = nI (a * 4) := by rw [Nat.mul_comm]; exact pk_mul 4 a
theorem an_k4 : (4 : Int32) = nI 4 := rfl
theorem an_e5 {a : Nat} (h : a < 2 ^ 31) : (nI a = 5) = (a = 5) := propext (nI_eq (b := 5) h (by decide))
theorem an_l5 {a : Nat} (h : a < 2 ^ 31) : (nI a ≤ 5) = (a ≤ 5) := propext (nI_leI (b := 5) h (by decide))
theorem an_g5 {a : Nat} (h : a < 2 ^ 31) : (5 ≤ nI a) = (5 ≤ a) := propext (nI_leI (a := 5) (by decide) h)
theorem an_t5 {a : Nat} (h : a < 2 ^ 31) : (nI a < 5) = (a < 5) := propext (nI_ltI (b := 5) h (by decide))
theorem an_u5 {a : Nat} (h : a < 2 ^ 31) : (5 < nI a) = (5 < a) := propext (nI_ltI (a := 5) (by decide) h)
theorem an_a5 (a : Nat) : nI a + 5 = nI (a + 5) := nI_add a 5
theorem an_b5 (a : Nat) : 5 + nI a = nI (5 + a) := nI_add 5 a
theorem an_m5 (a : Nat) : nI a * 5 = nI (a * 5) := pk_mul a 5
theorem an_n5 (a : Nat) : 5 * nI a = nI (a * 5) := by rw [Nat.mul_comm]; exact pk_mul 5 a
theorem an_k5 : (5 : Int32) = nI 5 := rfl
theorem an_e6 {a : Nat} (h : a < 2 ^ 31) : (nI a = 6) = (a = 6) := propext (nI_eq (b := 6) h (by decide))
theorem an_l6 {a : Nat} (h : a < 2 ^ 31) : (nI a ≤ 6) = (a ≤ 6) := propext (nI_leI (b := 6) h (by decide))
theorem an_g6 {a : Nat} (h : a < 2 ^ 31) : (6 ≤ nI a) = (6 ≤ a) := propext (nI_leI (a := 6) (by decide) h)
theorem an_t6 {a : Nat} (h : a < 2 ^ 31) : (nI a < 6) = (a < 6) := propext (nI_ltI (b := 6) h (by decide))
theorem an_u6 {a : Nat} (h : a < 2 ^ 31) : (6 < nI a) = (6 < a) := propext (nI_ltI (a := 6) (by decide) h)
theorem an_a6 (a : Nat) : nI a + 6 = nI (a + 6) := nI_add a 6
theorem an_b6 (a : Nat) : 6 + nI a = nI (6 + a) := nI_add 6 a
theorem an_m6 (a : Nat) : nI a * 6 = nI (a * 6) := pk_mul a 6
theorem an_n6 (a : Nat) : 6 * nI a = nI (a * 6) := by rw [Nat.mul_comm]; exact pk_mul 6 a
theorem an_k6 : (6 : Int32) = nI 6 := rfl
theorem an_e9 {a : Nat} (h : a < 2 ^ 31) : (nI a = 9) = (a = 9) := propext (nI_eq (b := 9) h (by decide))
theorem an_l9 {a : Nat} (h : a < 2 ^ 31) : (nI a ≤ 9) = (a ≤ 9) := propext (nI_leI (b := 9) h (by decide))
theorem an_g9 {a : Nat} (h : a < 2 ^ 31) : (9 ≤ nI a) = (9 ≤ a) := propext (nI_leI (a := 9) (by decide) h)
theorem an_t9 {a : Nat} (h : a < 2 ^ 31) : (nI a < 9) = (a < 9) := propext (nI_ltI (b := 9) h (by decide))
theorem an_u9 {a : Nat} (h : a < 2 ^ 31) : (9 < nI a) = (9 < a) := propext (nI_ltI (a := 9) (by decide) h)
theorem an_a9 (a : Nat) : nI a + 9 = nI (a + 9) := nI_add a 9
theorem an_b9 (a : Nat) : 9 + nI a = nI (9 + a) := nI_add 9 a
theorem an_m9 (a : Nat) : nI a * 9 = nI (a * 9) := pk_mul a 9
theorem an_n9 (a : Nat) : 9 * nI a = nI (a * 9) := by rw [Nat.mul_comm]; exact pk_mul 9 a
theorem an_k9 : (9 : Int32) = nI 9 := rfl
theorem an_e10 {a : Nat} (h : a < 2 ^ 31) : (nI a = 10) = (a = 10) := propext (nI_eq (b := 10) h (by decide))
theorem an_l10 {a : Nat} (h : a < 2 ^ 31) : (nI a ≤ 10) = (a ≤ 10) := propext (nI_leI (b := 10) h (by decide))
theorem an_g10 {a : Nat} (h : a < 2 ^ 31) : (10 ≤ nI a) = (10 ≤ a) := propext (nI_leI (a := 10) (by decide) h)
theorem an_t10 {a : Nat} (h : a < 2 ^ 31) : (nI a < 10) = (a < 10) := propext (nI_ltI (b := 10) h (by decide))
theorem an_u10 {a : Nat} (h : a < 2 ^ 31) : (10 < nI a) = (10 < a) := propext (nI_ltI (a := 10) (by decide) h)
theorem an_a10 (a : Nat) : nI a + 10 = nI (a + 10) := nI_add a 10
theorem an_b10 (a : Nat) : 10 + nI a = nI (10 + a) := nI_add 10 a
theorem an_m10 (a : Nat) : nI a * 10 = nI (a * 10) := pk_mul a 10
theorem an_n10 (a : Nat) : 10 * nI a = nI (a * 10) := by rw [Nat.mul_comm]; exact pk_mul 10 a
theorem an_k10 : (10 : Int32) = nI 10 := rfl
theorem an_e12 {a : Nat} (h : a < 2 ^ 31) : (nI a = 12) = (a = 12) := propext (nI_eq (b := 12) h (by decide))
theorem an_l12 {a : Nat} (h : a < 2 ^ 31) : (nI a ≤ 12) = (a ≤ 12) := propext (nI_leI (b := 12) h (by decide))
theorem an_g12 {a : Nat} (h : a < 2 ^ 31) : (12 ≤ nI a) = (12 ≤ a) := propext (nI_leI (a := 12) (by decide) h)
theorem an_t12 {a : Nat} (h : a < 2 ^ 31) : (nI a < 12) = (a < 12) := propext (nI_ltI (b := 12) h (by decide))
theorem an_u12 {a : Nat} (h : a < 2 ^ 31) : (12 < nI a) = (12 < a) := propext (nI_ltI (a := 12) (by decide) h)
theorem an_a12 (a : Nat) : nI a + 12 = nI (a + 12) := nI_add a 12
theorem an_b12 (a : Nat) : 12 + nI a = nI (12 + a) := nI_add 12 a
theorem an_m12 (a : Nat) : nI a * 12 = nI (a * 12) := pk_mul a 12
theorem an_n12 (a : Nat) : 12 * nI a = nI (a * 12) := by rw [Nat.mul_comm]; exact pk_mul 12 a
theorem an_k12 : (12 : Int32) = nI 12 := rfl
theorem an_e13 {a : Nat} (h : a < 2 ^ 31) : (nI a = 13) = (a = 13) := propext (nI_eq (b := 13) h (by decide))
theorem an_l13 {a : Nat} (h : a < 2 ^ 31) : (nI a ≤ 13) = (a ≤ 13) := propext (nI_leI (b := 13) h (by decide))
theorem an_g13 {a : Nat} (h : a < 2 ^ 31) : (13 ≤ nI a) = (13 ≤ a) := propext (nI_leI (a := 13) (by decide) h)
theorem an_t13 {a : Nat} (h : a < 2 ^ 31) : (nI a < 13) = (a < 13) := propext (nI_ltI (b := 13) h (by decide))
theorem an_u13 {a : Nat} (h : a < 2 ^ 31) : (13 < nI a) = (13 < a) := propext (nI_ltI (a := 13) (by decide) h)
theorem an_a13 (a : Nat) : nI a + 13 = nI (a + 13) := nI_add a 13
theorem an_b13 (a : Nat) : 13 + nI a = nI (13 + a) := nI_add 13 a
theorem an_m13 (a : Nat) : nI a * 13 = nI (a * 13) := pk_mul a 13
theorem an_n13 (a : Nat) : 13 * nI a = nI (a * 13) := by rw [Nat.mul_comm]; exact pk_mul 13 a
theorem an_k13 : (13 : Int32) = nI 13 := rfl
theorem an_e14 {a : Nat} (h : a < 2 ^ 31) : (nI a = 14) = (a = 14) := propext (nI_eq (b := 14) h (by decide))
theorem an_l14 {a : Nat} (h : a < 2 ^ 31) : (nI a ≤ 14) = (a ≤ 14) := propext (nI_leI (b := 14) h (by decide))
theorem an_g14 {a : Nat} (h : a < 2 ^ 31) : (14 ≤ nI a) = (14 ≤ a) := propext (nI_leI (a := 14) (by decide) h)
theorem an_t14 {a : Nat} (h : a < 2 ^ 31) : (nI a < 14) = (a < 14) := propext (nI_ltI (b := 14) h (by decide))
theorem an_u14 {a : Nat} (h : a < 2 ^ 31) : (14 < nI a) = (14 < a) := propext (nI_ltI (a := 14) (by decide) h)
theorem an_a14 (a : Nat) : nI a + 14 = nI (a + 14) := nI_add a 14
theorem an_b14 (a : Nat) : 14 + nI a = nI (14 + a) := nI_add 14 a
theorem an_m14 (a : Nat) : nI a * 14 = nI (a * 14) := pk_mul a 14
theorem an_n14 (a : Nat) : 14 * nI a = nI (a * 14) := by rw [Nat.mul_comm]; exact pk_mul 14 a
theorem an_k14 : (14 : Int32) = nI 14 := rfl
theorem an_e15 {a : Nat} (h : a < 2 ^ 31) : (nI a = 15) = (a = 15) := propext (nI_eq (b := 15) h (by decide))
theorem an_l15 {a : Nat} (h : a < 2 ^ 31) : (nI a ≤ 15) = (a ≤ 15) := propext (nI_leI (b := 15) h (by decide))
theorem an_g15 {a : Nat} (h : a < 2 ^ 31) : (15 ≤ nI a) = (15 ≤ a) := propext (nI_leI (a := 15) (by decide) h)
theorem an_t15 {a : Nat} (h : a < 2 ^ 31) : (nI a < 15) = (a < 15) := propext (nI_ltI (b := 15) h (by decide))
theorem an_u15 {a : Nat} (h : a < 2 ^ 31) : (15 < nI a) = (15 < a) := propext (nI_ltI (a := 15) (by decide) h)
theorem an_a15 (a : Nat) : nI a + 15 = nI (a + 15) := nI_add a 15
theorem an_b15 (a : Nat) : 15 + nI a = nI (15 + a) := nI_add 15 a
theorem an_m15 (a : Nat) : nI a * 15 = nI (a * 15) := pk_mul a 15
theorem an_n15 (a : Nat) : 15 * nI a = nI (a * 15) := by rw [Nat.mul_comm]; exact pk_mul 15 a
theorem an_k15 : (15 : Int32) = nI 15 := rfl
theorem an_e16 {a : Nat} (h : a < 2 ^ 31) : (nI a = 16) = (a = 16) := propext (nI_eq (b := 16) h (by decide))
theorem an_l16 {a : Nat} (h : a < 2 ^ 31) : (nI a ≤ 16) = (a ≤ 16) := propext (nI_leI (b := 16) h (by decide))
theorem an_g16 {a : Nat} (h : a < 2 ^ 31) : (16 ≤ nI a) = (16 ≤ a) := propext (nI_leI (a := 16) (by decide) h)
theorem an_t16 {a : Nat} (h : a < 2 ^ 31) : (nI a < 16) = (a < 16) := propext (nI_ltI (b := 16) h (by decide))
theorem an_u16 {a : Nat} (h : a < 2 ^ 31) : (16 < nI a) = (16 < a) := propext (nI_ltI (a := 16) (by decide) h)
theorem an_a16 (a : Nat) : nI a + 16 = nI (a + 16) := nI_add a 16
theorem an_b16 (a : Nat) : 16 + nI a = nI (16 + a) := nI_add 16 a
theorem an_m16 (a : Nat) : nI a * 16 = nI (a * 16) := pk_mul a 16
theorem an_n16 (a : Nat) : 16 * nI a = nI (a * 16) := by rw [Nat.mul_comm]; exact pk_mul 16 a
theorem an_k16 : (16 : Int32) = nI 16 := rfl
theorem an_e20 {a : Nat} (h : a < 2 ^ 31) : (nI a = 20) = (a = 20) := propext (nI_eq (b := 20) h (by decide))
theorem an_l20 {a : Nat} (h : a < 2 ^ 31) : (nI a ≤ 20) = (a ≤ 20) := propext (nI_leI (b := 20) h (by decide))
theorem an_g20 {a : Nat} (h : a < 2 ^ 31) : (20 ≤ nI a) = (20 ≤ a) := propext (nI_leI (a := 20) (by decide) h)
theorem an_t20 {a : Nat} (h : a < 2 ^ 31) : (nI a < 20) = (a < 20) := propext (nI_ltI (b := 20) h (by decide))
theorem an_u20 {a : Nat} (h : a < 2 ^ 31) : (20 < nI a) = (20 < a) := propext (nI_ltI (a := 20) (by decide) h)
theorem an_a20 (a : Nat) : nI a + 20 = nI (a + 20) := nI_add a 20
theorem an_b20 (a : Nat) : 20 + nI a = nI (20 + a) := nI_add 20 a
theorem an_m20 (a : Nat) : nI a * 20 = nI (a * 20) := pk_mul a 20
theorem an_n20 (a : Nat) : 20 * nI a = nI (a * 20) := by rw [Nat.mul_comm]; exact pk_mul 20 a
theorem an_k20 : (20 : Int32) = nI 20 := rfl
theorem an_e21 {a : Nat} (h : a < 2 ^ 31) : (nI a = 21) = (a = 21) := propext (nI_eq (b := 21) h (by decide))
theorem an_l21 {a : Nat} (h : a < 2 ^ 31) : (nI a ≤ 21) = (a ≤ 21) := propext (nI_leI (b := 21) h (by decide))
theorem an_g21 {a : Nat} (h : a < 2 ^ 31) : (21 ≤ nI a) = (21 ≤ a) := propext (nI_leI (a := 21) (by decide) h)
theorem an_t21 {a : Nat} (h : a < 2 ^ 31) : (nI a < 21) = (a < 21) := propext (nI_ltI (b := 21) h (by decide))
theorem an_u21 {a : Nat} (h : a < 2 ^ 31) : (21 < nI a) = (21 < a) := propext (nI_ltI (a := 21) (by decide) h)
theorem an_a21 (a : Nat) : nI a + 21 = nI (a + 21) := nI_add a 21
theorem an_b21 (a : Nat) : 21 + nI a = nI (21 + a) := nI_add 21 a
theorem an_m21 (a : Nat) : nI a * 21 = nI (a * 21) := pk_mul a 21
theorem an_n21 (a : Nat) : 21 * nI a = nI (a * 21) := by rw [Nat.mul_comm]; exact pk_mul 21 a
theorem an_k21 : (21 : Int32) = nI 21 := rfl
theorem an_e22 {a : Nat} (h : a < 2 ^ 31) : (nI a = 22) = (a = 22) := propext (nI_eq (b := 22) h (by decide))
theorem an_l22 {a : Nat} (h : a < 2 ^ 31) : (nI a ≤ 22) = (a ≤ 22) := propext (nI_leI (b := 22) h (by decide))
theorem an_g22 {a : Nat} (h : a < 2 ^ 31) : (22 ≤ nI a) = (22 ≤ a) := propext (nI_leI (a := 22) (by decide) h)
theorem an_t22 {a : Nat} (h : a < 2 ^ 31) : (nI a < 22) = (a < 22) := propext (nI_ltI (b := 22) h (by decide))
theorem an_u22 {a : Nat} (h : a < 2 ^ 31) : (22 < nI a) = (22 < a) := propext (nI_ltI (a := 22) (by decide) h)
theorem an_a22 (a : Nat) : nI a + 22 = nI (a + 22) := nI_add a 22
theorem an_b22 (a : Nat) : 22 + nI a = nI (22 + a) := nI_add 22 a
theorem an_m22 (a : Nat) : nI a * 22 = nI (a * 22) := pk_mul a 22
theorem an_n22 (a : Nat) : 22 * nI a = nI (a * 22) := by rw [Nat.mul_comm]; exact pk_mul 22 a
theorem an_k22 : (22 : Int32) = nI 22 := rfl
theorem an_e23 {a : Nat} (h : a < 2 ^ 31) : (nI a = 23) = (a = 23) := propext (nI_eq (b := 23) h (by decide))
theorem an_l23 {a : Nat} (h : a < 2 ^ 31) : (nI a ≤ 23) = (a ≤ 23) := propext (nI_leI (b := 23) h (by decide))
theorem an_g23 {a : Nat} (h : a < 2 ^ 31) : (23 ≤ nI a) = (23 ≤ a) := propext (nI_leI (a := 23) (by decide) h)
theorem an_t23 {a : Nat} (h : a < 2 ^ 31) : (nI a < 23) = (a < 23) := propext (nI_ltI (b := 23) h (by decide))
theorem an_u23 {a : Nat} (h : a < 2 ^ 31) : (23 < nI a) = (23 < a) := propext (nI_ltI (a := 23) (by decide) h)
theorem an_a23 (a : Nat) : nI a + 23 = nI (a + 23) := nI_add a 23
theorem an_b23 (a : Nat) : 23 + nI a = nI (23 + a) := nI_add 23 a
theorem an_m23 (a : Nat) : nI a * 23 = nI (a * 23) := pk_mul a 23
theorem an_n23 (a : Nat) : 23 * nI a = nI (a * 23) := by rw [Nat.mul_comm]; exact pk_mul 23 a
theorem an_k23 : (23 : Int32) = nI 23 := rfl
theorem an_e24 {a : Nat} (h : a < 2 ^ 31) : (nI a = 24) = (a = 24) := propext (nI_eq (b := 24) h (by decide))
theorem an_l24 {a : Nat} (h : a < 2 ^ 31) : (nI a ≤ 24) = (a ≤ 24) := propext (nI_leI (b := 24) h (by decide))
theorem an_g24 {a : Nat} (h : a < 2 ^ 31) : (24 ≤ nI a) = (24 ≤ a) := propext (nI_leI (a := 24) (by decide) h)
theorem an_t24 {a : Nat} (h : a < 2 ^ 31) : (nI a < 24) = (a < 24) := propext (nI_ltI (b := 24) h (by decide))
theorem an_u24 {a : Nat} (h : a < 2 ^ 31) : (24 < nI a) = (24 < a) := propext (nI_ltI (a := 24) (by decide) h)
theorem an_a24 (a : Nat) : nI a + 24 = nI (a + 24) := nI_add a 24
theorem an_b24 (a : Nat) : 24 + nI a = nI (24 + a) := nI_add 24 a
theorem an_m24 (a : Nat) : nI a * 24 = nI (a * 24) := pk_mul a 24
theorem an_n24 (a : Nat) : 24 * nI a = nI (a * 24) := by rw [Nat.mul_comm]; exact pk_mul 24 a
theorem an_k24 : (24 : Int32) = nI 24 := rfl
theorem an_e25 {a : Nat} (h : a < 2 ^ 31) : (nI a = 25) = (a = 25) := propext (nI_eq (b := 25) h (by decide))
theorem an_l25 {a : Nat} (h : a < 2 ^ 31) : (nI a ≤ 25) = (a ≤ 25) := propext (nI_leI (b := 25) h (by decide))
theorem an_g25 {a : Nat} (h : a < 2 ^ 31) : (25 ≤ nI a) = (25 ≤ a) := propext (nI_leI (a := 25) (by decide) h)
theorem an_t25 {a : Nat} (h : a < 2 ^ 31) : (nI a < 25) = (a < 25) := propext (nI_ltI (b := 25) h (by decide))
theorem an_u25 {a : Nat} (h : a < 2 ^ 31) : (25 < nI a) = (25 < a) := propext (nI_ltI (a := 25) (by decide) h)
theorem an_a25 (a : Nat) : nI a + 25 = nI (a + 25) := nI_add a 25
theorem an_b25 (a : Nat) : 25 + nI a = nI (25 + a) := nI_add 25 a
theorem an_m25 (a : Nat) : nI a * 25 = nI (a * 25) := pk_mul a 25
theorem an_n25 (a : Nat) : 25 * nI a = nI (a * 25) := by rw [Nat.mul_comm]; exact pk_mul 25 a
theorem an_k25 : (25 : Int32) = nI 25 := rfl
theorem an_e26 {a : Nat} (h : a < 2 ^ 31) : (nI a = 26) = (a = 26) := propext (nI_eq (b := 26) h (by decide))
theorem an_l26 {a : Nat} (h : a < 2 ^ 31) : (nI a ≤ 26) = (a ≤ 26) := propext (nI_leI (b := 26) h (by decide))
theorem an_g26 {a : Nat} (h : a < 2 ^ 31) : (26 ≤ nI a) = (26 ≤ a) := propext (nI_leI (a := 26) (by decide) h)
theorem an_t26 {a : Nat} (h : a < 2 ^ 31) : (nI a < 26) = (a < 26) := propext (nI_ltI (b := 26) h (by decide))
theorem an_u26 {a : Nat} (h : a < 2 ^ 31) : (26 < nI a) = (26 < a) := propext (nI_ltI (a := 26) (by decide) h)
theorem an_a26 (a : Nat) : nI a + 26 = nI (a + 26) := nI_add a 26
theorem an_b26 (a : Nat) : 26 + nI a = nI (26 + a) := nI_add 26 a
theorem an_m26 (a : Nat) : nI a * 26 = nI (a * 26) := pk_mul a 26
theorem an_n26 (a : Nat) : 26 * nI a = nI (a * 26) := by rw [Nat.mul_comm]; exact pk_mul 26 a
theorem an_k26 : (26 : Int32) = nI 26 := rfl
theorem an_e27 {a : Nat} (h : a < 2 ^ 31) : (nI a = 27) = (a = 27) := propext (nI_eq (b := 27) h (by decide))
theorem an_l27 {a : Nat} (h : a < 2 ^ 31) : (nI a ≤ 27) = (a ≤ 27) := propext (nI_leI (b := 27) h (by decide))
theorem an_g27 {a : Nat} (h : a < 2 ^ 31) : (27 ≤ nI a) = (27 ≤ a) := propext (nI_leI (a := 27) (by decide) h)
theorem an_t27 {a : Nat} (h : a < 2 ^ 31) : (nI a < 27) = (a < 27) := propext (nI_ltI (b := 27) h (by decide))
theorem an_u27 {a : Nat} (h : a < 2 ^ 31) : (27 < nI a) = (27 < a) := propext (nI_ltI (a := 27) (by decide) h)
theorem an_a27 (a : Nat) : nI a + 27 = nI (a + 27) := nI_add a 27
theorem an_b27 (a : Nat) : 27 + nI a = nI (27 + a) := nI_add 27 a
theorem an_m27 (a : Nat) : nI a * 27 = nI (a * 27) := pk_mul a 27
theorem an_n27 (a : Nat) : 27 * nI a = nI (a * 27) := by rw [Nat.mul_comm]; exact pk_mul 27 a
theorem an_k27 : (27 : Int32) = nI 27 := rfl
theorem an_e28 {a : Nat} (h : a < 2 ^ 31) : (nI a = 28) = (a = 28) := propext (nI_eq (b := 28) h (by decide))
theorem an_l28 {a : Nat} (h : a < 2 ^ 31) : (nI a ≤ 28) = (a ≤ 28) := propext (nI_leI (b := 28) h (by decide))
theorem an_g28 {a : Nat} (h : a < 2 ^ 31) : (28 ≤ nI a) = (28 ≤ a) := propext (nI_leI (a := 28) (by decide) h)
theorem an_t28 {a : Nat} (h : a < 2 ^ 31) : (nI a < 28) = (a < 28) := propext (nI_ltI (b := 28) h (by decide))
theorem an_u28 {a : Nat} (h : a < 2 ^ 31) : (28 < nI a) = (28 < a) := propext (nI_ltI (a := 28) (by decide) h)
theorem an_a28 (a : Nat) : nI a + 28 = nI (a + 28) := nI_add a 28
theorem an_b28 (a : Nat) : 28 + nI a = nI (28 + a) := nI_add 28 a
theorem an_m28 (a : Nat) : nI a * 28 = nI (a * 28) := pk_mul a 28
theorem an_n28 (a : Nat) : 28 * nI a = nI (a * 28) := by rw [Nat.mul_comm]; exact pk_mul 28 a
theorem an_k28 : (28 : Int32) = nI 28 := rfl
theorem an_e29 {a : Nat} (h : a < 2 ^ 31) : (nI a = 29) = (a = 29) := propext (nI_eq (b := 29) h (by decide))
theorem an_l29 {a : Nat} (h : a < 2 ^ 31) : (nI a ≤ 29) = (a ≤ 29) := propext (nI_leI (b := 29) h (by decide))
theorem an_g29 {a : Nat} (h : a < 2 ^ 31) : (29 ≤ nI a) = (29 ≤ a) := propext (nI_leI (a := 29) (by decide) h)
theorem an_t29 {a : Nat} (h : a < 2 ^ 31) : (nI a < 29) = (a < 29) := propext (nI_ltI (b := 29) h (by decide))
theorem an_u29 {a : Nat} (h : a < 2 ^ 31) : (29 < nI a) = (29 < a) := propext (nI_ltI (a := 29) (by decide) h)
theorem an_a29 (a : Nat) : nI a + 29 = nI (a + 29) := nI_add a 29
theorem an_b29 (a : Nat) : 29 + nI a = nI (29 + a) := nI_add 29 a
theorem an_m29 (a : Nat) : nI a * 29 = nI (a * 29) := pk_mul a 29
theorem an_n29 (a : Nat) : 29 * nI a = nI (a * 29) := by rw [Nat.mul_comm]; exact pk_mul 29 a
theorem an_k29 : (29 : Int32) = nI 29 := rfl
theorem an_e30 {a : Nat} (h : a < 2 ^ 31) : (nI a = 30) = (a = 30) := propext (nI_eq (b := 30) h (by decide))
theorem an_l30 {a : Nat} (h : a < 2 ^ 31) : (nI a ≤ 30) = (a ≤ 30) := propext (nI_leI (b := 30) h (by decide))
theorem an_g30 {a : Nat} (h : a < 2 ^ 31) : (30 ≤ nI a) = (30 ≤ a) := propext (nI_leI (a := 30) (by decide) h)
theorem an_t30 {a : Nat} (h : a < 2 ^ 31) : (nI a < 30) = (a < 30) := propext (nI_ltI (b := 30) h (by decide))
theorem an_u30 {a : Nat} (h : a < 2 ^ 31) : (30 < nI a) = (30 < a) := propext (nI_ltI (a := 30) (by decide) h)
theorem an_a30 (a : Nat) : nI a + 30 = nI (a + 30) := nI_add a 30
theorem an_b30 (a : Nat) : 30 + nI a = nI (30 + a) := nI_add 30 a
theorem an_m30 (a : Nat) : nI a * 30 = nI (a * 30) := pk_mul a 30
theorem an_n30 (a : Nat) : 30 * nI a = nI (a * 30) := by rw [Nat.mul_comm]; exact pk_mul 30 a
theorem an_k30 : (30 : Int32) = nI 30 := rfl
theorem an_e31 {a : Nat} (h : a < 2 ^ 31) : (nI a = 31) = (a = 31) := propext (nI_eq (b := 31) h (by decide))
theorem an_l31 {a : Nat} (h : a < 2 ^ 31) : (nI a ≤ 31) = (a ≤ 31) := propext (nI_leI (b := 31) h (by decide))
theorem an_g31 {a : Nat} (h : a < 2 ^ 31) : (31 ≤ nI a) = (31 ≤ a) := propext (nI_leI (a := 31) (by decide) h)
theorem an_t31 {a : Nat} (h : a < 2 ^ 31) : (nI a < 31) = (a < 31) := propext (nI_ltI (b := 31) h (by decide))
theorem an_u31 {a : Nat} (h : a < 2 ^ 31) : (31 < nI a) = (31 < a) := propext (nI_ltI (a := 31) (by decide) h)
theorem an_a31 (a : Nat) : nI a + 31 = nI (a + 31) := nI_add a 31
theorem an_b31 (a : Nat) : 31 + nI a = nI (31 + a) := nI_add 31 a
theorem an_m31 (a : Nat) : nI a * 31 = nI (a * 31) := pk_mul a 31
theorem an_n31 (a : Nat) : 31 * nI a = nI (a * 31) := by rw [Nat.mul_comm]; exact pk_mul 31 a
theorem an_k31 : (31 : Int32) = nI 31 := rfl
theorem an_e32 {a : Nat} (h : a < 2 ^ 31) : (nI a = 32) = (a = 32) := propext (nI_eq (b := 32) h (by decide))
theorem an_l32 {a : Nat} (h : a < 2 ^ 31) : (nI a ≤ 32) = (a ≤ 32) := propext (nI_leI (b := 32) h (by decide))
theorem an_g32 {a : Nat} (h : a < 2 ^ 31) : (32 ≤ nI a) = (32 ≤ a) := propext (nI_leI (a := 32) (by decide) h)
theorem an_t32 {a : Nat} (h : a < 2 ^ 31) : (nI a < 32) = (a < 32) := propext (nI_ltI (b := 32) h (by decide))
theorem an_u32 {a : Nat} (h : a < 2 ^ 31) : (32 < nI a) = (32 < a) := propext (nI_ltI (a := 32) (by decide) h)
theorem an_a32 (a : Nat) : nI a + 32 = nI (a + 32) := nI_add a 32
theorem an_b32 (a : Nat) : 32 + nI a = nI (32 + a) := nI_add 32 a
theorem an_m32 (a : Nat) : nI a * 32 = nI (a * 32) := pk_mul a 32
theorem an_n32 (a : Nat) : 32 * nI a = nI (a * 32) := by rw [Nat.mul_comm]; exact pk_mul 32 a
theorem an_k32 : (32 : Int32) = nI 32 := rfl
theorem an_e33 {a : Nat} (h : a < 2 ^ 31) : (nI a = 33) = (a = 33) := propext (nI_eq (b := 33) h (by decide))
theorem an_l33 {a : Nat} (h : a < 2 ^ 31) : (nI a ≤ 33) = (a ≤ 33) := propext (nI_leI (b := 33) h (by decide))
theorem an_g33 {a : Nat} (h : a < 2 ^ 31) : (33 ≤ nI a) = (33 ≤ a) := propext (nI_leI (a := 33) (by decide) h)
theorem an_t33 {a : Nat} (h : a < 2 ^ 31) : (nI a < 33) = (a < 33) := propext (nI_ltI (b := 33) h (by decide))
theorem an_u33 {a : Nat} (h : a < 2 ^ 31) : (33 < nI a) = (33 < a) := propext (nI_ltI (a := 33) (by decide) h)
theorem an_a33 (a : Nat) : nI a + 33 = nI (a + 33) := nI_add a 33
theorem an_b33 (a : Nat) : 33 + nI a = nI (33 + a) := nI_add 33 a
theorem an_m33 (a : Nat) : nI a * 33 = nI (a * 33) := pk_mul a 33
theorem an_n33 (a : Nat) : 33 * nI a = nI (a * 33) := by rw [Nat.mul_comm]; exact pk_mul 33 a
theorem an_k33 : (33 : Int32) = nI 33 := rfl
theorem an_e34 {a : Nat} (h : a < 2 ^ 31) : (nI a = 34) = (a = 34) := propext (nI_eq (b := 34) h (by decide))
theorem an_l34 {a : Nat} (h : a < 2 ^ 31) : (nI a ≤ 34) = (a ≤ 34) := propext (nI_leI (b := 34) h (by decide))
theorem an_g34 {a : Nat} (h : a < 2 ^ 31) : (34 ≤ nI a) = (34 ≤ a) := propext (nI_leI (a := 34) (by decide) h)
theorem an_t34 {a : Nat} (h : a < 2 ^ 31) : (nI a < 34) = (a < 34) := propext (nI_ltI (b := 34) h (by decide))
theorem an_u34 {a : Nat} (h : a < 2 ^ 31) : (34 < nI a) = (34 < a) := propext (nI_ltI (a := 34) (by decide) h)
theorem an_a34 (a : Nat) : nI a + 34 = nI (a + 34) := nI_add a 34
theorem an_b34 (a : Nat) : 34 + nI a = nI (34 + a) := nI_add 34 a
theorem an_m34 (a : Nat) : nI a * 34 = nI (a * 34) := pk_mul a 34
theorem an_n34 (a : Nat) : 34 * nI a = nI (a * 34) := by rw [Nat.mul_comm]; exact pk_mul 34 a
theorem an_k34 : (34 : Int32) = nI 34 := rfl
theorem an_e35 {a : Nat} (h : a < 2 ^ 31) : (nI a = 35) = (a = 35) := propext (nI_eq (b := 35) h (by decide))
theorem an_l35 {a : Nat} (h : a < 2 ^ 31) : (nI a ≤ 35) = (a ≤ 35) := propext (nI_leI (b := 35) h (by decide))
theorem an_g35 {a : Nat} (h : a < 2 ^ 31) : (35 ≤ nI a) = (35 ≤ a) := propext (nI_leI (a := 35) (by decide) h)
theorem an_t35 {a : Nat} (h : a < 2 ^ 31) : (nI a < 35) = (a < 35) := propext (nI_ltI (b := 35) h (by decide))
theorem an_u35 {a : Nat} (h : a < 2 ^ 31) : (35 < nI a) = (35 < a) := propext (nI_ltI (a := 35) (by decide) h)
theorem an_a35 (a : Nat) : nI a + 35 = nI (a + 35) := nI_add a 35
theorem an_b35 (a : Nat) : 35 + nI a = nI (35 + a) := nI_add 35 a
theorem an_m35 (a : Nat) : nI a * 35 = nI (a * 35) := pk_mul a 35
theorem an_n35 (a : Nat) : 35 * nI a = nI (a * 35) := by rw [Nat.mul_comm]; exact pk_mul 35 a
theorem an_k35 : (35 : Int32) = nI 35 := rfl
theorem an_e36 {a : Nat} (h : a < 2 ^ 31) : (nI a = 36) = (a = 36) := propext (nI_eq (b := 36) h (by decide))
theorem an_l36 {a : Nat} (h : a < 2 ^ 31) : (nI a ≤ 36) = (a ≤ 36) := propext (nI_leI (b := 36) h (by decide))
theorem an_g36 {a : Nat} (h : a < 2 ^ 31) : (36 ≤ nI a) = (36 ≤ a) := propext (nI_leI (a := 36) (by decide) h)
theorem an_t36 {a : Nat} (h : a < 2 ^ 31) : (nI a < 36) = (a < 36) := propext (nI_ltI (b := 36) h (by decide))
theorem an_u36 {a : Nat} (h : a < 2 ^ 31) : (36 < nI a) = (36 < a) := propext (nI_ltI (a := 36) (by decide) h)
theorem an_a36 (a : Nat) : nI a + 36 = nI (a + 36) := nI_add a 36
theorem an_b36 (a : Nat) : 36 + nI a = nI (36 + a) := nI_add 36 a
theorem an_m36 (a : Nat) : nI a * 36 = nI (a * 36) := pk_mul a 36
theorem an_n36 (a : Nat) : 36 * nI a = nI (a * 36) := by rw [Nat.mul_comm]; exact pk_mul 36 a
theorem an_k36 : (36 : Int32) = nI 36 := rfl
theorem an_e37 {a : Nat} (h : a < 2 ^ 31) : (nI a = 37) = (a = 37) := propext (nI_eq (b := 37) h (by decide))
theorem an_l37 {a : Nat} (h : a < 2 ^ 31) : (nI a ≤ 37) = (a ≤ 37) := propext (nI_leI (b := 37) h (by decide))
theorem an_g37 {a : Nat} (h : a < 2 ^ 31) : (37 ≤ nI a) = (37 ≤ a) := propext (nI_leI (a := 37) (by decide) h)
theorem an_t37 {a : Nat} (h : a < 2 ^ 31) : (nI a < 37) = (a < 37) := propext (nI_ltI (b := 37) h (by decide))
theorem an_u37 {a : Nat} (h : a < 2 ^ 31) : (37 < nI a) = (37 < a) := propext (nI_ltI (a := 37) (by decide) h)
theorem an_a37 (a : Nat) : nI a + 37 = nI (a + 37) := nI_add a 37
theorem an_b37 (a : Nat) : 37 + nI a = nI (37 + a) := nI_add 37 a
theorem an_m37 (a : Nat) : nI a * 37 = nI (a * 37) := pk_mul a 37
theorem an_n37 (a : Nat) : 37 * nI a = nI (a * 37) := by rw [Nat.mul_comm]; exact pk_mul 37 a
theorem an_k37 : (37 : Int32) = nI 37 := rfl
theorem an_e38 {a : Nat} (h : a < 2 ^ 31) : (nI a = 38) = (a = 38) := propext (nI_eq (b := 38) h (by decide))
theorem an_l38 {a : Nat} (h : a < 2 ^ 31) : (nI a ≤ 38) = (a ≤ 38) := propext (nI_leI (b := 38) h (by decide))
theorem an_g38 {a : Nat} (h : a < 2 ^ 31) : (38 ≤ nI a) = (38 ≤ a) := propext (nI_leI (a := 38) (by decide) h)
theorem an_t38 {a : Nat} (h : a < 2 ^ 31) : (nI a < 38) = (a < 38) := propext (nI_ltI (b := 38) h (by decide))
theorem an_u38 {a : Nat} (h : a < 2 ^ 31) : (38 < nI a) = (38 < a) := propext (nI_ltI (a := 38) (by decide) h)
theorem an_a38 (a : Nat) : nI a + 38 = nI (a + 38) := nI_add a 38
theorem an_b38 (a : Nat) : 38 + nI a = nI (38 + a) := nI_add 38 a
theorem an_m38 (a : Nat) : nI a * 38 = nI (a * 38) := pk_mul a 38
theorem an_n38 (a : Nat) : 38 * nI a = nI (a * 38) := by rw [Nat.mul_comm]; exact pk_mul 38 a
theorem an_k38 : (38 : Int32) = nI 38 := rfl
theorem an_e39 {a : Nat} (h : a < 2 ^ 31) : (nI a = 39) = (a = 39) := propext (nI_eq (b := 39) h (by decide))
theorem an_l39 {a : Nat} (h : a < 2 ^ 31) : (nI a ≤ 39) = (a ≤ 39) := propext (nI_leI (b := 39) h (by decide))
theorem an_g39 {a : Nat} (h : a < 2 ^ 31) : (39 ≤ nI a) = (39 ≤ a) := propext (nI_leI (a := 39) (by decide) h)
theorem an_t39 {a : Nat} (h : a < 2 ^ 31) : (nI a < 39) = (a < 39) := propext (nI_ltI (b := 39) h (by decide))
theorem an_u39 {a : Nat} (h : a < 2 ^ 31) : (39 < nI a) = (39 < a) := propext (nI_ltI (a := 39) (by decide) h)
theorem an_a39 (a : Nat) : nI a + 39 = nI (a + 39) := nI_add a 39
theorem an_b39 (a : Nat) : 39 + nI a = nI (39 + a) := nI_add 39 a
theorem an_m39 (a : Nat) : nI a * 39 = nI (a * 39) := pk_mul a 39
theorem an_n39 (a : Nat) : 39 * nI a = nI (a * 39) := by rw [Nat.mul_comm]; exact pk_mul 39 a
theorem an_k39 : (39 : Int32) = nI 39 := rfl
theorem an_e40 {a : Nat} (h : a < 2 ^ 31) : (nI a = 40) = (a = 40) := propext (nI_eq (b := 40) h (by decide))
theorem an_l40 {a : Nat} (h : a < 2 ^ 31) : (nI a ≤ 40) = (a ≤ 40) := propext (nI_leI (b := 40) h (by decide))
theorem an_g40 {a : Nat} (h : a < 2 ^ 31) : (40 ≤ nI a) = (40 ≤ a) := propext (nI_leI (a := 40) (by decide) h)
theorem an_t40 {a : Nat} (h : a < 2 ^ 31) : (nI a < 40) = (a < 40) := propext (nI_ltI (b := 40) h (by decide))
theorem an_u40 {a : Nat} (h : a < 2 ^ 31) : (40 < nI a) = (40 < a) := propext (nI_ltI (a := 40) (by decide) h)
theorem an_a40 (a : Nat) : nI a + 40 = nI (a + 40) := nI_add a 40
theorem an_b40 (a : Nat) : 40 + nI a = nI (40 + a) := nI_add 40 a
theorem an_m40 (a : Nat) : nI a * 40 = nI (a * 40) := pk_mul a 40
theorem an_n40 (a : Nat) : 40 * nI a = nI (a * 40) := by rw [Nat.mul_comm]; exact pk_mul 40 a
theorem an_k40 : (40 : Int32) = nI 40 := rfl
theorem an_e41 {a : Nat} (h : a < 2 ^ 31) : (nI a = 41) = (a = 41) := propext (nI_eq (b := 41) h (by decide))
theorem an_l41 {a : Nat} (h : a < 2 ^ 31) : (nI a ≤ 41) = (a ≤ 41) := propext (nI_leI (b := 41) h (by decide))
theorem an_g41 {a : Nat} (h : a < 2 ^ 31) : (41 ≤ nI a) = (41 ≤ a) := propext (nI_leI (a := 41) (by decide) h)
theorem an_t41 {a : Nat} (h : a < 2 ^ 31) : (nI a < 41) = (a < 41) := propext (nI_ltI (b := 41) h (by decide))
theorem an_u41 {a : Nat} (h : a < 2 ^ 31) : (41 < nI a) = (41 < a) := propext (nI_ltI (a := 41) (by decide) h)
theorem an_a41 (a : Nat) : nI a + 41 = nI (a + 41) := nI_add a 41
theorem an_b41 (a : Nat) : 41 + nI a = nI (41 + a) := nI_add 41 a
theorem an_m41 (a : Nat) : nI a * 41 = nI (a * 41) := pk_mul a 41
theorem an_n41 (a : Nat) : 41 * nI a = nI (a * 41) := by rw [Nat.mul_comm]; exact pk_mul 41 a
theorem an_k41 : (41 : Int32) = nI 41 := rfl
theorem an_e42 {a : Nat} (h : a < 2 ^ 31) : (nI a = 42) = (a = 42) := propext (nI_eq (b := 42) h (by decide))
theorem an_l42 {a : Nat} (h : a < 2 ^ 31) : (nI a ≤ 42) = (a ≤ 42) := propext (nI_leI (b := 42) h (by decide))
theorem an_g42 {a : Nat} (h : a < 2 ^ 31) : (42 ≤ nI a) = (42 ≤ a) := propext (nI_leI (a := 42) (by decide) h)
theorem an_t42 {a : Nat} (h : a < 2 ^ 31) : (nI a < 42) = (a < 42) := propext (nI_ltI (b := 42) h (by decide))
theorem an_u42 {a : Nat} (h : a < 2 ^ 31) : (42 < nI a) = (42 < a) := propext (nI_ltI (a := 42) (by decide) h)
theorem an_a42 (a : Nat) : nI a + 42 = nI (a + 42) := nI_add a 42
theorem an_b42 (a : Nat) : 42 + nI a = nI (42 + a) := nI_add 42 a
theorem an_m42 (a : Nat) : nI a * 42 = nI (a * 42) := pk_mul a 42
theorem an_n42 (a : Nat) : 42 * nI a = nI (a * 42) := by rw [Nat.mul_comm]; exact pk_mul 42 a
theorem an_k42 : (42 : Int32) = nI 42 := rfl
theorem an_e43 {a : Nat} (h : a < 2 ^ 31) : (nI a = 43) = (a = 43) := propext (nI_eq (b := 43) h (by decide))
theorem an_l43 {a : Nat} (h : a < 2 ^ 31) : (nI a ≤ 43) = (a ≤ 43) := propext (nI_leI (b := 43) h (by decide))
theorem an_g43 {a : Nat} (h : a < 2 ^ 31) : (43 ≤ nI a) = (43 ≤ a) := propext (nI_leI (a := 43) (by decide) h)
theorem an_t43 {a : Nat} (h : a < 2 ^ 31) : (nI a < 43) = (a < 43) := propext (nI_ltI (b := 43) h (by decide))
theorem an_u43 {a : Nat} (h : a < 2 ^ 31) : (43 < nI a) = (43 < a) := propext (nI_ltI (a := 43) (by decide) h)
theorem an_a43 (a : Nat) : nI a + 43 = nI (a + 43) := nI_add a 43
theorem an_b43 (a : Nat) : 43 + nI a = nI (43 + a) := nI_add 43 a
theorem an_m43 (a : Nat) : nI a * 43 = nI (a * 43) := pk_mul a 43
theorem an_n43 (a : Nat) : 43 * nI a = nI (a * 43) := by rw [Nat.mul_comm]; exact pk_mul 43 a
theorem an_k43 : (43 : Int32) = nI 43 := rfl
theorem an_e46 {a : Nat} (h : a < 2 ^ 31) : (nI a = 46) = (a = 46) := propext (nI_eq (b := 46) h (by decide))
theorem an_l46 {a : Nat} (h : a < 2 ^ 31) : (nI a ≤ 46) = (a ≤ 46) := propext (nI_leI (b := 46) h (by decide))
theorem an_g46 {a : Nat} (h : a < 2 ^ 31) : (46 ≤ nI a) = (46 ≤ a) := propext (nI_leI (a := 46) (by decide) h)
theorem an_t46 {a : Nat} (h : a < 2 ^ 31) : (nI a < 46) = (a < 46) := propext (nI_ltI (b := 46) h (by decide))
theorem an_u46 {a : Nat} (h : a < 2 ^ 31) : (46 < nI a) = (46 < a) := propext (nI_ltI (a := 46) (by decide) h)
theorem an_a46 (a : Nat) : nI a + 46 = nI (a + 46) := nI_add a 46
theorem an_b46 (a : Nat) : 46 + nI a = nI (46 + a) := nI_add 46 a
theorem an_m46 (a : Nat) : nI a * 46 = nI (a * 46) := pk_mul a 46
theorem an_n46 (a : Nat) : 46 * nI a = nI (a * 46) := by rw [Nat.mul_comm]; exact pk_mul 46 a
theorem an_k46 : (46 : Int32) = nI 46 := rfl
theorem an_e50 {a : Nat} (h : a < 2 ^ 31) : (nI a = 50) = (a = 50) := propext (nI_eq (b := 50) h (by decide))
theorem an_l50 {a : Nat} (h : a < 2 ^ 31) : (nI a ≤ 50) = (a ≤ 50) := propext (nI_leI (b := 50) h (by decide))
theorem an_g50 {a : Nat} (h : a < 2 ^ 31) : (50 ≤ nI a) = (50 ≤ a) := propext (nI_leI (a := 50) (by decide) h)
theorem an_t50 {a : Nat} (h : a < 2 ^ 31) : (nI a < 50) = (a < 50) := propext (nI_ltI (b := 50) h (by decide))
theorem an_u50 {a : Nat} (h : a < 2 ^ 31) : (50 < nI a) = (50 < a) := propext (nI_ltI (a := 50) (by decide) h)
theorem an_a50 (a : Nat) : nI a + 50 = nI (a + 50) := nI_add a 50
theorem an_b50 (a : Nat) : 50 + nI a = nI (50 + a) := nI_add 50 a
theorem an_m50 (a : Nat) : nI a * 50 = nI (a * 50) := pk_mul a 50
theorem an_n50 (a : Nat) : 50 * nI a = nI (a * 50) := by rw [Nat.mul_comm]; exact pk_mul 50 a
theorem an_k50 : (50 : Int32) = nI 50 := rfl
theorem an_e51 {a : Nat} (h : a < 2 ^ 31) : (nI a = 51) = (a = 51) := propext (nI_eq (b := 51) h (by decide))
theorem an_l51 {a : Nat} (h : a < 2 ^ 31) : (nI a ≤ 51) = (a ≤ 51) := propext (nI_leI (b := 51) h (by decide))
theorem an_g51 {a : Nat} (h : a < 2 ^ 31) : (51 ≤ nI a) = (51 ≤ a) := propext (nI_leI (a := 51) (by decide) h)
theorem an_t51 {a : Nat} (h : a < 2 ^ 31) : (nI a < 51) = (a < 51) := propext (nI_ltI (b := 51) h (by decide))
theorem an_u51 {a : Nat} (h : a < 2 ^ 31) : (51 < nI a) = (51 < a) := propext (nI_ltI (a := 51) (by decide) h)
theorem an_a51 (a : Nat) : nI a + 51 = nI (a + 51) := nI_add a 51
theorem an_b51 (a : Nat) : 51 + nI a = nI (51 + a) := nI_add 51 a
theorem an_m51 (a : Nat) : nI a * 51 = nI (a * 51) := pk_mul a 51
theorem an_n51 (a : Nat) : 51 * nI a = nI (a * 51) := by rw [Nat.mul_comm]; exact pk_mul 51 a
theorem an_k51 : (51 : Int32) = nI 51 := rfl
theorem an_e52 {a : Nat} (h : a < 2 ^ 31) : (nI a = 52) = (a = 52) := propext (nI_eq (b := 52) h (by decide))
theorem an_l52 {a : Nat} (h : a < 2 ^ 31) : (nI a ≤ 52) = (a ≤ 52) := propext (nI_leI (b := 52) h (by decide))
theorem an_g52 {a : Nat} (h : a < 2 ^ 31) : (52 ≤ nI a) = (52 ≤ a) := propext (nI_leI (a := 52) (by decide) h)
theorem an_t52 {a : Nat} (h : a < 2 ^ 31) : (nI a < 52) = (a < 52) := propext (nI_ltI (b := 52) h (by decide))
theorem an_u52 {a : Nat} (h : a < 2 ^ 31) : (52 < nI a) = (52 < a) := propext (nI_ltI (a := 52) (by decide) h)
theorem an_a52 (a : Nat) : nI a + 52 = nI (a + 52) := nI_add a 52
theorem an_b52 (a : Nat) : 52 + nI a = nI (52 + a) := nI_add 52 a
theorem an_m52 (a : Nat) : nI a * 52 = nI (a * 52) := pk_mul a 52
theorem an_n52 (a : Nat) : 52 * nI a = nI (a * 52) := by rw [Nat.mul_comm]; exact pk_mul 52 a
theorem an_k52 : (52 : Int32) = nI 52 := rfl
theorem an_e100 {a : Nat} (h : a < 2 ^ 31) : (nI a = 100) = (a = 100) := propext (nI_eq (b := 100) h (by decide))
theorem an_l100 {a : Nat} (h : a < 2 ^ 31) : (nI a ≤ 100) = (a ≤ 100) := propext (nI_leI (b := 100) h (by decide))
theorem an_g100 {a : Nat} (h : a < 2 ^ 31) : (100 ≤ nI a) = (100 ≤ a) := propext (nI_leI (a := 100) (by decide) h)
theorem an_t100 {a : Nat} (h : a < 2 ^ 31) : (nI a < 100) = (a < 100) := propext (nI_ltI (b := 100) h (by decide))
theorem an_u100 {a : Nat} (h : a < 2 ^ 31) : (100 < nI a) = (100 < a) := propext (nI_ltI (a := 100) (by decide) h)
theorem an_a100 (a : Nat) : nI a + 100 = nI (a + 100) := nI_add a 100
theorem an_b100 (a : Nat) : 100 + nI a = nI (100 + a) := nI_add 100 a
theorem an_m100 (a : Nat) : nI a * 100 = nI (a * 100) := pk_mul a 100
theorem an_n100 (a : Nat) : 100 * nI a = nI (a * 100) := by rw [Nat.mul_comm]; exact pk_mul 100 a
theorem an_k100 : (100 : Int32) = nI 100 := rfl
theorem an_e468 {a : Nat} (h : a < 2 ^ 31) : (nI a = 468) = (a = 468) := propext (nI_eq (b := 468) h (by decide))
theorem an_l468 {a : Nat} (h : a < 2 ^ 31) : (nI a ≤ 468) = (a ≤ 468) := propext (nI_leI (b := 468) h (by decide))
theorem an_g468 {a : Nat} (h : a < 2 ^ 31) : (468 ≤ nI a) = (468 ≤ a) := propext (nI_leI (a := 468) (by decide) h)
theorem an_t468 {a : Nat} (h : a < 2 ^ 31) : (nI a < 468) = (a < 468) := propext (nI_ltI (b := 468) h (by decide))
theorem an_u468 {a : Nat} (h : a < 2 ^ 31) : (468 < nI a) = (468 < a) := propext (nI_ltI (a := 468) (by decide) h)
theorem an_a468 (a : Nat) : nI a + 468 = nI (a + 468) := nI_add a 468
theorem an_b468 (a : Nat) : 468 + nI a = nI (468 + a) := nI_add 468 a
theorem an_m468 (a : Nat) : nI a * 468 = nI (a * 468) := pk_mul a 468
theorem an_n468 (a : Nat) : 468 * nI a = nI (a * 468) := by rw [Nat.mul_comm]; exact pk_mul 468 a
theorem an_k468 : (468 : Int32) = nI 468 := rfl
theorem an_e10000 {a : Nat} (h : a < 2 ^ 31) : (nI a = 10000) = (a = 10000) := propext (nI_eq (b := 10000) h (by decide))
theorem an_l10000 {a : Nat} (h : a < 2 ^ 31) : (nI a ≤ 10000) = (a ≤ 10000) := propext (nI_leI (b := 10000) h (by decide))
theorem an_g10000 {a : Nat} (h : a < 2 ^ 31) : (10000 ≤ nI a) = (10000 ≤ a) := propext (nI_leI (a := 10000) (by decide) h)
theorem an_t10000 {a : Nat} (h : a < 2 ^ 31) : (nI a < 10000) = (a < 10000) := propext (nI_ltI (b := 10000) h (by decide))
theorem an_u10000 {a : Nat} (h : a < 2 ^ 31) : (10000 < nI a) = (10000 < a) := propext (nI_ltI (a := 10000) (by decide) h)
theorem an_a10000 (a : Nat) : nI a + 10000 = nI (a + 10000) := nI_add a 10000
theorem an_b10000 (a : Nat) : 10000 + nI a = nI (10000 + a) := nI_add 10000 a
theorem an_m10000 (a : Nat) : nI a * 10000 = nI (a * 10000) := pk_mul a 10000
theorem an_n10000 (a : Nat) : 10000 * nI a = nI (a * 10000) := by rw [Nat.mul_comm]; exact pk_mul 10000 a
theorem an_k10000 : (10000 : Int32) = nI 10000 := rfl
theorem an_e30000 {a : Nat} (h : a < 2 ^ 31) : (nI a = 30000) = (a = 30000) := propext (nI_eq (b := 30000) h (by decide))
theorem an_l30000 {a : Nat} (h : a < 2 ^ 31) : (nI a ≤ 30000) = (a ≤ 30000) := propext (nI_leI (b := 30000) h (by decide))
theorem an_g30000 {a : Nat} (h : a < 2 ^ 31) : (30000 ≤ nI a) = (30000 ≤ a) := propext (nI_leI (a := 30000) (by decide) h)
theorem an_t30000 {a : Nat} (h : a < 2 ^ 31) : (nI a < 30000) = (a < 30000) := propext (nI_ltI (b := 30000) h (by decide))
theorem an_u30000 {a : Nat} (h : a < 2 ^ 31) : (30000 < nI a) = (30000 < a) := propext (nI_ltI (a := 30000) (by decide) h)
theorem an_a30000 (a : Nat) : nI a + 30000 = nI (a + 30000) := nI_add a 30000
theorem an_b30000 (a : Nat) : 30000 + nI a = nI (30000 + a) := nI_add 30000 a
theorem an_m30000 (a : Nat) : nI a * 30000 = nI (a * 30000) := pk_mul a 30000
theorem an_n30000 (a : Nat) : 30000 * nI a = nI (a * 30000) := by rw [Nat.mul_comm]; exact pk_mul 30000 a
theorem an_k30000 : (30000 : Int32) = nI 30000 := rfl
theorem an_e40000 {a : Nat} (h : a < 2 ^ 31) : (nI a = 40000) = (a = 40000) := propext (nI_eq (b := 40000) h (by decide))
theorem an_l40000 {a : Nat} (h : a < 2 ^ 31) : (nI a ≤ 40000) = (a ≤ 40000) := propext (nI_leI (b := 40000) h (by decide))
theorem an_g40000 {a : Nat} (h : a < 2 ^ 31) : (40000 ≤ nI a) = (40000 ≤ a) := propext (nI_leI (a := 40000) (by decide) h)
theorem an_t40000 {a : Nat} (h : a < 2 ^ 31) : (nI a < 40000) = (a < 40000) := propext (nI_ltI (b := 40000) h (by decide))
theorem an_u40000 {a : Nat} (h : a < 2 ^ 31) : (40000 < nI a) = (40000 < a) := propext (nI_ltI (a := 40000) (by decide) h)
theorem an_a40000 (a : Nat) : nI a + 40000 = nI (a + 40000) := nI_add a 40000
theorem an_b40000 (a : Nat) : 40000 + nI a = nI (40000 + a) := nI_add 40000 a
theorem an_m40000 (a : Nat) : nI a * 40000 = nI (a * 40000) := pk_mul a 40000
theorem an_n40000 (a : Nat) : 40000 * nI a = nI (a * 40000) := by rw [Nat.mul_comm]; exact pk_mul 40000 a
theorem an_k40000 : (40000 : Int32) = nI 40000 := rfl
end
section
/-! the grammar, over naturals: X's states from left to right, the depth of brackets -/
abbrev ag_sc (t : Nat) : Prop := 20 ≤ t ∧ t ≤ 27
abbrev ag_mx (t : Nat) : Prop := 30 ≤ t ∧ t ≤ 38
abbrev ag_nm (t : Nat) : Prop := 10 ≤ t ∧ t ≤ 15
abbrev ag_tok (t : Nat) : Prop := t ≤ 15 ∨ (20 ≤ t ∧ t ≤ 27) ∨ (30 ≤ t ∧ t ≤ 38) ∨ (40 ≤ t ∧ t ≤ 43) ∨ (50 ≤ t ∧ t ≤ 52)
def ag_step (s t : Nat) : Nat :=
  if s = 3 then (if ag_sc t then 1 else 0)
  else if s = 2 ∧ (t = 40 ∨ t = 41) then 1
  else if s = 2 ∧ t = 43 then 3
  else if ag_sc t then 2
  else if ag_mx t then 1
  else if t = 42 then 3
  else if s = 4 ∨ s = 5 ∨ s = 6 then
    (if s = 4 ∧ t ≤ 9 then 4 else if s = 5 ∧ t = 52 then 1 else if t = 51 then 6 else 0)
  else (if t ≤ 9 then 4 else if ag_nm t then 5 else if t = 50 then 1 else 0)
theorem ag_lt (s t : Nat) : ag_step s t < 7 := by
  unfold ag_step
  repeat' split
  all_goals omega
def ag_c (p : Nat → Nat → Bool) : Bool := (List.range 7).all fun s => (List.range 53).all fun t => p s t
theorem ag_cc {p : Nat → Nat → Bool} (h : ag_c p = true) {s t : Nat} (hs : s < 7) (ht : t < 53) : p s t = true := by
  unfold ag_c at h
  rw [List.all_eq_true] at h
  have a := h s (List.mem_range.mpr hs)
  rw [List.all_eq_true] at a
  exact a t (List.mem_range.mpr ht)
theorem ag_F1 : ∀ s, s < 7 → ∀ t, t < 53 → s ≠ 0 → ag_step s t ≠ 0 → t ≤ 9 → ag_step s t = 4 ∧ (s = 1 ∨ s = 2 ∨ s = 4) :=
  fun _ hs _ ht => of_decide_eq_true (ag_cc (p := fun s t => decide (s ≠ 0 → ag_step s t ≠ 0 → t ≤ 9 → ag_step s t = 4 ∧ (s = 1 ∨ s = 2 ∨ s = 4))) (by decide +kernel) hs ht)
theorem ag_F2 : ∀ s, s < 7 → ∀ t, t < 53 → s ≠ 0 → ag_step s t ≠ 0 → ag_nm t → ag_step s t = 5 ∧ (s = 1 ∨ s = 2) :=
  fun _ hs _ ht => of_decide_eq_true (ag_cc (p := fun s t => decide (s ≠ 0 → ag_step s t ≠ 0 → ag_nm t → ag_step s t = 5 ∧ (s = 1 ∨ s = 2))) (by decide +kernel) hs ht)
theorem ag_F3 : ∀ s, s < 7 → s ≠ 0 → ag_step s 51 ≠ 0 → ag_step s 51 = 6 ∧ 4 ≤ s := by decide +kernel
theorem ag_F4 : ∀ s, s < 7 → s ≠ 0 → ag_step s 50 ≠ 0 → ag_step s 50 = 1 ∧ (s = 1 ∨ s = 2) := by decide +kernel
theorem ag_F5 : ∀ s, s < 7 → s ≠ 0 → ag_step s 52 ≠ 0 → ag_step s 52 = 1 ∧ s = 5 := by decide +kernel
theorem ag_F6 : ∀ s, s < 7 → ∀ t, t < 53 → s ≠ 0 → ag_sc t → (s = 3 ∧ ag_step s t = 1) ∨ (s ≠ 3 ∧ ag_step s t = 2) :=
  fun _ hs _ ht => of_decide_eq_true (ag_cc (p := fun s t => decide (s ≠ 0 → ag_sc t → (s = 3 ∧ ag_step s t = 1) ∨ (s ≠ 3 ∧ ag_step s t = 2))) (by decide +kernel) hs ht)
theorem ag_F7 : ∀ s, s < 7 → ∀ t, t < 53 → s ≠ 0 → ag_step s t ≠ 0 → (t = 40 ∨ t = 41) → ag_step s t = 1 ∧ s = 2 :=
  fun _ hs _ ht => of_decide_eq_true (ag_cc (p := fun s t => decide (s ≠ 0 → ag_step s t ≠ 0 → (t = 40 ∨ t = 41) → ag_step s t = 1 ∧ s = 2)) (by decide +kernel) hs ht)
theorem ag_F8 : ∀ s, s < 7 → ∀ t, t < 53 → s ≠ 0 → ag_step s t ≠ 0 → ag_mx t → ag_step s t = 1 ∧ s ≠ 3 :=
  fun _ hs _ ht => of_decide_eq_true (ag_cc (p := fun s t => decide (s ≠ 0 → ag_step s t ≠ 0 → ag_mx t → ag_step s t = 1 ∧ s ≠ 3)) (by decide +kernel) hs ht)
theorem ag_F8' : ∀ s, s < 7 → ∀ t, t < 53 → s ≠ 3 → ag_mx t → ag_step s t = 1 :=
  fun _ hs _ ht => of_decide_eq_true (ag_cc (p := fun s t => decide (s ≠ 3 → ag_mx t → ag_step s t = 1)) (by decide +kernel) hs ht)
theorem ag_F9 : ∀ s, s < 7 → s ≠ 0 → ag_step s 42 ≠ 0 → ag_step s 42 = 3 ∧ s ≠ 3 := by decide +kernel
theorem ag_F9' : ∀ s, s < 7 → s ≠ 3 → ag_step s 42 = 3 := by decide +kernel
theorem ag_F10 : ∀ s, s < 7 → s ≠ 0 → ag_step s 43 ≠ 0 → ag_step s 43 = 3 ∧ s = 2 := by decide +kernel
theorem ag_F11 : ∀ t, t < 53 → ¬ ag_sc t → ag_step 3 t = 0 := by decide +kernel
theorem ag_F12 : ∀ s, s < 7 → ∀ t, t < 53 → 4 ≤ s → ¬ (s = 4 ∧ t ≤ 9) → ¬ (s = 5 ∧ t = 52) → t ≠ 51 → ¬ ag_sc t → ¬ ag_mx t → t ≠ 42 → ag_step s t = 0 :=
  fun _ hs _ ht => of_decide_eq_true (ag_cc (p := fun s t => decide (4 ≤ s → ¬ (s = 4 ∧ t ≤ 9) → ¬ (s = 5 ∧ t = 52) → t ≠ 51 → ¬ ag_sc t → ¬ ag_mx t → t ≠ 42 → ag_step s t = 0)) (by decide +kernel) hs ht)
theorem ag_F13 {s t : Nat} (h : s = 1 ∨ s = 2) (h1 : ¬ t ≤ 9) (h2 : ¬ ag_nm t) (h3 : t ≠ 50) (h4 : ¬ ag_sc t) (h5 : ¬ ag_mx t) (h6 : t ≠ 42) (h7 : ¬ (s = 2 ∧ (t = 40 ∨ t = 41 ∨ t = 43))) : ag_step s t = 0 := by
  unfold ag_step
  repeat' split
  all_goals omega
theorem ag_B4 : ∀ s, s < 7 → ∀ t, t < 53 → ag_step s t = 4 → t ≤ 9 :=
  fun _ hs _ ht => of_decide_eq_true (ag_cc (p := fun s t => decide (ag_step s t = 4 → t ≤ 9)) (by decide +kernel) hs ht)
theorem ag_B5 : ∀ s, s < 7 → ∀ t, t < 53 → ag_step s t = 5 → ag_nm t :=
  fun _ hs _ ht => of_decide_eq_true (ag_cc (p := fun s t => decide (ag_step s t = 5 → ag_nm t)) (by decide +kernel) hs ht)
theorem ag_B6 : ∀ s, s < 7 → ∀ t, t < 53 → ag_step s t = 6 → t = 51 :=
  fun _ hs _ ht => of_decide_eq_true (ag_cc (p := fun s t => decide (ag_step s t = 6 → t = 51)) (by decide +kernel) hs ht)
theorem ag_B3 : ∀ s, s < 7 → ∀ t, t < 53 → ag_step s t = 3 → t = 42 ∨ (t = 43 ∧ s = 2) :=
  fun _ hs _ ht => of_decide_eq_true (ag_cc (p := fun s t => decide (ag_step s t = 3 → t = 42 ∨ (t = 43 ∧ s = 2))) (by decide +kernel) hs ht)
theorem ag_B2 : ∀ s, s < 7 → ∀ t, t < 53 → ag_step s t = 2 → ag_sc t ∧ s ≠ 3 :=
  fun _ hs _ ht => of_decide_eq_true (ag_cc (p := fun s t => decide (ag_step s t = 2 → ag_sc t ∧ s ≠ 3)) (by decide +kernel) hs ht)
theorem ag_tk {t : Nat} (h : ag_tok t) : t < 53 := by unfold ag_tok at h; omega
def ag_st (tn : Nat → Nat) : Nat → Nat
  | 0 => 1
  | p + 1 => ag_step (ag_st tn p) (tn p)
def ag_dp (tn : Nat → Nat) : Nat → Nat
  | 0 => 0
  | p + 1 => if tn p = 50 then ag_dp tn p + 1 else if tn p = 51 then ag_dp tn p - 1 else ag_dp tn p
def ag_pre (tn : Nat → Nat) (p : Nat) : Prop := ∀ q, q < p → ag_st tn (q + 1) ≠ 0 ∧ (tn q = 51 → 0 < ag_dp tn q)
def ag_ok (tn : Nat → Nat) (n : Nat) : Prop := ag_pre tn n ∧ ag_dp tn n = 0 ∧ 4 ≤ ag_st tn n
/-- p is no place inside of an element of the text -/
def ag_H (tn : Nat → Nat) (n p : Nat) : Prop :=
  ag_st tn p ≠ 3 ∧ (p < n → (ag_st tn p = 4 → ¬ tn p ≤ 9) ∧ (ag_st tn p = 5 → tn p ≠ 52) ∧ (ag_st tn p = 2 → tn p ≠ 40 ∧ tn p ≠ 41 ∧ tn p ≠ 43))
theorem ag_s (tn : Nat → Nat) (p : Nat) : ag_st tn (p + 1) = ag_step (ag_st tn p) (tn p) := rfl
theorem ag_d (tn : Nat → Nat) (p : Nat) : ag_dp tn (p + 1) = if tn p = 50 then ag_dp tn p + 1 else if tn p = 51 then ag_dp tn p - 1 else ag_dp tn p := rfl
theorem ag_s7 (tn : Nat → Nat) (p : Nat) : ag_st tn p < 7 := by
  cases p with
  | zero => exact (by decide : 1 < 7)
  | succ p => exact ag_lt _ _
theorem ag_n0 {tn : Nat → Nat} {p q : Nat} (h : ag_pre tn p) (hq : q ≤ p) : ag_st tn q ≠ 0 := by
  cases q with
  | zero => exact (by decide : (1 : Nat) ≠ 0)
  | succ q => exact (h q hq).1
theorem ag_pre0 (tn : Nat → Nat) : ag_pre tn 0 := fun q hq => absurd hq (Nat.not_lt_zero q)
theorem ag_preS {tn : Nat → Nat} {p : Nat} (h : ag_pre tn p) (h1 : ag_st tn (p + 1) ≠ 0) (h2 : tn p = 51 → 0 < ag_dp tn p) : ag_pre tn (p + 1) := by
  intro q hq
  by_cases e : q = p
  · subst e; exact ⟨h1, h2⟩
  · exact h q (by omega)
theorem ag_no {tn : Nat → Nat} {n p : Nat} (hp : p < n) (h : ag_st tn (p + 1) = 0) : ¬ ag_ok tn n := fun k => (k.1 p hp).1 h
theorem ag_nod {tn : Nat → Nat} {n p : Nat} (hp : p < n) (h : tn p = 51) (h2 : ag_dp tn p = 0) : ¬ ag_ok tn n := fun k => by
  have := (k.1 p hp).2 h
  omega
theorem ag_dle (tn : Nat → Nat) (p : Nat) : ag_dp tn p ≤ p := by
  induction p with
  | zero => exact Nat.le_refl _
  | succ p ih =>
    rw [ag_d]
    repeat' split
    all_goals omega
theorem ag_dge (tn : Nat → Nat) (p q : Nat) : ag_dp tn p ≤ ag_dp tn (p + q) + q := by
  induction q with
  | zero => exact Nat.le_refl _
  | succ q ih =>
    rw [show p + (q + 1) = (p + q) + 1 from rfl, ag_d]
    repeat' split
    all_goals omega
theorem ag_d15 {tn : Nat → Nat} {n p : Nat} (h : ag_ok tn n) (hn : n ≤ 30) (hp : p ≤ n) : ag_dp tn p ≤ 15 := by
  have a := ag_dle tn p
  have b := ag_dge tn p (n - p)
  rw [show p + (n - p) = n by omega, h.2.1] at b
  omega
/-- the size of the function that begins at i -/
def ag_fs (tn : Nat → Nat) (n i : Nat) : Nat :=
  if ag_mx (tn i) then 1
  else if tn i = 42 then (if i + 1 < n ∧ ag_sc (tn (i + 1)) then 2 else 0)
  else if ¬ ag_sc (tn i) then 0
  else if i + 1 < n ∧ tn (i + 1) = 43 then (if i + 2 < n ∧ ag_sc (tn (i + 2)) then 3 else 0)
  else if i + 1 < n ∧ (tn (i + 1) = 40 ∨ tn (i + 1) = 41) then 2 else 1
section
variable {tn : Nat → Nat} {n : Nat} (ht : ∀ j, ag_tok (tn j))
theorem ag_dno {p : Nat} (h1 : tn p ≠ 50) (h2 : tn p ≠ 51) : ag_dp tn (p + 1) = ag_dp tn p := by
  rw [ag_d, if_neg h1, if_neg h2]
/-- a whole function read from left to right -/
theorem ag_fn (ht : ∀ j, ag_tok (tn j)) {i : Nat} (hi : i < n) (hp : ag_pre tn i) (hH : ag_H tn n i) (h0 : 0 < ag_fs tn n i) :
    i + ag_fs tn n i ≤ n ∧ ag_pre tn (i + ag_fs tn n i) ∧ ag_H tn n (i + ag_fs tn n i) ∧ ag_st tn (i + ag_fs tn n i) < 4 ∧ ag_dp tn (i + ag_fs tn n i) = ag_dp tn i := by
  have s0 := ag_n0 hp (Nat.le_refl i)
  have s7 := ag_s7 tn i
  have t0 := ag_tk (ht i)
  have t1 := ag_tk (ht (i + 1))
  have t2 := ag_tk (ht (i + 2))
  unfold ag_fs at h0 ⊢
  by_cases m : ag_mx (tn i)
  · rw [if_pos m] at h0 ⊢
    have e : ag_st tn (i + 1) = 1 := ag_F8' _ s7 _ t0 hH.1 m
    refine ⟨by omega, ag_preS hp (by omega) (by omega), ?_, by omega, ag_dno (by omega) (by omega)⟩
    unfold ag_H; rw [e]; omega
  rw [if_neg m] at h0 ⊢
  by_cases o : tn i = 42
  · rw [if_pos o] at h0 ⊢
    by_cases k : i + 1 < n ∧ ag_sc (tn (i + 1))
    · rw [if_pos k] at h0 ⊢
      have e : ag_st tn (i + 1) = 3 := by rw [ag_s, o]; exact ag_F9' _ s7 hH.1
      have e2 : ag_st tn (i + 2) = 1 := by
        rw [show i + 2 = (i + 1) + 1 from rfl, ag_s, e]
        rcases ag_F6 3 (by decide) _ t1 (by decide) k.2 with h | h
        · exact h.2
        · exact absurd rfl h.1
      have d1 : ag_dp tn (i + 1) = ag_dp tn i := ag_dno (by omega) (by omega)
      have d2 : ag_dp tn (i + 1 + 1) = ag_dp tn (i + 1) := ag_dno (by omega) (by omega)
      refine ⟨by omega, ag_preS (ag_preS hp (by omega) (by omega)) (by rw [show i + 1 + 1 = i + 2 from rfl]; omega) (by omega), ?_, by omega, d2.trans d1⟩
      unfold ag_H; rw [e2]; omega
    · rw [if_neg k] at h0; omega
  rw [if_neg o] at h0 ⊢
  by_cases sc : ag_sc (tn i)
  · rw [if_neg (fun z => z sc)] at h0 ⊢
    have e : ag_st tn (i + 1) = 2 := by
      rw [ag_s]
      rcases ag_F6 _ s7 _ t0 s0 sc with h | h
      · exact absurd h.1 hH.1
      · exact h.2
    have d1 : ag_dp tn (i + 1) = ag_dp tn i := ag_dno (by omega) (by omega)
    have p1 : ag_pre tn (i + 1) := ag_preS hp (by omega) (by omega)
    by_cases k : i + 1 < n ∧ tn (i + 1) = 43
    · rw [if_pos k] at h0 ⊢
      by_cases k2 : i + 2 < n ∧ ag_sc (tn (i + 2))
      · rw [if_pos k2] at h0 ⊢
        have e2 : ag_st tn (i + 2) = 3 := by
          rw [show i + 2 = (i + 1) + 1 from rfl, ag_s, e, k.2]; decide
        have e3 : ag_st tn (i + 3) = 1 := by
          rw [show i + 3 = (i + 2) + 1 from rfl, ag_s, e2]
          rcases ag_F6 3 (by decide) _ t2 (by decide) k2.2 with h | h
          · exact h.2
          · exact absurd rfl h.1
        have d2 : ag_dp tn (i + 1 + 1) = ag_dp tn (i + 1) := ag_dno (by omega) (by omega)
        have d3 : ag_dp tn (i + 2 + 1) = ag_dp tn (i + 2) := ag_dno (by omega) (by omega)
        have p2 : ag_pre tn (i + 2) := ag_preS p1 (by rw [show i + 1 + 1 = i + 2 from rfl]; omega) (by omega)
        refine ⟨by omega, ag_preS p2 (by rw [show i + 2 + 1 = i + 3 from rfl]; omega) (by omega), ?_, by omega, d3.trans (d2.trans d1)⟩
        unfold ag_H; rw [e3]; omega
      · rw [if_neg k2] at h0; omega
    · rw [if_neg k] at h0 ⊢
      by_cases k3 : i + 1 < n ∧ (tn (i + 1) = 40 ∨ tn (i + 1) = 41)
      · rw [if_pos k3]
        have e2 : ag_st tn (i + 2) = 1 := by
          rw [show i + 2 = (i + 1) + 1 from rfl, ag_s, e]
          rcases k3.2 with h | h
          · rw [h]; decide
          · rw [h]; decide
        have d2 : ag_dp tn (i + 1 + 1) = ag_dp tn (i + 1) := ag_dno (by omega) (by omega)
        refine ⟨by omega, ag_preS p1 (by rw [show i + 1 + 1 = i + 2 from rfl]; omega) (by omega), ?_, by omega, d2.trans d1⟩
        unfold ag_H; rw [e2]; omega
      · rw [if_neg k3]
        refine ⟨by omega, p1, ?_, by omega, d1⟩
        unfold ag_H; rw [e]; omega
  · rw [if_pos sc] at h0; omega
/-- a function that is none: the text is no statement, and its token is none of an operand's -/
theorem ag_fn0 (ht : ∀ j, ag_tok (tn j)) {i : Nat} (hi : i < n) (hp : ag_pre tn i) (hH : ag_H tn n i) (h0 : ag_fs tn n i = 0) (hs : tn i = 42 ∨ ag_sc (tn i)) : ¬ ag_ok tn n := by
  have s0 := ag_n0 hp (Nat.le_refl i)
  have s7 := ag_s7 tn i
  have t0 := ag_tk (ht i)
  have t1 := ag_tk (ht (i + 1))
  have t2 := ag_tk (ht (i + 2))
  unfold ag_fs at h0
  rw [if_neg (by omega)] at h0
  by_cases o : tn i = 42
  · rw [if_pos o] at h0
    have e : ag_st tn (i + 1) = 3 := by rw [ag_s, o]; exact ag_F9' _ s7 hH.1
    by_cases k : i + 1 < n
    · have nk : ¬ ag_sc (tn (i + 1)) := fun z => by rw [if_pos ⟨k, z⟩] at h0; omega
      exact ag_no k (by rw [ag_s, e]; exact ag_F11 _ t1 nk)
    · intro z
      have := z.2.2
      rw [show n = i + 1 by omega, e] at this
      omega
  rw [if_neg o] at h0
  have sc : ag_sc (tn i) := hs.resolve_left o
  rw [if_neg (fun z => z sc)] at h0
  have e : ag_st tn (i + 1) = 2 := by
    rw [ag_s]
    rcases ag_F6 _ s7 _ t0 s0 sc with h | h
    · exact absurd h.1 hH.1
    · exact h.2
  by_cases k : i + 1 < n ∧ tn (i + 1) = 43
  · rw [if_pos k] at h0
    have e2 : ag_st tn (i + 2) = 3 := by
      rw [show i + 2 = (i + 1) + 1 from rfl, ag_s, e, k.2]; decide
    by_cases k2 : i + 2 < n
    · have nk : ¬ ag_sc (tn (i + 2)) := fun z => by rw [if_pos ⟨k2, z⟩] at h0; omega
      exact ag_no k2 (by rw [ag_s, e2]; exact ag_F11 _ t2 nk)
    · intro z
      have := z.2.2
      rw [show n = i + 2 by omega, e2] at this
      omega
  · rw [if_neg k] at h0
    split at h0 <;> omega
theorem ag_fs0 {i : Nat} (h : ag_fs tn n i = 0) : ¬ ag_mx (tn i) := fun z => by
  unfold ag_fs at h
  rw [if_pos z] at h
  omega
end
end
section
/-! the grammar from right to left -/
section
variable {tn : Nat → Nat} {n : Nat}
/-- what stands ahead of a place that is not behind an unfinished function -/
theorem ag_bf (ht : ∀ j, ag_tok (tn j)) (K : ag_ok tn n) {j : Nat} (hj : j ≤ n) (h : ag_st tn j ≠ 3) (h1 : 1 ≤ j) : tn (j - 1) ≠ 42 ∧ tn (j - 1) ≠ 43 := by
  obtain ⟨q, rfl⟩ : ∃ q, j = q + 1 := ⟨j - 1, by omega⟩
  rw [Nat.add_sub_cancel]
  have s0 := ag_n0 K.1 (q := q) (by omega)
  have s1 := ag_n0 K.1 hj
  have s7 := ag_s7 tn q
  rw [ag_s] at h s1
  constructor
  · intro e; rw [e] at h s1; exact h (ag_F9 _ s7 s0 s1).1
  · intro e; rw [e] at h s1; exact h (ag_F10 _ s7 s0 s1).1
theorem ag_Rname (ht : ∀ j, ag_tok (tn j)) (K : ag_ok tn n) {i : Nat} (hi : i < n) (hH : ag_H tn n (i + 1)) (hk : ag_nm (tn i)) :
    ag_H tn n i ∧ ag_st tn i < 4 ∧ 4 ≤ ag_st tn (i + 1) ∧ ag_dp tn (i + 1) = ag_dp tn i ∧ (i + 1 < n → tn (i + 1) ≠ 52) := by
  have s0 := ag_n0 K.1 (q := i) (by omega)
  have s1 := ag_n0 K.1 (q := i + 1) hi
  have s7 := ag_s7 tn i
  have t0 := ag_tk (ht i)
  have a := ag_F2 _ s7 _ t0 s0 s1 hk
  rw [← ag_s] at a
  refine ⟨?_, by omega, by omega, ag_dno (by omega) (by omega), fun h => (hH.2 h).2.1 a.1⟩
  unfold ag_H; omega
theorem ag_Rclose (ht : ∀ j, ag_tok (tn j)) (K : ag_ok tn n) {i : Nat} (hi : i < n) (hk : tn i = 51) :
    ag_H tn n i ∧ 4 ≤ ag_st tn i ∧ 4 ≤ ag_st tn (i + 1) ∧ ag_dp tn i = ag_dp tn (i + 1) + 1 := by
  have s0 := ag_n0 K.1 (q := i) (by omega)
  have s1 := ag_n0 K.1 (q := i + 1) hi
  have s7 := ag_s7 tn i
  rw [ag_s, hk] at s1
  have a := ag_F3 _ s7 s0 s1
  have d := (K.1 i hi).2 hk
  refine ⟨?_, a.2, by rw [ag_s, hk]; omega, ?_⟩
  · unfold ag_H; omega
  · rw [ag_d, if_neg (by omega), if_pos hk]; omega
theorem ag_Ropen (ht : ∀ j, ag_tok (tn j)) (K : ag_ok tn n) {i : Nat} (hi : i < n) (hk : tn i = 50) :
    ag_H tn n i ∧ ag_st tn i < 4 ∧ ag_st tn (i + 1) < 4 ∧ ag_dp tn (i + 1) = ag_dp tn i + 1 := by
  have s0 := ag_n0 K.1 (q := i) (by omega)
  have s1 := ag_n0 K.1 (q := i + 1) hi
  have s7 := ag_s7 tn i
  rw [ag_s, hk] at s1
  have a := ag_F4 _ s7 s0 s1
  refine ⟨?_, by omega, by rw [ag_s, hk]; omega, ?_⟩
  · unfold ag_H; omega
  · rw [ag_d, if_pos hk]
theorem ag_Rmx (ht : ∀ j, ag_tok (tn j)) (K : ag_ok tn n) {i : Nat} (hi : i < n) (hk : ag_mx (tn i)) :
    ag_H tn n i ∧ ag_st tn (i + 1) < 4 ∧ ag_dp tn (i + 1) = ag_dp tn i := by
  have s0 := ag_n0 K.1 (q := i) (by omega)
  have s1 := ag_n0 K.1 (q := i + 1) hi
  have s7 := ag_s7 tn i
  have t0 := ag_tk (ht i)
  have a := ag_F8 _ s7 _ t0 s0 s1 hk
  rw [← ag_s] at a
  refine ⟨?_, by omega, ag_dno (by omega) (by omega)⟩
  unfold ag_H; omega
theorem ag_Rbec (ht : ∀ j, ag_tok (tn j)) (K : ag_ok tn n) {i : Nat} (hi : i < n) (hk : tn i = 52) :
    1 ≤ i ∧ ag_nm (tn (i - 1)) ∧ ag_H tn n (i - 1) ∧ ag_st tn (i - 1) < 4 ∧ ag_st tn (i + 1) < 4 ∧ ag_dp tn (i + 1) = ag_dp tn (i - 1) := by
  have s0 := ag_n0 K.1 (q := i) (by omega)
  have s1 := ag_n0 K.1 (q := i + 1) hi
  have s7 := ag_s7 tn i
  rw [ag_s, hk] at s1
  have a := ag_F5 _ s7 s0 s1
  have e1 : ag_st tn (i + 1) = 1 := by rw [ag_s, hk]; exact a.1
  cases i with
  | zero => exact absurd a.2 (by decide : ¬ (1 : Nat) = 5)
  | succ i =>
    rw [Nat.add_sub_cancel]
    have t0 := ag_tk (ht i)
    have b := ag_B5 _ (ag_s7 tn i) _ t0 a.2
    have c := ag_F2 _ (ag_s7 tn i) _ t0 (ag_n0 K.1 (q := i) (by omega)) (by rw [← ag_s]; exact s0) b
    refine ⟨by omega, b, ?_, by omega, by omega, ?_⟩
    · unfold ag_H; omega
    · rw [ag_dno (by omega) (by omega), ag_dno (by omega) (by omega)]
/-- behind a scalar function that is not the second of two -/
theorem ag_Rs2 (ht : ∀ j, ag_tok (tn j)) (K : ag_ok tn n) {i : Nat} (hi : i ≤ n) (h2 : ag_st tn i = 2) :
    1 ≤ i ∧ ag_sc (tn (i - 1)) ∧ ag_H tn n (i - 1) ∧ ag_dp tn i = ag_dp tn (i - 1) ∧ (2 ≤ i → tn (i - 2) ≠ 42 ∧ tn (i - 2) ≠ 43) := by
  cases i with
  | zero => exact absurd h2 (by decide : ¬ (1 : Nat) = 2)
  | succ i =>
    rw [Nat.add_sub_cancel]
    have t0 := ag_tk (ht i)
    rw [ag_s] at h2
    have b := ag_B2 _ (ag_s7 tn i) _ t0 h2
    refine ⟨by omega, b.1, ?_, ag_dno (by omega) (by omega), fun h => ?_⟩
    · have := b.2
      unfold ag_H; omega
    · rw [show i + 1 - 2 = i - 1 by omega]
      exact ag_bf ht K (by omega) b.2 (by omega)
theorem ag_Rsl (ht : ∀ j, ag_tok (tn j)) (K : ag_ok tn n) {i : Nat} (hi : i < n) (hk : tn i = 40 ∨ tn i = 41) :
    1 ≤ i ∧ ag_sc (tn (i - 1)) ∧ ag_H tn n (i - 1) ∧ ag_st tn (i + 1) < 4 ∧ ag_dp tn (i + 1) = ag_dp tn (i - 1) ∧ (2 ≤ i → tn (i - 2) ≠ 42 ∧ tn (i - 2) ≠ 43) := by
  have s0 := ag_n0 K.1 (q := i) (by omega)
  have s1 := ag_n0 K.1 (q := i + 1) hi
  have s7 := ag_s7 tn i
  have t0 := ag_tk (ht i)
  have a := ag_F7 _ s7 _ t0 s0 s1 hk
  rw [← ag_s] at a
  have b := ag_Rs2 ht K (by omega) a.2
  exact ⟨b.1, b.2.1, b.2.2.1, by omega, (ag_dno (by omega) (by omega)).trans b.2.2.2.1, b.2.2.2.2⟩
theorem ag_Rsc (ht : ∀ j, ag_tok (tn j)) (K : ag_ok tn n) {i : Nat} (hi : i < n) (hH : ag_H tn n (i + 1)) (hk : ag_sc (tn i)) :
    ag_st tn (i + 1) < 4 ∧
    ((1 ≤ i ∧ tn (i - 1) = 42 ∧ ag_H tn n (i - 1) ∧ ag_dp tn (i + 1) = ag_dp tn (i - 1)) ∨
     (2 ≤ i ∧ tn (i - 1) = 43 ∧ ag_sc (tn (i - 2)) ∧ ag_H tn n (i - 2) ∧ ag_dp tn (i + 1) = ag_dp tn (i - 2) ∧ (3 ≤ i → tn (i - 3) ≠ 42 ∧ tn (i - 3) ≠ 43)) ∨
     (ag_H tn n i ∧ ag_dp tn (i + 1) = ag_dp tn i ∧ (1 ≤ i → tn (i - 1) ≠ 42 ∧ tn (i - 1) ≠ 43) ∧ (i + 1 < n → tn (i + 1) ≠ 40 ∧ tn (i + 1) ≠ 41 ∧ tn (i + 1) ≠ 43))) := by
  have s0 := ag_n0 K.1 (q := i) (by omega)
  have s7 := ag_s7 tn i
  have t0 := ag_tk (ht i)
  have d1 : ag_dp tn (i + 1) = ag_dp tn i := ag_dno (by omega) (by omega)
  rcases ag_F6 _ s7 _ t0 s0 hk with a | a
  · rw [← ag_s] at a
    refine ⟨by omega, ?_⟩
    cases i with
    | zero => exact absurd a.1 (by decide : ¬ (1 : Nat) = 3)
    | succ i =>
      rw [Nat.add_sub_cancel]
      have t1 := ag_tk (ht i)
      rcases ag_B3 _ (ag_s7 tn i) _ t1 a.1 with b | b
      · left
        have c := ag_F9 _ (ag_s7 tn i) (ag_n0 K.1 (q := i) (by omega)) (by rw [← b, ← ag_s]; omega)
        refine ⟨by omega, b, ?_, d1.trans (ag_dno (by omega) (by omega))⟩
        have := c.2
        unfold ag_H; omega
      · right; left
        have c := ag_Rs2 ht K (i := i) (by omega) b.2
        refine ⟨by omega, b.1, ?_, ?_, ?_, fun h => ?_⟩
        · rw [show i + 1 - 2 = i - 1 by omega]; exact c.2.1
        · rw [show i + 1 - 2 = i - 1 by omega]; exact c.2.2.1
        · rw [show i + 1 - 2 = i - 1 by omega, d1, ag_dno (by omega) (by omega)]; exact c.2.2.2.1
        · rw [show i + 1 - 3 = i - 2 by omega]; exact c.2.2.2.2 (by omega)
  · rw [← ag_s] at a
    refine ⟨by omega, Or.inr (Or.inr ⟨?_, d1, fun h => ag_bf ht K (by omega) a.1 h, fun h => (hH.2 h).2.2 a.2⟩)⟩
    have := a.1
    unfold ag_H; omega
theorem ag_R42 (ht : ∀ j, ag_tok (tn j)) (K : ag_ok tn n) {i : Nat} (hi : i < n) (hH : ag_H tn n (i + 1)) : tn i ≠ 42 ∧ tn i ≠ 43 := by
  have := ag_bf ht K (j := i + 1) hi hH.1 (by omega)
  rwa [Nat.add_sub_cancel] at this
/-- a run of numbers, read from its end -/
theorem ag_Rnum (ht : ∀ j, ag_tok (tn j)) (K : ag_ok tn n) {i f : Nat} (hi : i < n) (hf : f ≤ i) (hk : ∀ j, f ≤ j → j ≤ i → tn j ≤ 9) (h0 : 1 ≤ f → ¬ tn (f - 1) ≤ 9) :
    ag_H tn n f ∧ ag_st tn f < 4 ∧ 4 ≤ ag_st tn (i + 1) ∧ ag_dp tn (i + 1) = ag_dp tn f := by
  have st4 : ∀ j, f ≤ j → j ≤ i → ag_st tn (j + 1) = 4 ∧ (ag_st tn j = 1 ∨ ag_st tn j = 2 ∨ ag_st tn j = 4) := fun j h1 h2 => by
    have a := ag_F1 _ (ag_s7 tn j) _ (ag_tk (ht j)) (ag_n0 K.1 (q := j) (by omega)) (by rw [← ag_s]; exact ag_n0 K.1 (q := j + 1) (by omega)) (hk j h1 h2)
    rw [← ag_s] at a
    exact a
  have d : ∀ m, f + m ≤ i → ag_dp tn (f + m + 1) = ag_dp tn f := fun m => by
    induction m with
    | zero => intro h; exact ag_dno (by have := hk f (by omega) (by omega); omega) (by have := hk f (by omega) (by omega); omega)
    | succ m ih =>
      intro h
      have k := hk (f + m + 1) (by omega) (by omega)
      rw [← Nat.add_assoc, ag_dno (by omega) (by omega)]
      exact ih (by omega)
  have dd := d (i - f) (by omega)
  rw [show f + (i - f) + 1 = i + 1 by omega] at dd
  have a := st4 f (by omega) hf
  have n4 : ag_st tn f ≠ 4 := by
    intro e
    cases f with
    | zero => exact absurd e (by decide : ¬ (1 : Nat) = 4)
    | succ f => exact h0 (by omega) (by rw [Nat.add_sub_cancel]; exact ag_B4 _ (ag_s7 tn f) _ (ag_tk (ht f)) e)
  have b := (st4 i hf (Nat.le_refl i)).1
  have c := hk f (by omega) hf
  refine ⟨?_, by omega, by omega, dd⟩
  unfold ag_H; omega
/-- a run of numbers, read from its start: states and depth -/
theorem ag_Fnum (ht : ∀ j, ag_tok (tn j)) {i m : Nat} (hp : ag_pre tn i) (hs : ag_st tn i = 1 ∨ ag_st tn i = 2) (hk : ∀ j, i ≤ j → j < i + m + 1 → tn j ≤ 9) :
    ag_pre tn (i + m + 1) ∧ ag_st tn (i + m + 1) = 4 ∧ ag_dp tn (i + m + 1) = ag_dp tn i := by
  have f1 : ∀ s, s < 7 → ∀ t, t < 53 → (s = 1 ∨ s = 2 ∨ s = 4) → t ≤ 9 → ag_step s t = 4 :=
    fun _ hs _ ht => of_decide_eq_true (ag_cc (p := fun s t => decide ((s = 1 ∨ s = 2 ∨ s = 4) → t ≤ 9 → ag_step s t = 4)) (by decide +kernel) hs ht)
  induction m with
  | zero =>
    have k := hk i (by omega) (by omega)
    have e : ag_st tn (i + 1) = 4 := f1 _ (ag_s7 tn i) _ (ag_tk (ht i)) (by omega) k
    exact ⟨ag_preS hp (by omega) (by omega), e, ag_dno (by omega) (by omega)⟩
  | succ m ih =>
    have k := hk (i + m + 1) (by omega) (by omega)
    obtain ⟨a, b, c⟩ := ih (fun j h1 h2 => hk j h1 (by omega))
    have e : ag_st tn (i + m + 1 + 1) = 4 := f1 _ (ag_s7 tn _) _ (ag_tk (ht _)) (by omega) k
    show ag_pre tn (i + m + 1 + 1) ∧ ag_st tn (i + m + 1 + 1) = 4 ∧ ag_dp tn (i + m + 1 + 1) = ag_dp tn i
    exact ⟨ag_preS a (by omega) (by omega), e, (ag_dno (by omega) (by omega)).trans c⟩
end
end
section
/-! arrays as pure pictures: rank, rows, columns (ranks 0 and 1: one row), the ravel -/
def ap_ne (f : Nat) : Int32 := if f = 22 then 1 else 0
def ap_dv (x : Int32) : Int64 := if x < 0 then -x.toInt64 else x.toInt64
def ap_rm (x y : Int32) : Int64 := y.toInt64 - y.toInt64 / ap_dv x * ap_dv x
def ap_rs (x y : Int32) : Int32 := if x = 0 then y else if ap_rm x y < 0 then (ap_rm x y + ap_dv x).toInt32 else (ap_rm x y).toInt32
def ap_sf (f : Nat) (x y : Int32) : Int32 :=
  if f = 20 then x + y else if f = 21 then x - y else if f = 22 then x * y
  else if f = 23 then (if y < x then x else y) else if f = 24 then (if x < y then x else y)
  else if f = 25 then (if x = y then 1 else 0) else if f = 26 then (if x < y then 1 else 0) else ap_rs x y
/-- the numbers l - m to l, folded from the last one -/
def ap_fr (f : Nat) (d : Nat → Int32) (l : Nat) : Nat → Int32
  | 0 => d l
  | m + 1 => ap_sf f (d (l - (m + 1))) (ap_fr f d l m)
def ap_fv (f : Nat) (d : Nat → Int32) (k : Nat) : Int32 := if k = 0 then ap_ne f else ap_fr f d (k - 1) (k - 1)
theorem ap_frc {f : Nat} {d d' : Nat → Int32} {l : Nat} (h : ∀ i, i ≤ l → d i = d' i) : ∀ m, ap_fr f d l m = ap_fr f d' l m := by
  intro m
  induction m with
  | zero => exact h l (Nat.le_refl l)
  | succ m ih => unfold ap_fr; rw [ih, h _ (Nat.sub_le _ _)]
theorem ap_fvc {f : Nat} {d d' : Nat → Int32} {k : Nat} (h : ∀ i, i < k → d i = d' i) : ap_fv f d k = ap_fv f d' k := by
  unfold ap_fv
  by_cases e : k = 0
  · rw [if_pos e, if_pos e]
  · rw [if_neg e, if_neg e]; exact ap_frc (fun i hi => h i (by omega)) _
/-- the first of the places s, s + 1, .. at which p holds, s + m if none of m -/
def ap_fp (p : Nat → Bool) : Nat → Nat → Nat
  | 0, s => s
  | m + 1, s => if p s then s else ap_fp p m (s + 1)
/-- how many of the numbers 0 .. n - 1 stand before number i -/
def ap_pl (d : Nat → Int32) (i : Nat) : Nat → Nat
  | 0 => 0
  | n + 1 => if d n < d i ∨ (d n = d i ∧ n < i) then ap_pl d i n + 1 else ap_pl d i n
abbrev ap_T : Type := Int32 × Nat × Nat × Nat × (Nat → Int32)
def ap_er (e : Int32) : ap_T := (e, 0, 1, 1, fun _ => 0)
def ap_s1 (f R r c : Nat) (d : Nat → Int32) : ap_T := (0, R, r, c, fun i => ap_sf f (ap_ne f) (d i))
def ap_fold (f R r c : Nat) (d : Nat → Int32) : ap_T := (0, if R = 2 then 1 else 0, 1, r, fun i => ap_fv f (fun k => d (i * c + k)) c)
def ap_scan (f R r c : Nat) (d : Nat → Int32) : ap_T := (0, R, r, c, fun i => ap_fv f (fun k => d (i - i % c + k)) (i % c + 1))
def ap_shape (R r c : Nat) : ap_T := (0, 1, 1, R, fun i => if i = 0 then nI (if R = 2 then r else c) else nI c)
def ap_count (R : Nat) (d : Nat → Int32) : ap_T :=
  if R = 0 then (if d 0 < 0 ∨ 36 < d 0 then ap_er (-15) else (0, 1, 1, (d 0).toNatClampNeg, fun i => nI i)) else ap_er (-13)
def ap_turn (R r c : Nat) (d : Nat → Int32) : ap_T :=
  if R = 2 then (0, 2, c, r, fun j => d (j % r * c + j / r)) else (0, R, r, c, d)
def ap_rev (R r c : Nat) (d : Nat → Int32) : ap_T := (0, R, r, c, fun i => d (i - i % c + (c - 1 - i % c)))
def ap_first (r c : Nat) (d : Nat → Int32) : ap_T := (0, 0, 1, 1, fun _ => if r * c = 0 then 0 else d 0)
def ap_ravel (r c : Nat) (d : Nat → Int32) : ap_T := (0, 1, 1, r * c, d)
def ap_rise (R c : Nat) (d : Nat → Int32) : ap_T :=
  if R = 1 then (0, 1, 1, c, fun j => nI (ap_fp (fun i => decide (ap_pl d i c = j)) c 0)) else ap_er (-13)
def ap_one (k f R r c : Nat) (d : Nat → Int32) : ap_T :=
  if 2 < k ∨ f = 35 ∨ f = 37 then ap_er (-12)
  else if k = 1 then ap_fold f R r c d else if k = 2 then ap_scan f R r c d
  else if f < 30 then ap_s1 f R r c d
  else if f = 30 then ap_shape R r c else if f = 31 then ap_count R d
  else if f = 32 then ap_turn R r c d else if f = 33 then ap_rev R r c d
  else if f = 34 then ap_first r c d else if f = 36 then ap_ravel r c d else ap_rise R c d
section
variable (R r c : Nat) (d : Nat → Int32) (S s t : Nat) (e : Nat → Int32)
def ap_s2 (f : Nat) : ap_T :=
  if ¬ (R = S ∧ r = s ∧ c = t) ∧ R ≠ 0 ∧ S ≠ 0 then (if R = S then ap_er (-14) else ap_er (-13))
  else (0, if R = 0 then S else R, if R = 0 then s else r, if R = 0 then t else c, fun i => ap_sf f (d (if R = 0 then 0 else i)) (e (if S = 0 then 0 else i)))
def ap_outer (f : Nat) : ap_T :=
  if 2 < R + S then ap_er (-13)
  else if R = 1 ∧ S = 1 then (if 6 < c ∨ 6 < t then ap_er (-16) else (0, 2, c, t, fun i => ap_sf f (d (i / (s * t))) (e (i % (s * t)))))
  else (0, if R = 0 then S else R, if R = 0 then s else r, if R = 0 then t else c, fun i => ap_sf f (d (i / (s * t))) (e (i % (s * t))))
def ap_w : Nat := if R = 2 then c else 1
def ap_fl : Nat := if R = 2 then r else c
def ap_inner (f g : Nat) : ap_T :=
  if R = 0 ∨ S = 0 then ap_er (-13)
  else if c = ap_fl S s t then (0, R + S - 2, if R = 2 ∧ S = 2 then r else 1, if R = 2 ∧ S = 2 then ap_w S t else r * ap_w S t,
    fun i => ap_fv f (fun k => ap_sf g (d (i / ap_w S t * c + k)) (e (k * ap_w S t + i % ap_w S t))) c)
  else ap_er (-14)
def ap_resh : ap_T :=
  if R = 2 then ap_er (-13) else if 2 < r * c then ap_er (-14)
  else if ∀ i, i < r * c → ¬ d i < 0 ∧ ¬ (if r * c = 1 then 36 else 6) < d i then
    (0, r * c, if r * c = 2 then (d 0).toNatClampNeg else 1, if r * c = 0 then 1 else (d (r * c - 1)).toNatClampNeg, fun i => if s * t = 0 then 0 else e (i % (s * t)))
  else ap_er (-15)
def ap_find : ap_T :=
  if R = 1 then (0, S, s, t, fun i => nI (ap_fp (fun k => decide (d k = e i)) c 0)) else ap_er (-13)
def ap_rot : ap_T :=
  if R = 0 then (0, S, s, t, fun i => e (i - i % t + (i % t + ((d 0).toInt % t).toNat) % t)) else ap_er (-13)
end
def ap_lines (a : Int) (m R r c : Nat) (d : Nat → Int32) : ap_T :=
  (0, if R = 2 then 2 else 1, if R = 2 then m else 1, if R = 2 then c else m,
    fun i => if 0 ≤ a * ap_w R c + i ∧ a * ap_w R c + i < (r * c : Nat) then d (a * ap_w R c + i).toNat else 0)
section
variable (R r c : Nat) (d : Nat → Int32) (S s t : Nat) (e : Nat → Int32)
def ap_take : ap_T :=
  if R = 0 then
    (if (d 0).toInt < -(if S = 2 then 6 else 36) ∨ (if S = 2 then 6 else 36) < (d 0).toInt then ap_er (-15)
     else ap_lines (if (d 0).toInt < 0 then ap_fl S s t + (d 0).toInt else 0) (d 0).toInt.natAbs S s t e)
  else ap_er (-13)
def ap_drop : ap_T :=
  if R = 0 then ap_lines (if (d 0).toInt < 0 then 0 else (ap_fl S s t - (ap_fl S s t - (d 0).toInt.natAbs) : Nat)) (ap_fl S s t - (d 0).toInt.natAbs) S s t e
  else ap_er (-13)
def ap_join : ap_T :=
  if (R = 2 ∧ S ≠ 2) ∨ (R ≠ 2 ∧ S = 2) then ap_er (-13) else if r ≠ s then ap_er (-14)
  else if (if R = 2 then 6 else 36) < c + t then ap_er (-16)
  else (0, if R = 2 then 2 else 1, r, c + t, fun i => if i % (c + t) < c then d (i / (c + t) * c + i % (c + t)) else e (i / (c + t) * t + (i % (c + t) - c)))
def ap_pick : ap_T :=
  if R = 2 ∨ S = 0 then ap_er (-13)
  else if ∀ i, i < c → ¬ d i < 0 ∧ d i < nI (ap_fl S s t) then
    (if S = 2 ∧ 6 < c then ap_er (-16)
     else (0, R + S - 1, if R + S - 1 = 2 then c else 1, if R + S - 1 = 2 then ap_w S t else c * ap_w S t,
       fun i => e ((d (i / ap_w S t)).toNatClampNeg * ap_w S t + i % ap_w S t)))
  else ap_er (-15)
def ap_two (k f g : Nat) : ap_T :=
  if k = 1 ∨ k = 2 ∨ f = 32 ∨ f = 38 then ap_er (-12)
  else if k = 3 then ap_outer R r c d S s t e f
  else if k = 4 then ap_inner R r c d S s t e f g
  else if f < 30 then ap_s2 R r c d S s t e f
  else if f = 30 then ap_resh R r c d s t e else if f = 31 then ap_find R c d S s t e
  else if f = 33 then ap_rot R d S s t e
  else if f = 34 then ap_take R d S s t e else if f = 35 then ap_drop R d S s t e
  else if f = 36 then ap_join R r c d S s t e else ap_pick R c d S s t e
end
/-- the shapes of arrays -/
def ap_VS (R r c : Nat) : Prop := (R = 0 ∧ r = 1 ∧ c = 1) ∨ (R = 1 ∧ r = 1 ∧ c ≤ 36) ∨ (R = 2 ∧ r ≤ 6 ∧ c ≤ 6)
theorem ap_v36 {R r c : Nat} (h : ap_VS R r c) : r * c ≤ 36 := by
  rcases h with ⟨_, rfl, rfl⟩ | ⟨_, rfl, h⟩ | ⟨_, h1, h2⟩
  · decide
  · omega
  · exact Nat.le_trans (Nat.mul_le_mul h1 h2) (by decide)
theorem ap_vb {R r c : Nat} (h : ap_VS R r c) : R ≤ 2 ∧ r ≤ 6 ∧ c ≤ 36 := by
  unfold ap_VS at h; omega
theorem ap_v1 {R r c : Nat} (h : ap_VS R r c) (h2 : R ≠ 2) : r = 1 := by
  unfold ap_VS at h; omega
theorem ap_v0 {r c : Nat} (h : ap_VS 0 r c) : r = 1 ∧ c = 1 := by
  unfold ap_VS at h; omega
/-- the numbers of the holder where results are made -/
def ap_wr (a g : Nat → Int32) (e : Nat) : Nat → Int32 := fun j => if 468 ≤ j ∧ j < 468 + e then g (j - 468) else a j
theorem ap_wr0 (a g : Nat → Int32) : ap_wr a g 0 = a := by
  funext j; unfold ap_wr; rw [if_neg (by omega)]
theorem ap_wrS (a g : Nat → Int32) (e : Nat) : upd (ap_wr a g e) (468 + e) (g e) = ap_wr a g (e + 1) := by
  funext j
  unfold ap_wr upd
  by_cases h : j = 468 + e
  · subst h; rw [if_pos rfl, if_pos (by omega), Nat.add_sub_cancel_left]
  · rw [if_neg h]
    dsimp only
    by_cases h2 : 468 ≤ j ∧ j < 468 + e
    · rw [if_pos h2, if_pos (by omega)]
    · rw [if_neg h2, if_neg (by omega)]
theorem ap_wrN {a g : Nat → Int32} {e j : Nat} (he : e ≤ 36) (h : j < 468 ∨ 504 ≤ j) : ap_wr a g e j = a j := by
  unfold ap_wr; rw [if_neg (by omega)]
theorem ap_wrI {a g : Nat → Int32} {e i : Nat} (h : i < e) : ap_wr a g e (468 + i) = g i := by
  unfold ap_wr; rw [if_pos (by omega), Nat.add_sub_cancel_left]
/-- X's holder h, Y's place h, hold the array -/
def ap_X (rk rw cl nb : Nat → Int32) (h R r c : Nat) (d : Nat → Int32) : Prop :=
  rk h = nI R ∧ rw h = nI r ∧ cl h = nI c ∧ ∀ i, i < r * c → nb (h * 36 + i) = d i
def ap_Y (rk rw wd dt : Nat → Int32) (h R r c : Nat) (d : Nat → Int32) : Prop :=
  rk h = nI R ∧ rw h = nI (ap_fl R r c) ∧ wd h = nI (ap_w R c) ∧ ∀ i, i < r * c → dt (h * 36 + i) = d i
/-- all but holder h stays -/
def ap_F (h : Nat) (rk rw cl nb rk' rw' cl' nb' : Nat → Int32) : Prop :=
  (∀ j, j ≠ h → rk' j = rk j ∧ rw' j = rw j ∧ cl' j = cl j) ∧ ∀ j, (j < h * 36 ∨ h * 36 + 36 ≤ j) → nb' j = nb j
theorem ap_Fr (h : Nat) (rk rw cl nb : Nat → Int32) : ap_F h rk rw cl nb rk rw cl nb := ⟨fun _ _ => ⟨rfl, rfl, rfl⟩, fun _ _ => rfl⟩
theorem ap_FX {h q R r c : Nat} {d rk rw cl nb rk' rw' cl' nb' : Nat → Int32} (F : ap_F q rk rw cl nb rk' rw' cl' nb') (hq : h ≠ q) (V : r * c ≤ 36) (H : ap_X rk rw cl nb h R r c d) : ap_X rk' rw' cl' nb' h R r c d := by
  obtain ⟨a, b, e, g⟩ := H
  obtain ⟨x, y, z⟩ := F.1 h hq
  exact ⟨x.trans a, y.trans b, z.trans e, fun i hi => (F.2 _ (by omega)).trans (g i hi)⟩
theorem ap_FY {h q R r c : Nat} {d rk rw cl nb rk' rw' cl' nb' : Nat → Int32} (F : ap_F q rk rw cl nb rk' rw' cl' nb') (hq : h ≠ q) (V : r * c ≤ 36) (H : ap_Y rk rw cl nb h R r c d) : ap_Y rk' rw' cl' nb' h R r c d := by
  obtain ⟨a, b, e, g⟩ := H
  obtain ⟨x, y, z⟩ := F.1 h hq
  exact ⟨x.trans a, y.trans b, z.trans e, fun i hi => (F.2 _ (by omega)).trans (g i hi)⟩
/-- writing result holder 13 -/
theorem ap_F13 {rk rw cl nb g : Nat → Int32} {x y z : Int32} {e : Nat} (he : e ≤ 36) : ap_F 13 rk rw cl nb (upd rk 13 x) (upd rw 13 y) (upd cl 13 z) (ap_wr nb g e) :=
  ⟨fun _ h => ⟨pk_un h, pk_un h, pk_un h⟩, fun _ h => ap_wrN he (by omega)⟩
theorem ap_X13 {rk rw cl nb g : Nat → Int32} {R r c : Nat} : ap_X (upd rk 13 (nI R)) (upd rw 13 (nI r)) (upd cl 13 (nI c)) (ap_wr nb g (r * c)) 13 R r c g :=
  ⟨pk_us, pk_us, pk_us, fun _ h => ap_wrI h⟩
theorem ap_Y13 {rk rw cl nb g : Nat → Int32} {R r c : Nat} : ap_Y (upd rk 13 (nI R)) (upd rw 13 (nI (ap_fl R r c))) (upd cl 13 (nI (ap_w R c))) (ap_wr nb g (r * c)) 13 R r c g :=
  ⟨pk_us, pk_us, pk_us, fun _ h => ap_wrI h⟩
end
section
/-! facts of the pictures: the shapes stay shapes; places of the rising order; rests -/
def ap_ok (T : ap_T) : Prop := ap_VS T.2.1 T.2.2.1 T.2.2.2.1
theorem ap_erV (e : Int32) : ap_ok (ap_er e) := Or.inl ⟨rfl, rfl, rfl⟩
theorem ap_c36 {x : Int32} {m : Nat} (hm : m < 2 ^ 31) (h : ¬ nI m < x) : x.toNatClampNeg ≤ m := by
  by_cases h0 : x < 0
  · have e : x.toInt < 0 := by
      rw [Int32.lt_iff_toInt_lt] at h0; exact h0
    have : x.toNatClampNeg = x.toInt.toNat := rfl
    omega
  · obtain ⟨j, hj, rfl⟩ := nI_of h0
    rw [nI_ltI hm hj] at h
    rw [nI_clamp hj]; omega
theorem ap_mk {T : ap_T} {R r c : Nat} (h1 : T.2.1 = R) (h2 : T.2.2.1 = r) (h3 : T.2.2.2.1 = c) (V : ap_VS R r c) : ap_ok T := by
  unfold ap_ok
  rw [h1, h2, h3]
  exact V
theorem ap_mk0 : ap_VS 0 1 1 := Or.inl ⟨rfl, rfl, rfl⟩
theorem ap_mk1 {c : Nat} (h : c ≤ 36) : ap_VS 1 1 c := Or.inr (Or.inl ⟨rfl, rfl, h⟩)
theorem ap_mk2 {r c : Nat} (h1 : r ≤ 6) (h2 : c ≤ 6) : ap_VS 2 r c := Or.inr (Or.inr ⟨rfl, h1, h2⟩)
theorem ap_v2 {r c : Nat} (h : ap_VS 2 r c) : r ≤ 6 ∧ c ≤ 6 := by
  unfold ap_VS at h; omega
theorem ap_foldV {f R r c : Nat} {d : Nat → Int32} (V : ap_VS R r c) : ap_ok (ap_fold f R r c d) := by
  have vb := ap_vb V
  by_cases h : R = 2
  · exact ap_mk (R := 1) (r := 1) (c := r) (if_pos h) rfl rfl (ap_mk1 (by omega))
  · have r1 := ap_v1 V h
    subst r1
    exact ap_mk (R := 0) (r := 1) (c := 1) (if_neg h) rfl rfl ap_mk0
theorem ap_shapeV {R r c : Nat} (V : ap_VS R r c) : ap_ok (ap_shape R r c) := by
  unfold ap_ok ap_shape ap_VS at *
  dsimp only; omega
theorem ap_countV {R : Nat} {d : Nat → Int32} : ap_ok (ap_count R d) := by
  unfold ap_count
  split
  · split
    · exact ap_erV _
    · rename_i h
      exact Or.inr (Or.inl ⟨rfl, rfl, ap_c36 (m := 36) (by decide) (fun z => h (Or.inr z))⟩)
  · exact ap_erV _
theorem ap_turnV {R r c : Nat} {d : Nat → Int32} (V : ap_VS R r c) : ap_ok (ap_turn R r c d) := by
  unfold ap_turn
  split
  · rename_i h
    unfold ap_ok ap_VS at *
    dsimp only; omega
  · exact V
theorem ap_firstV {r c : Nat} {d : Nat → Int32} : ap_ok (ap_first r c d) := Or.inl ⟨rfl, rfl, rfl⟩
theorem ap_ravelV {R r c : Nat} {d : Nat → Int32} (V : ap_VS R r c) : ap_ok (ap_ravel r c d) := Or.inr (Or.inl ⟨rfl, rfl, ap_v36 V⟩)
theorem ap_riseV {R r c : Nat} {d : Nat → Int32} (V : ap_VS R r c) : ap_ok (ap_rise R c d) := by
  unfold ap_rise
  split
  · exact Or.inr (Or.inl ⟨rfl, rfl, (ap_vb V).2.2⟩)
  · exact ap_erV _
theorem ap_oneV {k f R r c : Nat} {d : Nat → Int32} (V : ap_VS R r c) : ap_ok (ap_one k f R r c d) := by
  unfold ap_one
  repeat' split
  · exact ap_erV _
  · exact ap_foldV V
  · exact V
  · exact V
  · exact ap_shapeV V
  · exact ap_countV
  · exact ap_turnV V
  · exact V
  · exact ap_firstV
  · exact ap_ravelV V
  · exact ap_riseV V
section
variable {R r c : Nat} {d : Nat → Int32} {S s t : Nat} {e : Nat → Int32}
theorem ap_s2V {f : Nat} (V : ap_VS R r c) (W : ap_VS S s t) : ap_ok (ap_s2 R r c d S s t e f) := by
  unfold ap_s2
  split
  · split
    · exact ap_erV _
    · exact ap_erV _
  · unfold ap_ok
    by_cases h : R = 0
    · simp only [if_pos h]; exact W
    · simp only [if_neg h]; exact V
theorem ap_outerV {f : Nat} (V : ap_VS R r c) (W : ap_VS S s t) : ap_ok (ap_outer R r c d S s t e f) := by
  unfold ap_outer
  split
  · exact ap_erV _
  · split
    · split
      · exact ap_erV _
      · unfold ap_ok ap_VS at *; dsimp only; omega
    · unfold ap_ok
      by_cases h : R = 0
      · simp only [if_pos h]; exact W
      · simp only [if_neg h]; exact V
theorem ap_innerV {f g : Nat} (V : ap_VS R r c) (W : ap_VS S s t) : ap_ok (ap_inner R r c d S s t e f g) := by
  have vb := ap_vb V
  have wb := ap_vb W
  unfold ap_inner
  by_cases h0 : R = 0 ∨ S = 0
  · rw [if_pos h0]; exact ap_erV _
  rw [if_neg h0]
  by_cases h3 : c = ap_fl S s t
  case neg => rw [if_neg h3]; exact ap_erV _
  rw [if_pos h3]
  by_cases h1 : R = 2
  · by_cases h2 : S = 2
    · subst h1 h2
      have w : ap_w 2 t = t := rfl
      exact ap_mk (R := 2) (r := r) (c := t) rfl rfl rfl (ap_mk2 (by omega) (ap_v2 W).2)
    · have e2 : S = 1 := by omega
      subst h1 e2
      exact ap_mk (R := 1) (r := 1) (c := r * 1) rfl rfl rfl (ap_mk1 (by omega))
  · have e1 : R = 1 := by omega
    subst e1
    have r1 := ap_v1 V (by omega)
    subst r1
    by_cases h2 : S = 2
    · subst h2
      exact ap_mk (R := 1) (r := 1) (c := 1 * t) rfl rfl rfl (ap_mk1 (by omega))
    · have e2 : S = 1 := by omega
      subst e2
      exact ap_mk (R := 0) (r := 1) (c := 1) rfl rfl rfl ap_mk0
theorem ap_reshV : ap_ok (ap_resh R r c d s t e) := by
  unfold ap_resh
  by_cases h0 : R = 2
  · rw [if_pos h0]; exact ap_erV _
  rw [if_neg h0]
  by_cases h1 : 2 < r * c
  · rw [if_pos h1]; exact ap_erV _
  rw [if_neg h1]
  by_cases h : ∀ i, i < r * c → ¬ d i < 0 ∧ ¬ (if r * c = 1 then 36 else 6) < d i
  · rw [if_pos h]
    generalize r * c = m at *
    rcases (by omega : m = 0 ∨ m = 1 ∨ m = 2) with rfl | rfl | rfl
    · exact ap_mk (R := 0) (r := 1) (c := 1) rfl rfl rfl ap_mk0
    · exact ap_mk (R := 1) (r := 1) (c := (d 0).toNatClampNeg) rfl rfl rfl (ap_mk1 (ap_c36 (m := 36) (by decide) (h 0 (by omega)).2))
    · exact ap_mk (R := 2) (r := (d 0).toNatClampNeg) (c := (d 1).toNatClampNeg) rfl rfl rfl (ap_mk2 (ap_c36 (m := 6) (by decide) (h 0 (by omega)).2) (ap_c36 (m := 6) (by decide) (h 1 (by omega)).2))
  · rw [if_neg h]; exact ap_erV _
theorem ap_findV (W : ap_VS S s t) : ap_ok (ap_find R c d S s t e) := by
  unfold ap_find
  split
  · exact W
  · exact ap_erV _
theorem ap_rotV (W : ap_VS S s t) : ap_ok (ap_rot R d S s t e) := by
  unfold ap_rot
  split
  · exact W
  · exact ap_erV _
theorem ap_linesV {a : Int} {m : Nat} (W : ap_VS S s t) (h : m ≤ if S = 2 then 6 else 36) : ap_ok (ap_lines a m S s t e) := by
  by_cases h2 : S = 2
  · rw [if_pos h2] at h
    subst h2
    exact ap_mk (R := 2) (r := m) (c := t) rfl rfl rfl (ap_mk2 h (ap_v2 W).2)
  · rw [if_neg h2] at h
    exact ap_mk (R := 1) (r := 1) (c := m) (if_neg h2) (if_neg h2) (if_neg h2) (ap_mk1 h)
theorem ap_takeV (W : ap_VS S s t) : ap_ok (ap_take R d S s t e) := by
  unfold ap_take
  by_cases h0 : R = 0
  case neg => rw [if_neg h0]; exact ap_erV _
  rw [if_pos h0]
  by_cases h : (d 0).toInt < -(if S = 2 then 6 else 36) ∨ (if S = 2 then 6 else 36) < (d 0).toInt
  · rw [if_pos h]; exact ap_erV _
  · rw [if_neg h]
    refine ap_linesV W ?_
    by_cases h2 : S = 2
    · simp only [if_pos h2] at h ⊢; omega
    · simp only [if_neg h2] at h ⊢; omega
theorem ap_dropV (W : ap_VS S s t) : ap_ok (ap_drop R d S s t e) := by
  unfold ap_drop
  by_cases h0 : R = 0
  case neg => rw [if_neg h0]; exact ap_erV _
  rw [if_pos h0]
  refine ap_linesV W ?_
  unfold ap_fl ap_VS at *
  by_cases h2 : S = 2
  · simp only [if_pos h2]; omega
  · simp only [if_neg h2]; omega
theorem ap_joinV (V : ap_VS R r c) : ap_ok (ap_join R r c d S s t e) := by
  unfold ap_join
  by_cases h0 : (R = 2 ∧ S ≠ 2) ∨ (R ≠ 2 ∧ S = 2)
  · rw [if_pos h0]; exact ap_erV _
  rw [if_neg h0]
  by_cases h1 : r ≠ s
  · rw [if_pos h1]; exact ap_erV _
  rw [if_neg h1]
  by_cases h : (if R = 2 then 6 else 36) < c + t
  · rw [if_pos h]; exact ap_erV _
  · rw [if_neg h]
    by_cases h2 : R = 2
    · rw [if_pos h2] at h
      subst h2
      exact ap_mk (R := 2) (r := r) (c := c + t) rfl rfl rfl (ap_mk2 (ap_v2 V).1 (by omega))
    · rw [if_neg h2] at h
      have r1 := ap_v1 V h2
      subst r1
      exact ap_mk (R := 1) (r := 1) (c := c + t) (if_neg h2) rfl rfl (ap_mk1 (by omega))
theorem ap_pickV (V : ap_VS R r c) (W : ap_VS S s t) : ap_ok (ap_pick R c d S s t e) := by
  have vb := ap_vb V
  have wb := ap_vb W
  unfold ap_pick
  by_cases h0 : R = 2 ∨ S = 0
  · rw [if_pos h0]; exact ap_erV _
  rw [if_neg h0]
  by_cases h : ∀ i, i < c → ¬ d i < 0 ∧ d i < nI (ap_fl S s t)
  case neg => rw [if_neg h]; exact ap_erV _
  rw [if_pos h]
  by_cases h6 : S = 2 ∧ 6 < c
  · rw [if_pos h6]; exact ap_erV _
  rw [if_neg h6]
  by_cases h1 : R = 1
  · by_cases h2 : S = 2
    · subst h1 h2
      exact ap_mk (R := 2) (r := c) (c := t) rfl rfl rfl (ap_mk2 (by omega) (ap_v2 W).2)
    · have e2 : S = 1 := by omega
      subst h1 e2
      exact ap_mk (R := 1) (r := 1) (c := c * 1) rfl rfl rfl (ap_mk1 (by omega))
  · have e1 : R = 0 := by omega
    subst e1
    obtain ⟨rfl, rfl⟩ := ap_v0 V
    by_cases h2 : S = 2
    · subst h2
      exact ap_mk (R := 1) (r := 1) (c := 1 * t) rfl rfl rfl (ap_mk1 (by omega))
    · have e2 : S = 1 := by omega
      subst e2
      exact ap_mk (R := 0) (r := 1) (c := 1) rfl rfl rfl ap_mk0
theorem ap_twoV {k f g : Nat} (V : ap_VS R r c) (W : ap_VS S s t) : ap_ok (ap_two R r c d S s t e k f g) := by
  unfold ap_two
  repeat' split
  · exact ap_erV _
  · exact ap_outerV V W
  · exact ap_innerV V W
  · exact ap_s2V V W
  · exact ap_reshV
  · exact ap_findV W
  · exact ap_rotV W
  · exact ap_takeV W
  · exact ap_dropV W
  · exact ap_joinV V
  · exact ap_pickV V W
end
/-! the rising order -/
theorem ap_bt {x y z : Int32} {i j k : Nat} (h1 : x < y ∨ (x = y ∧ i < j)) (h2 : y < z ∨ (y = z ∧ j < k)) : x < z ∨ (x = z ∧ i < k) := by
  simp only [Int32.lt_iff_toInt_lt, ← Int32.toInt_inj] at *
  omega
theorem ap_plT {d : Nat → Int32} {i j : Nat} (h : d i < d j ∨ (d i = d j ∧ i < j)) : ∀ n, ap_pl d i n ≤ ap_pl d j n ∧ (i < n → ap_pl d i n < ap_pl d j n) := by
  intro n
  induction n with
  | zero => exact ⟨Nat.le_refl _, fun z => by omega⟩
  | succ n ih =>
    unfold ap_pl
    by_cases a : d n < d i ∨ (d n = d i ∧ n < i)
    · rw [if_pos a, if_pos (ap_bt a h)]
      refine ⟨by omega, fun z => ?_⟩
      by_cases e : i = n
      · subst e
        simp only [Int32.lt_iff_toInt_lt] at a
        omega
      · have := ih.2 (by omega); omega
    · rw [if_neg a]
      by_cases b : d n < d j ∨ (d n = d j ∧ n < j)
      · rw [if_pos b]; exact ⟨by omega, fun _ => by omega⟩
      · rw [if_neg b]
        refine ⟨ih.1, fun z => ?_⟩
        by_cases e : i = n
        · subst e; exact absurd h b
        · exact ih.2 (by omega)
theorem ap_plI {d : Nat → Int32} {i j n : Nat} (hi : i < n) (hj : j < n) (h : ap_pl d i n = ap_pl d j n) : i = j := by
  by_cases e : i = j
  · exact e
  · have t : (d i < d j ∨ (d i = d j ∧ i < j)) ∨ (d j < d i ∨ (d j = d i ∧ j < i)) := by
      simp only [Int32.lt_iff_toInt_lt, ← Int32.toInt_inj]
      omega
    rcases t with t | t
    · have := (ap_plT t n).2 hi; omega
    · have := (ap_plT t n).2 hj; omega
theorem ap_plL {d : Nat → Int32} {i : Nat} : ∀ n, ap_pl d i n ≤ n ∧ (i < n → ap_pl d i n < n) := by
  intro n
  induction n with
  | zero => exact ⟨Nat.le_refl _, fun z => by omega⟩
  | succ n ih =>
    unfold ap_pl
    by_cases a : d n < d i ∨ (d n = d i ∧ n < i)
    · rw [if_pos a]
      refine ⟨by omega, fun z => ?_⟩
      by_cases e : i = n
      · subst e
        simp only [Int32.lt_iff_toInt_lt] at a
        omega
      · have := ih.2 (by omega); omega
    · rw [if_neg a]; omega
theorem ap_php : ∀ (n : Nat) (f : Nat → Nat), (∀ i, i < n → f i < n) → (∀ i j, i < n → j < n → f i = f j → i = j) → ∀ j, j < n → ∃ i, i < n ∧ f i = j := by
  intro n
  induction n with
  | zero => intro f _ _ j hj; omega
  | succ n ih =>
    intro f hf hi j hj
    have hn := hf n (by omega)
    have G := ih (fun i => if f i = n then f n else f i)
      (fun i h => by
        have a := hf i (by omega)
        have b := hi i n (by omega) (by omega)
        split
        · omega
        · omega)
      (fun i k h1 h2 h => by
        have a := hi i k (by omega) (by omega)
        have b := hi i n (by omega) (by omega)
        have c := hi k n (by omega) (by omega)
        split at h <;> split at h <;> omega)
    by_cases e : j = f n
    · exact ⟨n, by omega, e.symm⟩
    · by_cases e2 : j = n
      · obtain ⟨i, h1, h2⟩ := G (f n) (by omega)
        have b := hi i n (by omega) (by omega)
        split at h2
        · exact ⟨i, by omega, by omega⟩
        · omega
      · obtain ⟨i, h1, h2⟩ := G j (by omega)
        split at h2
        · omega
        · exact ⟨i, by omega, h2⟩
theorem ap_fpu {p : Nat → Bool} {a : Nat} (ha : p a = true) : ∀ m s, s ≤ a → a < s + m → (∀ k, s ≤ k → k < a → p k = false) → ap_fp p m s = a := by
  intro m
  induction m with
  | zero => intro s h1 h2 _; omega
  | succ m ih =>
    intro s h1 h2 h3
    unfold ap_fp
    by_cases e : s = a
    · subst e; rw [if_pos ha]
    · rw [if_neg (by rw [h3 s (by omega) (by omega)]; decide)]
      exact ih (s + 1) (by omega) (by omega) (fun k h4 h5 => h3 k (by omega) h5)
theorem ap_riseE {d : Nat → Int32} {c i : Nat} (hi : i < c) : ap_fp (fun k => decide (ap_pl d k c = ap_pl d i c)) c 0 = i :=
  ap_fpu (by simp) c 0 (by omega) (by omega) (fun k _ h => by
    rw [decide_eq_false_iff_not]
    intro z
    have := ap_plI (by omega) hi z
    omega)
theorem ap_riseS {d : Nat → Int32} {c j : Nat} (hj : j < c) : ∃ i, i < c ∧ ap_pl d i c = j :=
  ap_php c (fun i => ap_pl d i c) (fun i h => (ap_plL c).2 h) (fun i k h1 h2 h => ap_plI h1 h2 h) j hj
/-! rests -/
theorem ap_tm {a w : Int} (hw : 0 < w) : (if a.tmod w < 0 then a.tmod w + w else a.tmod w) = a % w := by
  have h := tmod_bounds (a := a) hw
  have e : a % w = a.tmod w % w := by
    have q := Int.tmod_add_mul_tdiv a w
    have z := Int.add_mul_emod_self_left (a.tmod w) w (a.tdiv w)
    rw [q] at z
    exact z
  split
  · rw [e, ← Int.add_emod_right (a.tmod w) w]
    exact (Int.emod_eq_of_lt (by omega) (by omega)).symm
  · rw [e]
    exact (Int.emod_eq_of_lt (by omega) (by omega)).symm
theorem ap_rsN {w : Nat} (h0 : 0 < w) (hw : w < 2 ^ 30) (x : Int32) : ap_rs (nI w) x = nI (x.toInt % w).toNat := by
  have w31 : w < 2 ^ 31 := by omega
  have e1 : ap_dv (nI w) = lN w := by
    unfold ap_dv
    rw [if_neg (nI_pos w31), nI_l w31]
  have e2 : (ap_rm (nI w) x).toInt = x.toInt.tmod w := by
    unfold ap_rm
    rw [e1, Jvm.Kit.i64_rem, Jvm.Kit.i64_of_i32, lN_toInt w31]
  have b := tmod_bounds (a := x.toInt) (M := w) (by omega)
  have t := ap_tm (a := x.toInt) (w := w) (by omega)
  have m0 := Int.emod_nonneg x.toInt (b := w) (by omega)
  have m1 := Int.emod_lt_of_pos x.toInt (b := w) (by omega)
  have lt : (ap_rm (nI w) x < 0) = (x.toInt.tmod w < 0) := by
    rw [Int64.lt_iff_toInt_lt, e2]; rfl
  unfold ap_rs
  rw [if_neg (nI_ne0 h0 w31)]
  apply Int32.toInt_inj.mp
  rw [nI_toInt (n := (x.toInt % w).toNat) (by omega)]
  by_cases c : x.toInt.tmod w < 0
  · rw [if_pos (by rw [lt]; exact c), e1]
    rw [if_pos c] at t
    have e3 : (ap_rm (nI w) x + lN w).toInt = x.toInt.tmod w + w := by
      rw [Jvm.Kit.i64_add (by rw [e2, lN_toInt w31]; omega) (by rw [e2, lN_toInt w31]; omega), e2, lN_toInt w31]
    rw [Jvm.Kit.i32_of_i64 (by rw [e3]; omega) (by rw [e3]; omega), e3]
    omega
  · rw [if_neg (by rw [lt]; exact c)]
    rw [if_neg c] at t
    rw [Jvm.Kit.i32_of_i64 (by rw [e2]; omega) (by rw [e2]; omega), e2]
    omega
end
section
/-! loops whose states are known; indices of rows and columns -/
theorem ap_lp {σ : Type} (W : Nat → Nat → σ → Prop) (a : Nat → σ) (e : Nat) (hx : ∀ n, W (n + 1) e (a e)) (hs : ∀ n i, i < e → W n (i + 1) (a (i + 1)) → W (n + 1) i (a i)) : ∀ n, e < n → W n 0 (a 0) := by
  have h : ∀ m i n, i + m = e → m < n → W n i (a i) := by
    intro m
    induction m with
    | zero =>
      intro i n h1 h2
      obtain ⟨k, rfl⟩ : ∃ k, n = k + 1 := ⟨n - 1, by omega⟩
      rw [show i = e by omega]; exact hx k
    | succ m ih =>
      intro i n h1 h2
      obtain ⟨k, rfl⟩ : ∃ k, n = k + 1 := ⟨n - 1, by omega⟩
      exact hs k i (by omega) (ih (i + 1) k (by omega) (by omega))
  exact fun n hn => h e 0 n (by omega) hn
theorem ap_le {σ : Type} (W : Nat → Nat → σ → Prop) (a : Nat → σ) (e : Nat) {s : σ} (h0 : a 0 = s) (hx : ∀ n, W (n + 1) e (a e)) (hs : ∀ n i, i < e → W n (i + 1) (a (i + 1)) → W (n + 1) i (a i)) : ∃ n, W n 0 s :=
  ⟨e + 1, h0 ▸ ap_lp W a e hx hs (e + 1) (by omega)⟩
/-- a loop that may end early, without a state: f i is its end from i on -/
theorem ap_ls (W : Nat → Nat → Prop) (Q : Nat → Prop) (e : Nat) (hx : Q e → ∀ n, W (n + 1) e) (hs : ∀ n i, i < e → Q i → (Q (i + 1) → W n (i + 1)) → W (n + 1) i) (h0 : Q 0) : ∃ n, W n 0 := by
  have h : ∀ m i, i + m = e → Q i → W (m + 1) i := by
    intro m
    induction m with
    | zero => intro i h1 q; rw [show i = e by omega] at q ⊢; exact hx q 0
    | succ m ih => intro i h1 q; exact hs (m + 1) i (by omega) q (fun q' => ih (i + 1) (by omega) q')
  exact ⟨e + 1, h e 0 (by omega) h0⟩
theorem ap_ix {i r c w : Nat} (hi : i < r) (hc : c < w) : i * w + c < r * w := by
  have h := Nat.mul_le_mul_right w (show i + 1 ≤ r from hi)
  rw [Nat.succ_mul] at h
  omega
theorem ap_dv1 {i c w : Nat} (hc : c < w) : (i * w + c) / w = i := by
  rw [Nat.mul_comm, Nat.mul_add_div (by omega), Nat.div_eq_of_lt hc, Nat.add_zero]
theorem ap_md1 {i c w : Nat} (hc : c < w) : (i * w + c) % w = c := Nat.mul_add_mod_of_lt hc
theorem ap_dvl {i r w : Nat} (h : i < r * w) : 0 < w ∧ i / w < r ∧ i % w < w ∧ i / w * w + i % w = i := by
  have w0 : 0 < w := by
    rcases Nat.eq_zero_or_pos w with z | z
    · rw [z, Nat.mul_zero] at h; omega
    · exact z
  exact ⟨w0, Nat.div_lt_of_lt_mul (by rw [Nat.mul_comm]; exact h), Nat.mod_lt _ w0, Nat.div_add_mod' i w⟩
end
section
/-! ints that may be below 0 -/
theorem an_nn {x : Int32} {q : Int} (h : x.toInt = q) (h0 : 0 ≤ q) : x = nI q.toNat := by
  have b := x.toInt_lt
  apply Int32.toInt_inj.mp
  rw [nI_toInt (by omega)]; omega
theorem an_st {x : Int32} {a : Int} {w i : Nat} (hx : x.toInt = a) (h1 : -36 ≤ a) (h2 : a ≤ 36) (hw : w ≤ 6) (hi : i ≤ 1000) : (x * nI w + nI i).toInt = a * w + i := by
  have b : -216 ≤ a * (w : Int) ∧ a * (w : Int) ≤ 216 := by
    rcases (by omega : w = 0 ∨ w = 1 ∨ w = 2 ∨ w = 3 ∨ w = 4 ∨ w = 5 ∨ w = 6) with rfl | rfl | rfl | rfl | rfl | rfl | rfl <;> omega
  have e1 : (x * nI w).toInt = a * w := by
    rw [Jvm.Kit.i32_mul (by rw [hx, nI_toInt (by omega)]; omega) (by rw [hx, nI_toInt (by omega)]; omega), hx, nI_toInt (by omega)]
  rw [Jvm.Kit.i32_add (by rw [e1, nI_toInt (by omega)]; omega) (by rw [e1, nI_toInt (by omega)]; omega), e1, nI_toInt (by omega)]
theorem an_ad {x : Int32} {a : Int} {i : Nat} (hx : x.toInt = a) (h1 : -1000 ≤ a) (h2 : a ≤ 1000) (hi : i ≤ 1000) : (x + nI i).toInt = a + i := by
  rw [Jvm.Kit.i32_add (by rw [hx, nI_toInt (by omega)]; omega) (by rw [hx, nI_toInt (by omega)]; omega), hx, nI_toInt (by omega)]
theorem an_da {x : Int32} {a : Int} {i : Nat} (hx : x.toInt = a) (h1 : -1000 ≤ a) (h2 : a ≤ 1000) (hi : i ≤ 1000) : (nI i + x).toInt = i + a := by
  rw [Jvm.Kit.i32_add (by rw [hx, nI_toInt (by omega)]; omega) (by rw [hx, nI_toInt (by omega)]; omega), hx, nI_toInt (by omega)]
theorem an_sb {x : Int32} {a : Int} {i : Nat} (hx : x.toInt = a) (h1 : -1000 ≤ a) (h2 : a ≤ 1000) (hi : i ≤ 1000) : (nI i - x).toInt = i - a := by
  rw [Jvm.Kit.i32_sub (by rw [hx, nI_toInt (by omega)]; omega) (by rw [hx, nI_toInt (by omega)]; omega), hx, nI_toInt (by omega)]
theorem an_ng {x : Int32} {a : Int} (hx : x.toInt = a) (h1 : -1000 ≤ a) : (-x).toInt = -a := by
  rw [Jvm.Kit.i32_neg (by rw [hx]; omega), hx]
theorem an_lt0 {x : Int32} : (x < 0) = (x.toInt < 0) := by rw [Int32.lt_iff_toInt_lt]; rfl
theorem an_0le {x : Int32} : (0 ≤ x) = (0 ≤ x.toInt) := by rw [Int32.le_iff_toInt_le]; rfl
theorem an_ltn {x : Int32} {n : Nat} (h : n < 2 ^ 31) : (x < nI n) = (x.toInt < n) := by rw [Int32.lt_iff_toInt_lt, nI_toInt h]
theorem an_nlt {x : Int32} {n : Nat} (h : n < 2 ^ 31) : (nI n < x) = (n < x.toInt) := by rw [Int32.lt_iff_toInt_lt, nI_toInt h]
theorem an_len {x : Int32} {n : Nat} (h : n < 2 ^ 31) : (x ≤ nI n) = (x.toInt ≤ n) := by rw [Int32.le_iff_toInt_le, nI_toInt h]
theorem an_nle {x : Int32} {n : Nat} (h : n < 2 ^ 31) : (nI n ≤ x) = (n ≤ x.toInt) := by rw [Int32.le_iff_toInt_le, nI_toInt h]
theorem an_nm {n : Nat} (h : n < 2 ^ 31) : (-nI n).toInt = -(n : Int) := by
  rw [Jvm.Kit.i32_neg (by rw [nI_toInt h]; omega), nI_toInt h]
/-- the place from which a number comes in a rotated row -/
theorem an_bk {k w : Nat} (x : Int32) (h0 : 0 < w) (hw : w ≤ 1000) (hk : k ≤ 1000) {a b c : Int64} (ha : a = (nI k).toInt64 + x.toInt64) (hb : b = a - a / (nI w).toInt64 * (nI w).toInt64) (hc : c = b + (nI w).toInt64) :
    (c - c / (nI w).toInt64 * (nI w).toInt64).toInt32 = nI (((k : Int) + x.toInt) % w).toNat := by
  have w1 : (nI w).toInt64.toInt = w := by rw [Jvm.Kit.i64_of_i32, nI_toInt (by omega)]
  have x1 := x.le_toInt
  have x2 := x.toInt_lt
  have a1 : a.toInt = k + x.toInt := by
    rw [ha, lg_i2l_add, nI_toInt (by omega)]
  have b1 : b.toInt = ((k : Int) + x.toInt).tmod w := by rw [hb, Jvm.Kit.i64_rem, a1, w1]
  have t := tmod_bounds (a := (k : Int) + x.toInt) (M := w) (by omega)
  have c1 : c.toInt = ((k : Int) + x.toInt).tmod w + w := by
    rw [hc, Jvm.Kit.i64_add (by rw [b1, w1]; omega) (by rw [b1, w1]; omega), b1, w1]
  have d1 : (c - c / (nI w).toInt64 * (nI w).toInt64).toInt = ((k : Int) + x.toInt) % w := by
    rw [Jvm.Kit.i64_rem_nonneg (by rw [c1]; omega), c1, w1, Int.add_emod_right]
    have q := Int.tmod_add_mul_tdiv ((k : Int) + x.toInt) w
    have z := Int.add_mul_emod_self_left (((k : Int) + x.toInt).tmod w) w (((k : Int) + x.toInt).tdiv w)
    rw [q] at z
    exact z.symm
  have m0 := Int.emod_nonneg ((k : Int) + x.toInt) (b := w) (by omega)
  have m1 := Int.emod_lt_of_pos ((k : Int) + x.toInt) (b := w) (by omega)
  apply Int32.toInt_inj.mp
  rw [Jvm.Kit.i32_of_i64 (by rw [d1]; omega) (by rw [d1]; omega), d1, nI_toInt (by omega)]
  omega
theorem an_rt {k w : Nat} (x : Int) (h0 : 0 < w) : (k + (x % w).toNat) % w = (((k : Int) + x) % w).toNat := by
  have m0 := Int.emod_nonneg x (b := w) (by omega)
  have e : (((k + (x % w).toNat) % w : Nat) : Int) = ((k : Int) + x) % w := by
    rw [Int.natCast_emod, Int.natCast_add, Int.toNat_of_nonneg m0, Int.add_emod_emod]
  omega
/-! where a function stands, what it is -/
def ag_k (tn : Nat → Nat) (n q : Nat) : Nat :=
  if tn q = 42 then 3 else if ¬ ag_sc (tn q) then 0
  else if q + 1 < n ∧ tn (q + 1) = 40 then 1 else if q + 1 < n ∧ tn (q + 1) = 41 then 2 else if q + 1 < n ∧ tn (q + 1) = 43 then 4 else 0
def ag_f (tn : Nat → Nat) (q : Nat) : Nat := if tn q = 42 then tn (q + 1) else tn q
def ag_g (tn : Nat → Nat) (q : Nat) : Nat := tn (q + 2)
def ag_w (k f g : Nat) : Nat := if k = 4 then 40000 + 100 * f + g else 10000 * k + f
def ag_wf (tn : Nat → Nat) (n q : Nat) : Prop :=
  q < n ∧ (ag_mx (tn q) ∨ (tn q = 42 ∧ q + 1 < n ∧ ag_sc (tn (q + 1))) ∨ (ag_sc (tn q) ∧ (q + 1 < n → tn (q + 1) = 43 → q + 2 < n ∧ ag_sc (tn (q + 2)))))
end
section
/-! X: the small methods -/
theorem ax_i13 : vp_in 13 46 := vp_in_nI (n := 13) (by omega) (by omega)
theorem ax_c13 : (13 : Int32).toNatClampNeg = 13 := nI_clamp (n := 13) (by omega)
section
variable {tc lv : Int32} {tx rk rw cl nb gv wt : Nat → Int32}
theorem ax_s13 (post : SX → Prop) (a b c : Int32) : wpX_setShape post (tc, lv, tx, rk, rw, cl, nb, gv, wt) 13 a b c = post (tc, lv, tx, upd rk 13 a, upd rw 13 b, upd cl 13 c, nb, gv, wt) := by
  simp only [wpX_setShape, ax_i13, ax_c13, forall_eq, true_and]
theorem ax_ss (post : SX → Prop) {h : Nat} (hh : h < 46) (a b c : Int32) : wpX_setShape post (tc, lv, tx, rk, rw, cl, nb, gv, wt) (nI h) a b c = post (tc, lv, tx, upd rk h a, upd rw h b, upd cl h c, nb, gv, wt) := by
  simp (disch := omega) only [wpX_setShape, vp_in_nI, nI_clamp, forall_eq, true_and]
theorem ax_sz (post : Int32 → Prop) {h : Nat} (hh : h < 46) : wpX_sizeOf post (tc, lv, tx, rk, rw, cl, nb, gv, wt) (nI h) = post (rw h * cl h) := by
  simp (disch := omega) only [wpX_sizeOf, vp_in_nI, nI_clamp, true_and]
theorem ax_fl (post : Int32 → Prop) {h R r c : Nat} (hh : h < 46) (hR : R ≤ 2) (h1 : rk h = nI R) (h2 : rw h = nI r) (h3 : cl h = nI c) : wpX_firstLength post (tc, lv, tx, rk, rw, cl, nb, gv, wt) (nI h) = post (nI (ap_fl R r c)) := by
  simp (disch := omega) only [wpX_firstLength, vp_in_nI, nI_clamp, true_and, h1, h2, h3, an_e2]
  unfold ap_fl
  by_cases e : R = 2
  · simp only [e, true_implies, not_true, false_implies, and_true, if_true]
  · simp only [e, false_implies, not_false_iff, true_implies, true_and, if_false]
end
theorem ax_ne (post : Int32 → Prop) {f : Nat} (hf : f < 100) : wpX_neutral post (nI f) = post (ap_ne f) := by
  simp (disch := omega) only [wpX_neutral, an_e22]
  unfold ap_ne
  by_cases e : f = 22
  · simp only [e, true_implies, not_true, false_implies, and_true, if_true]
  · simp only [e, false_implies, not_false_iff, true_implies, true_and, if_false]
theorem ax_dv (x : Int32) : ap_dv x = if 0 ≤ x then x.toInt64 else -x.toInt64 := by
  unfold ap_dv
  by_cases h : x < 0
  · rw [if_pos h, if_neg (by rw [Int32.not_le]; exact h)]
  · rw [if_neg h, if_pos (Int32.not_lt.mp h)]
theorem ax_d0 {x : Int32} (h : ¬ x = 0) : ¬ ap_dv x = 0 := by
  intro e
  apply h
  have e2 := congrArg Int64.toInt e
  unfold ap_dv at e2
  have z : (0 : Int64).toInt = 0 := by decide
  have b1 := x.le_toInt
  have b2 := x.toInt_lt
  apply Int32.toInt_inj.mp
  rw [show (0 : Int32).toInt = 0 from by decide]
  split at e2
  · rw [Jvm.Kit.i64_neg (by rw [Jvm.Kit.i64_of_i32]; omega), Jvm.Kit.i64_of_i32, z] at e2
    omega
  · rw [Jvm.Kit.i64_of_i32, z] at e2
    exact e2
theorem ax_rs (post : Int32 → Prop) {x y : Int32} (h : ¬ x = 0) : wX_scalar_118 post y (ap_dv x) = post (ap_rs x y) := by
  simp only [wX_scalar_118, ax_d0 h, not_false_iff, true_and, forall_eq]
  unfold ap_rs
  rw [if_neg h, show y.toInt64 - y.toInt64 / ap_dv x * ap_dv x = ap_rm x y from rfl]
  by_cases c : ap_rm x y < 0
  · have c2 : ¬ 0 ≤ ap_rm x y := by rw [Int64.not_le]; exact c
    simp only [c, c2, false_implies, not_false_iff, true_implies, true_and, if_true]
  · have c2 : 0 ≤ ap_rm x y := Int64.not_lt.mp c
    simp only [c, c2, true_implies, not_true, false_implies, and_true, if_false]
theorem ax_rest (post : Int32 → Prop) (x y : Int32) : ((x = 0 → post y) ∧ (¬ x = 0 → ((0 ≤ x → wX_scalar_118 post y x.toInt64) ∧ (¬ 0 ≤ x → wX_scalar_118 post y (-x.toInt64))))) = post (ap_rs x y) := by
  by_cases h : x = 0
  · simp only [h, true_implies, not_true, false_implies, and_true]
    unfold ap_rs
    rw [if_pos rfl]
  · rw [← ax_rs post h, ax_dv]
    by_cases c : 0 ≤ x
    · simp only [h, c, false_implies, not_false_iff, true_implies, true_and, not_true, and_true, if_true]
    · simp only [h, c, false_implies, not_false_iff, true_implies, true_and, if_false]
theorem ax_sf (post : Int32 → Prop) {f : Nat} (hf : ag_sc f) (x y : Int32) : wpX_scalar post (nI f) x y = post (ap_sf f x y) := by
  have e := ax_rest post x y
  have l1 : (x ≤ y) = ¬ (y < x) := by rw [Int32.not_lt]
  have l2 : (y ≤ x) = ¬ (x < y) := by rw [Int32.not_lt]
  rcases (by unfold ag_sc at hf; omega : f = 20 ∨ f = 21 ∨ f = 22 ∨ f = 23 ∨ f = 24 ∨ f = 25 ∨ f = 26 ∨ f = 27) with rfl | rfl | rfl | rfl | rfl | rfl | rfl | rfl
  · simp (disch := omega) [wpX_scalar, ap_sf, an_e20, an_t20, an_u26]
  · simp (disch := omega) [wpX_scalar, ap_sf, an_e20, an_e21, an_t20, an_u26]
  · simp (disch := omega) [wpX_scalar, ap_sf, an_e20, an_e21, an_e22, an_t20, an_u26]
  · by_cases c : y < x <;> simp (disch := omega) [wpX_scalar, ap_sf, an_e20, an_e21, an_e22, an_e23, an_t20, an_u26, l1, c]
  · by_cases c : x < y <;> simp (disch := omega) [wpX_scalar, ap_sf, an_e20, an_e21, an_e22, an_e23, an_e24, an_t20, an_u26, l2, c]
  · by_cases c : x = y <;> simp (disch := omega) [wpX_scalar, ap_sf, an_e20, an_e21, an_e22, an_e23, an_e24, an_e25, an_t20, an_u26, c]
  · by_cases c : x < y <;> simp (disch := omega) [wpX_scalar, ap_sf, an_e20, an_e21, an_e22, an_e23, an_e24, an_e25, an_e26, an_t20, an_u26, l2, c]
  · have a1 : ¬ (nI 27 < 20) := by decide
    have a2 : 26 < nI 27 := by decide
    simp only [wpX_scalar, a1, a2, false_implies, not_false_iff, true_implies, true_and, not_true, and_true]
    exact e
section
variable {tc lv : Int32} {tx rk rw cl nb gv wt : Nat → Int32}
theorem ax_fdL (post : Int32 → Prop) {f s l : Nat} (hf : ag_sc f) (hs : s + l + 1 ≤ 1656) : ∀ m n, m ≤ l → l - m < n → post (ap_fr f (fun i => nb (s + i)) l l) →
    wX_fold_26 post (nI f) (nI s) tc lv tx rk rw cl nb gv wt n (ap_fr f (fun i => nb (s + i)) l m) (nI (l - m) - 1) := by
  intro m n hm hn hp
  induction n generalizing m with
  | zero => omega
  | succ n ih =>
    by_cases e : l - m = 0
    · have e2 : m = l := by omega
      subst e2
      rw [e]
      exact br_t (by decide) hp
    · obtain ⟨q, hq⟩ : ∃ q, l - m = q + 1 := ⟨l - m - 1, by omega⟩
      have z : ¬ nI q < 0 := nI_pos (by omega)
      rw [hq, nI_pred]
      simp (disch := omega) only [wX_fold_26, vp_in_nI, nI_clamp, nI_leI, nI_ltI, nI_eq, nI_add, nI_1, pk_mul, an_m36, an_n36, an_b468, forall_eq, true_and, and_true, true_implies, false_implies, not_true, not_false_iff, implies_true, pk_un, pk_us, ap_wrN, ap_wrS, z, ax_sf _ hf]
      have h := ih (m + 1) (by omega) (by omega)
      have e3 : l - (m + 1) = q := by omega
      rw [e3] at h
      rw [show ap_fr f (fun i => nb (s + i)) l (m + 1) = ap_sf f (nb (s + q)) (ap_fr f (fun i => nb (s + i)) l m) by rw [← e3]; rfl] at h
      rw [show nI q + -1 = nI q - 1 from (Int32.sub_eq_add_neg _ _).symm]
      exact h
theorem ax_fd (post : Int32 → Prop) {f s k : Nat} (hf : ag_sc f) (hs : s + k ≤ 1656) (hp : post (ap_fv f (fun i => nb (s + i)) k)) : wpX_fold post (tc, lv, tx, rk, rw, cl, nb, gv, wt) (nI f) (nI s) (nI k) := by
  unfold ap_fv at hp
  by_cases e : k = 0
  · rw [if_pos e] at hp
    subst e
    simp (disch := omega) only [wpX_fold, ax_ne, nI_0, true_implies, not_true, false_implies, and_true]
    exact hp
  · rw [if_neg e] at hp
    obtain ⟨l, rfl⟩ : ∃ l, k = l + 1 := ⟨k - 1, by omega⟩
    rw [Nat.add_sub_cancel] at hp
    have z : ¬ nI (l + 1) = 0 := nI_ne0 (by omega) (by omega)
    have z2 : nI (l + 1) - 2 = nI l - 1 := by
      rw [← nI_1, show (2 : Int32) = 1 + 1 from rfl, ← Int32.sub_sub, Int32.add_sub_cancel]
    simp (disch := omega) only [wpX_fold, z, z2, nI_add, ← Nat.add_assoc, nI_pred, vp_in_nI, nI_clamp, nI_leI, nI_ltI, nI_eq, nI_add, nI_1, pk_mul, an_m36, an_n36, an_b468, forall_eq, true_and, and_true, true_implies, false_implies, not_true, not_false_iff, implies_true, pk_un, pk_us, ap_wrN, ap_wrS]
    exact ⟨l + 1, ax_fdL post hf (by omega) 0 (l + 1) (by omega) (by omega) hp⟩
end
end
section
/-! copies; what X's functions promise -/
def ap_cp (a : Nat → Int32) (p q k : Nat) : Nat → Int32 := fun j => if q * 36 ≤ j ∧ j < q * 36 + k then a (p * 36 + (j - q * 36)) else a j
theorem ap_cp0 (a : Nat → Int32) (p q : Nat) : ap_cp a p q 0 = a := by
  funext j; unfold ap_cp; rw [if_neg (by omega)]
theorem ap_cpS {a : Nat → Int32} {p q k : Nat} (h : p ≠ q) (hk : k < 36) : upd (ap_cp a p q k) (q * 36 + k) (ap_cp a p q k (p * 36 + k)) = ap_cp a p q (k + 1) := by
  funext j
  unfold ap_cp upd
  by_cases e : j = q * 36 + k
  · subst e
    dsimp only
    rw [if_pos rfl, if_neg (show ¬ (q * 36 ≤ p * 36 + k ∧ p * 36 + k < q * 36 + k) by omega), if_pos (show q * 36 ≤ q * 36 + k ∧ q * 36 + k < q * 36 + (k + 1) by omega), show q * 36 + k - q * 36 = k by omega]
  · rw [if_neg e]
    dsimp only
    by_cases e2 : q * 36 ≤ j ∧ j < q * 36 + k
    · rw [if_pos e2, if_pos (by omega)]
    · rw [if_neg e2, if_neg (by omega)]
theorem ap_cpN {a : Nat → Int32} {p q j : Nat} (h : j < q * 36 ∨ q * 36 + 36 ≤ j) : ap_cp a p q 36 j = a j := by
  unfold ap_cp; rw [if_neg (by omega)]
theorem ap_cpI {a : Nat → Int32} {p q i : Nat} (h : i < 36) : ap_cp a p q 36 (q * 36 + i) = a (p * 36 + i) := by
  unfold ap_cp; rw [if_pos (by omega), show q * 36 + i - q * 36 = i by omega]
theorem ap_cpF {rk rw cl nb : Nat → Int32} {p q : Nat} {x y z : Int32} : ap_F q rk rw cl nb (upd rk q x) (upd rw q y) (upd cl q z) (ap_cp nb p q 36) :=
  ⟨fun _ h => ⟨pk_un h, pk_un h, pk_un h⟩, fun _ h => ap_cpN h⟩
theorem ap_cpX {rk rw cl nb d : Nat → Int32} {p q R r c : Nat} (V : r * c ≤ 36) (H : ap_X rk rw cl nb p R r c d) : ap_X (upd rk q (rk p)) (upd rw q (rw p)) (upd cl q (cl p)) (ap_cp nb p q 36) q R r c d := by
  obtain ⟨a, b, e, g⟩ := H
  exact ⟨by rw [pk_us]; exact a, by rw [pk_us]; exact b, by rw [pk_us]; exact e, fun i hi => (ap_cpI (by omega)).trans (g i hi)⟩
theorem ap_cpY {rk rw cl nb d : Nat → Int32} {p q R r c : Nat} (V : r * c ≤ 36) (H : ap_Y rk rw cl nb p R r c d) : ap_Y (upd rk q (rk p)) (upd rw q (rw p)) (upd cl q (cl p)) (ap_cp nb p q 36) q R r c d := by
  obtain ⟨a, b, e, g⟩ := H
  exact ⟨by rw [pk_us]; exact a, by rw [pk_us]; exact b, by rw [pk_us]; exact e, fun i hi => (ap_cpI (by omega)).trans (g i hi)⟩
def ax_P (post : Int32 → SX → Prop) (tc lv : Int32) (tx rk rw cl nb gv wt : Nat → Int32) (T : ap_T) : Prop :=
  (T.1 ≠ 0 → post T.1 (tc, lv, tx, rk, rw, cl, nb, gv, wt)) ∧ (T.1 = 0 → ∀ rk' rw' cl' nb', ap_F 13 rk rw cl nb rk' rw' cl' nb' → ap_X rk' rw' cl' nb' 13 T.2.1 T.2.2.1 T.2.2.2.1 T.2.2.2.2 → post 0 (tc, lv, tx, rk', rw', cl', nb', gv, wt))
def ax_Q (post : SX → Prop) (tc lv : Int32) (tx rk rw cl nb gv wt : Nat → Int32) (T : ap_T) : Prop :=
  ∀ rk' rw' cl' nb', ap_F 13 rk rw cl nb rk' rw' cl' nb' → ap_X rk' rw' cl' nb' 13 T.2.1 T.2.2.1 T.2.2.2.1 T.2.2.2.2 → post (tc, lv, tx, rk', rw', cl', nb', gv, wt)
section
variable {tc lv : Int32} {tx rk rw cl nb gv wt : Nat → Int32}
theorem ax_Pe {post : Int32 → SX → Prop} {e : Int32} (he : e ≠ 0) (h : ax_P post tc lv tx rk rw cl nb gv wt (ap_er e)) : post e (tc, lv, tx, rk, rw, cl, nb, gv, wt) := h.1 he
theorem ax_Pk {post : Int32 → SX → Prop} {R r c : Nat} {g : Nat → Int32} (hs : r * c ≤ 36) (h : ax_P post tc lv tx rk rw cl nb gv wt (0, R, r, c, g)) :
    post 0 (tc, lv, tx, upd rk 13 (nI R), upd rw 13 (nI r), upd cl 13 (nI c), ap_wr nb g (r * c), gv, wt) := h.2 rfl _ _ _ _ (ap_F13 hs) ap_X13
theorem ax_Qk {post : SX → Prop} {R r c : Nat} {g : Nat → Int32} (hs : r * c ≤ 36) (h : ax_Q post tc lv tx rk rw cl nb gv wt (0, R, r, c, g)) :
    post (tc, lv, tx, upd rk 13 (nI R), upd rw 13 (nI r), upd cl 13 (nI c), ap_wr nb g (r * c), gv, wt) := h _ _ _ _ (ap_F13 hs) ap_X13
theorem ax_cp {post : SX → Prop} {a b : Nat} (ha : a < 46) (hb : b < 46) (hab : a ≠ b) (hp : post (tc, lv, tx, upd rk b (rk a), upd rw b (rw a), upd cl b (cl a), ap_cp nb a b 36, gv, wt)) : wpX_copyArray post (tc, lv, tx, rk, rw, cl, nb, gv, wt) (nI a) (nI b) := by
  simp (disch := omega) only [wpX_copyArray, ax_ss, vp_in_nI, nI_clamp, nI_leI, nI_ltI, nI_eq, nI_add, nI_1, pk_mul, an_m36, an_n36, an_b468, forall_eq, true_and, and_true, true_implies, false_implies, not_true, not_false_iff, implies_true, pk_un, pk_us, ap_wrN, ap_wrS]
  refine ap_le (fun n i s => wX_copyArray_25 post (nI a) (nI b) tc lv n (nI i) tx (upd rk b (rk a)) (upd rw b (rw a)) (upd cl b (cl a)) s gv wt) (fun i => ap_cp nb a b i) 36 (ap_cp0 _ _ _) (fun n => ?_) (fun n i hi ih => ?_)
  · exact br_t (by decide) hp
  · have z : ¬ 36 ≤ i := by omega
    simp (disch := omega) only [wX_copyArray_25, an_g36, z, ap_cpS hab, vp_in_nI, nI_clamp, nI_leI, nI_ltI, nI_eq, nI_add, nI_1, pk_mul, an_m36, an_n36, an_b468, forall_eq, true_and, and_true, true_implies, false_implies, not_true, not_false_iff, implies_true, pk_un, pk_us, ap_wrN, ap_wrS]
    exact ih
theorem ax_s1 {post : SX → Prop} {f y R r c : Nat} {d : Nat → Int32} (hf : ag_sc f) (y1 : 14 ≤ y) (y2 : y < 46) (V : ap_VS R r c) (H : ap_X rk rw cl nb y R r c d)
    (hP : ax_Q post tc lv tx rk rw cl nb gv wt (ap_s1 f R r c d)) : wpX_scalarAlone post (tc, lv, tx, rk, rw, cl, nb, gv, wt) (nI f) (nI y) := by
  obtain ⟨h1, h2, h3, h4⟩ := H
  have s := ap_v36 V
  have f1 : f < 100 := by unfold ag_sc at hf; omega
  simp (disch := omega) only [wpX_scalarAlone, ax_ne, ax_sz, ax_s13, h1, h2, h3, vp_in_nI, nI_clamp, nI_leI, nI_ltI, nI_eq, nI_add, nI_1, pk_mul, an_m36, an_n36, an_b468, forall_eq, true_and, and_true, true_implies, false_implies, not_true, not_false_iff, implies_true, pk_un, pk_us, ap_wrN, ap_wrS]
  refine ap_le (fun n i a => wX_scalarAlone_39 post (nI f) (nI y) (ap_ne f) (nI (r * c)) tc lv n (nI i) tx (upd rk 13 (nI R)) (upd rw 13 (nI r)) (upd cl 13 (nI c)) a gv wt)
    (fun i => ap_wr nb (fun i => ap_sf f (ap_ne f) (d i)) i) (r * c) (ap_wr0 _ _) (fun n => ?_) (fun n i hi ih => ?_)
  · exact br_t (nI_le (Nat.le_refl _) (by omega)) (ax_Qk s hP)
  · have z : ¬ r * c ≤ i := by omega
    simp (disch := omega) only [wX_scalarAlone_39, z, ax_sf _ hf, h4, vp_in_nI, nI_clamp, nI_leI, nI_ltI, nI_eq, nI_add, nI_1, pk_mul, an_m36, an_n36, an_b468, forall_eq, true_and, and_true, true_implies, false_implies, not_true, not_false_iff, implies_true, pk_un, pk_us, ap_wrN, ap_wrS]
    exact ih
end
end
section
/-! X: scalar functions between two arrays, folds, outer -/
theorem ap_wrH (a g : Nat → Int32) (e : Nat) {v : Int32} (h : v = g e) : upd (ap_wr a g e) (468 + e) v = ap_wr a g (e + 1) := by
  rw [h]; exact ap_wrS a g e
theorem ap_wrE {a g : Nat → Int32} {e : Nat} {v : Int32} (h : v = g e) : upd (ap_wr a g e) (468 + e) v = ap_wr a g (e + 1) := by
  rw [h]; exact ap_wrS a g e
section
variable {tc lv : Int32} {tx rk rw cl nb gv wt : Nat → Int32}
theorem ax_s2L {post : Int32 → SX → Prop} {f x y u v e : Nat} {D E : Nat → Int32} (hf : ag_sc f) (x1 : 14 ≤ x) (x2 : x < 46) (y1 : 14 ≤ y) (y2 : y < 46) (he : e ≤ 36)
    (bx : ∀ i, i < e → i * u < 36) (bY : ∀ i, i < e → i * v < 36) (hx : ∀ i, i < e → nb (x * 36 + i * u) = D i) (hy : ∀ i, i < e → nb (y * 36 + i * v) = E i)
    (hp : post 0 (tc, lv, tx, rk, rw, cl, ap_wr nb (fun i => ap_sf f (D i) (E i)) e, gv, wt)) : ∃ n, wX_scalarBetween_184 post (nI f) (nI x) (nI y) (nI u) (nI v) (nI e) tc lv n 0 tx rk rw cl nb gv wt := by
  refine ap_le (fun n i a => wX_scalarBetween_184 post (nI f) (nI x) (nI y) (nI u) (nI v) (nI e) tc lv n (nI i) tx rk rw cl a gv wt)
    (fun i => ap_wr nb (fun i => ap_sf f (D i) (E i)) i) e (ap_wr0 _ _) (fun n => ?_) (fun n i hi ih => ?_)
  · exact br_t (nI_le (Nat.le_refl _) (by omega)) hp
  · have z : ¬ e ≤ i := by omega
    have b1 := bx i hi
    have b2 := bY i hi
    simp (disch := omega) only [wX_scalarBetween_184, z, ax_sf _ hf, hx, hy, vp_in_nI, nI_clamp, nI_leI, nI_ltI, nI_eq, nI_add, nI_1, pk_mul, an_m36, an_n36, an_b468, forall_eq, true_and, and_true, true_implies, false_implies, not_true, not_false_iff, implies_true, pk_un, pk_us, ap_wrN, ap_wrS]
    exact ih
theorem ax_s2 {post : Int32 → SX → Prop} {f x y R r c S s t : Nat} {d e : Nat → Int32} (hf : ag_sc f) (x1 : 14 ≤ x) (x2 : x < 46) (y1 : 14 ≤ y) (y2 : y < 46)
    (V : ap_VS R r c) (H : ap_X rk rw cl nb x R r c d) (W : ap_VS S s t) (K : ap_X rk rw cl nb y S s t e)
    (hP : ax_P post tc lv tx rk rw cl nb gv wt (ap_s2 R r c d S s t e f)) : wpX_scalarBetween post (tc, lv, tx, rk, rw, cl, nb, gv, wt) (nI f) (nI x) (nI y) := by
  obtain ⟨h1, h2, h3, h4⟩ := H
  obtain ⟨k1, k2, k3, k4⟩ := K
  have vb := ap_vb V
  have wb := ap_vb W
  have v36 := ap_v36 V
  have w36 := ap_v36 W
  have core : ax_P post tc lv tx rk rw cl nb gv wt (0, if R = 0 then S else R, if R = 0 then s else r, if R = 0 then t else c, fun i => ap_sf f (d (if R = 0 then 0 else i)) (e (if S = 0 then 0 else i))) →
      (R ≠ 0 → S ≠ 0 → r * c = s * t) → wX_scalarBetween_98 post (nI f) (nI x) (nI y) tc lv tx rk rw cl nb gv wt := by
    intro hp hz
    by_cases e1 : R = 0
    · subst e1
      obtain ⟨rfl, rfl⟩ := ap_v0 V
      simp only [if_true] at hp
      have q := ax_Pk w36 hp
      by_cases e2 : S = 0
      · subst e2
        obtain ⟨rfl, rfl⟩ := ap_v0 W
        simp (disch := omega) only [wX_scalarBetween_98, wX_scalarBetween_112, wX_scalarBetween_128, wX_scalarBetween_144, ax_sz, ax_s13, h1, h2, h3, k1, k2, k3, an_e0, vp_in_nI, nI_clamp, nI_leI, nI_ltI, nI_eq, nI_add, nI_1, pk_mul, an_m36, an_n36, an_b468, forall_eq, true_and, and_true, true_implies, false_implies, not_true, not_false_iff, implies_true, pk_un, pk_us, ap_wrN, ap_wrS]
        exact ax_s2L (u := 0) (v := 0) hf x1 x2 y1 y2 w36 (fun i _ => by omega) (fun i _ => by omega) (fun i _ => h4 0 (by omega)) (fun i _ => k4 0 (by omega)) q
      · simp only [if_neg e2] at q
        simp (disch := omega) only [wX_scalarBetween_98, wX_scalarBetween_112, wX_scalarBetween_128, wX_scalarBetween_144, ax_sz, ax_s13, h1, h2, h3, k1, k2, k3, an_e0, e2, vp_in_nI, nI_clamp, nI_leI, nI_ltI, nI_eq, nI_add, nI_1, pk_mul, an_m36, an_n36, an_b468, forall_eq, true_and, and_true, true_implies, false_implies, not_true, not_false_iff, implies_true, pk_un, pk_us, ap_wrN, ap_wrS]
        exact ax_s2L (u := 0) (v := 1) hf x1 x2 y1 y2 w36 (fun i _ => by omega) (fun i _ => by omega) (fun i _ => h4 0 (by omega)) (fun i hi => by rw [Nat.mul_one]; exact k4 i hi) q
    · simp only [if_neg e1] at hp
      have q := ax_Pk v36 hp
      by_cases e2 : S = 0
      · subst e2
        obtain ⟨rfl, rfl⟩ := ap_v0 W
        simp (disch := omega) only [wX_scalarBetween_98, wX_scalarBetween_112, wX_scalarBetween_128, wX_scalarBetween_144, ax_sz, ax_s13, h1, h2, h3, k1, k2, k3, an_e0, e1, vp_in_nI, nI_clamp, nI_leI, nI_ltI, nI_eq, nI_add, nI_1, pk_mul, an_m36, an_n36, an_b468, forall_eq, true_and, and_true, true_implies, false_implies, not_true, not_false_iff, implies_true, pk_un, pk_us, ap_wrN, ap_wrS]
        exact ax_s2L (u := 1) (v := 0) hf x1 x2 y1 y2 v36 (fun i _ => by omega) (fun i _ => by omega) (fun i hi => by rw [Nat.mul_one]; exact h4 i hi) (fun i _ => k4 0 (by omega)) q
      · simp only [if_neg e2] at q
        have hz2 := hz e1 e2
        simp (disch := omega) only [wX_scalarBetween_98, wX_scalarBetween_112, wX_scalarBetween_128, wX_scalarBetween_144, ax_sz, ax_s13, h1, h2, h3, k1, k2, k3, an_e0, e1, e2, vp_in_nI, nI_clamp, nI_leI, nI_ltI, nI_eq, nI_add, nI_1, pk_mul, an_m36, an_n36, an_b468, forall_eq, true_and, and_true, true_implies, false_implies, not_true, not_false_iff, implies_true, pk_un, pk_us, ap_wrN, ap_wrS]
        exact ax_s2L (u := 1) (v := 1) hf x1 x2 y1 y2 v36 (fun i _ => by omega) (fun i _ => by omega) (fun i hi => by rw [Nat.mul_one]; exact h4 i hi) (fun i hi => by rw [Nat.mul_one]; exact k4 i (by omega)) q
  unfold ap_s2 at hP
  by_cases sm : R = S ∧ r = s ∧ c = t
  · rw [if_neg (fun z => z.1 sm)] at hP
    have g := core hP (fun _ _ => by rw [sm.2.1, sm.2.2])
    obtain ⟨rfl, rfl, rfl⟩ := sm
    have z1 : ¬ (1 : Int32) = 0 := by decide
    simp (disch := omega) only [wpX_scalarBetween, wX_scalarBetween_50, h1, h2, h3, k1, k2, k3, z1, vp_in_nI, nI_clamp, nI_leI, nI_ltI, nI_eq, nI_add, nI_1, pk_mul, an_m36, an_n36, an_b468, forall_eq, true_and, and_true, true_implies, false_implies, not_true, not_false_iff, implies_true, pk_un, pk_us, ap_wrN, ap_wrS]
    exact g
  · have g50 : wX_scalarBetween_50 post (nI f) (nI x) (nI y) 0 tc lv tx rk rw cl nb gv wt := by
      by_cases e1 : R = 0
      · rw [if_neg (fun z => z.2.1 e1)] at hP
        have g := core hP (fun z => absurd e1 z)
        simp (disch := omega) only [wX_scalarBetween_50, h1, k1, an_e0, e1, vp_in_nI, nI_clamp, nI_leI, nI_ltI, nI_eq, nI_add, nI_1, pk_mul, an_m36, an_n36, an_b468, forall_eq, true_and, and_true, true_implies, false_implies, not_true, not_false_iff, implies_true, pk_un, pk_us, ap_wrN, ap_wrS]
        exact g
      · by_cases e2 : S = 0
        · rw [if_neg (fun z => z.2.2 e2)] at hP
          have g := core hP (fun _ z => absurd e2 z)
          simp (disch := omega) only [wX_scalarBetween_50, h1, k1, an_e0, e1, e2, vp_in_nI, nI_clamp, nI_leI, nI_ltI, nI_eq, nI_add, nI_1, pk_mul, an_m36, an_n36, an_b468, forall_eq, true_and, and_true, true_implies, false_implies, not_true, not_false_iff, implies_true, pk_un, pk_us, ap_wrN, ap_wrS]
          exact g
        · rw [if_pos ⟨sm, e1, e2⟩] at hP
          by_cases e3 : R = S
          · rw [if_pos e3] at hP
            have q := ax_Pe (by decide) hP
            simp (disch := omega) only [wX_scalarBetween_50, h1, k1, an_e0, e1, e2, e3, vp_in_nI, nI_clamp, nI_leI, nI_ltI, nI_eq, nI_add, nI_1, pk_mul, an_m36, an_n36, an_b468, forall_eq, true_and, and_true, true_implies, false_implies, not_true, not_false_iff, implies_true, pk_un, pk_us, ap_wrN, ap_wrS]
            exact q
          · rw [if_neg e3] at hP
            have q := ax_Pe (by decide) hP
            simp (disch := omega) only [wX_scalarBetween_50, h1, k1, an_e0, e1, e2, e3, vp_in_nI, nI_clamp, nI_leI, nI_ltI, nI_eq, nI_add, nI_1, pk_mul, an_m36, an_n36, an_b468, forall_eq, true_and, and_true, true_implies, false_implies, not_true, not_false_iff, implies_true, pk_un, pk_us, ap_wrN, ap_wrS]
            exact q
    by_cases a1 : R = S
    · by_cases a2 : r = s
      · have a3 : ¬ c = t := fun z => sm ⟨a1, a2, z⟩
        simp (disch := omega) only [wpX_scalarBetween, wX_scalarBetween_49, h1, h2, h3, k1, k2, k3, a1, a2, a3, vp_in_nI, nI_clamp, nI_leI, nI_ltI, nI_eq, nI_add, nI_1, pk_mul, an_m36, an_n36, an_b468, forall_eq, true_and, and_true, true_implies, false_implies, not_true, not_false_iff, implies_true, pk_un, pk_us, ap_wrN, ap_wrS]
        exact g50
      · simp (disch := omega) only [wpX_scalarBetween, wX_scalarBetween_49, h1, h2, h3, k1, k2, k3, a1, a2, vp_in_nI, nI_clamp, nI_leI, nI_ltI, nI_eq, nI_add, nI_1, pk_mul, an_m36, an_n36, an_b468, forall_eq, true_and, and_true, true_implies, false_implies, not_true, not_false_iff, implies_true, pk_un, pk_us, ap_wrN, ap_wrS]
        exact g50
    · simp (disch := omega) only [wpX_scalarBetween, wX_scalarBetween_49, h1, h2, h3, k1, k2, k3, a1, vp_in_nI, nI_clamp, nI_leI, nI_ltI, nI_eq, nI_add, nI_1, pk_mul, an_m36, an_n36, an_b468, forall_eq, true_and, and_true, true_implies, false_implies, not_true, not_false_iff, implies_true, pk_un, pk_us, ap_wrN, ap_wrS]
      exact g50
theorem ax_fold {post : SX → Prop} {f y R r c : Nat} {d : Nat → Int32} (hf : ag_sc f) (y1 : 14 ≤ y) (y2 : y < 46) (V : ap_VS R r c) (H : ap_X rk rw cl nb y R r c d)
    (hP : ax_Q post tc lv tx rk rw cl nb gv wt (ap_fold f R r c d)) : wpX_foldRows post (tc, lv, tx, rk, rw, cl, nb, gv, wt) (nI f) (nI y) := by
  obtain ⟨h1, h2, h3, h4⟩ := H
  have s := ap_v36 V
  have vb := ap_vb V
  have L : ∀ A : Nat, post (tc, lv, tx, upd rk 13 (nI A), upd rw 13 (nI 1), upd cl 13 (nI r), ap_wr nb (fun i => ap_fv f (fun k => d (i * c + k)) c) (1 * r), gv, wt) →
      wX_foldRows_25 post (nI f) (nI y) (nI c) (nI A) 13 tc lv tx rk rw cl nb gv wt := by
    intro A q
    rw [Nat.one_mul] at q
    simp (disch := omega) only [wX_foldRows_25, ax_s13, h2, vp_in_nI, nI_clamp, nI_leI, nI_ltI, nI_eq, nI_add, nI_1, pk_mul, an_m36, an_n36, an_b468, forall_eq, true_and, and_true, true_implies, false_implies, not_true, not_false_iff, implies_true, pk_un, pk_us, ap_wrN, ap_wrS]
    refine ap_le (fun n i a => wX_foldRows_38 post (nI f) (nI y) (nI c) tc lv n (nI i) tx (upd rk 13 (nI A)) (upd rw 13 1) (upd cl 13 (nI r)) a gv wt)
      (fun i => ap_wr nb (fun i => ap_fv f (fun k => d (i * c + k)) c) i) r (ap_wr0 _ _) (fun n => ?_) (fun n i hi ih => ?_)
    · have z : r ≤ r := Nat.le_refl r
      simp (disch := omega) only [wX_foldRows_38, h2, z, vp_in_nI, nI_clamp, nI_leI, nI_ltI, nI_eq, nI_add, nI_1, pk_mul, an_m36, an_n36, an_b468, forall_eq, true_and, and_true, true_implies, false_implies, not_true, not_false_iff, implies_true, pk_un, pk_us, ap_wrN, ap_wrS]
      exact q
    · have z : ¬ r ≤ i := by omega
      have b : i * c + c ≤ r * c := by
        have := Nat.mul_le_mul_right c (show i + 1 ≤ r from hi)
        rw [Nat.succ_mul] at this
        exact this
      simp (disch := omega) only [wX_foldRows_38, h2, z, vp_in_nI, nI_clamp, nI_leI, nI_ltI, nI_eq, nI_add, nI_1, pk_mul, an_m36, an_n36, an_b468, forall_eq, true_and, and_true, true_implies, false_implies, not_true, not_false_iff, implies_true, pk_un, pk_us, ap_wrN, ap_wrS]
      refine ax_fd _ hf (by omega) ?_
      have e : ap_fv f (fun k => ap_wr nb (fun i => ap_fv f (fun k => d (i * c + k)) c) i (y * 36 + i * c + k)) c = ap_fv f (fun k => d (i * c + k)) c := by
        refine ap_fvc (fun k hk => ?_)
        rw [ap_wrN (by omega) (by omega), Nat.add_assoc]
        exact h4 _ (by omega)
      rw [e]
      simp (disch := omega) only [vp_in_nI, nI_clamp, nI_leI, nI_ltI, nI_eq, nI_add, nI_1, pk_mul, an_m36, an_n36, an_b468, forall_eq, true_and, and_true, true_implies, false_implies, not_true, not_false_iff, implies_true, pk_un, pk_us, ap_wrN, ap_wrS]
      exact ih
  by_cases e : R = 2
  · have q := ax_Qk (r := 1) (c := r) (by omega) hP
    simp only [if_pos e] at q
    have g := L 1 q
    simp (disch := omega) only [wpX_foldRows, h1, h3, an_e2, e, vp_in_nI, nI_clamp, nI_leI, nI_ltI, nI_eq, nI_add, nI_1, pk_mul, an_m36, an_n36, an_b468, forall_eq, true_and, and_true, true_implies, false_implies, not_true, not_false_iff, implies_true, pk_un, pk_us, ap_wrN, ap_wrS]
    exact g
  · have q := ax_Qk (r := 1) (c := r) (by omega) hP
    simp only [if_neg e] at q
    have g := L 0 q
    simp (disch := omega) only [wpX_foldRows, h1, h3, an_e2, e, vp_in_nI, nI_clamp, nI_leI, nI_ltI, nI_eq, nI_add, nI_1, pk_mul, an_m36, an_n36, an_b468, forall_eq, true_and, and_true, true_implies, false_implies, not_true, not_false_iff, implies_true, pk_un, pk_us, ap_wrN, ap_wrS]
    exact g
theorem ax_scan {post : SX → Prop} {f y R r c : Nat} {d : Nat → Int32} (hf : ag_sc f) (y1 : 14 ≤ y) (y2 : y < 46) (V : ap_VS R r c) (H : ap_X rk rw cl nb y R r c d)
    (hP : ax_Q post tc lv tx rk rw cl nb gv wt (ap_scan f R r c d)) : wpX_foldStarts post (tc, lv, tx, rk, rw, cl, nb, gv, wt) (nI f) (nI y) := by
  obtain ⟨h1, h2, h3, h4⟩ := H
  have s := ap_v36 V
  have vb := ap_vb V
  have q := ax_Qk s hP
  simp (disch := omega) only [wpX_foldStarts, ax_s13, h1, h2, h3, vp_in_nI, nI_clamp, nI_leI, nI_ltI, nI_eq, nI_add, nI_1, pk_mul, an_m36, an_n36, an_b468, forall_eq, true_and, and_true, true_implies, false_implies, not_true, not_false_iff, implies_true, pk_un, pk_us, ap_wrN, ap_wrS]
  refine ap_le (fun n i a => wX_foldStarts_29 post (nI f) (nI y) (nI c) tc lv n (nI i) tx (upd rk 13 (nI R)) (upd rw 13 (nI r)) (upd cl 13 (nI c)) a gv wt)
    (fun i => ap_wr nb (fun i => ap_fv f (fun k => d (i - i % c + k)) (i % c + 1)) (i * c)) r (by rw [Nat.zero_mul]; exact ap_wr0 _ _) (fun n => ?_) (fun n i hi ih => ?_)
  · have z : r ≤ r := Nat.le_refl r
    simp (disch := omega) only [wX_foldStarts_29, h2, z, vp_in_nI, nI_clamp, nI_leI, nI_ltI, nI_eq, nI_add, nI_1, pk_mul, an_m36, an_n36, an_b468, forall_eq, true_and, and_true, true_implies, false_implies, not_true, not_false_iff, implies_true, pk_un, pk_us, ap_wrN, ap_wrS]
    exact q
  · have z : ¬ r ≤ i := by omega
    have b : i * c + c ≤ r * c := by
      have := Nat.mul_le_mul_right c (show i + 1 ≤ r from hi)
      rw [Nat.succ_mul] at this
      exact this
    simp (disch := omega) only [wX_foldStarts_29, h2, z, vp_in_nI, nI_clamp, nI_leI, nI_ltI, nI_eq, nI_add, nI_1, pk_mul, an_m36, an_n36, an_b468, forall_eq, true_and, and_true, true_implies, false_implies, not_true, not_false_iff, implies_true, pk_un, pk_us, ap_wrN, ap_wrS]
    refine ap_le (fun m j a => wX_foldStarts_43 post (wX_foldStarts_29 post (nI f) (nI y) (nI c) tc lv n) (nI f) (nI y) (nI c) (nI i) tc lv m (nI j) tx (upd rk 13 (nI R)) (upd rw 13 (nI r)) (upd cl 13 (nI c)) a gv wt)
      (fun j => ap_wr nb (fun i => ap_fv f (fun k => d (i - i % c + k)) (i % c + 1)) (i * c + j)) c (by rw [Nat.add_zero]) (fun m => ?_) (fun m j hj jh => ?_)
    · have z : c ≤ c := Nat.le_refl c
      rw [Nat.succ_mul] at ih
      simp (disch := omega) only [wX_foldStarts_43, z, vp_in_nI, nI_clamp, nI_leI, nI_ltI, nI_eq, nI_add, nI_1, pk_mul, an_m36, an_n36, an_b468, forall_eq, true_and, and_true, true_implies, false_implies, not_true, not_false_iff, implies_true, pk_un, pk_us, ap_wrN, ap_wrS]
      exact ih
    · have z : ¬ c ≤ j := by omega
      simp (disch := omega) only [wX_foldStarts_43, z, vp_in_nI, nI_clamp, nI_leI, nI_ltI, nI_eq, nI_add, nI_1, pk_mul, an_m36, an_n36, an_b468, forall_eq, true_and, and_true, true_implies, false_implies, not_true, not_false_iff, implies_true, pk_un, pk_us, ap_wrN, ap_wrS]
      refine ax_fd _ hf (by omega) ?_
      have e2 : ap_fv f (fun k => ap_wr nb (fun i => ap_fv f (fun k => d (i - i % c + k)) (i % c + 1)) (i * c + j) (y * 36 + i * c + k)) (j + 1) = ap_fv f (fun k => d (i * c + k)) (j + 1) := by
        refine ap_fvc (fun k hk => ?_)
        rw [ap_wrN (by omega) (by omega), Nat.add_assoc]
        exact h4 _ (by omega)
      have e : ap_fv f (fun k => d (i * c + k)) (j + 1) = (fun i => ap_fv f (fun k => d (i - i % c + k)) (i % c + 1)) (i * c + j) := by
        dsimp only
        rw [ap_md1 hj, Nat.add_sub_cancel]
      rw [e2]
      simp (disch := omega) only [Nat.add_assoc, ap_wrH nb (fun i => ap_fv f (fun k => d (i - i % c + k)) (i % c + 1)) (i * c + j) e, vp_in_nI, nI_clamp, nI_leI, nI_ltI, nI_eq, nI_add, nI_1, pk_mul, an_m36, an_n36, an_b468, forall_eq, true_and, and_true, true_implies, false_implies, not_true, not_false_iff, implies_true, pk_un, pk_us, ap_wrN, ap_wrS]
      exact jh
theorem ax_outer {post : Int32 → SX → Prop} {f x y R r c S s t : Nat} {d e : Nat → Int32} (hf : ag_sc f) (x1 : 14 ≤ x) (x2 : x < 46) (y1 : 14 ≤ y) (y2 : y < 46)
    (V : ap_VS R r c) (H : ap_X rk rw cl nb x R r c d) (W : ap_VS S s t) (K : ap_X rk rw cl nb y S s t e)
    (hP : ax_P post tc lv tx rk rw cl nb gv wt (ap_outer R r c d S s t e f)) : wpX_outerTable post (tc, lv, tx, rk, rw, cl, nb, gv, wt) (nI f) (nI x) (nI y) := by
  obtain ⟨h1, h2, h3, h4⟩ := H
  obtain ⟨k1, k2, k3, k4⟩ := K
  have vb := ap_vb V
  have wb := ap_vb W
  have v36 := ap_v36 V
  have w36 := ap_v36 W
  have L : ∀ rk' rw' cl' : Nat → Int32, r * c * (s * t) ≤ 36 → post 0 (tc, lv, tx, rk', rw', cl', ap_wr nb (fun i => ap_sf f (d (i / (s * t))) (e (i % (s * t)))) (r * c * (s * t)), gv, wt) →
      ∃ n, wX_outerTable_131 post (nI f) (nI x) (nI y) (nI (r * c)) (nI (s * t)) tc lv n 0 tx rk' rw' cl' nb gv wt := by
    intro rk' rw' cl' hz q
    refine ap_le (fun n i a => wX_outerTable_131 post (nI f) (nI x) (nI y) (nI (r * c)) (nI (s * t)) tc lv n (nI i) tx rk' rw' cl' a gv wt)
      (fun i => ap_wr nb (fun i => ap_sf f (d (i / (s * t))) (e (i % (s * t)))) (i * (s * t))) (r * c) (by rw [Nat.zero_mul]; exact ap_wr0 _ _) (fun n => ?_) (fun n i hi ih => ?_)
    · exact br_t (nI_le (Nat.le_refl _) (by omega)) q
    · have z : ¬ r * c ≤ i := by omega
      have b : i * (s * t) + s * t ≤ r * c * (s * t) := by
        have := Nat.mul_le_mul_right (s * t) (show i + 1 ≤ r * c from hi)
        rw [Nat.succ_mul] at this
        exact this
      simp (disch := omega) only [wX_outerTable_131, z, vp_in_nI, nI_clamp, nI_leI, nI_ltI, nI_eq, nI_add, nI_1, pk_mul, an_m36, an_n36, an_b468, forall_eq, true_and, and_true, true_implies, false_implies, not_true, not_false_iff, implies_true, pk_un, pk_us, ap_wrN, ap_wrS]
      refine ap_le (fun m j a => wX_outerTable_141 post (wX_outerTable_131 post (nI f) (nI x) (nI y) (nI (r * c)) (nI (s * t)) tc lv n) (nI f) (nI x) (nI y) (nI (r * c)) (nI (s * t)) (nI i) tc lv m (nI j) tx rk' rw' cl' a gv wt)
        (fun j => ap_wr nb (fun i => ap_sf f (d (i / (s * t))) (e (i % (s * t)))) (i * (s * t) + j)) (s * t) (by rw [Nat.add_zero]) (fun m => ?_) (fun m j hj jh => ?_)
      · have z : s * t ≤ s * t := Nat.le_refl _
        rw [Nat.succ_mul] at ih
        simp (disch := omega) only [wX_outerTable_141, z, vp_in_nI, nI_clamp, nI_leI, nI_ltI, nI_eq, nI_add, nI_1, pk_mul, an_m36, an_n36, an_b468, forall_eq, true_and, and_true, true_implies, false_implies, not_true, not_false_iff, implies_true, pk_un, pk_us, ap_wrN, ap_wrS]
        exact ih
      · have z : ¬ s * t ≤ j := by omega
        have eq : ap_sf f (d i) (e j) = (fun i => ap_sf f (d (i / (s * t))) (e (i % (s * t)))) (i * (s * t) + j) := by
          dsimp only
          rw [ap_md1 hj, ap_dv1 hj]
        simp (disch := omega) only [wX_outerTable_141, z, ax_sf _ hf, h4, k4, Nat.add_assoc, ap_wrH nb (fun i => ap_sf f (d (i / (s * t))) (e (i % (s * t)))) (i * (s * t) + j) eq, vp_in_nI, nI_clamp, nI_leI, nI_ltI, nI_eq, nI_add, nI_1, pk_mul, an_m36, an_n36, an_b468, forall_eq, true_and, and_true, true_implies, false_implies, not_true, not_false_iff, implies_true, pk_un, pk_us, ap_wrN, ap_wrS]
        exact jh
  unfold ap_outer at hP
  by_cases g1 : 2 < R + S
  · rw [if_pos g1] at hP
    have q := ax_Pe (by decide) hP
    have z : ¬ R + S ≤ 2 := by omega
    simp (disch := omega) only [wpX_outerTable, h1, k1, an_l2, z, vp_in_nI, nI_clamp, nI_leI, nI_ltI, nI_eq, nI_add, nI_1, pk_mul, an_m36, an_n36, an_b468, forall_eq, true_and, and_true, true_implies, false_implies, not_true, not_false_iff, implies_true, pk_un, pk_us, ap_wrN, ap_wrS]
    exact q
  · rw [if_neg g1] at hP
    have z : R + S ≤ 2 := by omega
    by_cases g2 : R = 1 ∧ S = 1
    · rw [if_pos g2] at hP
      obtain ⟨rfl, rfl⟩ := g2
      have r1 := ap_v1 V (by omega)
      have s1 := ap_v1 W (by omega)
      subst r1 s1
      by_cases g3 : 6 < c ∨ 6 < t
      · rw [if_pos g3] at hP
        have q := ax_Pe (by decide) hP
        by_cases g4 : 6 < c
        · simp (disch := omega) only [wpX_outerTable, ax_sz, h1, h2, h3, k1, k2, k3, an_l2, an_e1, an_u6, Nat.one_mul, g4, z, vp_in_nI, nI_clamp, nI_leI, nI_ltI, nI_eq, nI_add, nI_1, pk_mul, an_m36, an_n36, an_b468, forall_eq, true_and, and_true, true_implies, false_implies, not_true, not_false_iff, implies_true, pk_un, pk_us, ap_wrN, ap_wrS]
          exact q
        · have g5 : ¬ t ≤ 6 := by omega
          simp (disch := omega) only [wpX_outerTable, ax_sz, h1, h2, h3, k1, k2, k3, an_l2, an_e1, an_u6, an_l6, Nat.one_mul, g4, g5, z, vp_in_nI, nI_clamp, nI_leI, nI_ltI, nI_eq, nI_add, nI_1, pk_mul, an_m36, an_n36, an_b468, forall_eq, true_and, and_true, true_implies, false_implies, not_true, not_false_iff, implies_true, pk_un, pk_us, ap_wrN, ap_wrS]
          exact q
      · rw [if_neg g3] at hP
        have q := ax_Pk (Nat.le_trans (Nat.mul_le_mul (show c ≤ 6 by omega) (show t ≤ 6 by omega)) (by decide)) hP
        have g4 : ¬ 6 < c := by omega
        have g5 : t ≤ 6 := by omega
        have l := L (upd rk 13 (nI 2)) (upd rw 13 (nI c)) (upd cl 13 (nI t)) (by rw [Nat.one_mul, Nat.one_mul]; exact Nat.le_trans (Nat.mul_le_mul (show c ≤ 6 by omega) g5) (by decide)) (by rw [Nat.one_mul c, Nat.one_mul t] at *; exact q)
        rw [Nat.one_mul, Nat.one_mul] at l
        simp (disch := omega) only [wpX_outerTable, ax_sz, ax_s13, h1, h2, h3, k1, k2, k3, an_l2, an_e1, an_u6, an_l6, Nat.one_mul, g4, g5, z, vp_in_nI, nI_clamp, nI_leI, nI_ltI, nI_eq, nI_add, nI_1, pk_mul, an_m36, an_n36, an_b468, forall_eq, true_and, and_true, true_implies, false_implies, not_true, not_false_iff, implies_true, pk_un, pk_us, ap_wrN, ap_wrS]
        exact l
    · rw [if_neg g2] at hP
      have g85 : wX_outerTable_85 post (nI f) (nI x) (nI y) (nI (r * c)) (nI (s * t)) tc lv tx rk rw cl nb gv wt := by
        by_cases e1 : R = 0
        · simp only [if_pos e1] at hP
          subst e1
          obtain ⟨rfl, rfl⟩ := ap_v0 V
          have q := ax_Pk w36 hP
          have l := L (upd rk 13 (nI S)) (upd rw 13 (nI s)) (upd cl 13 (nI t)) (by omega) (by rw [Nat.mul_one, Nat.one_mul]; exact q)
          simp (disch := omega) only [wX_outerTable_85, wX_outerTable_99, ax_s13, h1, k1, k2, k3, an_e0, vp_in_nI, nI_clamp, nI_leI, nI_ltI, nI_eq, nI_add, nI_1, pk_mul, an_m36, an_n36, an_b468, forall_eq, true_and, and_true, true_implies, false_implies, not_true, not_false_iff, implies_true, pk_un, pk_us, ap_wrN, ap_wrS]
          exact l
        · simp only [if_neg e1] at hP
          have e2 : S = 0 := by omega
          subst e2
          obtain ⟨rfl, rfl⟩ := ap_v0 W
          have q := ax_Pk v36 hP
          have l := L (upd rk 13 (nI R)) (upd rw 13 (nI r)) (upd cl 13 (nI c)) (by omega) (by rw [Nat.mul_one, Nat.mul_one]; exact q)
          simp (disch := omega) only [wX_outerTable_85, wX_outerTable_99, ax_s13, h1, h2, h3, k1, an_e0, e1, vp_in_nI, nI_clamp, nI_leI, nI_ltI, nI_eq, nI_add, nI_1, pk_mul, an_m36, an_n36, an_b468, forall_eq, true_and, and_true, true_implies, false_implies, not_true, not_false_iff, implies_true, pk_un, pk_us, ap_wrN, ap_wrS]
          exact l
      by_cases e1 : R = 1
      · have e2 : ¬ S = 1 := fun z => g2 ⟨e1, z⟩
        simp (disch := omega) only [wpX_outerTable, ax_sz, h1, h2, h3, k1, k2, k3, an_l2, an_e1, e1, e2, vp_in_nI, nI_clamp, nI_leI, nI_ltI, nI_eq, nI_add, nI_1, pk_mul, an_m36, an_n36, an_b468, forall_eq, true_and, and_true, true_implies, false_implies, not_true, not_false_iff, implies_true, pk_un, pk_us, ap_wrN, ap_wrS]
        subst e1
        simp (disch := omega) only [z, vp_in_nI, nI_clamp, nI_leI, nI_ltI, nI_eq, nI_add, nI_1, pk_mul, an_m36, an_n36, an_b468, forall_eq, true_and, and_true, true_implies, false_implies, not_true, not_false_iff, implies_true, pk_un, pk_us, ap_wrN, ap_wrS]
        exact g85
      · simp (disch := omega) only [wpX_outerTable, ax_sz, h1, h2, h3, k1, k2, k3, an_l2, an_e1, e1, z, vp_in_nI, nI_clamp, nI_leI, nI_ltI, nI_eq, nI_add, nI_1, pk_mul, an_m36, an_n36, an_b468, forall_eq, true_and, and_true, true_implies, false_implies, not_true, not_false_iff, implies_true, pk_un, pk_us, ap_wrN, ap_wrS]
        exact g85
end
end
section
/-! X: inner, shape, count, turn, back -/
theorem an_s1 {a : Nat} (h : 1 ≤ a) : nI a - 1 = nI (a - 1) := pk_sub (b := 1) h
theorem an_m1s {a : Nat} (h : 1 ≤ a) : nI a + -1 = nI (a - 1) := by
  rw [← Int32.sub_eq_add_neg]; exact an_s1 h
theorem ap_uq {p q p' q' w : Nat} (hq : q < w) (hq' : q' < w) (h : p * w + q = p' * w + q') : p = p' ∧ q = q' := by
  have a := congrArg (· / w) h
  have b := congrArg (· % w) h
  rw [ap_dv1 hq, ap_dv1 hq'] at a
  rw [ap_md1 hq, ap_md1 hq'] at b
  exact ⟨a, b⟩
section
variable {tc lv : Int32} {tx rk rw cl nb gv wt : Nat → Int32}
theorem ax_inL (post : Int32 → Prop) {f g s q w l : Nat} (hf : ag_sc f) (hg : ag_sc g) (hs : s + l + 1 ≤ 1656) (hq : ∀ i, i ≤ l → q + i * w < 1656) : ∀ m n, m ≤ l → l - m < n →
    post (ap_fr f (fun i => ap_sf g (nb (s + i)) (nb (q + i * w))) l l) →
    wX_innerNumber_12 post (nI f) (nI g) (nI s) (nI q) (nI w) (nI (l + 1)) tc lv tx rk rw cl nb gv wt n (ap_fr f (fun i => ap_sf g (nb (s + i)) (nb (q + i * w))) l m) (nI (l - m) - 1) := by
  intro m n hm hn hp
  induction n generalizing m with
  | zero => omega
  | succ n ih =>
    by_cases e : l - m = 0
    · have e2 : m = l := by omega
      subst e2
      rw [e]
      exact br_t (by decide) hp
    · obtain ⟨k, hk⟩ : ∃ k, l - m = k + 1 := ⟨l - m - 1, by omega⟩
      have z : ¬ nI k < 0 := nI_pos (by omega)
      have z2 : ¬ k = l := by omega
      have b := hq k (by omega)
      rw [hk, nI_pred]
      simp (disch := omega) only [wX_innerNumber_12, vp_in_nI, nI_clamp, nI_leI, nI_ltI, nI_eq, nI_add, nI_1, pk_mul, an_m36, an_n36, an_b468, forall_eq, true_and, and_true, true_implies, false_implies, not_true, not_false_iff, implies_true, pk_un, pk_us, ap_wrN, ap_wrS, z, z2, nI_pred, ax_sf _ hf, ax_sf _ hg]
      have h := ih (m + 1) (by omega) (by omega)
      have e3 : l - (m + 1) = k := by omega
      rw [e3] at h
      rw [show ap_fr f (fun i => ap_sf g (nb (s + i)) (nb (q + i * w))) l (m + 1) = ap_sf f (ap_sf g (nb (s + k)) (nb (q + k * w))) (ap_fr f (fun i => ap_sf g (nb (s + i)) (nb (q + i * w))) l m) by rw [← e3]; rfl] at h
      rw [show nI k + -1 = nI k - 1 from (Int32.sub_eq_add_neg _ _).symm]
      exact h
theorem ax_in (post : Int32 → Prop) {f g s q w k : Nat} (hf : ag_sc f) (hg : ag_sc g) (hs : s + k ≤ 1656) (hq : ∀ i, i < k → q + i * w < 1656)
    (hp : post (ap_fv f (fun i => ap_sf g (nb (s + i)) (nb (q + i * w))) k)) : wpX_innerNumber post (tc, lv, tx, rk, rw, cl, nb, gv, wt) (nI f) (nI g) (nI s) (nI q) (nI w) (nI k) := by
  have f1 : f < 100 := by unfold ag_sc at hf; omega
  unfold ap_fv at hp
  by_cases e : k = 0
  · rw [if_pos e] at hp
    subst e
    simp (disch := omega) only [wpX_innerNumber, ax_ne, vp_in_nI, nI_clamp, nI_leI, nI_ltI, nI_eq, nI_add, nI_1, pk_mul, an_m36, an_n36, an_b468, forall_eq, true_and, and_true, true_implies, false_implies, not_true, not_false_iff, implies_true, pk_un, pk_us, ap_wrN, ap_wrS]
    exact ⟨1, br_t (by decide) hp⟩
  · rw [if_neg e] at hp
    obtain ⟨l, rfl⟩ : ∃ l, k = l + 1 := ⟨k - 1, by omega⟩
    rw [Nat.add_sub_cancel] at hp
    have z : ¬ nI l < 0 := nI_pos (by omega)
    have b := hq l (by omega)
    simp (disch := omega) only [wpX_innerNumber, ax_ne, nI_pred, forall_eq]
    obtain ⟨n, hn⟩ : ∃ n, n = l + 1 := ⟨_, rfl⟩
    refine ⟨n + 1, ?_⟩
    simp (disch := omega) only [wX_innerNumber_12, vp_in_nI, nI_clamp, nI_leI, nI_ltI, nI_eq, nI_add, nI_1, pk_mul, an_m36, an_n36, an_b468, forall_eq, true_and, and_true, true_implies, false_implies, not_true, not_false_iff, implies_true, pk_un, pk_us, ap_wrN, ap_wrS, z, nI_pred, ax_sf _ hf, ax_sf _ hg]
    rw [show nI l + -1 = nI l - 1 from (Int32.sub_eq_add_neg _ _).symm]
    exact ax_inL post hf hg (by omega) (fun i hi => hq i (by omega)) 0 n (by omega) (by omega) hp
theorem ax_inner {post : Int32 → SX → Prop} {f g x y R r c S s t : Nat} {d e : Nat → Int32} (hf : ag_sc f) (hg : ag_sc g) (x1 : 14 ≤ x) (x2 : x < 46) (y1 : 14 ≤ y) (y2 : y < 46)
    (V : ap_VS R r c) (H : ap_X rk rw cl nb x R r c d) (W : ap_VS S s t) (K : ap_X rk rw cl nb y S s t e)
    (hP : ax_P post tc lv tx rk rw cl nb gv wt (ap_inner R r c d S s t e f g)) : wpX_innerTable post (tc, lv, tx, rk, rw, cl, nb, gv, wt) (nI f) (nI g) (nI x) (nI y) := by
  have ok := ap_innerV (d := d) (e := e) (f := f) (g := g) V W
  obtain ⟨h1, h2, h3, h4⟩ := H
  obtain ⟨k1, k2, k3, k4⟩ := K
  have vb := ap_vb V
  have wb := ap_vb W
  have v36 := ap_v36 V
  have w36 := ap_v36 W
  unfold ap_inner at hP ok
  by_cases e1 : R = 0
  · rw [if_pos (Or.inl e1)] at hP
    have q := ax_Pe (by decide) hP
    simp (disch := omega) only [wpX_innerTable, h1, an_e0, e1, vp_in_nI, nI_clamp, nI_leI, nI_ltI, nI_eq, nI_add, nI_1, pk_mul, an_m36, an_n36, an_b468, forall_eq, true_and, and_true, true_implies, false_implies, not_true, not_false_iff, implies_true, pk_un, pk_us, ap_wrN, ap_wrS]
    exact q
  by_cases e2 : S = 0
  · rw [if_pos (Or.inr e2)] at hP
    have q := ax_Pe (by decide) hP
    simp (disch := omega) only [wpX_innerTable, h1, k1, an_e0, e1, e2, vp_in_nI, nI_clamp, nI_leI, nI_ltI, nI_eq, nI_add, nI_1, pk_mul, an_m36, an_n36, an_b468, forall_eq, true_and, and_true, true_implies, false_implies, not_true, not_false_iff, implies_true, pk_un, pk_us, ap_wrN, ap_wrS]
    exact q
  rw [if_neg (by omega)] at hP ok
  have flb : ap_fl S s t ≤ 36 := by unfold ap_fl; split <;> omega
  by_cases e3 : c = ap_fl S s t
  case neg =>
    rw [if_neg e3] at hP
    have q := ax_Pe (by decide) hP
    simp (disch := omega) only [wpX_innerTable, ax_fl _ y2 wb.1 k1 k2 k3, h1, h3, k1, an_e0, e1, e2, e3, vp_in_nI, nI_clamp, nI_leI, nI_ltI, nI_eq, nI_add, nI_1, pk_mul, an_m36, an_n36, an_b468, forall_eq, true_and, and_true, true_implies, false_implies, not_true, not_false_iff, implies_true, pk_un, pk_us, ap_wrN, ap_wrS]
    exact q
  rw [if_pos e3] at hP ok
  have ok36 := ap_v36 ok
  dsimp only at ok36
  have wW : ap_w S t ≤ 6 := by unfold ap_w ap_VS at *; split <;> omega
  have kb : ∀ k j, k < c → j < ap_w S t → k * ap_w S t + j < s * t := by
    intro k j hk hj
    unfold ap_w at hj ⊢
    unfold ap_fl at e3
    by_cases z : S = 2
    · rw [if_pos z] at hj e3 ⊢
      subst e3
      exact ap_ix hk hj
    · rw [if_neg z] at hj e3 ⊢
      have := ap_v1 W z
      subst this
      omega
  have L : ∀ rk' rw' cl' : Nat → Int32, rw' x = nI r → cl' x = nI c → r * ap_w S t ≤ 36 → post 0 (tc, lv, tx, rk', rw', cl', ap_wr nb (fun i => ap_fv f (fun k => ap_sf g (d (i / ap_w S t * c + k)) (e (k * ap_w S t + i % ap_w S t))) c) (r * ap_w S t), gv, wt) →
      ∃ n, wX_innerTable_138 post (nI f) (nI g) (nI x) (nI y) (nI (ap_w S t)) tc lv n 0 tx rk' rw' cl' nb gv wt := by
    intro rk' rw' cl' j2 j3 hz q
    generalize ap_w S t = w at *
    refine ap_le (fun n i a => wX_innerTable_138 post (nI f) (nI g) (nI x) (nI y) (nI w) tc lv n (nI i) tx rk' rw' cl' a gv wt)
      (fun i => ap_wr nb (fun i => ap_fv f (fun k => ap_sf g (d (i / w * c + k)) (e (k * w + i % w))) c) (i * w)) r (by rw [Nat.zero_mul]; exact ap_wr0 _ _) (fun n => ?_) (fun n i hi ih => ?_)
    · have z : r ≤ r := Nat.le_refl r
      simp (disch := omega) only [wX_innerTable_138, j2, z, vp_in_nI, nI_clamp, nI_leI, nI_ltI, nI_eq, nI_add, nI_1, pk_mul, an_m36, an_n36, an_b468, forall_eq, true_and, and_true, true_implies, false_implies, not_true, not_false_iff, implies_true, pk_un, pk_us, ap_wrN, ap_wrS]
      exact q
    · have z : ¬ r ≤ i := by omega
      have b : i * w + w ≤ r * w := by
        have := Nat.mul_le_mul_right w (show i + 1 ≤ r from hi)
        rw [Nat.succ_mul] at this
        exact this
      have b2 : i * c + c ≤ r * c := by
        have := Nat.mul_le_mul_right c (show i + 1 ≤ r from hi)
        rw [Nat.succ_mul] at this
        exact this
      simp (disch := omega) only [wX_innerTable_138, j2, z, vp_in_nI, nI_clamp, nI_leI, nI_ltI, nI_eq, nI_add, nI_1, pk_mul, an_m36, an_n36, an_b468, forall_eq, true_and, and_true, true_implies, false_implies, not_true, not_false_iff, implies_true, pk_un, pk_us, ap_wrN, ap_wrS]
      refine ap_le (fun m j a => wX_innerTable_152 post (wX_innerTable_138 post (nI f) (nI g) (nI x) (nI y) (nI w) tc lv n) (nI f) (nI g) (nI x) (nI y) (nI w) (nI i) tc lv m (nI j) tx rk' rw' cl' a gv wt)
        (fun j => ap_wr nb (fun i => ap_fv f (fun k => ap_sf g (d (i / w * c + k)) (e (k * w + i % w))) c) (i * w + j)) w (by rw [Nat.add_zero]) (fun m => ?_) (fun m j hj jh => ?_)
      · have z : w ≤ w := Nat.le_refl _
        rw [Nat.succ_mul] at ih
        simp (disch := omega) only [wX_innerTable_152, z, vp_in_nI, nI_clamp, nI_leI, nI_ltI, nI_eq, nI_add, nI_1, pk_mul, an_m36, an_n36, an_b468, forall_eq, true_and, and_true, true_implies, false_implies, not_true, not_false_iff, implies_true, pk_un, pk_us, ap_wrN, ap_wrS]
        exact ih
      · have z : ¬ w ≤ j := by omega
        simp (disch := omega) only [wX_innerTable_152, z, j3, vp_in_nI, nI_clamp, nI_leI, nI_ltI, nI_eq, nI_add, nI_1, pk_mul, an_m36, an_n36, an_b468, forall_eq, true_and, and_true, true_implies, false_implies, not_true, not_false_iff, implies_true, pk_un, pk_us, ap_wrN, ap_wrS]
        refine ax_in _ hf hg (by omega) (fun k hk => by have := kb k j hk hj; omega) ?_
        have e2 : ap_fv f (fun k => ap_sf g (ap_wr nb (fun i => ap_fv f (fun k => ap_sf g (d (i / w * c + k)) (e (k * w + i % w))) c) (i * w + j) (x * 36 + i * c + k)) (ap_wr nb (fun i => ap_fv f (fun k => ap_sf g (d (i / w * c + k)) (e (k * w + i % w))) c) (i * w + j) (y * 36 + j + k * w))) c
            = ap_fv f (fun k => ap_sf g (d (i * c + k)) (e (k * w + j))) c := by
          refine ap_fvc (fun k hk => ?_)
          have := kb k j hk hj
          rw [ap_wrN (by omega) (by omega), ap_wrN (by omega) (by omega), Nat.add_assoc, h4 _ (by omega), show y * 36 + j + k * w = y * 36 + (k * w + j) by omega, k4 _ (by omega)]
        have eq : ap_fv f (fun k => ap_sf g (d (i * c + k)) (e (k * w + j))) c = (fun i => ap_fv f (fun k => ap_sf g (d (i / w * c + k)) (e (k * w + i % w))) c) (i * w + j) := by
          dsimp only
          rw [ap_md1 hj, ap_dv1 hj]
        rw [e2]
        simp (disch := omega) only [Nat.add_assoc, ap_wrH nb (fun i => ap_fv f (fun k => ap_sf g (d (i / w * c + k)) (e (k * w + i % w))) c) (i * w + j) eq, vp_in_nI, nI_clamp, nI_leI, nI_ltI, nI_eq, nI_add, nI_1, pk_mul, an_m36, an_n36, an_b468, forall_eq, true_and, and_true, true_implies, false_implies, not_true, not_false_iff, implies_true, pk_un, pk_us, ap_wrN, ap_wrS]
        exact jh
  have q := ax_Pk ok36 hP
  have g62 : wX_innerTable_62 post (nI f) (nI g) (nI x) (nI y) (nI (ap_w S t)) tc lv tx rk rw cl nb gv wt := by
    have sel : ap_w S t ≤ 6 := wW
    by_cases a1 : R = 2
    · by_cases a2 : S = 2
      · simp only [if_pos (show R = 2 ∧ S = 2 from ⟨a1, a2⟩)] at q ok36
        have l := L (upd rk 13 (nI 2)) (upd rw 13 (nI r)) (upd cl 13 (nI (ap_w S t))) (by rw [pk_un (by omega)]; exact h2) (by rw [pk_un (by omega)]; exact h3) ok36 (by rw [show R + S - 2 = 2 by omega] at q; exact q)
        simp (disch := omega) only [wX_innerTable_62, ax_s13, h1, h2, k1, an_e2, a1, a2, vp_in_nI, nI_clamp, nI_leI, nI_ltI, nI_eq, nI_add, nI_1, pk_mul, an_m36, an_n36, an_b468, forall_eq, true_and, and_true, true_implies, false_implies, not_true, not_false_iff, implies_true, pk_un, pk_us, ap_wrN, ap_wrS]
        rw [a2] at l
        exact l
      · simp only [if_neg (show ¬ (R = 2 ∧ S = 2) from fun z => a2 z.2), Nat.one_mul] at q ok36
        have l := L (upd rk 13 (nI (R + S - 2))) (upd rw 13 (nI 1)) (upd cl 13 (nI (r * ap_w S t))) (by rw [pk_un (by omega)]; exact h2) (by rw [pk_un (by omega)]; exact h3) ok36 q
        have sub : nI (R + S) - 2 = nI (R + S - 2) := pk_sub (b := 2) (by omega)
        simp (disch := omega) only [wX_innerTable_62, wX_innerTable_103, ax_s13, h1, h2, k1, an_e2, a2, sub, vp_in_nI, nI_clamp, nI_leI, nI_ltI, nI_eq, nI_add, nI_1, pk_mul, an_m36, an_n36, an_b468, forall_eq, true_and, and_true, true_implies, false_implies, not_true, not_false_iff, implies_true, pk_un, pk_us, ap_wrN, ap_wrS]
        simp only [a1, true_implies, not_true, false_implies, and_true]
        rw [a1] at l
        exact l
    · simp only [if_neg (show ¬ (R = 2 ∧ S = 2) from fun z => a1 z.1), Nat.one_mul] at q ok36
      have l := L (upd rk 13 (nI (R + S - 2))) (upd rw 13 (nI 1)) (upd cl 13 (nI (r * ap_w S t))) (by rw [pk_un (by omega)]; exact h2) (by rw [pk_un (by omega)]; exact h3) ok36 q
      have sub : nI (R + S) - 2 = nI (R + S - 2) := pk_sub (b := 2) (by omega)
      simp (disch := omega) only [wX_innerTable_62, wX_innerTable_103, ax_s13, h1, h2, k1, an_e2, a1, sub, vp_in_nI, nI_clamp, nI_leI, nI_ltI, nI_eq, nI_add, nI_1, pk_mul, an_m36, an_n36, an_b468, forall_eq, true_and, and_true, true_implies, false_implies, not_true, not_false_iff, implies_true, pk_un, pk_us, ap_wrN, ap_wrS]
      exact l
  have fl := ax_fl (tc := tc) (lv := lv) (tx := tx) (nb := nb) (gv := gv) (wt := wt) (h := y) (c := t) (fun r_6 => ((nI c = r_6 → vp_in (nI y) 46 ∧ ((nI S = 2 → vp_in (nI y) 46 ∧ wX_innerTable_62 post (nI f) (nI g) (nI x) (nI y) (nI t) tc lv tx rk rw cl nb gv wt) ∧ (¬ nI S = 2 → wX_innerTable_62 post (nI f) (nI g) (nI x) (nI y) 1 tc lv tx rk rw cl nb gv wt))) ∧ (¬ nI c = r_6 → post (-14) (tc, lv, tx, rk, rw, cl, nb, gv, wt)))) y2 wb.1 k1 k2 k3
  simp (disch := omega) only [wpX_innerTable, h1, h3, k1, k3, an_e0, e1, e2, vp_in_nI, nI_clamp, nI_leI, nI_ltI, nI_eq, nI_add, nI_1, pk_mul, an_m36, an_n36, an_b468, forall_eq, true_and, and_true, true_implies, false_implies, not_true, not_false_iff, implies_true, pk_un, pk_us, ap_wrN, ap_wrS]
  simp (disch := omega) only [vp_in_nI, nI_clamp, nI_leI, nI_ltI, nI_eq, nI_add, nI_1, pk_mul, an_m36, an_n36, an_b468, forall_eq, true_and, and_true, true_implies, false_implies, not_true, not_false_iff, implies_true, pk_un, pk_us, ap_wrN, ap_wrS] at fl
  rw [fl]
  rw [← e3]
  unfold ap_w at g62
  by_cases a2 : S = 2
  · rw [if_pos a2] at g62
    simp (disch := omega) only [an_e2, a2, vp_in_nI, nI_clamp, nI_leI, nI_ltI, nI_eq, nI_add, nI_1, pk_mul, an_m36, an_n36, an_b468, forall_eq, true_and, and_true, true_implies, false_implies, not_true, not_false_iff, implies_true, pk_un, pk_us, ap_wrN, ap_wrS]
    exact g62
  · rw [if_neg a2] at g62
    simp (disch := omega) only [an_e2, a2, vp_in_nI, nI_clamp, nI_leI, nI_ltI, nI_eq, nI_add, nI_1, pk_mul, an_m36, an_n36, an_b468, forall_eq, true_and, and_true, true_implies, false_implies, not_true, not_false_iff, implies_true, pk_un, pk_us, ap_wrN, ap_wrS]
    exact g62
end
end
section
/-! X: shape, count, turn, back -/
theorem ap_wr1 (a : Nat → Int32) (v : Int32) : upd a 468 v = ap_wr a (fun _ => v) 1 := by
  have h := ap_wrS a (fun _ => v) 0
  rw [ap_wr0] at h
  exact h
section
variable {tc lv : Int32} {tx rk rw cl nb gv wt : Nat → Int32}
theorem ax_shape {post : SX → Prop} {y R r c : Nat} {d : Nat → Int32} (y1 : 14 ≤ y) (y2 : y < 46) (V : ap_VS R r c) (H : ap_X rk rw cl nb y R r c d)
    (hP : ax_Q post tc lv tx rk rw cl nb gv wt (ap_shape R r c)) : wpX_shapeOf post (tc, lv, tx, rk, rw, cl, nb, gv, wt) (nI y) := by
  obtain ⟨h1, h2, h3, h4⟩ := H
  have vb := ap_vb V
  have j1 : upd rk 13 1 y = nI R := by rw [pk_un (by omega)]; exact h1
  have j2 : upd rw 13 1 y = nI r := by rw [pk_un (by omega)]; exact h2
  have j3 : upd cl 13 (nI R) y = nI c := by rw [pk_un (by omega)]; exact h3
  have w : upd (upd nb 468 (nI (ap_fl R r c))) 469 (nI c) = ap_wr nb (fun i => if i = 0 then nI (if R = 2 then r else c) else nI c) 2 := by
    have a := ap_wrS nb (fun i => if i = 0 then nI (if R = 2 then r else c) else nI c) 0
    have b := ap_wrS nb (fun i => if i = 0 then nI (if R = 2 then r else c) else nI c) 1
    rw [← a, ap_wr0] at b
    exact b
  simp (disch := omega) only [wpX_shapeOf, ax_s13, h1, ax_fl _ y2 vb.1 j1 j2 j3, j3, w, vp_in_nI, nI_clamp, nI_leI, nI_ltI, nI_eq, nI_add, nI_1, pk_mul, an_m36, an_n36, an_b468, forall_eq, true_and, and_true, true_implies, false_implies, not_true, not_false_iff, implies_true, pk_un, pk_us, ap_wrN, ap_wrS]
  refine hP _ _ _ _ ⟨fun _ h => ⟨pk_un h, pk_un h, pk_un h⟩, fun _ h => ap_wrN (by omega) (by omega)⟩ ⟨pk_us, pk_us, pk_us, fun i h => ap_wrI ?_⟩
  have : i < 1 * R := h
  omega
theorem ax_resh {post : Int32 → SX → Prop} {x y R r c S s t : Nat} {d e : Nat → Int32} (x1 : 14 ≤ x) (x2 : x < 46) (y1 : 14 ≤ y) (y2 : y < 46)
    (V : ap_VS R r c) (H : ap_X rk rw cl nb x R r c d) (W : ap_VS S s t) (K : ap_X rk rw cl nb y S s t e)
    (hP : ax_P post tc lv tx rk rw cl nb gv wt (ap_resh R r c d s t e)) : wpX_reshape post (tc, lv, tx, rk, rw, cl, nb, gv, wt) (nI x) (nI y) := by
  have ok := ap_reshV (R := R) (r := r) (c := c) (d := d) (s := s) (t := t) (e := e)
  obtain ⟨h1, h2, h3, h4⟩ := H
  obtain ⟨k1, k2, k3, k4⟩ := K
  have vb := ap_vb V
  have v36 := ap_v36 V
  have w36 := ap_v36 W
  have wb := ap_vb W
  unfold ap_resh at hP ok
  by_cases e1 : R = 2
  · rw [if_pos e1] at hP
    have q := ax_Pe (by decide) hP
    simp (disch := omega) only [wpX_reshape, ax_sz, h1, h2, h3, an_e2, e1, vp_in_nI, nI_clamp, nI_leI, nI_ltI, nI_eq, nI_add, nI_1, pk_mul, an_m36, an_n36, an_b468, forall_eq, true_and, and_true, true_implies, false_implies, not_true, not_false_iff, implies_true, pk_un, pk_us, ap_wrN, ap_wrS]
    exact q
  rw [if_neg e1] at hP ok
  by_cases e2 : 2 < r * c
  · rw [if_pos e2] at hP
    have q := ax_Pe (by decide) hP
    have z : ¬ r * c ≤ 2 := by omega
    simp (disch := omega) only [wpX_reshape, ax_sz, h1, h2, h3, an_e2, an_l2, e1, z, vp_in_nI, nI_clamp, nI_leI, nI_ltI, nI_eq, nI_add, nI_1, pk_mul, an_m36, an_n36, an_b468, forall_eq, true_and, and_true, true_implies, false_implies, not_true, not_false_iff, implies_true, pk_un, pk_us, ap_wrN, ap_wrS]
    exact q
  rw [if_neg e2] at hP ok
  have z2 : r * c ≤ 2 := by omega
  have M : (∃ n, wX_reshape_44 post (nI x) (nI y) (nI (r * c)) (if r * c = 1 then 36 else 6) tc lv tx rk rw cl nb gv wt n 0) → wpX_reshape post (tc, lv, tx, rk, rw, cl, nb, gv, wt) (nI x) (nI y) := by
    intro h
    by_cases e3 : r * c = 1
    · rw [if_pos e3] at h
      simp (disch := omega) only [wpX_reshape, ax_sz, h1, h2, h3, an_e2, an_l2, an_e1, e1, z2, vp_in_nI, nI_clamp, nI_leI, nI_ltI, nI_eq, nI_add, nI_1, pk_mul, an_m36, an_n36, an_b468, forall_eq, true_and, and_true, true_implies, false_implies, not_true, not_false_iff, implies_true, pk_un, pk_us, ap_wrN, ap_wrS]
      simp only [e3, true_implies, not_true, false_implies, and_true] at h ⊢
      exact h
    · rw [if_neg e3] at h
      simp (disch := omega) only [wpX_reshape, ax_sz, h1, h2, h3, an_e2, an_l2, an_e1, e1, z2, e3, vp_in_nI, nI_clamp, nI_leI, nI_ltI, nI_eq, nI_add, nI_1, pk_mul, an_m36, an_n36, an_b468, forall_eq, true_and, and_true, true_implies, false_implies, not_true, not_false_iff, implies_true, pk_un, pk_us, ap_wrN, ap_wrS]
      exact h
  apply M
  generalize (if r * c = 1 then (36 : Int32) else 6) = mx at *
  have st : ∀ n i, i < r * c → ((¬ d i < 0 ∧ ¬ mx < d i) → wX_reshape_44 post (nI x) (nI y) (nI (r * c)) mx tc lv tx rk rw cl nb gv wt n (nI (i + 1))) → (¬ (¬ d i < 0 ∧ ¬ mx < d i) → post (-15) (tc, lv, tx, rk, rw, cl, nb, gv, wt)) →
      wX_reshape_44 post (nI x) (nI y) (nI (r * c)) mx tc lv tx rk rw cl nb gv wt (n + 1) (nI i) := by
    intro n i hi ha hb
    have z : ¬ r * c ≤ i := by omega
    simp (disch := omega) only [wX_reshape_44, z, h4, vp_in_nI, nI_clamp, nI_leI, nI_ltI, nI_eq, nI_add, nI_1, pk_mul, an_m36, an_n36, an_b468, forall_eq, true_and, and_true, true_implies, false_implies, not_true, not_false_iff, implies_true, pk_un, pk_us, ap_wrN, ap_wrS]
    by_cases a1 : d i < 0
    · simp only [a1, true_implies, not_true, false_implies, and_true]
      exact hb (fun z => z.1 a1)
    · simp only [a1, false_implies, not_false_iff, true_implies, true_and]
      by_cases a2 : mx < d i
      · simp only [Int32.not_le.mpr a2, false_implies, not_false_iff, true_implies, true_and]
        exact hb (fun z => z.2 a2)
      · simp only [Int32.not_lt.mp a2, true_implies, not_true, false_implies, and_true]
        exact ha ⟨a1, a2⟩
  by_cases al : ∀ i, i < r * c → ¬ d i < 0 ∧ ¬ mx < d i
  case neg =>
    rw [if_neg al] at hP
    have q := ax_Pe (by decide) hP
    refine ap_ls (fun n i => wX_reshape_44 post (nI x) (nI y) (nI (r * c)) mx tc lv tx rk rw cl nb gv wt n (nI i)) (fun i => ∃ j, i ≤ j ∧ j < r * c ∧ ¬ (¬ d j < 0 ∧ ¬ mx < d j)) (r * c) (fun ⟨j, a, b, _⟩ => by omega) (fun n i hi hq hk => ?_) ?_
    · refine st n i hi (fun ok => hk ?_) (fun _ => q)
      obtain ⟨j, a, b, g⟩ := hq
      refine ⟨j, ?_, b, g⟩
      by_cases ej : j = i
      · subst ej; exact absurd ok g
      · omega
    · apply Classical.byContradiction
      intro no
      exact al (fun i hi => Classical.byContradiction (fun g => no ⟨i, by omega, hi, g⟩))
  rw [if_pos al] at hP ok
  have ok36 := ap_v36 ok
  dsimp only at ok36
  have q := ax_Pk ok36 hP
  generalize hG : (fun i : Nat => if s * t = 0 then (0 : Int32) else e (i % (s * t))) = G at *
  have G0 : s * t = 0 → ∀ i, (0 : Int32) = G i := fun h i => by rw [← hG]; exact (if_pos h).symm
  have G1 : ¬ s * t = 0 → ∀ i, e (i % (s * t)) = G i := fun h i => by rw [← hG]; exact (if_neg h).symm
  refine ap_ls (fun n i => wX_reshape_44 post (nI x) (nI y) (nI (r * c)) mx tc lv tx rk rw cl nb gv wt n (nI i)) (fun _ => True) (r * c) (fun _ n => ?_) (fun n i hi _ hk => st n i hi (fun _ => hk trivial) (fun g => absurd (al i hi) g)) trivial
  have L : ∀ A B C : Nat, A * B ≤ 36 → post 0 (tc, lv, tx, upd rk 13 (nI C), upd rw 13 (nI A), upd cl 13 (nI B), ap_wr nb G (A * B), gv, wt) →
      wX_reshape_126 post (nI y) (nI C) (nI A) (nI B) tc lv tx rk rw cl nb gv wt := by
    intro A B C hz p
    have j2 : upd rw 13 (nI A) y = nI s := by rw [pk_un (by omega)]; exact k2
    have j3 : upd cl 13 (nI B) y = nI t := by rw [pk_un (by omega)]; exact k3
    simp (disch := omega) only [wX_reshape_126, ax_s13, ax_sz, j2, j3, vp_in_nI, nI_clamp, nI_leI, nI_ltI, nI_eq, nI_add, nI_1, pk_mul, an_m36, an_n36, an_b468, forall_eq, true_and, and_true, true_implies, false_implies, not_true, not_false_iff, implies_true, pk_un, pk_us, ap_wrN, ap_wrS]
    refine ap_le (fun n i a => wX_reshape_149 post (nI y) (nI A) (nI B) (nI (s * t)) tc lv n (nI i) tx (upd rk 13 (nI C)) (upd rw 13 (nI A)) (upd cl 13 (nI B)) a gv wt)
      (fun i => ap_wr nb G i) (A * B) (ap_wr0 _ _) (fun n => ?_) (fun n i hi ih => ?_)
    · have z : A * B ≤ A * B := Nat.le_refl _
      simp (disch := omega) only [wX_reshape_149, z, vp_in_nI, nI_clamp, nI_leI, nI_ltI, nI_eq, nI_add, nI_1, pk_mul, an_m36, an_n36, an_b468, forall_eq, true_and, and_true, true_implies, false_implies, not_true, not_false_iff, implies_true, pk_un, pk_us, ap_wrN, ap_wrS]
      exact p
    · have z : ¬ A * B ≤ i := by omega
      by_cases s0 : s * t = 0
      · have eq := G0 s0 i
        simp (disch := omega) only [wX_reshape_149, z, an_e0, s0, vp_in_nI, nI_clamp, nI_leI, nI_ltI, nI_eq, nI_add, nI_1, pk_mul, an_m36, an_n36, an_b468, forall_eq, true_and, and_true, true_implies, false_implies, not_true, not_false_iff, implies_true, pk_un, pk_us, ap_wrN, ap_wrS]
        rw [s0] at ih
        rw [ap_wrE eq]
        exact ih
      · have m := Nat.mod_lt i (show 0 < s * t by omega)
        have eq := G1 s0 i
        simp (disch := omega) only [wX_reshape_149, z, an_e0, s0, pk_rem, k4, vp_in_nI, nI_clamp, nI_leI, nI_ltI, nI_eq, nI_add, nI_1, pk_mul, an_m36, an_n36, an_b468, forall_eq, true_and, and_true, true_implies, false_implies, not_true, not_false_iff, implies_true, pk_un, pk_us, ap_wrN, ap_wrS]
        rw [ap_wrE eq]
        exact ih
  have a0 : ∀ i, i < r * c → d i = nI (d i).toNatClampNeg := fun i hi => by
    obtain ⟨j, hj, ej⟩ := nI_of (al i hi).1
    rw [ej, nI_clamp hj]
  have z : r * c ≤ r * c := Nat.le_refl _
  simp (disch := omega) only [wX_reshape_44, z, an_e2, vp_in_nI, nI_clamp, nI_leI, nI_ltI, nI_eq, nI_add, nI_1, pk_mul, an_m36, an_n36, an_b468, forall_eq, true_and, and_true, true_implies, false_implies, not_true, not_false_iff, implies_true, pk_un, pk_us, ap_wrN, ap_wrS]
  generalize r * c = m at *
  rcases (by omega : m = 0 ∨ m = 1 ∨ m = 2) with rfl | rfl | rfl
  · have l := L 1 1 0 (by omega) q
    simp only [show ¬ (0 : Nat) = 2 by omega, false_implies, not_false_iff, true_implies, true_and]
    exact br_t rfl l
  · have l := L 1 (d 0).toNatClampNeg 1 ok36 q
    simp only [show ¬ (1 : Nat) = 2 by omega, false_implies, not_false_iff, true_implies, true_and]
    refine br_f (by decide) ?_
    have e9 : nI x * 36 + nI 1 - 1 = nI (x * 36) := by rw [an_m36, nI_add, an_s1 (by omega), Nat.add_sub_cancel]
    rw [e9, nI_clamp (by omega)]
    have d0 := h4 0 (by omega)
    rw [Nat.add_zero] at d0
    rw [d0, a0 0 (by omega)]
    refine ⟨vp_in_nI (by omega) (by omega), ?_⟩
    exact l
  · have l := L (d 0).toNatClampNeg (d 1).toNatClampNeg 2 ok36 q
    simp only [not_true, false_implies, true_implies, and_true]
    have d0 := h4 0 (by omega)
    rw [Nat.add_zero] at d0
    have d1 := h4 1 (by omega)
    have e9 : nI x * 36 + nI 2 - 1 = nI (x * 36 + 1) := by rw [an_m36, nI_add, an_s1 (by omega)]; rfl
    refine br_f (by decide) ?_
    rw [e9, nI_clamp (by omega), d0, d1, a0 0 (by omega), a0 1 (by omega)]
    refine ⟨vp_in_nI (by omega) (by omega), ?_⟩
    exact l
theorem ax_count {post : Int32 → SX → Prop} {y R r c : Nat} {d : Nat → Int32} (y1 : 14 ≤ y) (y2 : y < 46) (V : ap_VS R r c) (H : ap_X rk rw cl nb y R r c d)
    (hP : ax_P post tc lv tx rk rw cl nb gv wt (ap_count R d)) : wpX_countTo post (tc, lv, tx, rk, rw, cl, nb, gv, wt) (nI y) := by
  obtain ⟨h1, h2, h3, h4⟩ := H
  have vb := ap_vb V
  unfold ap_count at hP
  by_cases e1 : R = 0
  case neg =>
    rw [if_neg e1] at hP
    have q := ax_Pe (by decide) hP
    simp (disch := omega) only [wpX_countTo, h1, an_e0, e1, vp_in_nI, nI_clamp, nI_leI, nI_ltI, nI_eq, nI_add, nI_1, pk_mul, an_m36, an_n36, an_b468, forall_eq, true_and, and_true, true_implies, false_implies, not_true, not_false_iff, implies_true, pk_un, pk_us, ap_wrN, ap_wrS]
    exact q
  rw [if_pos e1] at hP
  subst e1
  obtain ⟨rfl, rfl⟩ := ap_v0 V
  have d0 := h4 0 (by omega)
  rw [Nat.add_zero] at d0
  by_cases a1 : d 0 < 0
  · rw [if_pos (Or.inl a1)] at hP
    have q := ax_Pe (by decide) hP
    simp (disch := omega) only [wpX_countTo, h1, an_e0, d0, a1, vp_in_nI, nI_clamp, nI_leI, nI_ltI, nI_eq, nI_add, nI_1, pk_mul, an_m36, an_n36, an_b468, forall_eq, true_and, and_true, true_implies, false_implies, not_true, not_false_iff, implies_true, pk_un, pk_us, ap_wrN, ap_wrS]
    exact q
  by_cases a2 : 36 < d 0
  · rw [if_pos (Or.inr a2)] at hP
    have q := ax_Pe (by decide) hP
    simp (disch := omega) only [wpX_countTo, h1, an_e0, d0, a1, Int32.not_le.mpr a2, vp_in_nI, nI_clamp, nI_leI, nI_ltI, nI_eq, nI_add, nI_1, pk_mul, an_m36, an_n36, an_b468, forall_eq, true_and, and_true, true_implies, false_implies, not_true, not_false_iff, implies_true, pk_un, pk_us, ap_wrN, ap_wrS]
    exact q
  rw [if_neg (fun z => z.elim a1 a2)] at hP
  obtain ⟨j, hj, ej⟩ := nI_of a1
  have j36 := ap_c36 (m := 36) (by decide) a2
  rw [ej, nI_clamp hj] at j36
  have q := ax_Pk (show 1 * (d 0).toNatClampNeg ≤ 36 by rw [ej, nI_clamp hj]; omega) hP
  rw [ej, nI_clamp hj, Nat.one_mul] at q
  rw [ej] at a2 d0
  have a3 := Int32.not_lt.mp a2
  have z0 : ¬ nI j < 0 := nI_pos hj
  simp (disch := omega) only [wpX_countTo, h1, an_e0, d0, z0, ax_s13, an_l36, j36, vp_in_nI, nI_clamp, nI_leI, nI_ltI, nI_eq, nI_add, nI_1, pk_mul, an_m36, an_n36, an_b468, forall_eq, true_and, and_true, true_implies, false_implies, not_true, not_false_iff, implies_true, pk_un, pk_us, ap_wrN, ap_wrS]
  refine ap_le (fun n i a => wX_countTo_46 post (nI j) tc lv n (nI i) tx (upd rk 13 1) (upd rw 13 1) (upd cl 13 (nI j)) a gv wt)
    (fun i => ap_wr nb (fun i => nI i) i) j (ap_wr0 _ _) (fun n => ?_) (fun n i hi ih => ?_)
  · exact br_t (nI_le (Nat.le_refl _) (by omega)) q
  · have z : ¬ j ≤ i := by omega
    simp (disch := omega) only [wX_countTo_46, z, vp_in_nI, nI_clamp, nI_leI, nI_ltI, nI_eq, nI_add, nI_1, pk_mul, an_m36, an_n36, an_b468, forall_eq, true_and, and_true, true_implies, false_implies, not_true, not_false_iff, implies_true, pk_un, pk_us, ap_wrN, ap_wrS]
    exact ih
theorem ax_fpL (post : Int32 → Prop) {x c : Nat} {w : Int32} {d : Nat → Int32} (x2 : x < 46) (hc : cl x = nI c) (c36 : c ≤ 36) (hd : ∀ k, k < c → nb (x * 36 + k) = d k) :
    ∀ m i n, i + m = c → m < n → post (nI (ap_fp (fun k => decide (d k = w)) m i)) → wX_firstPlace_2 post (nI x) w tc lv tx rk rw cl nb gv wt n (nI i) := by
  intro m
  induction m with
  | zero =>
    intro i n h1 hn hp
    obtain ⟨n, rfl⟩ : ∃ k, n = k + 1 := ⟨n - 1, by omega⟩
    have z : i = c := by omega
    have z2 : c ≤ i := by omega
    simp (disch := omega) only [wX_firstPlace_2, hc, z2, vp_in_nI, nI_clamp, nI_leI, nI_ltI, nI_eq, nI_add, nI_1, pk_mul, an_m36, an_n36, an_b468, forall_eq, true_and, and_true, true_implies, false_implies, not_true, not_false_iff, implies_true, pk_un, pk_us, ap_wrN, ap_wrS]
    rw [← z]
    exact hp
  | succ m ih =>
    intro i n h1 hn hp
    obtain ⟨n, rfl⟩ : ∃ k, n = k + 1 := ⟨n - 1, by omega⟩
    have z : ¬ c ≤ i := by omega
    unfold ap_fp at hp
    simp (disch := omega) only [wX_firstPlace_2, hc, z, hd, vp_in_nI, nI_clamp, nI_leI, nI_ltI, nI_eq, nI_add, nI_1, pk_mul, an_m36, an_n36, an_b468, forall_eq, true_and, and_true, true_implies, false_implies, not_true, not_false_iff, implies_true, pk_un, pk_us, ap_wrN, ap_wrS]
    by_cases a : d i = w
    · rw [if_pos (by rw [a]; simp)] at hp
      exact br_t a hp
    · rw [if_neg (by simp [a])] at hp
      exact br_f a (ih (i + 1) n (by omega) (by omega) hp)
theorem ax_find {post : Int32 → SX → Prop} {x y R r c S s t : Nat} {d e : Nat → Int32} (x1 : 14 ≤ x) (x2 : x < 46) (y1 : 14 ≤ y) (y2 : y < 46)
    (V : ap_VS R r c) (H : ap_X rk rw cl nb x R r c d) (W : ap_VS S s t) (K : ap_X rk rw cl nb y S s t e)
    (hP : ax_P post tc lv tx rk rw cl nb gv wt (ap_find R c d S s t e)) : wpX_firstPlaces post (tc, lv, tx, rk, rw, cl, nb, gv, wt) (nI x) (nI y) := by
  obtain ⟨h1, h2, h3, h4⟩ := H
  obtain ⟨k1, k2, k3, k4⟩ := K
  have vb := ap_vb V
  have w36 := ap_v36 W
  unfold ap_find at hP
  by_cases e1 : R = 1
  case neg =>
    rw [if_neg e1] at hP
    have q := ax_Pe (by decide) hP
    simp (disch := omega) only [wpX_firstPlaces, h1, an_e1, e1, vp_in_nI, nI_clamp, nI_leI, nI_ltI, nI_eq, nI_add, nI_1, pk_mul, an_m36, an_n36, an_b468, forall_eq, true_and, and_true, true_implies, false_implies, not_true, not_false_iff, implies_true, pk_un, pk_us, ap_wrN, ap_wrS]
    exact q
  rw [if_pos e1] at hP
  subst e1
  have r1 := ap_v1 V (by omega)
  subst r1
  have q := ax_Pk w36 hP
  simp (disch := omega) only [wpX_firstPlaces, h1, an_e1, ax_sz, ax_s13, k1, k2, k3, vp_in_nI, nI_clamp, nI_leI, nI_ltI, nI_eq, nI_add, nI_1, pk_mul, an_m36, an_n36, an_b468, forall_eq, true_and, and_true, true_implies, false_implies, not_true, not_false_iff, implies_true, pk_un, pk_us, ap_wrN, ap_wrS]
  refine ap_le (fun n i a => wX_firstPlaces_46 post (nI x) (nI y) (nI (s * t)) tc lv n (nI i) tx (upd rk 13 (nI S)) (upd rw 13 (nI s)) (upd cl 13 (nI t)) a gv wt)
    (fun i => ap_wr nb (fun i => nI (ap_fp (fun k => decide (d k = e i)) c 0)) i) (s * t) (ap_wr0 _ _) (fun n => ?_) (fun n i hi ih => ?_)
  · exact br_t (nI_le (Nat.le_refl _) (by omega)) q
  · have z : ¬ s * t ≤ i := by omega
    simp (disch := omega) only [wX_firstPlaces_46, z, k4, wpX_firstPlace, vp_in_nI, nI_clamp, nI_leI, nI_ltI, nI_eq, nI_add, nI_1, pk_mul, an_m36, an_n36, an_b468, forall_eq, true_and, and_true, true_implies, false_implies, not_true, not_false_iff, implies_true, pk_un, pk_us, ap_wrN, ap_wrS]
    refine ⟨c + 1, ax_fpL (d := d) _ x2 (by rw [pk_un (by omega)]; exact h3) vb.2.2 (fun k hk => ?_) c 0 (c + 1) (by omega) (by omega) ?_⟩
    · rw [ap_wrN (by omega) (by omega)]
      exact h4 k (by omega)
    · simp (disch := omega) only [vp_in_nI, nI_clamp, nI_leI, nI_ltI, nI_eq, nI_add, nI_1, pk_mul, an_m36, an_n36, an_b468, forall_eq, true_and, and_true, true_implies, false_implies, not_true, not_false_iff, implies_true, pk_un, pk_us, ap_wrN, ap_wrS]
      exact ih
end
end
section
/-! X: turn, back, first, ravel, rise -/
section
variable {tc lv : Int32} {tx rk rw cl nb gv wt : Nat → Int32}
theorem ax_turn {post : SX → Prop} {y R r c : Nat} {d : Nat → Int32} (y1 : 14 ≤ y) (y2 : y < 46) (V : ap_VS R r c) (H : ap_X rk rw cl nb y R r c d)
    (hP : ax_Q post tc lv tx rk rw cl nb gv wt (ap_turn R r c d)) : wpX_turnOver post (tc, lv, tx, rk, rw, cl, nb, gv, wt) (nI y) := by
  have vb := ap_vb V
  have v36 := ap_v36 V
  unfold ap_turn at hP
  by_cases e1 : R = 2
  case neg =>
    rw [if_neg e1] at hP
    have H0 := H
    obtain ⟨h1, h2, h3, h4⟩ := H
    simp (disch := omega) only [wpX_turnOver, h1, an_e2, e1, vp_in_nI, nI_clamp, nI_leI, nI_ltI, nI_eq, nI_add, nI_1, pk_mul, an_m36, an_n36, an_b468, forall_eq, true_and, and_true, true_implies, false_implies, not_true, not_false_iff, implies_true, pk_un, pk_us, ap_wrN, ap_wrS]
    exact ax_cp y2 (b := 13) (by omega) (by omega) (hP _ _ _ _ ap_cpF (ap_cpX v36 H0))
  rw [if_pos e1] at hP
  subst e1
  obtain ⟨h1, h2, h3, h4⟩ := H
  simp (disch := omega) only [wpX_turnOver, h1, h2, h3, an_e2, ax_s13, vp_in_nI, nI_clamp, nI_leI, nI_ltI, nI_eq, nI_add, nI_1, pk_mul, an_m36, an_n36, an_b468, forall_eq, true_and, and_true, true_implies, false_implies, not_true, not_false_iff, implies_true, pk_un, pk_us, ap_wrN, ap_wrS]
  have j2 : upd rw 13 (nI c) y = nI r := by rw [pk_un (by omega)]; exact h2
  have j3 : upd cl 13 (nI r) y = nI c := by rw [pk_un (by omega)]; exact h3
  refine pk_loop (fun n i a => wX_turnOver_39 post (nI y) tc lv n (nI i) tx (upd rk 13 2) (upd rw 13 (nI c)) (upd cl 13 (nI r)) a gv wt)
    (fun i a => (∀ j, (j < 468 ∨ 504 ≤ j) → a j = nb j) ∧ ∀ p q, p < r → q < c → p * c + q < i * c → a (468 + (q * r + p)) = d (p * c + q)) r 0 nb (by omega) ⟨fun _ _ => rfl, fun p q _ _ h => by omega⟩ (fun n a hI => ?_) (fun n i a hi hI ih => ?_)
  · have z : r ≤ r := Nat.le_refl r
    simp (disch := omega) only [wX_turnOver_39, j2, z, vp_in_nI, nI_clamp, nI_leI, nI_ltI, nI_eq, nI_add, nI_1, pk_mul, an_m36, an_n36, an_b468, forall_eq, true_and, and_true, true_implies, false_implies, not_true, not_false_iff, implies_true, pk_un, pk_us, ap_wrN, ap_wrS]
    refine hP _ _ _ _ ⟨fun _ h => ⟨pk_un h, pk_un h, pk_un h⟩, fun j h => hI.1 j (by omega)⟩ ⟨pk_us, pk_us, pk_us, fun j h => ?_⟩
    have hj : j < c * r := h
    obtain ⟨r0, a1, a2, a3⟩ := ap_dvl hj
    have g := hI.2 (j % r) (j / r) a2 a1 (ap_ix a2 a1)
    rw [a3] at g
    exact g
  · have z : ¬ r ≤ i := by omega
    simp (disch := omega) only [wX_turnOver_39, j2, z, vp_in_nI, nI_clamp, nI_leI, nI_ltI, nI_eq, nI_add, nI_1, pk_mul, an_m36, an_n36, an_b468, forall_eq, true_and, and_true, true_implies, false_implies, not_true, not_false_iff, implies_true, pk_un, pk_us, ap_wrN, ap_wrS]
    refine pk_loop (fun m j a => wX_turnOver_51 post (wX_turnOver_39 post (nI y) tc lv n) (nI y) (nI i) tc lv m (nI j) tx (upd rk 13 2) (upd rw 13 (nI c)) (upd cl 13 (nI r)) a gv wt)
      (fun k a => (∀ j, (j < 468 ∨ 504 ≤ j) → a j = nb j) ∧ ∀ p q, p < r → q < c → p * c + q < i * c + k → a (468 + (q * r + p)) = d (p * c + q)) c 0 a (by omega) ⟨hI.1, fun p q h1 h2 h3 => hI.2 p q h1 h2 (by omega)⟩ (fun m b hJ => ?_) (fun m k b hk hJ jh => ?_)
    · have z : c ≤ c := Nat.le_refl c
      simp (disch := omega) only [wX_turnOver_51, j3, z, vp_in_nI, nI_clamp, nI_leI, nI_ltI, nI_eq, nI_add, nI_1, pk_mul, an_m36, an_n36, an_b468, forall_eq, true_and, and_true, true_implies, false_implies, not_true, not_false_iff, implies_true, pk_un, pk_us, ap_wrN, ap_wrS]
      exact ih b ⟨hJ.1, fun p q h1 h2 h3 => hJ.2 p q h1 h2 (by rw [Nat.succ_mul] at h3; exact h3)⟩
    · have z : ¬ c ≤ k := by omega
      have b1 := ap_ix hi hk
      have b2 := ap_ix hk hi
      rw [Nat.mul_comm c r] at b2
      have g : b (y * 36 + (i * c + k)) = d (i * c + k) := by rw [hJ.1 _ (by omega)]; exact h4 _ b1
      simp (disch := omega) only [wX_turnOver_51, j2, j3, z, Nat.add_assoc, g, vp_in_nI, nI_clamp, nI_leI, nI_ltI, nI_eq, nI_add, nI_1, pk_mul, an_m36, an_n36, an_b468, forall_eq, true_and, and_true, true_implies, false_implies, not_true, not_false_iff, implies_true, pk_un, pk_us, ap_wrN, ap_wrS]
      refine jh _ ⟨fun j h => ?_, fun p q h1 h2 h3 => ?_⟩
      · rw [pk_un (by omega)]; exact hJ.1 j h
      · by_cases e : p * c + q = i * c + k
        · obtain ⟨rfl, rfl⟩ := ap_uq h2 hk e
          rw [pk_us]
        · have ne : ¬ q * r + p = k * r + i := fun z => by
            obtain ⟨rfl, rfl⟩ := ap_uq h1 hi z
            exact e rfl
          rw [pk_un (by omega)]
          exact hJ.2 p q h1 h2 (by omega)
theorem ax_rev {post : SX → Prop} {y R r c : Nat} {d : Nat → Int32} (y1 : 14 ≤ y) (y2 : y < 46) (V : ap_VS R r c) (H : ap_X rk rw cl nb y R r c d)
    (hP : ax_Q post tc lv tx rk rw cl nb gv wt (ap_rev R r c d)) : wpX_reverseRows post (tc, lv, tx, rk, rw, cl, nb, gv, wt) (nI y) := by
  obtain ⟨h1, h2, h3, h4⟩ := H
  have s := ap_v36 V
  have vb := ap_vb V
  have q := ax_Qk s hP
  simp (disch := omega) only [wpX_reverseRows, ax_s13, h1, h2, h3, vp_in_nI, nI_clamp, nI_leI, nI_ltI, nI_eq, nI_add, nI_1, pk_mul, an_m36, an_n36, an_b468, forall_eq, true_and, and_true, true_implies, false_implies, not_true, not_false_iff, implies_true, pk_un, pk_us, ap_wrN, ap_wrS]
  refine ap_le (fun n i a => wX_reverseRows_28 post (nI y) (nI c) tc lv n (nI i) tx (upd rk 13 (nI R)) (upd rw 13 (nI r)) (upd cl 13 (nI c)) a gv wt)
    (fun i => ap_wr nb (fun i => d (i - i % c + (c - 1 - i % c))) (i * c)) r (by rw [Nat.zero_mul]; exact ap_wr0 _ _) (fun n => ?_) (fun n i hi ih => ?_)
  · have z : r ≤ r := Nat.le_refl r
    simp (disch := omega) only [wX_reverseRows_28, h2, z, vp_in_nI, nI_clamp, nI_leI, nI_ltI, nI_eq, nI_add, nI_1, pk_mul, an_m36, an_n36, an_b468, forall_eq, true_and, and_true, true_implies, false_implies, not_true, not_false_iff, implies_true, pk_un, pk_us, ap_wrN, ap_wrS]
    exact q
  · have z : ¬ r ≤ i := by omega
    have b : i * c + c ≤ r * c := by
      have := Nat.mul_le_mul_right c (show i + 1 ≤ r from hi)
      rw [Nat.succ_mul] at this
      exact this
    simp (disch := omega) only [wX_reverseRows_28, h2, z, vp_in_nI, nI_clamp, nI_leI, nI_ltI, nI_eq, nI_add, nI_1, pk_mul, an_m36, an_n36, an_b468, forall_eq, true_and, and_true, true_implies, false_implies, not_true, not_false_iff, implies_true, pk_un, pk_us, ap_wrN, ap_wrS]
    refine ap_le (fun m j a => wX_reverseRows_41 post (wX_reverseRows_28 post (nI y) (nI c) tc lv n) (nI y) (nI c) (nI i) tc lv m (nI j) tx (upd rk 13 (nI R)) (upd rw 13 (nI r)) (upd cl 13 (nI c)) a gv wt)
      (fun j => ap_wr nb (fun i => d (i - i % c + (c - 1 - i % c))) (i * c + j)) c (by rw [Nat.add_zero]) (fun m => ?_) (fun m j hj jh => ?_)
    · have z : c ≤ c := Nat.le_refl c
      rw [Nat.succ_mul] at ih
      simp (disch := omega) only [wX_reverseRows_41, z, vp_in_nI, nI_clamp, nI_leI, nI_ltI, nI_eq, nI_add, nI_1, pk_mul, an_m36, an_n36, an_b468, forall_eq, true_and, and_true, true_implies, false_implies, not_true, not_false_iff, implies_true, pk_un, pk_us, ap_wrN, ap_wrS]
      exact ih
    · have z : ¬ c ≤ j := by omega
      have ix : y * 36 + (i * c + c) - 1 - j = y * 36 + (i * c + (c - 1 - j)) := by omega
      have eq : d (i * c + (c - 1 - j)) = (fun i => d (i - i % c + (c - 1 - i % c))) (i * c + j) := by
        dsimp only
        rw [ap_md1 hj, Nat.add_sub_cancel]
      simp (disch := omega) only [wX_reverseRows_41, z, an_s1, pk_sub, ix, h4, Nat.add_assoc, ap_wrH nb (fun i => d (i - i % c + (c - 1 - i % c))) (i * c + j) eq, vp_in_nI, nI_clamp, nI_leI, nI_ltI, nI_eq, nI_add, nI_1, pk_mul, an_m36, an_n36, an_b468, forall_eq, true_and, and_true, true_implies, false_implies, not_true, not_false_iff, implies_true, pk_un, pk_us, ap_wrN, ap_wrS]
      exact jh
theorem ax_rot {post : Int32 → SX → Prop} {x y R r c S s t : Nat} {d e : Nat → Int32} (x1 : 14 ≤ x) (x2 : x < 46) (y1 : 14 ≤ y) (y2 : y < 46)
    (V : ap_VS R r c) (H : ap_X rk rw cl nb x R r c d) (W : ap_VS S s t) (K : ap_X rk rw cl nb y S s t e)
    (hP : ax_P post tc lv tx rk rw cl nb gv wt (ap_rot R d S s t e)) : wpX_rotate post (tc, lv, tx, rk, rw, cl, nb, gv, wt) (nI x) (nI y) := by
  obtain ⟨h1, h2, h3, h4⟩ := H
  obtain ⟨k1, k2, k3, k4⟩ := K
  have vb := ap_vb V
  have wb := ap_vb W
  have w36 := ap_v36 W
  unfold ap_rot at hP
  by_cases e1 : R = 0
  case neg =>
    rw [if_neg e1] at hP
    have q := ax_Pe (by decide) hP
    simp (disch := omega) only [wpX_rotate, h1, an_e0, e1, vp_in_nI, nI_clamp, nI_leI, nI_ltI, nI_eq, nI_add, nI_1, pk_mul, an_m36, an_n36, an_b468, forall_eq, true_and, and_true, true_implies, false_implies, not_true, not_false_iff, implies_true, pk_un, pk_us, ap_wrN, ap_wrS]
    exact q
  rw [if_pos e1] at hP
  subst e1
  obtain ⟨rfl, rfl⟩ := ap_v0 V
  have d0 := h4 0 (by omega)
  rw [Nat.add_zero] at d0
  have q := ax_Pk w36 hP
  have L : ∀ sh : Nat, sh ≤ 36 → (0 < t → sh = ((d 0).toInt % t).toNat) → ∃ n, wX_rotate_66 post (nI y) (nI t) (nI sh) tc lv n 0 tx (upd rk 13 (nI S)) (upd rw 13 (nI s)) (upd cl 13 (nI t)) nb gv wt := by
    intro sh sb hs
    refine ap_le (fun n i a => wX_rotate_66 post (nI y) (nI t) (nI sh) tc lv n (nI i) tx (upd rk 13 (nI S)) (upd rw 13 (nI s)) (upd cl 13 (nI t)) a gv wt)
      (fun i => ap_wr nb (fun i => e (i - i % t + (i % t + ((d 0).toInt % t).toNat) % t)) (i * t)) s (by rw [Nat.zero_mul]; exact ap_wr0 _ _) (fun n => ?_) (fun n i hi ih => ?_)
    · have z : s ≤ s := Nat.le_refl s
      simp (disch := omega) only [wX_rotate_66, k2, z, vp_in_nI, nI_clamp, nI_leI, nI_ltI, nI_eq, nI_add, nI_1, pk_mul, an_m36, an_n36, an_b468, forall_eq, true_and, and_true, true_implies, false_implies, not_true, not_false_iff, implies_true, pk_un, pk_us, ap_wrN, ap_wrS]
      exact q
    · have z : ¬ s ≤ i := by omega
      have b : i * t + t ≤ s * t := by
        have := Nat.mul_le_mul_right t (show i + 1 ≤ s from hi)
        rw [Nat.succ_mul] at this
        exact this
      simp (disch := omega) only [wX_rotate_66, k2, z, vp_in_nI, nI_clamp, nI_leI, nI_ltI, nI_eq, nI_add, nI_1, pk_mul, an_m36, an_n36, an_b468, forall_eq, true_and, and_true, true_implies, false_implies, not_true, not_false_iff, implies_true, pk_un, pk_us, ap_wrN, ap_wrS]
      refine ap_le (fun m j a => wX_rotate_80 post (wX_rotate_66 post (nI y) (nI t) (nI sh) tc lv n) (nI y) (nI t) (nI sh) (nI i) tc lv m (nI j) tx (upd rk 13 (nI S)) (upd rw 13 (nI s)) (upd cl 13 (nI t)) a gv wt)
        (fun j => ap_wr nb (fun i => e (i - i % t + (i % t + ((d 0).toInt % t).toNat) % t)) (i * t + j)) t (by rw [Nat.add_zero]) (fun m => ?_) (fun m j hj jh => ?_)
      · have z : t ≤ t := Nat.le_refl t
        rw [Nat.succ_mul] at ih
        simp (disch := omega) only [wX_rotate_80, z, vp_in_nI, nI_clamp, nI_leI, nI_ltI, nI_eq, nI_add, nI_1, pk_mul, an_m36, an_n36, an_b468, forall_eq, true_and, and_true, true_implies, false_implies, not_true, not_false_iff, implies_true, pk_un, pk_us, ap_wrN, ap_wrS]
        exact ih
      · have z : ¬ t ≤ j := by omega
        have t0 : ¬ t = 0 := by omega
        have ml := Nat.mod_lt (j + sh) (show 0 < t by omega)
        have eq : e (i * t + (j + sh) % t) = (fun i => e (i - i % t + (i % t + ((d 0).toInt % t).toNat) % t)) (i * t + j) := by
          dsimp only
          rw [ap_md1 hj, Nat.add_sub_cancel, hs (by omega)]
        simp (disch := omega) only [wX_rotate_80, z, an_e0, t0, pk_rem, k4, Nat.add_assoc, ap_wrH nb (fun i => e (i - i % t + (i % t + ((d 0).toInt % t).toNat) % t)) (i * t + j) eq, vp_in_nI, nI_clamp, nI_leI, nI_ltI, nI_eq, nI_add, nI_1, pk_mul, an_m36, an_n36, an_b468, forall_eq, true_and, and_true, true_implies, false_implies, not_true, not_false_iff, implies_true, pk_un, pk_us, ap_wrN, ap_wrS]
        exact jh
  simp (disch := omega) only [wpX_rotate, h1, k1, k2, k3, an_e0, ax_s13, vp_in_nI, nI_clamp, nI_leI, nI_ltI, nI_eq, nI_add, nI_1, pk_mul, an_m36, an_n36, an_b468, forall_eq, true_and, and_true, true_implies, false_implies, not_true, not_false_iff, implies_true, pk_un, pk_us, ap_wrN, ap_wrS]
  by_cases t0 : t = 0
  · have l := L 0 (by omega) (by omega)
    simp only [t0, true_implies, not_true, false_implies, and_true] at l ⊢
    exact l
  · simp only [t0, false_implies, not_false_iff, true_implies, true_and]
    have sc : ap_sf 27 (nI t) (d 0) = nI ((d 0).toInt % t).toNat := by
      rw [show ap_sf 27 (nI t) (d 0) = ap_rs (nI t) (d 0) from rfl]
      exact ap_rsN (by omega) (by omega) _
    have m0 := Int.emod_nonneg (d 0).toInt (b := t) (by omega)
    have m1 := Int.emod_lt_of_pos (d 0).toInt (b := t) (by omega)
    have l := L ((d 0).toInt % t).toNat (by omega) (fun _ => rfl)
    rw [← sc, ← d0] at l
    have g := (ax_sf (fun r_19 => ∃ n66, wX_rotate_66 post (nI y) (nI t) r_19 tc lv n66 0 tx (upd rk 13 (nI S)) (upd rw 13 (nI s)) (upd cl 13 (nI t)) nb gv wt) (f := 27) (by decide) (nI t) (nb (x * 36))).mpr l
    exact g
theorem ax_first {post : SX → Prop} {y R r c : Nat} {d : Nat → Int32} (y1 : 14 ≤ y) (y2 : y < 46) (V : ap_VS R r c) (H : ap_X rk rw cl nb y R r c d)
    (hP : ax_Q post tc lv tx rk rw cl nb gv wt (ap_first r c d)) : wpX_takeFirst post (tc, lv, tx, rk, rw, cl, nb, gv, wt) (nI y) := by
  obtain ⟨h1, h2, h3, h4⟩ := H
  have s := ap_v36 V
  have q := ax_Qk (r := 1) (c := 1) (by omega) hP
  by_cases e : r * c = 0
  · simp only [if_pos e, Nat.mul_one, ← ap_wr1] at q
    simp (disch := omega) only [wpX_takeFirst, wX_takeFirst_21, ax_sz, ax_s13, h2, h3, an_e0, e, vp_in_nI, nI_clamp, nI_leI, nI_ltI, nI_eq, nI_add, nI_1, pk_mul, an_m36, an_n36, an_b468, forall_eq, true_and, and_true, true_implies, false_implies, not_true, not_false_iff, implies_true, pk_un, pk_us, ap_wrN, ap_wrS]
    exact q
  · simp only [if_neg e, Nat.mul_one, ← ap_wr1] at q
    have d0 := h4 0 (by omega)
    rw [Nat.add_zero] at d0
    simp (disch := omega) only [wpX_takeFirst, wX_takeFirst_21, ax_sz, ax_s13, h2, h3, an_e0, e, d0, vp_in_nI, nI_clamp, nI_leI, nI_ltI, nI_eq, nI_add, nI_1, pk_mul, an_m36, an_n36, an_b468, forall_eq, true_and, and_true, true_implies, false_implies, not_true, not_false_iff, implies_true, pk_un, pk_us, ap_wrN, ap_wrS]
    exact q
theorem ax_ravel {post : SX → Prop} {y R r c : Nat} {d : Nat → Int32} (y1 : 14 ≤ y) (y2 : y < 46) (V : ap_VS R r c) (H : ap_X rk rw cl nb y R r c d)
    (hP : ax_Q post tc lv tx rk rw cl nb gv wt (ap_ravel r c d)) : wpX_ravel post (tc, lv, tx, rk, rw, cl, nb, gv, wt) (nI y) := by
  have s := ap_v36 V
  obtain ⟨h1, h2, h3, h4⟩ := H
  simp (disch := omega) only [wpX_ravel, ax_sz, h2, h3, vp_in_nI, nI_clamp, nI_leI, nI_ltI, nI_eq, nI_add, nI_1, pk_mul, an_m36, an_n36, an_b468, forall_eq, true_and, and_true, true_implies, false_implies, not_true, not_false_iff, implies_true, pk_un, pk_us, ap_wrN, ap_wrS]
  refine ax_cp y2 (b := 13) (by omega) (by omega) ?_
  simp (disch := omega) only [ax_s13]
  refine hP _ _ _ _ ⟨fun _ h => ⟨?_, ?_, ?_⟩, fun _ h => ap_cpN h⟩ ⟨pk_us, pk_us, pk_us, fun i h => ?_⟩
  · rw [pk_un h, pk_un h]
  · rw [pk_un h, pk_un h]
  · rw [pk_un h, pk_un h]
  · have hi : i < 1 * (r * c) := h
    rw [ap_cpI (by omega)]
    exact h4 i (by omega)
theorem ax_rpL (post : Int32 → Prop) {y i c : Nat} {d : Nat → Int32} (y2 : y < 46) (hi : i < c) (hc : cl y = nI c) (c36 : c ≤ 36) (hd : ∀ k, k < c → nb (y * 36 + k) = d k)
    (hp : post (nI (ap_pl d i c))) : wpX_risenPlace post (tc, lv, tx, rk, rw, cl, nb, gv, wt) (nI y) (nI i) := by
  simp (disch := omega) only [wpX_risenPlace, hd, vp_in_nI, nI_clamp, nI_leI, nI_ltI, nI_eq, nI_add, nI_1, pk_mul, an_m36, an_n36, an_b468, forall_eq, true_and, and_true, true_implies, false_implies, not_true, not_false_iff, implies_true, pk_un, pk_us, ap_wrN, ap_wrS]
  refine ap_le (fun n k a => wX_risenPlace_18 post (nI y) (nI i) (d i) tc lv tx rk rw cl nb gv wt n (nI a) (nI k)) (fun k => ap_pl d i k) c rfl (fun n => ?_) (fun n k hk ih => ?_)
  · have z : c ≤ c := Nat.le_refl c
    simp (disch := omega) only [wX_risenPlace_18, hc, z, vp_in_nI, nI_clamp, nI_leI, nI_ltI, nI_eq, nI_add, nI_1, pk_mul, an_m36, an_n36, an_b468, forall_eq, true_and, and_true, true_implies, false_implies, not_true, not_false_iff, implies_true, pk_un, pk_us, ap_wrN, ap_wrS]
    exact hp
  · have z : ¬ c ≤ k := by omega
    have pl := (ap_plL (d := d) (i := i) k).1
    unfold ap_pl at ih
    simp (disch := omega) only [wX_risenPlace_18, hc, z, hd, vp_in_nI, nI_clamp, nI_leI, nI_ltI, nI_eq, nI_add, nI_1, pk_mul, an_m36, an_n36, an_b468, forall_eq, true_and, and_true, true_implies, false_implies, not_true, not_false_iff, implies_true, pk_un, pk_us, ap_wrN, ap_wrS]
    by_cases a : d k < d i
    · rw [if_pos (Or.inl a)] at ih
      exact br_t a ih
    · refine br_f a ?_
      by_cases b : d k = d i
      · by_cases g : k < i
        · rw [if_pos (Or.inr ⟨b, g⟩)] at ih
          exact br_t b (br_f (by omega) ih)
        · rw [if_neg (fun z => z.elim a (fun z => g z.2))] at ih
          exact br_t b (br_t (by omega) ih)
      · rw [if_neg (fun z => z.elim a (fun z => b z.1))] at ih
        exact br_f b ih
theorem ax_rise {post : Int32 → SX → Prop} {y R r c : Nat} {d : Nat → Int32} (y1 : 14 ≤ y) (y2 : y < 46) (V : ap_VS R r c) (H : ap_X rk rw cl nb y R r c d)
    (hP : ax_P post tc lv tx rk rw cl nb gv wt (ap_rise R c d)) : wpX_risingPlaces post (tc, lv, tx, rk, rw, cl, nb, gv, wt) (nI y) := by
  obtain ⟨h1, h2, h3, h4⟩ := H
  have vb := ap_vb V
  unfold ap_rise at hP
  by_cases e1 : R = 1
  case neg =>
    rw [if_neg e1] at hP
    have q := ax_Pe (by decide) hP
    simp (disch := omega) only [wpX_risingPlaces, h1, an_e1, e1, vp_in_nI, nI_clamp, nI_leI, nI_ltI, nI_eq, nI_add, nI_1, pk_mul, an_m36, an_n36, an_b468, forall_eq, true_and, and_true, true_implies, false_implies, not_true, not_false_iff, implies_true, pk_un, pk_us, ap_wrN, ap_wrS]
    exact q
  rw [if_pos e1] at hP
  subst e1
  have r1 := ap_v1 V (by omega)
  subst r1
  have j3 : upd cl 13 (nI c) y = nI c := by rw [pk_un (by omega)]; exact h3
  simp (disch := omega) only [wpX_risingPlaces, h1, h3, an_e1, ax_s13, vp_in_nI, nI_clamp, nI_leI, nI_ltI, nI_eq, nI_add, nI_1, pk_mul, an_m36, an_n36, an_b468, forall_eq, true_and, and_true, true_implies, false_implies, not_true, not_false_iff, implies_true, pk_un, pk_us, ap_wrN, ap_wrS]
  refine pk_loop (fun n i a => wX_risingPlaces_29 post (nI y) tc lv n (nI i) tx (upd rk 13 1) (upd rw 13 1) (upd cl 13 (nI c)) a gv wt)
    (fun i a => (∀ j, (j < 468 ∨ 504 ≤ j) → a j = nb j) ∧ ∀ k, k < i → a (468 + ap_pl d k c) = nI k) c 0 nb (by omega) ⟨fun _ _ => rfl, fun k h => by omega⟩ (fun n a hI => ?_) (fun n i a hi hI ih => ?_)
  · have z : c ≤ c := Nat.le_refl c
    simp (disch := omega) only [wX_risingPlaces_29, j3, z, vp_in_nI, nI_clamp, nI_leI, nI_ltI, nI_eq, nI_add, nI_1, pk_mul, an_m36, an_n36, an_b468, forall_eq, true_and, and_true, true_implies, false_implies, not_true, not_false_iff, implies_true, pk_un, pk_us, ap_wrN, ap_wrS]
    refine hP.2 rfl _ _ _ _ ⟨fun _ h => ⟨pk_un h, pk_un h, pk_un h⟩, fun j h => hI.1 j (by omega)⟩ ⟨pk_us, pk_us, pk_us, fun j h => ?_⟩
    have hj : j < 1 * c := h
    obtain ⟨i, hi, rfl⟩ := ap_riseS (d := d) (show j < c by omega)
    rw [hI.2 i hi]
    dsimp only
    rw [ap_riseE hi]
  · have z : ¬ c ≤ i := by omega
    have pl := (ap_plL (d := d) (i := i) c).2 hi
    simp (disch := omega) only [wX_risingPlaces_29, j3, z, vp_in_nI, nI_clamp, nI_leI, nI_ltI, nI_eq, nI_add, nI_1, pk_mul, an_m36, an_n36, an_b468, forall_eq, true_and, and_true, true_implies, false_implies, not_true, not_false_iff, implies_true, pk_un, pk_us, ap_wrN, ap_wrS]
    refine ax_rpL (d := d) _ y2 hi j3 vb.2.2 (fun k hk => by rw [hI.1 _ (by omega)]; exact h4 k (by omega)) ?_
    simp (disch := omega) only [vp_in_nI, nI_clamp, nI_leI, nI_ltI, nI_eq, nI_add, nI_1, pk_mul, an_m36, an_n36, an_b468, forall_eq, true_and, and_true, true_implies, false_implies, not_true, not_false_iff, implies_true, pk_un, pk_us, ap_wrN, ap_wrS]
    refine ih _ ⟨fun j h => ?_, fun k hk => ?_⟩
    · rw [pk_un (by omega)]; exact hI.1 j h
    · by_cases e : k = i
      · subst e; rw [pk_us]
      · have ne : ¬ ap_pl d k c = ap_pl d i c := fun z => e (ap_plI (by omega) hi z)
        rw [pk_un (by omega)]
        exact hI.2 k (by omega)
end
end
section
/-! X: take, drop, join, pick -/
section
variable {tc lv : Int32} {tx rk rw cl nb gv wt : Nat → Int32}
theorem ax_lines {post : SX → Prop} {y R r c m : Nat} {d : Nat → Int32} {x : Int32} {a : Int} (y1 : 14 ≤ y) (y2 : y < 46) (V : ap_VS R r c) (H : ap_X rk rw cl nb y R r c d)
    (hx : x.toInt = a) (a1 : -36 ≤ a) (a2 : a ≤ 36) (hm : m ≤ if R = 2 then 6 else 36)
    (hP : ax_Q post tc lv tx rk rw cl nb gv wt (ap_lines a m R r c d)) : wpX_makeLines post (tc, lv, tx, rk, rw, cl, nb, gv, wt) (nI y) x (nI m) := by
  have ok := ap_v36 (ap_linesV (a := a) (m := m) (e := d) V hm)
  obtain ⟨h1, h2, h3, h4⟩ := H
  have vb := ap_vb V
  have v36 := ap_v36 V
  have q := ax_Qk ok hP
  have wW : ap_w R c ≤ 6 := by unfold ap_w ap_VS at *; split <;> omega
  have m36 : m ≤ 36 := by split at hm <;> omega
  have mw : m * ap_w R c ≤ 36 := by
    unfold ap_lines at ok
    unfold ap_w
    dsimp only at ok
    by_cases e : R = 2
    · simp only [if_pos e] at ok ⊢; exact ok
    · simp only [if_neg e] at ok ⊢; omega
  have L : ∀ rk' rw' cl' : Nat → Int32, post (tc, lv, tx, rk', rw', cl', ap_wr nb (fun i => if 0 ≤ a * ap_w R c + i ∧ a * ap_w R c + i < (r * c : Nat) then d (a * ap_w R c + i).toNat else 0) (m * ap_w R c), gv, wt) →
      ∃ n, wX_makeLines_81 post (nI y) x (nI m) (nI (ap_w R c)) (nI (r * c)) tc lv n 0 tx rk' rw' cl' nb gv wt := by
    intro rk' rw' cl' p
    generalize ap_w R c = w at *
    refine ap_le (fun n i b => wX_makeLines_81 post (nI y) x (nI m) (nI w) (nI (r * c)) tc lv n (nI i) tx rk' rw' cl' b gv wt)
      (fun i => ap_wr nb (fun i => if 0 ≤ a * w + i ∧ a * w + i < (r * c : Nat) then d (a * w + i).toNat else 0) i) (m * w) (ap_wr0 _ _) (fun n => ?_) (fun n i hi ih => ?_)
    · have z : m * w ≤ m * w := Nat.le_refl _
      simp (disch := omega) only [wX_makeLines_81, z, vp_in_nI, nI_clamp, nI_leI, nI_ltI, nI_eq, nI_add, nI_1, pk_mul, an_m36, an_n36, an_b468, forall_eq, true_and, and_true, true_implies, false_implies, not_true, not_false_iff, implies_true, pk_un, pk_us, ap_wrN, ap_wrS]
      exact p
    · have z : ¬ m * w ≤ i := by omega
      have e0 := an_st (i := i) hx a1 a2 wW (by omega)
      by_cases g : 0 ≤ a * (w : Int) + i ∧ a * (w : Int) + i < (r * c : Nat)
      · have e1 := an_nn e0 g.1
        have g1 : ¬ nI (a * (w : Int) + i).toNat < 0 := nI_pos (by omega)
        have g2 : ¬ r * c ≤ (a * (w : Int) + i).toNat := by omega
        have z1 : ¬ (1 : Int32) = 0 := by decide
        have eq : d (a * w + i).toNat = (fun i : Nat => if 0 ≤ a * w + i ∧ a * w + i < (r * c : Nat) then d (a * w + i).toNat else 0) i := by dsimp only; rw [if_pos g]
        simp (disch := omega) only [wX_makeLines_81, wX_makeLines_116, z, e1, g1, g2, z1, h4, ap_wrH nb (fun i : Nat => if 0 ≤ a * w + i ∧ a * w + i < (r * c : Nat) then d (a * w + i).toNat else 0) i eq, vp_in_nI, nI_clamp, nI_leI, nI_ltI, nI_eq, nI_add, nI_1, pk_mul, an_m36, an_n36, an_b468, forall_eq, true_and, and_true, true_implies, false_implies, not_true, not_false_iff, implies_true, pk_un, pk_us, ap_wrN, ap_wrS]
        exact ih
      · have eq : (0 : Int32) = (fun i : Nat => if 0 ≤ a * w + i ∧ a * w + i < (r * c : Nat) then d (a * w + i).toNat else 0) i := by dsimp only; rw [if_neg g]
        by_cases g1 : a * (w : Int) + i < 0
        · have g3 : x * nI w + nI i < 0 := by rw [an_lt0, e0]; exact g1
          simp (disch := omega) only [wX_makeLines_81, wX_makeLines_115, wX_makeLines_116, z, g3, ap_wrH nb (fun i : Nat => if 0 ≤ a * w + i ∧ a * w + i < (r * c : Nat) then d (a * w + i).toNat else 0) i eq, vp_in_nI, nI_clamp, nI_leI, nI_ltI, nI_eq, nI_add, nI_1, pk_mul, an_m36, an_n36, an_b468, forall_eq, true_and, and_true, true_implies, false_implies, not_true, not_false_iff, implies_true, pk_un, pk_us, ap_wrN, ap_wrS]
          exact ih
        · have g3 : ¬ x * nI w + nI i < 0 := by rw [an_lt0, e0]; exact g1
          have g4 : nI (r * c) ≤ x * nI w + nI i := by rw [an_nle (by omega), e0]; omega
          simp (disch := omega) only [wX_makeLines_81, wX_makeLines_115, wX_makeLines_116, z, g3, g4, ap_wrH nb (fun i : Nat => if 0 ≤ a * w + i ∧ a * w + i < (r * c : Nat) then d (a * w + i).toNat else 0) i eq, vp_in_nI, nI_clamp, nI_leI, nI_ltI, nI_eq, nI_add, nI_1, pk_mul, an_m36, an_n36, an_b468, forall_eq, true_and, and_true, true_implies, false_implies, not_true, not_false_iff, implies_true, pk_un, pk_us, ap_wrN, ap_wrS]
          exact ih
  unfold ap_lines at q
  dsimp only at q
  by_cases e : R = 2
  · have w : ap_w R c = c := if_pos e
    rw [w] at L q
    simp only [if_pos e] at q
    have z1 : ¬ (1 : Int32) = 0 := by decide
    have l := L (upd rk 13 2) (upd rw 13 (nI m)) (upd cl 13 (nI c)) q
    simp (disch := omega) only [wpX_makeLines, wX_makeLines_15, wX_makeLines_32, wX_makeLines_54, wX_makeLines_64, wX_makeLines_75, h1, h2, h3, an_e2, e, z1, ax_sz, ax_s13, vp_in_nI, nI_clamp, nI_leI, nI_ltI, nI_eq, nI_add, nI_1, pk_mul, an_m36, an_n36, an_b468, forall_eq, true_and, and_true, true_implies, false_implies, not_true, not_false_iff, implies_true, pk_un, pk_us, ap_wrN, ap_wrS]
    exact l
  · have w : ap_w R c = 1 := if_neg e
    rw [w] at L q
    simp only [if_neg e, Nat.one_mul] at q
    rw [Nat.mul_one] at L
    have l := L (upd rk 13 1) (upd rw 13 1) (upd cl 13 (nI m)) q
    simp (disch := omega) only [wpX_makeLines, wX_makeLines_15, wX_makeLines_32, wX_makeLines_54, wX_makeLines_64, wX_makeLines_75, h1, h2, h3, an_e2, e, ax_sz, ax_s13, vp_in_nI, nI_clamp, nI_leI, nI_ltI, nI_eq, nI_add, nI_1, pk_mul, an_m36, an_n36, an_b468, forall_eq, true_and, and_true, true_implies, false_implies, not_true, not_false_iff, implies_true, pk_un, pk_us, ap_wrN, ap_wrS]
    exact l
theorem ax_PQ {post : Int32 → SX → Prop} {T : ap_T} (h : T.1 = 0) (hP : ax_P post tc lv tx rk rw cl nb gv wt T) : ax_Q (fun u => post 0 u) tc lv tx rk rw cl nb gv wt T := hP.2 h
theorem ax_take {post : Int32 → SX → Prop} {x y R r c S s t : Nat} {d e : Nat → Int32} (x1 : 14 ≤ x) (x2 : x < 46) (y1 : 14 ≤ y) (y2 : y < 46)
    (V : ap_VS R r c) (H : ap_X rk rw cl nb x R r c d) (W : ap_VS S s t) (K : ap_X rk rw cl nb y S s t e)
    (hP : ax_P post tc lv tx rk rw cl nb gv wt (ap_take R d S s t e)) : wpX_takeLines post (tc, lv, tx, rk, rw, cl, nb, gv, wt) (nI x) (nI y) := by
  obtain ⟨h1, h2, h3, h4⟩ := H
  have K0 := K
  obtain ⟨k1, k2, k3, k4⟩ := K
  have vb := ap_vb V
  have wb := ap_vb W
  unfold ap_take at hP
  by_cases e1 : R = 0
  case neg =>
    rw [if_neg e1] at hP
    have q := ax_Pe (by decide) hP
    simp (disch := omega) only [wpX_takeLines, h1, an_e0, e1, vp_in_nI, nI_clamp, nI_leI, nI_ltI, nI_eq, nI_add, nI_1, pk_mul, an_m36, an_n36, an_b468, forall_eq, true_and, and_true, true_implies, false_implies, not_true, not_false_iff, implies_true, pk_un, pk_us, ap_wrN, ap_wrS]
    exact q
  rw [if_pos e1] at hP
  subst e1
  obtain ⟨rfl, rfl⟩ := ap_v0 V
  have d0 := h4 0 (by omega)
  rw [Nat.add_zero] at d0
  have flb : ap_fl S s t ≤ 36 := by unfold ap_fl; split <;> omega
  generalize hv : (d 0).toInt = v at *
  have M : ∀ b : Nat, b ≤ 36 → (b = if S = 2 then 6 else 36) → ax_P post tc lv tx rk rw cl nb gv wt (if v < -(b : Int) ∨ (b : Int) < v then ap_er (-15) else ap_lines (if v < 0 then ap_fl S s t + v else 0) v.natAbs S s t e) →
      wX_takeLines_29 post (nI x) (nI y) (nI b) tc lv tx rk rw cl nb gv wt := by
    intro b b36 hb hp
    have neg : (-nI b).toInt = -(b : Int) := an_nm (by omega)
    simp (disch := omega) only [wX_takeLines_29, d0, vp_in_nI, nI_clamp, nI_leI, nI_ltI, nI_eq, nI_add, nI_1, pk_mul, an_m36, an_n36, an_b468, forall_eq, true_and, and_true, true_implies, false_implies, not_true, not_false_iff, implies_true, pk_un, pk_us, ap_wrN, ap_wrS]
    by_cases g1 : v < -(b : Int)
    · rw [if_pos (Or.inl g1)] at hp
      have q := ax_Pe (by decide) hp
      exact br_t (by rw [Int32.lt_iff_toInt_lt, hv, neg]; exact g1) q
    refine br_f (by rw [Int32.lt_iff_toInt_lt, hv, neg]; exact g1) ?_
    by_cases g2 : (b : Int) < v
    · rw [if_pos (Or.inr g2)] at hp
      have q := ax_Pe (by decide) hp
      exact br_f (by rw [an_len (by omega), hv]; omega) q
    refine br_t (by rw [an_len (by omega), hv]; omega) ?_
    rw [if_neg (by omega)] at hp
    have hq := ax_PQ rfl hp
    have mb : v.natAbs ≤ if S = 2 then 6 else 36 := by rw [← hb]; omega
    by_cases g3 : v < 0
    · rw [if_pos g3] at hq
      refine br_f (by rw [an_0le, hv]; omega) ?_
      have e2 : (-(d 0)).toInt = -v := an_ng hv (by omega)
      have e3 : -(d 0) = nI v.natAbs := by
        have := an_nn e2 (by omega)
        rw [this]
        exact congrArg nI (by omega)
      rw [e3]
      unfold wX_takeLines_70
      refine br_f (by rw [an_0le, hv]; omega) ?_
      rw [ax_fl _ y2 wb.1 k1 k2 k3]
      unfold wX_takeLines_89
      refine ax_lines (a := ap_fl S s t + v) y1 y2 W K0 ?_ (by omega) (by omega) mb hq
      rw [an_sb (nI_toInt (by omega)) (by omega) (by omega) (by omega)]
      omega
    · rw [if_neg g3] at hq
      refine br_t (by rw [an_0le, hv]; omega) ?_
      have e3 : d 0 = nI v.natAbs := by
        rw [an_nn hv (by omega)]
        exact congrArg nI (by omega)
      unfold wX_takeLines_70
      refine br_t (by rw [an_0le, hv]; omega) ?_
      rw [e3]
      unfold wX_takeLines_89
      exact ax_lines (a := 0) y1 y2 W K0 (by decide) (by omega) (by omega) mb hq
  by_cases e2 : S = 2
  · have l := M 6 (by omega) (by rw [if_pos e2]) (by simp only [if_pos e2] at hP; exact hP)
    simp (disch := omega) only [wpX_takeLines, h1, k1, an_e0, an_e2, e2, vp_in_nI, nI_clamp, nI_leI, nI_ltI, nI_eq, nI_add, nI_1, pk_mul, an_m36, an_n36, an_b468, forall_eq, true_and, and_true, true_implies, false_implies, not_true, not_false_iff, implies_true, pk_un, pk_us, ap_wrN, ap_wrS]
    exact l
  · have l := M 36 (by omega) (by rw [if_neg e2]) (by simp only [if_neg e2] at hP; exact hP)
    simp (disch := omega) only [wpX_takeLines, h1, k1, an_e0, an_e2, e2, vp_in_nI, nI_clamp, nI_leI, nI_ltI, nI_eq, nI_add, nI_1, pk_mul, an_m36, an_n36, an_b468, forall_eq, true_and, and_true, true_implies, false_implies, not_true, not_false_iff, implies_true, pk_un, pk_us, ap_wrN, ap_wrS]
    exact l
theorem ax_drop {post : Int32 → SX → Prop} {x y R r c S s t : Nat} {d e : Nat → Int32} (x1 : 14 ≤ x) (x2 : x < 46) (y1 : 14 ≤ y) (y2 : y < 46)
    (V : ap_VS R r c) (H : ap_X rk rw cl nb x R r c d) (W : ap_VS S s t) (K : ap_X rk rw cl nb y S s t e)
    (hP : ax_P post tc lv tx rk rw cl nb gv wt (ap_drop R d S s t e)) : wpX_dropLines post (tc, lv, tx, rk, rw, cl, nb, gv, wt) (nI x) (nI y) := by
  obtain ⟨h1, h2, h3, h4⟩ := H
  have K0 := K
  obtain ⟨k1, k2, k3, k4⟩ := K
  have vb := ap_vb V
  have wb := ap_vb W
  unfold ap_drop at hP
  by_cases e1 : R = 0
  case neg =>
    rw [if_neg e1] at hP
    have q := ax_Pe (by decide) hP
    simp (disch := omega) only [wpX_dropLines, h1, an_e0, e1, vp_in_nI, nI_clamp, nI_leI, nI_ltI, nI_eq, nI_add, nI_1, pk_mul, an_m36, an_n36, an_b468, forall_eq, true_and, and_true, true_implies, false_implies, not_true, not_false_iff, implies_true, pk_un, pk_us, ap_wrN, ap_wrS]
    exact q
  rw [if_pos e1] at hP
  subst e1
  obtain ⟨rfl, rfl⟩ := ap_v0 V
  have d0 := h4 0 (by omega)
  rw [Nat.add_zero] at d0
  have flb : ap_fl S s t ≤ if S = 2 then 6 else 36 := by unfold ap_fl ap_VS at *; split <;> omega
  have flb2 : ap_fl S s t ≤ 36 := by split at flb <;> omega
  generalize hv : (d 0).toInt = v at *
  generalize hF : ap_fl S s t = F at *
  have hq := ax_PQ rfl hP
  have N : ∀ z : Int32, z.toInt = v ∨ (z.toInt = F ∧ (F : Int) < v) ∨ (z.toInt = -(F : Int) ∧ v < -(F : Int)) → -(F : Int) ≤ z.toInt → z.toInt ≤ F → wX_dropLines_53 post (nI y) (nI F) z tc lv tx rk rw cl nb gv wt := by
    intro z hz z1 z2
    unfold wX_dropLines_53
    by_cases g : z.toInt < 0
    · refine br_f (by rw [an_0le]; omega) ?_
      unfold wX_dropLines_71
      refine br_f (by rw [an_0le]; omega) ?_
      have e3 : nI F + z = nI (F - v.natAbs) := by
        rw [an_nn (an_da (i := F) (a := z.toInt) rfl (by omega) (by omega) (by omega)) (by omega)]
        exact congrArg nI (by omega)
      rw [e3]
      unfold wX_dropLines_84
      rw [if_pos (by omega)] at hq
      exact ax_lines (a := 0) y1 y2 W K0 (by decide) (by omega) (by omega) (by omega) hq
    · refine br_t (by rw [an_0le]; omega) ?_
      unfold wX_dropLines_71
      refine br_t (by rw [an_0le]; omega) ?_
      have e3 : nI F - z = nI (F - v.natAbs) := by
        rw [an_nn (an_sb (i := F) (a := z.toInt) rfl (by omega) (by omega) (by omega)) (by omega)]
        exact congrArg nI (by omega)
      rw [e3]
      unfold wX_dropLines_84
      by_cases g2 : v < 0
      · rw [if_pos g2] at hq
        exact ax_lines (a := 0) y1 y2 W K0 (by omega) (by omega) (by omega) (by omega) hq
      · rw [if_neg g2] at hq
        exact ax_lines (a := ((F - (F - v.natAbs) : Nat) : Int)) y1 y2 W K0 (by omega) (by omega) (by omega) (by omega) hq
  have neg : (-nI F).toInt = -(F : Int) := an_nm (by omega)
  have fl := fun (P : Int32 → Prop) => ax_fl (tc := tc) (lv := lv) (tx := tx) (nb := nb) (gv := gv) (wt := wt) P y2 wb.1 k1 k2 k3
  simp (disch := omega) only [wpX_dropLines, fl, hF, h1, an_e0, d0, vp_in_nI, nI_clamp, nI_leI, nI_ltI, nI_eq, nI_add, nI_1, pk_mul, an_m36, an_n36, an_b468, forall_eq, true_and, and_true, true_implies, false_implies, not_true, not_false_iff, implies_true, pk_un, pk_us, ap_wrN, ap_wrS]
  by_cases g1 : v ≤ F
  · refine br_t (by rw [an_len (by omega), hv]; omega) ?_
    by_cases g2 : -(F : Int) ≤ v
    · exact br_t (by rw [Int32.le_iff_toInt_le, neg, hv]; omega) (N (d 0) (Or.inl hv) (by omega) (by omega))
    · exact br_f (by rw [Int32.le_iff_toInt_le, neg, hv]; omega) (N (-nI F) (Or.inr (Or.inr ⟨neg, by omega⟩)) (by omega) (by omega))
  · have fi : (nI F).toInt = F := nI_toInt (by omega)
    exact br_f (by rw [an_len (by omega), hv]; omega) (N (nI F) (Or.inr (Or.inl ⟨fi, by omega⟩)) (by omega) (by omega))
theorem ax_join {post : Int32 → SX → Prop} {x y R r c S s t : Nat} {d e : Nat → Int32} (x1 : 14 ≤ x) (x2 : x < 46) (y1 : 14 ≤ y) (y2 : y < 46)
    (V : ap_VS R r c) (H : ap_X rk rw cl nb x R r c d) (W : ap_VS S s t) (K : ap_X rk rw cl nb y S s t e)
    (hP : ax_P post tc lv tx rk rw cl nb gv wt (ap_join R r c d S s t e)) : wpX_joinBoth post (tc, lv, tx, rk, rw, cl, nb, gv, wt) (nI x) (nI y) := by
  have ok := ap_joinV (d := d) (S := S) (s := s) (t := t) (e := e) V
  obtain ⟨h1, h2, h3, h4⟩ := H
  obtain ⟨k1, k2, k3, k4⟩ := K
  have vb := ap_vb V
  have wb := ap_vb W
  have v36 := ap_v36 V
  have w36 := ap_v36 W
  have z10 : ¬ (1 : Int32) = 0 := by decide
  have z01 : ¬ (0 : Int32) = 1 := by decide
  unfold ap_join at hP ok
  by_cases e1 : (R = 2 ∧ S ≠ 2) ∨ (R ≠ 2 ∧ S = 2)
  · rw [if_pos e1] at hP
    have q := ax_Pe (by decide) hP
    by_cases a1 : R = 2
    · have a2 : ¬ S = 2 := by omega
      simp (disch := omega) only [wpX_joinBoth, wX_joinBoth_15, wX_joinBoth_32, h1, k1, an_e2, a1, a2, z10, vp_in_nI, nI_clamp, nI_leI, nI_ltI, nI_eq, nI_add, nI_1, pk_mul, an_m36, an_n36, an_b468, forall_eq, true_and, and_true, true_implies, false_implies, not_true, not_false_iff, implies_true, pk_un, pk_us, ap_wrN, ap_wrS]
      exact q
    · have a2 : S = 2 := by omega
      simp (disch := omega) only [wpX_joinBoth, wX_joinBoth_15, wX_joinBoth_32, h1, k1, an_e2, a1, a2, z01, vp_in_nI, nI_clamp, nI_leI, nI_ltI, nI_eq, nI_add, nI_1, pk_mul, an_m36, an_n36, an_b468, forall_eq, true_and, and_true, true_implies, false_implies, not_true, not_false_iff, implies_true, pk_un, pk_us, ap_wrN, ap_wrS]
      exact q
  rw [if_neg e1] at hP ok
  have L : ∀ z m C : Nat, z ≤ 1 → r = s → (z = 0 → m = 36 ∧ C = 1) → (z ≠ 0 → m = 6 ∧ C = 2) → ax_P post tc lv tx rk rw cl nb gv wt (if m < c + t then ap_er (-16) else (0, C, r, c + t, fun i => if i % (c + t) < c then d (i / (c + t) * c + i % (c + t)) else e (i / (c + t) * t + (i % (c + t) - c)))) →
      (¬ m < c + t → r * (c + t) ≤ 36) → wX_joinBoth_84 post (nI x) (nI y) (nI z) (nI (c + t)) (nI m) (nI (c + t)) tc lv tx rk rw cl nb gv wt := by
    intro z m C z1 rs hz0 hz1 hp h36
    subst rs
    have m36 : m ≤ 36 := by omega
    by_cases g : m < c + t
    · rw [if_pos g] at hp
      have q := ax_Pe (by decide) hp
      have g2 : ¬ c + t ≤ m := by omega
      simp (disch := omega) only [wX_joinBoth_84, g2, vp_in_nI, nI_clamp, nI_leI, nI_ltI, nI_eq, nI_add, nI_1, pk_mul, an_m36, an_n36, an_b468, forall_eq, true_and, and_true, true_implies, false_implies, not_true, not_false_iff, implies_true, pk_un, pk_us, ap_wrN, ap_wrS]
      exact q
    rw [if_neg g] at hp
    have g2 : c + t ≤ m := by omega
    have ok36 := h36 g
    have q := ax_Pk ok36 hp
    have core : wX_joinBoth_102 post (nI x) (nI y) (nI (c + t)) (nI C) 13 tc lv tx rk rw cl nb gv wt := by
      have j2 : upd rw 13 (nI r) x = nI r := by rw [pk_un (by omega)]; exact h2
      have j3 : upd cl 13 (nI (c + t)) x = nI c := by rw [pk_un (by omega)]; exact h3
      have i3 : upd cl 13 (nI (c + t)) y = nI t := by rw [pk_un (by omega)]; exact k3
      simp (disch := omega) only [wX_joinBoth_102, h2, ax_s13, vp_in_nI, nI_clamp, true_and]
      refine ap_le (fun n i a => wX_joinBoth_116 post (nI x) (nI y) (nI (c + t)) tc lv n (nI i) tx (upd rk 13 (nI C)) (upd rw 13 (nI r)) (upd cl 13 (nI (c + t))) a gv wt)
        (fun i => ap_wr nb (fun i => if i % (c + t) < c then d (i / (c + t) * c + i % (c + t)) else e (i / (c + t) * t + (i % (c + t) - c))) (i * (c + t))) r (by rw [Nat.zero_mul]; exact ap_wr0 _ _) (fun n => ?_) (fun n i hi ih => ?_)
      · have z : r ≤ r := Nat.le_refl r
        simp (disch := omega) only [wX_joinBoth_116, j2, z, vp_in_nI, nI_clamp, nI_leI, nI_ltI, nI_eq, nI_add, nI_1, pk_mul, an_m36, an_n36, an_b468, forall_eq, true_and, and_true, true_implies, false_implies, not_true, not_false_iff, implies_true, pk_un, pk_us, ap_wrN, ap_wrS]
        exact q
      · have z : ¬ r ≤ i := by omega
        have b : i * (c + t) + (c + t) ≤ r * (c + t) := by
          have := Nat.mul_le_mul_right (c + t) (show i + 1 ≤ r from hi)
          rw [Nat.succ_mul] at this
          exact this
        have b1 : i * c + c ≤ r * c := by
          have := Nat.mul_le_mul_right c (show i + 1 ≤ r from hi)
          rw [Nat.succ_mul] at this
          exact this
        have b2 : i * t + t ≤ r * t := by
          have := Nat.mul_le_mul_right t (show i + 1 ≤ r from hi)
          rw [Nat.succ_mul] at this
          exact this
        simp (disch := omega) only [wX_joinBoth_116, j2, z, vp_in_nI, nI_clamp, nI_leI, nI_ltI, nI_eq, nI_add, nI_1, pk_mul, an_m36, an_n36, an_b468, forall_eq, true_and, and_true, true_implies, false_implies, not_true, not_false_iff, implies_true, pk_un, pk_us, ap_wrN, ap_wrS]
        refine ap_le (fun m j a => wX_joinBoth_141 post (wX_joinBoth_116 post (nI x) (nI y) (nI (c + t)) tc lv n) (nI x) (nI y) (nI (c + t)) (nI i) (nI (468 + i * (c + t))) tc lv m (nI j) tx (upd rk 13 (nI C)) (upd rw 13 (nI r)) (upd cl 13 (nI (c + t))) a gv wt)
          (fun j => ap_wr nb (fun i => if i % (c + t) < c then d (i / (c + t) * c + i % (c + t)) else e (i / (c + t) * t + (i % (c + t) - c))) (i * (c + t) + j)) c (by rw [Nat.add_zero]) (fun m => ?_) (fun m j hj jh => ?_)
        · have z : c ≤ c := Nat.le_refl c
          simp (disch := omega) only [wX_joinBoth_141, j3, z, vp_in_nI, nI_clamp, nI_leI, nI_ltI, nI_eq, nI_add, nI_1, pk_mul, an_m36, an_n36, an_b468, forall_eq, true_and, and_true, true_implies, false_implies, not_true, not_false_iff, implies_true, pk_un, pk_us, ap_wrN, ap_wrS]
          refine ap_le (fun m j a => wX_joinBoth_193 post (wX_joinBoth_116 post (nI x) (nI y) (nI (c + t)) tc lv n) (nI x) (nI y) (nI (c + t)) (nI i) (nI (468 + i * (c + t))) tc lv m (nI j) tx (upd rk 13 (nI C)) (upd rw 13 (nI r)) (upd cl 13 (nI (c + t))) a gv wt)
            (fun j => ap_wr nb (fun i => if i % (c + t) < c then d (i / (c + t) * c + i % (c + t)) else e (i / (c + t) * t + (i % (c + t) - c))) (i * (c + t) + c + j)) t (by rw [Nat.add_zero]) (fun m => ?_) (fun m j hj jh => ?_)
          · have z : t ≤ t := Nat.le_refl t
            rw [Nat.succ_mul] at ih
            simp (disch := omega) only [wX_joinBoth_193, i3, z, vp_in_nI, nI_clamp, nI_leI, nI_ltI, nI_eq, nI_add, nI_1, pk_mul, an_m36, an_n36, an_b468, forall_eq, true_and, and_true, true_implies, false_implies, not_true, not_false_iff, implies_true, pk_un, pk_us, ap_wrN, ap_wrS]
            rw [Nat.add_assoc]
            exact ih
          · have z : ¬ t ≤ j := by omega
            have eq : e (i * t + j) = (fun i => if i % (c + t) < c then d (i / (c + t) * c + i % (c + t)) else e (i / (c + t) * t + (i % (c + t) - c))) (i * (c + t) + c + j) := by
              dsimp only
              rw [Nat.add_assoc, ap_md1 (show c + j < c + t by omega), ap_dv1 (show c + j < c + t by omega), if_neg (by omega), show c + j - c = j by omega]
            have ix : 468 + i * (c + t) + c + j = 468 + (i * (c + t) + c + j) := by omega
            have iy : y * 36 + i * t + j = y * 36 + (i * t + j) := by omega
            simp (disch := omega) only [wX_joinBoth_193, i3, j3, z, iy, ix, k4, ap_wrH nb (fun i => if i % (c + t) < c then d (i / (c + t) * c + i % (c + t)) else e (i / (c + t) * t + (i % (c + t) - c))) (i * (c + t) + c + j) eq, vp_in_nI, nI_clamp, nI_leI, nI_ltI, nI_eq, nI_add, nI_1, pk_mul, an_m36, an_n36, an_b468, forall_eq, true_and, and_true, true_implies, false_implies, not_true, not_false_iff, implies_true, pk_un, pk_us, ap_wrN, ap_wrS]
            exact jh
        · have z : ¬ c ≤ j := by omega
          have eq : d (i * c + j) = (fun i => if i % (c + t) < c then d (i / (c + t) * c + i % (c + t)) else e (i / (c + t) * t + (i % (c + t) - c))) (i * (c + t) + j) := by
            dsimp only
            rw [ap_md1 (show j < c + t by omega), ap_dv1 (show j < c + t by omega), if_pos hj]
          have ix : 468 + i * (c + t) + j = 468 + (i * (c + t) + j) := by omega
          have iy : x * 36 + i * c + j = x * 36 + (i * c + j) := by omega
          simp (disch := omega) only [wX_joinBoth_141, j3, z, iy, ix, h4, ap_wrH nb (fun i => if i % (c + t) < c then d (i / (c + t) * c + i % (c + t)) else e (i / (c + t) * t + (i % (c + t) - c))) (i * (c + t) + j) eq, vp_in_nI, nI_clamp, nI_leI, nI_ltI, nI_eq, nI_add, nI_1, pk_mul, an_m36, an_n36, an_b468, forall_eq, true_and, and_true, true_implies, false_implies, not_true, not_false_iff, implies_true, pk_un, pk_us, ap_wrN, ap_wrS]
          exact jh
    by_cases g3 : z = 0
    · have := hz0 g3
      rw [this.2] at core
      simp (disch := omega) only [wX_joinBoth_84, g2, an_e0, g3, vp_in_nI, nI_clamp, nI_leI, nI_ltI, nI_eq, nI_add, nI_1, pk_mul, an_m36, an_n36, an_b468, forall_eq, true_and, and_true, true_implies, false_implies, not_true, not_false_iff, implies_true, pk_un, pk_us, ap_wrN, ap_wrS]
      exact core
    · have := hz1 g3
      rw [this.2] at core
      simp (disch := omega) only [wX_joinBoth_84, g2, an_e0, g3, vp_in_nI, nI_clamp, nI_leI, nI_ltI, nI_eq, nI_add, nI_1, pk_mul, an_m36, an_n36, an_b468, forall_eq, true_and, and_true, true_implies, false_implies, not_true, not_false_iff, implies_true, pk_un, pk_us, ap_wrN, ap_wrS]
      exact core
  have kR : (R = 2 ∧ S = 2) ∨ (R ≠ 2 ∧ S ≠ 2) := by omega
  by_cases e2 : r = s
  case neg =>
    rw [if_pos e2] at hP
    have q := ax_Pe (by decide) hP
    by_cases a1 : R = 2
    · have a2 : S = 2 := by omega
      simp (disch := omega) only [wpX_joinBoth, wX_joinBoth_15, wX_joinBoth_32, h1, h2, k1, k2, an_e2, a1, a2, e2, vp_in_nI, nI_clamp, nI_leI, nI_ltI, nI_eq, nI_add, nI_1, pk_mul, an_m36, an_n36, an_b468, forall_eq, true_and, and_true, true_implies, false_implies, not_true, not_false_iff, implies_true, pk_un, pk_us, ap_wrN, ap_wrS]
      exact q
    · have a2 : ¬ S = 2 := by omega
      simp (disch := omega) only [wpX_joinBoth, wX_joinBoth_15, wX_joinBoth_32, h1, h2, k1, k2, an_e2, a1, a2, e2, vp_in_nI, nI_clamp, nI_leI, nI_ltI, nI_eq, nI_add, nI_1, pk_mul, an_m36, an_n36, an_b468, forall_eq, true_and, and_true, true_implies, false_implies, not_true, not_false_iff, implies_true, pk_un, pk_us, ap_wrN, ap_wrS]
      exact q
  rw [if_neg (fun z => z e2)] at hP ok
  by_cases a1 : R = 2
  · have a2 : S = 2 := by omega
    simp only [if_pos a1] at hP ok
    have l := L 1 6 2 (by omega) e2 (by omega) (by omega) hP (fun g => by rw [if_neg g] at ok; exact ap_v36 ok)
    simp (disch := omega) only [wpX_joinBoth, wX_joinBoth_15, wX_joinBoth_32, h1, h2, h3, k1, k2, k3, an_e2, a1, a2, e2, z10, vp_in_nI, nI_clamp, nI_leI, nI_ltI, nI_eq, nI_add, nI_1, pk_mul, an_m36, an_n36, an_b468, forall_eq, true_and, and_true, true_implies, false_implies, not_true, not_false_iff, implies_true, pk_un, pk_us, ap_wrN, ap_wrS]
    exact l
  · have a2 : ¬ S = 2 := by omega
    simp only [if_neg a1] at hP ok
    have l := L 0 36 1 (by omega) e2 (by omega) (by omega) hP (fun g => by rw [if_neg g] at ok; exact ap_v36 ok)
    simp (disch := omega) only [wpX_joinBoth, wX_joinBoth_15, wX_joinBoth_32, h1, h2, h3, k1, k2, k3, an_e2, a1, a2, e2, vp_in_nI, nI_clamp, nI_leI, nI_ltI, nI_eq, nI_add, nI_1, pk_mul, an_m36, an_n36, an_b468, forall_eq, true_and, and_true, true_implies, false_implies, not_true, not_false_iff, implies_true, pk_un, pk_us, ap_wrN, ap_wrS]
    exact l
theorem ax_pick {post : Int32 → SX → Prop} {x y R r c S s t : Nat} {d e : Nat → Int32} (x1 : 14 ≤ x) (x2 : x < 46) (y1 : 14 ≤ y) (y2 : y < 46)
    (V : ap_VS R r c) (H : ap_X rk rw cl nb x R r c d) (W : ap_VS S s t) (K : ap_X rk rw cl nb y S s t e)
    (hP : ax_P post tc lv tx rk rw cl nb gv wt (ap_pick R c d S s t e)) : wpX_pickLines post (tc, lv, tx, rk, rw, cl, nb, gv, wt) (nI x) (nI y) := by
  have ok := ap_pickV (d := d) (e := e) V W
  obtain ⟨h1, h2, h3, h4⟩ := H
  obtain ⟨k1, k2, k3, k4⟩ := K
  have vb := ap_vb V
  have wb := ap_vb W
  have v36 := ap_v36 V
  have w36 := ap_v36 W
  unfold ap_pick at hP ok
  by_cases e1 : R = 2
  · rw [if_pos (Or.inl e1)] at hP
    have q := ax_Pe (by decide) hP
    simp (disch := omega) only [wpX_pickLines, h1, an_e2, e1, vp_in_nI, nI_clamp, nI_leI, nI_ltI, nI_eq, nI_add, nI_1, pk_mul, an_m36, an_n36, an_b468, forall_eq, true_and, and_true, true_implies, false_implies, not_true, not_false_iff, implies_true, pk_un, pk_us, ap_wrN, ap_wrS]
    exact q
  by_cases e2 : S = 0
  · rw [if_pos (Or.inr e2)] at hP
    have q := ax_Pe (by decide) hP
    simp (disch := omega) only [wpX_pickLines, h1, k1, an_e2, an_e0, e1, e2, vp_in_nI, nI_clamp, nI_leI, nI_ltI, nI_eq, nI_add, nI_1, pk_mul, an_m36, an_n36, an_b468, forall_eq, true_and, and_true, true_implies, false_implies, not_true, not_false_iff, implies_true, pk_un, pk_us, ap_wrN, ap_wrS]
    exact q
  rw [if_neg (by omega)] at hP ok
  have r1 := ap_v1 V e1
  subst r1
  have flb : ap_fl S s t ≤ 36 := by unfold ap_fl; split <;> omega
  have fl := fun (P : Int32 → Prop) => ax_fl (tc := tc) (lv := lv) (tx := tx) (nb := nb) (gv := gv) (wt := wt) P y2 wb.1 k1 k2 k3
  have st : ∀ n i, i < c → ((¬ d i < 0 ∧ d i < nI (ap_fl S s t)) → wX_pickLines_39 post (nI x) (nI y) (nI c) (nI (ap_fl S s t)) tc lv tx rk rw cl nb gv wt n (nI (i + 1))) → (¬ (¬ d i < 0 ∧ d i < nI (ap_fl S s t)) → post (-15) (tc, lv, tx, rk, rw, cl, nb, gv, wt)) →
      wX_pickLines_39 post (nI x) (nI y) (nI c) (nI (ap_fl S s t)) tc lv tx rk rw cl nb gv wt (n + 1) (nI i) := by
    intro n i hi ha hb
    have z : ¬ c ≤ i := by omega
    simp (disch := omega) only [wX_pickLines_39, z, h4, vp_in_nI, nI_clamp, nI_leI, nI_ltI, nI_eq, nI_add, nI_1, pk_mul, an_m36, an_n36, an_b468, forall_eq, true_and, and_true, true_implies, false_implies, not_true, not_false_iff, implies_true, pk_un, pk_us, ap_wrN, ap_wrS]
    by_cases a1 : d i < 0
    · exact br_t a1 (hb (fun z => z.1 a1))
    · refine br_f a1 ?_
      by_cases a2 : d i < nI (ap_fl S s t)
      · exact br_t a2 (ha ⟨a1, a2⟩)
      · exact br_f a2 (hb (fun z => a2 z.2))
  simp (disch := omega) only [wpX_pickLines, fl, h1, h3, k1, an_e2, an_e0, e1, e2, vp_in_nI, nI_clamp, nI_leI, nI_ltI, nI_eq, nI_add, nI_1, pk_mul, an_m36, an_n36, an_b468, forall_eq, true_and, and_true, true_implies, false_implies, not_true, not_false_iff, implies_true, pk_un, pk_us, ap_wrN, ap_wrS]
  by_cases al : ∀ i, i < c → ¬ d i < 0 ∧ d i < nI (ap_fl S s t)
  case neg =>
    rw [if_neg al] at hP
    have q := ax_Pe (by decide) hP
    refine ap_ls (fun n i => wX_pickLines_39 post (nI x) (nI y) (nI c) (nI (ap_fl S s t)) tc lv tx rk rw cl nb gv wt n (nI i)) (fun i => ∃ j, i ≤ j ∧ j < c ∧ ¬ (¬ d j < 0 ∧ d j < nI (ap_fl S s t))) c (fun ⟨j, a, b, _⟩ => by omega) (fun n i hi hq hk => ?_) ?_
    · refine st n i hi (fun ok => hk ?_) (fun _ => q)
      obtain ⟨j, a, b, g⟩ := hq
      refine ⟨j, ?_, b, g⟩
      by_cases ej : j = i
      · subst ej; exact absurd ok g
      · omega
    · apply Classical.byContradiction
      intro no
      exact al (fun i hi => Classical.byContradiction (fun g => no ⟨i, by omega, hi, g⟩))
  rw [if_pos al] at hP ok
  have a0 : ∀ i, i < c → d i = nI (d i).toNatClampNeg ∧ (d i).toNatClampNeg < ap_fl S s t := fun i hi => by
    obtain ⟨j, hj, ej⟩ := nI_of (al i hi).1
    have g := (al i hi).2
    rw [ej, nI_ltI hj (by omega)] at g
    rw [ej, nI_clamp hj]
    exact ⟨rfl, g⟩
  refine ap_ls (fun n i => wX_pickLines_39 post (nI x) (nI y) (nI c) (nI (ap_fl S s t)) tc lv tx rk rw cl nb gv wt n (nI i)) (fun _ => True) c (fun _ n => ?_) (fun n i hi _ hk => st n i hi (fun _ => hk trivial) (fun g => absurd (al i hi) g)) trivial
  have wW : ap_w S t ≤ 6 := by unfold ap_w ap_VS at *; split <;> omega
  have kb : ∀ k j, k < ap_fl S s t → j < ap_w S t → k * ap_w S t + j < s * t := by
    intro k j hk hj
    unfold ap_w at hj ⊢
    unfold ap_fl at hk
    by_cases z : S = 2
    · rw [if_pos z] at hj hk ⊢
      exact ap_ix hk hj
    · rw [if_neg z] at hj hk ⊢
      have := ap_v1 W z
      subst this
      omega
  have L : ∀ rk' rw' cl' : Nat → Int32, c * ap_w S t ≤ 36 → post 0 (tc, lv, tx, rk', rw', cl', ap_wr nb (fun i => e ((d (i / ap_w S t)).toNatClampNeg * ap_w S t + i % ap_w S t)) (c * ap_w S t), gv, wt) →
      ∃ n, wX_pickLines_182 post (nI x) (nI y) (nI c) (nI (ap_w S t)) tc lv n 0 tx rk' rw' cl' nb gv wt := by
    intro rk' rw' cl' hz q
    generalize ap_w S t = w at *
    refine ap_le (fun n i a => wX_pickLines_182 post (nI x) (nI y) (nI c) (nI w) tc lv n (nI i) tx rk' rw' cl' a gv wt)
      (fun i => ap_wr nb (fun i => e ((d (i / w)).toNatClampNeg * w + i % w)) (i * w)) c (by rw [Nat.zero_mul]; exact ap_wr0 _ _) (fun n => ?_) (fun n i hi ih => ?_)
    · exact br_t (nI_le (Nat.le_refl _) (by omega)) q
    · have z : ¬ c ≤ i := by omega
      have b : i * w + w ≤ c * w := by
        have := Nat.mul_le_mul_right w (show i + 1 ≤ c from hi)
        rw [Nat.succ_mul] at this
        exact this
      simp (disch := omega) only [wX_pickLines_182, z, vp_in_nI, nI_clamp, nI_leI, nI_ltI, nI_eq, nI_add, nI_1, pk_mul, an_m36, an_n36, an_b468, forall_eq, true_and, and_true, true_implies, false_implies, not_true, not_false_iff, implies_true, pk_un, pk_us, ap_wrN, ap_wrS]
      refine ap_le (fun m j a => wX_pickLines_191 post (wX_pickLines_182 post (nI x) (nI y) (nI c) (nI w) tc lv n) (nI x) (nI y) (nI c) (nI w) (nI i) tc lv m (nI j) tx rk' rw' cl' a gv wt)
        (fun j => ap_wr nb (fun i => e ((d (i / w)).toNatClampNeg * w + i % w)) (i * w + j)) w (by rw [Nat.add_zero]) (fun m => ?_) (fun m j hj jh => ?_)
      · have z : w ≤ w := Nat.le_refl _
        rw [Nat.succ_mul] at ih
        simp (disch := omega) only [wX_pickLines_191, z, vp_in_nI, nI_clamp, nI_leI, nI_ltI, nI_eq, nI_add, nI_1, pk_mul, an_m36, an_n36, an_b468, forall_eq, true_and, and_true, true_implies, false_implies, not_true, not_false_iff, implies_true, pk_un, pk_us, ap_wrN, ap_wrS]
        exact ih
      · have z : ¬ w ≤ j := by omega
        obtain ⟨g1, g2⟩ := a0 i hi
        have g3 := kb _ j g2 hj
        have hn : nb (x * 36 + i) = nI (d i).toNatClampNeg := by rw [h4 i (by omega)]; exact g1
        have eq : e ((d i).toNatClampNeg * w + j) = (fun i => e ((d (i / w)).toNatClampNeg * w + i % w)) (i * w + j) := by
          dsimp only
          rw [ap_md1 hj, ap_dv1 hj]
        simp (disch := omega) only [wX_pickLines_191, z, hn, k4, Nat.add_assoc, ap_wrH nb (fun i => e ((d (i / w)).toNatClampNeg * w + i % w)) (i * w + j) eq, vp_in_nI, nI_clamp, nI_leI, nI_ltI, nI_eq, nI_add, nI_1, pk_mul, an_m36, an_n36, an_b468, forall_eq, true_and, and_true, true_implies, false_implies, not_true, not_false_iff, implies_true, pk_un, pk_us, ap_wrN, ap_wrS]
        exact jh
  have z : c ≤ c := Nat.le_refl c
  have g126 : ¬ (S = 2 ∧ 6 < c) → wX_pickLines_126 post (nI x) (nI y) (nI c) (nI (ap_w S t)) tc lv tx rk rw cl nb gv wt := by
    intro g
    rw [if_neg g] at hP ok
    have ok36 := ap_v36 ok
    dsimp only at ok36
    have q := ax_Pk ok36 hP
    by_cases g2 : R + S - 1 = 2
    · simp only [if_pos g2] at q ok36
      have l := L (upd rk 13 (nI (R + S - 1))) (upd rw 13 (nI c)) (upd cl 13 (nI (ap_w S t))) ok36 q
      simp (disch := omega) only [wX_pickLines_126, wX_pickLines_161, wX_pickLines_176, ax_s13, h1, k1, an_e2, g2, an_s1, vp_in_nI, nI_clamp, nI_leI, nI_ltI, nI_eq, nI_add, nI_1, pk_mul, an_m36, an_n36, an_b468, forall_eq, true_and, and_true, true_implies, false_implies, not_true, not_false_iff, implies_true, pk_un, pk_us, ap_wrN, ap_wrS]
      rw [g2] at l
      exact l
    · simp only [if_neg g2, Nat.one_mul] at q ok36
      have l := L (upd rk 13 (nI (R + S - 1))) (upd rw 13 (nI 1)) (upd cl 13 (nI (c * ap_w S t))) ok36 q
      simp (disch := omega) only [wX_pickLines_126, wX_pickLines_161, wX_pickLines_176, ax_s13, h1, k1, an_e2, g2, an_s1, vp_in_nI, nI_clamp, nI_leI, nI_ltI, nI_eq, nI_add, nI_1, pk_mul, an_m36, an_n36, an_b468, forall_eq, true_and, and_true, true_implies, false_implies, not_true, not_false_iff, implies_true, pk_un, pk_us, ap_wrN, ap_wrS]
      exact l
  have z1 : ¬ (1 : Int32) = 0 := by decide
  simp (disch := omega) only [wX_pickLines_39, z, k1, an_e2, vp_in_nI, nI_clamp, nI_leI, nI_ltI, nI_eq, nI_add, nI_1, pk_mul, an_m36, an_n36, an_b468, forall_eq, true_and, and_true, true_implies, false_implies, not_true, not_false_iff, implies_true, pk_un, pk_us, ap_wrN, ap_wrS]
  by_cases g : S = 2
  · have w : ap_w S t = t := if_pos g
    rw [w] at g126
    by_cases g6 : 6 < c
    · rw [if_pos ⟨g, g6⟩] at hP
      have q := ax_Pe (by decide) hP
      have g7 : ¬ c ≤ 6 := by omega
      simp (disch := omega) only [wX_pickLines_95, wX_pickLines_111, an_l6, g, g7, z1, vp_in_nI, nI_clamp, nI_leI, nI_ltI, nI_eq, nI_add, nI_1, pk_mul, an_m36, an_n36, an_b468, forall_eq, true_and, and_true, true_implies, false_implies, not_true, not_false_iff, implies_true, pk_un, pk_us, ap_wrN, ap_wrS]
      exact q
    · have g7 : c ≤ 6 := by omega
      have l := g126 (fun z => g6 z.2)
      simp (disch := omega) only [wX_pickLines_95, wX_pickLines_111, k3, an_l6, g, g7, z1, vp_in_nI, nI_clamp, nI_leI, nI_ltI, nI_eq, nI_add, nI_1, pk_mul, an_m36, an_n36, an_b468, forall_eq, true_and, and_true, true_implies, false_implies, not_true, not_false_iff, implies_true, pk_un, pk_us, ap_wrN, ap_wrS]
      exact l
  · have w : ap_w S t = 1 := if_neg g
    rw [w] at g126
    have l := g126 (fun z => g z.1)
    simp (disch := omega) only [wX_pickLines_95, wX_pickLines_111, an_l6, g, vp_in_nI, nI_clamp, nI_leI, nI_ltI, nI_eq, nI_add, nI_1, pk_mul, an_m36, an_n36, an_b468, forall_eq, true_and, and_true, true_implies, false_implies, not_true, not_false_iff, implies_true, pk_un, pk_us, ap_wrN, ap_wrS]
    exact l
end
end
section
/-! Y: the small methods -/
theorem ap_flw {R r c : Nat} (V : ap_VS R r c) : ap_fl R r c * ap_w R c = r * c := by
  unfold ap_fl ap_w
  by_cases e : R = 2
  · rw [if_pos e, if_pos e]
  · rw [if_neg e, if_neg e, ap_v1 V e, Nat.mul_one, Nat.one_mul]
theorem ap_flb {R r c : Nat} (V : ap_VS R r c) : ap_fl R r c ≤ 36 := by
  have := ap_vb V
  unfold ap_fl
  split <;> omega
theorem ap_wb {R r c : Nat} (V : ap_VS R r c) : ap_w R c ≤ 6 := by
  unfold ap_w ap_VS at *
  split <;> omega
theorem ay_i13 : vp_in 13 50 := vp_in_nI (n := 13) (by omega) (by omega)
def ay_P (post : SY → Prop) (ct lv : Int32) (tx rk rw wd dt wt fi : Nat → Int32) (T : ap_T) : Prop :=
  ∀ rk' rw' wd' dt', ap_F 13 rk rw wd dt rk' rw' wd' dt' → (T.1 = 0 → ap_Y rk' rw' wd' dt' 13 T.2.1 T.2.2.1 T.2.2.2.1 T.2.2.2.2) → post (ct, lv, T.1, tx, rk', rw', wd', dt', wt, fi)
section
variable {ct lv er : Int32} {tx rk rw wd dt wt fi : Nat → Int32}
theorem ay_Pe {post : SY → Prop} {e : Int32} (he : e ≠ 0) (h : ay_P post ct lv tx rk rw wd dt wt fi (ap_er e)) : post (ct, lv, e, tx, rk, rw, wd, dt, wt, fi) :=
  h rk rw wd dt (ap_Fr _ _ _ _ _) (fun z => absurd z he)
theorem ay_Pb {post : SY → Prop} {R r c : Nat} {g b : Nat → Int32} (hs : r * c ≤ 36) (hb : ∀ j, (j < 468 ∨ 504 ≤ j) → b j = dt j) (h : ay_P post ct lv tx rk rw wd dt wt fi (0, R, r, c, g)) :
    post (ct, lv, 0, tx, upd rk 13 (nI R), upd rw 13 (nI (ap_fl R r c)), upd wd 13 (nI (ap_w R c)), ap_wr b g (r * c), wt, fi) :=
  h _ _ _ _ ⟨fun _ h => ⟨pk_un h, pk_un h, pk_un h⟩, fun j h => (ap_wrN hs (by omega)).trans (hb j (by omega))⟩ (fun _ => ap_Y13)
theorem ay_Pk {post : SY → Prop} {R r c : Nat} {g : Nat → Int32} (hs : r * c ≤ 36) (h : ay_P post ct lv tx rk rw wd dt wt fi (0, R, r, c, g)) :
    post (ct, lv, 0, tx, upd rk 13 (nI R), upd rw 13 (nI (ap_fl R r c)), upd wd 13 (nI (ap_w R c)), ap_wr dt g (r * c), wt, fi) := ay_Pb hs (fun _ _ => rfl) h
theorem ay_sz (post : Int32 → Prop) {h : Nat} (hh : h < 50) : wpY_sizeOf post (ct, lv, er, tx, rk, rw, wd, dt, wt, fi) (nI h) = post (rw h * wd h) := by
  simp (disch := omega) only [wpY_sizeOf, vp_in_nI, nI_clamp, true_and]
theorem ay_s13 (post : Int32 → Prop) : wpY_sizeOf post (ct, lv, er, tx, rk, rw, wd, dt, wt, fi) 13 = post (rw 13 * wd 13) := by
  simp only [wpY_sizeOf, ay_i13, ax_c13, true_and]
theorem ay_at (post : Int32 → Prop) {h i : Nat} (hh : h * 36 + i < 1800) : wpY_numberAt post (ct, lv, er, tx, rk, rw, wd, dt, wt, fi) (nI h) (nI i) = post (dt (h * 36 + i)) := by
  simp (disch := omega) only [wpY_numberAt, an_n36, nI_add, vp_in_nI, nI_clamp, true_and]
theorem ay_a0 (post : Int32 → Prop) {h : Nat} (hh : h * 36 < 1800) : wpY_numberAt post (ct, lv, er, tx, rk, rw, wd, dt, wt, fi) (nI h) 0 = post (dt (h * 36)) := by
  simp (disch := omega) only [wpY_numberAt, an_n36, an_a0, vp_in_nI, nI_clamp, true_and, Nat.add_zero]
theorem ay_mk (post : SY → Prop) {i : Nat} (hi : i < 36) (v : Int32) : wpY_make post (ct, lv, er, tx, rk, rw, wd, dt, wt, fi) (nI i) v = post (ct, lv, er, tx, rk, rw, wd, upd dt (468 + i) v, wt, fi) := by
  simp (disch := omega) only [wpY_make, an_b468, vp_in_nI, nI_clamp, true_and, forall_eq]
theorem ay_rs (post : Int32 → Prop) {h R r c : Nat} (hh : h < 50) (V : ap_VS R r c) (h1 : rk h = nI R) (h2 : rw h = nI (ap_fl R r c)) (h3 : wd h = nI (ap_w R c)) : wpY_rowSize post (ct, lv, er, tx, rk, rw, wd, dt, wt, fi) (nI h) = post (nI c) := by
  have vb := ap_vb V
  simp (disch := omega) only [wpY_rowSize, vp_in_nI, nI_clamp, true_and, h1, h2, h3, an_e2]
  unfold ap_fl ap_w
  by_cases e : R = 2
  · simp only [e, true_implies, not_true, false_implies, and_true, if_true]
  · simp only [e, false_implies, not_false_iff, true_implies, true_and, if_false]
theorem ay_rc (post : Int32 → Prop) {h R r c : Nat} (hh : h < 50) (V : ap_VS R r c) (h1 : rk h = nI R) (h2 : rw h = nI (ap_fl R r c)) : wpY_rowCount post (ct, lv, er, tx, rk, rw, wd, dt, wt, fi) (nI h) = post (nI r) := by
  have vb := ap_vb V
  simp (disch := omega) only [wpY_rowCount, vp_in_nI, nI_clamp, true_and, h1, h2, an_e2]
  unfold ap_fl
  by_cases e : R = 2
  · simp only [e, true_implies, not_true, false_implies, and_true, if_true]
  · simp only [e, false_implies, not_false_iff, true_implies, true_and, ap_v1 V e]
    rfl
theorem ay_sp (post : SY → Prop) {p R : Nat} (hp : p < 50) (hR : R ≤ 2) (a b : Int32) : wpY_shape post (ct, lv, er, tx, rk, rw, wd, dt, wt, fi) (nI p) (nI R) a b = post (ct, lv, er, tx, upd rk p (nI R), upd rw p (if R = 0 then 1 else a), upd wd p (if R < 2 then 1 else b), dt, wt, fi) := by
  simp (disch := omega) only [wpY_shape, wY_shape_21, vp_in_nI, nI_clamp, true_and, forall_eq, an_e0, an_g2]
  rcases (by omega : R = 0 ∨ R = 1 ∨ R = 2) with rfl | rfl | rfl
  · simp
  · simp
  · simp
theorem ay_sh (post : SY → Prop) {R : Nat} (hR : R ≤ 2) (a b : Int32) : wpY_shape post (ct, lv, er, tx, rk, rw, wd, dt, wt, fi) 13 (nI R) a b = post (ct, lv, er, tx, upd rk 13 (nI R), upd rw 13 (if R = 0 then 1 else a), upd wd 13 (if R < 2 then 1 else b), dt, wt, fi) := ay_sp (p := 13) post (by omega) hR a b
theorem ay_sv (post : SY → Prop) {p R r c : Nat} (hp : p < 50) (V : ap_VS R r c) : wpY_shape post (ct, lv, er, tx, rk, rw, wd, dt, wt, fi) (nI p) (nI R) (nI (ap_fl R r c)) (nI (ap_w R c)) = post (ct, lv, er, tx, upd rk p (nI R), upd rw p (nI (ap_fl R r c)), upd wd p (nI (ap_w R c)), dt, wt, fi) := by
  have vb := ap_vb V
  rw [ay_sp post hp vb.1]
  have e1 : (if R = 0 then (1 : Int32) else nI (ap_fl R r c)) = nI (ap_fl R r c) := by
    by_cases e : R = 0
    · subst e
      obtain ⟨rfl, rfl⟩ := ap_v0 V
      rfl
    · rw [if_neg e]
  have e2 : (if R < 2 then (1 : Int32) else nI (ap_w R c)) = nI (ap_w R c) := by
    by_cases e : R < 2
    · rw [if_pos e]
      unfold ap_w
      rw [if_neg (by omega)]
      rfl
    · rw [if_neg e]
  rw [e1, e2]
theorem ay_s3 (post : SY → Prop) {R r c : Nat} (V : ap_VS R r c) : wpY_shape post (ct, lv, er, tx, rk, rw, wd, dt, wt, fi) 13 (nI R) (nI (ap_fl R r c)) (nI (ap_w R c)) = post (ct, lv, er, tx, upd rk 13 (nI R), upd rw 13 (nI (ap_fl R r c)), upd wd 13 (nI (ap_w R c)), dt, wt, fi) := ay_sv (p := 13) post (by omega) V
theorem ay_no (post : Int32 → Prop) {f : Nat} (hf : f < 100) : wpY_none post (ct, lv, er, tx, rk, rw, wd, dt, wt, fi) (nI f) = post (ap_ne f) := by
  simp (disch := omega) only [wpY_none, an_e22]
  unfold ap_ne
  by_cases e : f = 22
  · simp only [e, true_implies, not_true, false_implies, and_true, if_true]
  · simp only [e, false_implies, not_false_iff, true_implies, true_and, if_false]
theorem ay_rm (post : Int32 → Prop) {x y : Int32} : wY_work_130 post y (ap_dv x) ct lv er tx rk rw wd dt wt fi = post (ap_rs x y) := by
  by_cases h : x = 0
  · subst h
    have e : ap_dv 0 = 0 := by decide
    simp only [wY_work_130, e, true_implies, not_true, false_implies, and_true]
    unfold ap_rs
    rw [if_pos rfl]
  · simp only [wY_work_130, ax_d0 h, not_false_iff, true_and, forall_eq, false_implies, true_implies]
    unfold ap_rs
    rw [if_neg h, show y.toInt64 - y.toInt64 / ap_dv x * ap_dv x = ap_rm x y from rfl]
    by_cases c : ap_rm x y < 0
    · have c2 : ¬ 0 ≤ ap_rm x y := by rw [Int64.not_le]; exact c
      simp only [c, c2, false_implies, not_false_iff, true_implies, true_and, if_true]
    · have c2 : 0 ≤ ap_rm x y := Int64.not_lt.mp c
      simp only [c, c2, true_implies, not_true, false_implies, and_true, if_false]
theorem ay_wk (post : Int32 → Prop) {f : Nat} (hf : ag_sc f) (x y : Int32) : wpY_work post (ct, lv, er, tx, rk, rw, wd, dt, wt, fi) (nI f) x y = post (ap_sf f x y) := by
  have l1 : (x ≤ y) = ¬ (y < x) := by rw [Int32.not_lt]
  have l2 : (y ≤ x) = ¬ (x < y) := by rw [Int32.not_lt]
  have d10 : ¬ (1 : Int32) = 0 := by decide
  have d01 : ¬ (0 : Int32) = 1 := by decide
  have fl : ∀ a b : Nat, a < 100 → b < 100 → a < b → ¬ nI b ≤ nI a := fun a b h1 h2 h => nI_ge h (by omega)
  rcases (by unfold ag_sc at hf; omega : f = 20 ∨ f = 21 ∨ f = 22 ∨ f = 23 ∨ f = 24 ∨ f = 25 ∨ f = 26 ∨ f = 27) with rfl | rfl | rfl | rfl | rfl | rfl | rfl | rfl
  · simp (disch := omega) [wpY_work, ap_sf, an_e20, an_g23]
  · simp (disch := omega) [wpY_work, ap_sf, an_e20, an_e21, an_g23]
  · simp (disch := omega) [wpY_work, ap_sf, an_e20, an_e21, an_e22, an_g23]
  · by_cases c : y < x <;> simp (disch := omega) [wpY_work, wY_work_51, wY_work_61, ap_sf, an_e23, an_g23, an_g25, l1, c]
  · by_cases c : y < x
    · have c2 : ¬ x < y := by rw [Int32.not_lt]; exact Int32.le_of_lt c
      simp (disch := omega) [wpY_work, wY_work_51, wY_work_61, ap_sf, an_e23, an_g23, an_g25, l1, c, c2]
    · by_cases c2 : x < y
      · simp (disch := omega) [wpY_work, wY_work_51, wY_work_61, ap_sf, an_e23, an_g23, an_g25, l1, c, c2]
      · have e : x = y := Int32.le_antisymm (Int32.not_lt.mp c) (Int32.not_lt.mp c2)
        subst e
        simp (disch := omega) [wpY_work, wY_work_51, wY_work_61, ap_sf, an_e23, an_g23, an_g25, c]
  · by_cases c : x = y <;> simp (disch := omega) [wpY_work, wY_work_105, ap_sf, an_e23, an_e25, an_g23, an_g25, an_g27, c]
  · by_cases c : x < y <;> simp (disch := omega) [wpY_work, wY_work_105, ap_sf, an_e23, an_e25, an_g23, an_g25, an_g27, l2, c]
  · have a1 : 23 ≤ nI 27 := by decide
    have a2 : 25 ≤ nI 27 := by decide
    have a3 : 27 ≤ nI 27 := by decide
    simp only [wpY_work, a1, a2, a3, true_implies, not_true, false_implies, and_true]
    have e := ay_rm (ct := ct) (lv := lv) (er := er) (tx := tx) (rk := rk) (rw := rw) (wd := wd) (dt := dt) (wt := wt) (fi := fi) post (x := x) (y := y)
    rw [ax_dv] at e
    rw [show ap_sf 27 x y = ap_rs x y from rfl, ← e]
    by_cases c : 0 ≤ x
    · simp only [c, true_implies, not_true, false_implies, and_true, if_true]
    · simp only [c, false_implies, not_false_iff, true_implies, true_and, if_false]
theorem ay_cp {post : SY → Prop} {a b : Nat} (ha : a < 50) (hb : b < 50) (hab : a ≠ b) (hp : post (ct, lv, er, tx, upd rk b (rk a), upd rw b (rw a), upd wd b (wd a), ap_cp dt a b 36, wt, fi)) : wpY_copy post (ct, lv, er, tx, rk, rw, wd, dt, wt, fi) (nI a) (nI b) := by
  simp (disch := omega) only [wpY_copy, vp_in_nI, nI_clamp, nI_leI, nI_ltI, nI_eq, nI_add, nI_1, pk_mul, an_m36, an_n36, an_b468, forall_eq, true_and, and_true, true_implies, false_implies, not_true, not_false_iff, implies_true, pk_un, pk_us, ap_wrN, ap_wrS]
  refine ap_le (fun n i s => wY_copy_38 post (nI a) (nI b) ct lv er n (nI i) tx (upd rk b (rk a)) (upd rw b (rw a)) (upd wd b (wd a)) s wt fi) (fun i => ap_cp dt a b i) 36 (ap_cp0 _ _ _) (fun n => ?_) (fun n i hi ih => ?_)
  · exact br_t (by decide) hp
  · have z : ¬ 36 ≤ i := by omega
    simp (disch := omega) only [wY_copy_38, an_g36, z, ap_cpS hab, vp_in_nI, nI_clamp, nI_leI, nI_ltI, nI_eq, nI_add, nI_1, pk_mul, an_m36, an_n36, an_b468, forall_eq, true_and, and_true, true_implies, false_implies, not_true, not_false_iff, implies_true, pk_un, pk_us, ap_wrN, ap_wrS]
    exact ih
theorem ay_fdL (post : Int32 → Prop) {f p s l : Nat} (hf : ag_sc f) (hs : p * 36 + s + l + 1 ≤ 1800) : ∀ m n, m ≤ l → l - m < n → post (ap_fr f (fun i => dt (p * 36 + (s + i))) l l) →
    wY_fold_32 post (nI f) (nI p) (nI s) ct lv er tx rk rw wd dt wt fi n (ap_fr f (fun i => dt (p * 36 + (s + i))) l m) (nI (l - m) - 1) := by
  intro m n hm hn hp
  induction n generalizing m with
  | zero => omega
  | succ n ih =>
    by_cases e : l - m = 0
    · have e2 : m = l := by omega
      subst e2
      rw [e]
      exact br_t (by decide) hp
    · obtain ⟨q, hq⟩ : ∃ q, l - m = q + 1 := ⟨l - m - 1, by omega⟩
      have z : ¬ nI q < 0 := nI_pos (by omega)
      rw [hq, nI_pred]
      simp (disch := omega) only [wY_fold_32, ay_at, ay_wk _ hf, vp_in_nI, nI_clamp, nI_leI, nI_ltI, nI_eq, nI_add, nI_1, pk_mul, an_m36, an_n36, an_b468, forall_eq, true_and, and_true, true_implies, false_implies, not_true, not_false_iff, implies_true, pk_un, pk_us, ap_wrN, ap_wrS, z]
      have h := ih (m + 1) (by omega) (by omega)
      have e3 : l - (m + 1) = q := by omega
      rw [e3] at h
      rw [show ap_fr f (fun i => dt (p * 36 + (s + i))) l (m + 1) = ap_sf f (dt (p * 36 + (s + q))) (ap_fr f (fun i => dt (p * 36 + (s + i))) l m) by rw [← e3]; rfl] at h
      rw [show nI q + -1 = nI q - 1 from (Int32.sub_eq_add_neg _ _).symm]
      exact h
theorem ay_fd (post : Int32 → Prop) {f p s k : Nat} (hf : ag_sc f) (hs : p * 36 + s + k ≤ 1800) (hp : post (ap_fv f (fun i => dt (p * 36 + (s + i))) k)) : wpY_fold post (ct, lv, er, tx, rk, rw, wd, dt, wt, fi) (nI f) (nI p) (nI s) (nI k) := by
  have f1 : f < 100 := by unfold ag_sc at hf; omega
  unfold ap_fv at hp
  by_cases e : k = 0
  · rw [if_pos e] at hp
    subst e
    simp (disch := omega) only [wpY_fold, ay_no, nI_0, true_implies, not_true, false_implies, and_true, forall_eq]
    exact ⟨1, br_t (by decide) hp⟩
  · rw [if_neg e] at hp
    obtain ⟨l, rfl⟩ : ∃ l, k = l + 1 := ⟨k - 1, by omega⟩
    rw [Nat.add_sub_cancel] at hp
    have z : ¬ nI (l + 1) = 0 := nI_ne0 (by omega) (by omega)
    have z2 : nI (l + 1) - 2 = nI l - 1 := by
      rw [← nI_1, show (2 : Int32) = 1 + 1 from rfl, ← Int32.sub_sub, Int32.add_sub_cancel]
    have z3 : nI s + nI (l + 1) - 1 = nI (s + l) := by rw [nI_add, ← Nat.add_assoc, nI_pred]
    simp (disch := omega) only [wpY_fold, z, z2, z3, ay_at, false_implies, not_false_iff, true_implies, true_and, forall_eq]
    exact ⟨l + 1, ay_fdL post hf (by omega) 0 (l + 1) (by omega) (by omega) hp⟩
end
end
section
/-! Y: scalar functions, folds, outer, inner -/
theorem an_rm (i w : Nat) : nI i - nI (i / w * w) = nI (i % w) := by
  have h := Nat.div_add_mod' i w
  rw [pk_sub (by omega)]
  exact congrArg nI (by omega)
section
variable {ct lv er : Int32} {tx rk rw wd dt wt fi : Nat → Int32}
theorem ay_s1 {post : SY → Prop} {f y R r c : Nat} {d : Nat → Int32} (hf : ag_sc f) (y1 : 14 ≤ y) (y2 : y < 50) (V : ap_VS R r c) (H : ap_Y rk rw wd dt y R r c d)
    (hP : ay_P post ct lv tx rk rw wd dt wt fi (ap_s1 f R r c d)) : wpY_scalarOne post (ct, lv, 0, tx, rk, rw, wd, dt, wt, fi) (nI f) (nI y) := by
  obtain ⟨h1, h2, h3, h4⟩ := H
  have s := ap_v36 V
  have vb := ap_vb V
  have f1 : f < 100 := by unfold ag_sc at hf; omega
  have flw := ap_flw V
  have flb := ap_flb V
  have wb := ap_wb V
  have q := ay_Pb (b := ap_cp dt y 13 36) s (fun j h => ap_cpN (by omega)) hP
  unfold wpY_scalarOne
  refine ay_cp y2 (b := 13) (by omega) (by omega) ?_
  rw [h1, h2, h3]
  refine ap_le (fun n i a => wY_scalarOne_9 post (nI f) (nI y) n (nI i) ct lv 0 tx (upd rk 13 (nI R)) (upd rw 13 (nI (ap_fl R r c))) (upd wd 13 (nI (ap_w R c))) a wt fi)
    (fun i => ap_wr (ap_cp dt y 13 36) (fun i => ap_sf f (ap_ne f) (d i)) i) (r * c) (ap_wr0 _ _) (fun n => ?_) (fun n i hi ih => ?_)
  · have z : r * c ≤ r * c := Nat.le_refl _
    simp (disch := omega) only [wY_scalarOne_9, ay_sz, h2, h3, flw, z, vp_in_nI, nI_clamp, nI_leI, nI_ltI, nI_eq, nI_add, nI_1, pk_mul, an_m36, an_n36, an_b468, forall_eq, true_and, and_true, true_implies, false_implies, not_true, not_false_iff, implies_true, pk_un, pk_us, ap_wrN, ap_wrS]
    exact q
  · have z : ¬ r * c ≤ i := by omega
    simp (disch := omega) only [wY_scalarOne_9, ay_sz, ay_no, ay_at, ay_wk _ hf, ay_mk, ap_cpN, h2, h3, h4, flw, z, vp_in_nI, nI_clamp, nI_leI, nI_ltI, nI_eq, nI_add, nI_1, pk_mul, an_m36, an_n36, an_b468, forall_eq, true_and, and_true, true_implies, false_implies, not_true, not_false_iff, implies_true, pk_un, pk_us, ap_wrN, ap_wrS]
    exact ih
theorem ay_s2L {post : SY → Prop} {f x y z R r c S s t U u v : Nat} {d e : Nat → Int32} (hf : ag_sc f) (x1 : 14 ≤ x) (x2 : x < 50) (y1 : 14 ≤ y) (y2 : y < 50) (z1 : z = x ∨ z = y)
    (V : ap_VS R r c) (H : ap_Y rk rw wd dt x R r c d) (W : ap_VS S s t) (K : ap_Y rk rw wd dt y S s t e) (Q : ap_VS U u v) (J1 : rk z = nI U) (J2 : rw z = nI (ap_fl U u v)) (J3 : wd z = nI (ap_w U v))
    (hx : ∀ i, i < u * v → (if R = 0 then 0 else i) < r * c) (hy : ∀ i, i < u * v → (if S = 0 then 0 else i) < s * t)
    (hP : ay_P post ct lv tx rk rw wd dt wt fi (0, U, u, v, fun i => ap_sf f (d (if R = 0 then 0 else i)) (e (if S = 0 then 0 else i)))) : wY_scalarTwo_116 post (nI f) (nI x) (nI y) (nI z) ct lv 0 tx rk rw wd dt wt fi := by
  obtain ⟨h1, h2, h3, h4⟩ := H
  obtain ⟨k1, k2, k3, k4⟩ := K
  have vb := ap_vb V
  have wb := ap_vb W
  have qb := ap_vb Q
  have v36 := ap_v36 V
  have w36 := ap_v36 W
  have q36 := ap_v36 Q
  have flw := ap_flw Q
  have q := ay_Pk q36 hP
  simp (disch := omega) only [wY_scalarTwo_116, J1, J2, J3, ay_s3 _ Q, vp_in_nI, nI_clamp, true_and]
  refine ap_le (fun n i a => wY_scalarTwo_148 post (nI f) (nI x) (nI y) (nI z) n (nI i) ct lv 0 tx (upd rk 13 (nI U)) (upd rw 13 (nI (ap_fl U u v))) (upd wd 13 (nI (ap_w U v))) a wt fi)
    (fun i => ap_wr dt (fun i => ap_sf f (d (if R = 0 then 0 else i)) (e (if S = 0 then 0 else i))) i) (u * v) (ap_wr0 _ _) (fun n => ?_) (fun n i hi ih => ?_)
  · have z : u * v ≤ u * v := Nat.le_refl _
    simp (disch := omega) only [wY_scalarTwo_148, ay_sz, J2, J3, flw, z, vp_in_nI, nI_clamp, nI_leI, nI_ltI, nI_eq, nI_add, nI_1, pk_mul, an_m36, an_n36, an_b468, forall_eq, true_and, and_true, true_implies, false_implies, not_true, not_false_iff, implies_true, pk_un, pk_us, ap_wrN, ap_wrS]
    exact q
  · have z : ¬ u * v ≤ i := by omega
    have g1 := hx i hi
    have g2 := hy i hi
    have eq := ap_wrS dt (fun i => ap_sf f (d (if R = 0 then 0 else i)) (e (if S = 0 then 0 else i))) i
    by_cases a1 : R = 0
    · by_cases a2 : S = 0
      · simp only [if_pos a1, if_pos a2] at g1 g2 ih eq ⊢
        simp (disch := omega) only [wY_scalarTwo_148, wY_scalarTwo_178, wY_scalarTwo_198, ay_sz, ay_a0, ay_wk _ hf, ay_mk, J2, J3, h1, k1, an_e0, a1, a2, flw, z, vp_in_nI, nI_clamp, nI_leI, nI_ltI, nI_eq, nI_add, nI_1, pk_mul, an_m36, an_n36, an_b468, forall_eq, true_and, and_true, true_implies, false_implies, not_true, not_false_iff, implies_true, pk_un, pk_us, ap_wrN, ap_wrS]
        have d0 := h4 0 g1
        have e0 := k4 0 g2
        rw [Nat.add_zero] at d0 e0
        rw [d0, e0, eq]
        exact ih
      · simp only [if_pos a1, if_neg a2] at g1 g2 ih eq ⊢
        simp (disch := omega) only [wY_scalarTwo_148, wY_scalarTwo_178, wY_scalarTwo_198, ay_sz, ay_a0, ay_at, ay_wk _ hf, ay_mk, J2, J3, h1, k1, k4, an_e0, a1, a2, flw, z, vp_in_nI, nI_clamp, nI_leI, nI_ltI, nI_eq, nI_add, nI_1, pk_mul, an_m36, an_n36, an_b468, forall_eq, true_and, and_true, true_implies, false_implies, not_true, not_false_iff, implies_true, pk_un, pk_us, ap_wrN, ap_wrS]
        have d0 := h4 0 g1
        rw [Nat.add_zero] at d0
        rw [d0, eq]
        exact ih
    · by_cases a2 : S = 0
      · simp only [if_neg a1, if_pos a2] at g1 g2 ih eq ⊢
        simp (disch := omega) only [wY_scalarTwo_148, wY_scalarTwo_178, wY_scalarTwo_198, ay_sz, ay_a0, ay_at, ay_wk _ hf, ay_mk, J2, J3, h1, h4, k1, an_e0, a1, a2, flw, z, vp_in_nI, nI_clamp, nI_leI, nI_ltI, nI_eq, nI_add, nI_1, pk_mul, an_m36, an_n36, an_b468, forall_eq, true_and, and_true, true_implies, false_implies, not_true, not_false_iff, implies_true, pk_un, pk_us, ap_wrN, ap_wrS]
        have e0 := k4 0 g2
        rw [Nat.add_zero] at e0
        rw [e0, eq]
        exact ih
      · simp only [if_neg a1, if_neg a2] at g1 g2 ih eq ⊢
        simp (disch := omega) only [wY_scalarTwo_148, wY_scalarTwo_178, wY_scalarTwo_198, ay_sz, ay_at, ay_wk _ hf, ay_mk, J2, J3, h1, h4, k1, k4, an_e0, a1, a2, flw, z, vp_in_nI, nI_clamp, nI_leI, nI_ltI, nI_eq, nI_add, nI_1, pk_mul, an_m36, an_n36, an_b468, forall_eq, true_and, and_true, true_implies, false_implies, not_true, not_false_iff, implies_true, pk_un, pk_us, ap_wrN, ap_wrS]
        exact ih
theorem ap_flI {R r c s t : Nat} (V : ap_VS R r c) (W : ap_VS R s t) : (ap_fl R r c = ap_fl R s t ∧ ap_w R c = ap_w R t) ↔ (r = s ∧ c = t) := by
  unfold ap_fl ap_w
  by_cases e : R = 2
  · simp only [if_pos e]
  · simp only [if_neg e, ap_v1 V e, ap_v1 W e, and_true, true_and]
theorem ay_s2 {post : SY → Prop} {f x y R r c S s t : Nat} {d e : Nat → Int32} (hf : ag_sc f) (x1 : 14 ≤ x) (x2 : x < 50) (y1 : 14 ≤ y) (y2 : y < 50)
    (V : ap_VS R r c) (H : ap_Y rk rw wd dt x R r c d) (W : ap_VS S s t) (K : ap_Y rk rw wd dt y S s t e)
    (hP : ay_P post ct lv tx rk rw wd dt wt fi (ap_s2 R r c d S s t e f)) : wpY_scalarTwo post (ct, lv, 0, tx, rk, rw, wd, dt, wt, fi) (nI f) (nI x) (nI y) := by
  have H0 := H
  have K0 := K
  obtain ⟨h1, h2, h3, h4⟩ := H
  obtain ⟨k1, k2, k3, k4⟩ := K
  have vb := ap_vb V
  have wb := ap_vb W
  have f1 := ap_flb V
  have f2 := ap_flb W
  have f3 := ap_wb V
  have f4 := ap_wb W
  have core : ay_P post ct lv tx rk rw wd dt wt fi (0, if R = 0 then S else R, if R = 0 then s else r, if R = 0 then t else c, fun i => ap_sf f (d (if R = 0 then 0 else i)) (e (if S = 0 then 0 else i))) →
      (R ≠ 0 → S ≠ 0 → r * c = s * t) → wY_scalarTwo_102 post (nI f) (nI x) (nI y) ct lv 0 tx rk rw wd dt wt fi := by
    intro hp hz
    by_cases e1 : R = 0
    · simp only [if_pos e1] at hp
      simp (disch := omega) only [wY_scalarTwo_102, h1, an_e0, e1, vp_in_nI, nI_clamp, nI_leI, nI_ltI, nI_eq, nI_add, nI_1, pk_mul, an_m36, an_n36, an_b468, forall_eq, true_and, and_true, true_implies, false_implies, not_true, not_false_iff, implies_true, pk_un, pk_us, ap_wrN, ap_wrS]
      refine ay_s2L (S := S) (s := s) (t := t) (d := d) (e := e) hf x1 x2 y1 y2 (Or.inr rfl) V H0 W K0 W k1 k2 k3 (fun i hi => ?_) (fun i hi => ?_) (by simp only [if_pos e1]; exact hp)
      · rw [if_pos e1]
        subst e1
        obtain ⟨rfl, rfl⟩ := ap_v0 V
        omega
      · split
        · rename_i e2
          subst e2
          obtain ⟨rfl, rfl⟩ := ap_v0 W
          omega
        · exact hi
    · simp only [if_neg e1] at hp
      simp (disch := omega) only [wY_scalarTwo_102, h1, an_e0, e1, vp_in_nI, nI_clamp, nI_leI, nI_ltI, nI_eq, nI_add, nI_1, pk_mul, an_m36, an_n36, an_b468, forall_eq, true_and, and_true, true_implies, false_implies, not_true, not_false_iff, implies_true, pk_un, pk_us, ap_wrN, ap_wrS]
      refine ay_s2L (R := R) (r := r) (c := c) (d := d) (e := e) hf x1 x2 y1 y2 (Or.inl rfl) V H0 W K0 V h1 h2 h3 (fun i hi => ?_) (fun i hi => ?_) (by simp only [if_neg e1]; exact hp)
      · rw [if_neg e1]; exact hi
      · by_cases e2 : S = 0
        · rw [if_pos e2]
          subst e2
          obtain ⟨rfl, rfl⟩ := ap_v0 W
          omega
        · rw [if_neg e2, ← hz e1 e2]; exact hi
  unfold ap_s2 at hP
  by_cases sm : R = S ∧ r = s ∧ c = t
  · rw [if_neg (fun z => z.1 sm)] at hP
    have g := core hP (fun _ _ => by rw [sm.2.1, sm.2.2])
    obtain ⟨rfl, rfl, rfl⟩ := sm
    have z1 : ¬ (1 : Int32) = 0 := by decide
    simp (disch := omega) only [wpY_scalarTwo, wY_scalarTwo_50, h1, h2, h3, k1, k2, k3, z1, vp_in_nI, nI_clamp, nI_leI, nI_ltI, nI_eq, nI_add, nI_1, pk_mul, an_m36, an_n36, an_b468, forall_eq, true_and, and_true, true_implies, false_implies, not_true, not_false_iff, implies_true, pk_un, pk_us, ap_wrN, ap_wrS]
    exact g
  · have g50 : wY_scalarTwo_50 post (nI f) (nI x) (nI y) 0 ct lv 0 tx rk rw wd dt wt fi := by
      have l0 : ∀ a : Nat, (a ≤ 0) = (a = 0) := fun a => by rw [Nat.le_zero]
      by_cases e1 : R = 0
      · rw [if_neg (fun z => z.2.1 e1)] at hP
        have g := core hP (fun z => absurd e1 z)
        simp (disch := omega) only [wY_scalarTwo_50, h1, k1, an_l0, l0, e1, vp_in_nI, nI_clamp, nI_leI, nI_ltI, nI_eq, nI_add, nI_1, pk_mul, an_m36, an_n36, an_b468, forall_eq, true_and, and_true, true_implies, false_implies, not_true, not_false_iff, implies_true, pk_un, pk_us, ap_wrN, ap_wrS]
        exact g
      · by_cases e2 : S = 0
        · rw [if_neg (fun z => z.2.2 e2)] at hP
          have g := core hP (fun _ z => absurd e2 z)
          simp (disch := omega) only [wY_scalarTwo_50, h1, k1, an_l0, l0, e1, e2, vp_in_nI, nI_clamp, nI_leI, nI_ltI, nI_eq, nI_add, nI_1, pk_mul, an_m36, an_n36, an_b468, forall_eq, true_and, and_true, true_implies, false_implies, not_true, not_false_iff, implies_true, pk_un, pk_us, ap_wrN, ap_wrS]
          exact g
        · rw [if_pos ⟨sm, e1, e2⟩] at hP
          by_cases e3 : R = S
          · rw [if_pos e3] at hP
            have q := ay_Pe (by decide) hP
            simp (disch := omega) only [wY_scalarTwo_50, h1, k1, an_l0, l0, e1, e2, e3, vp_in_nI, nI_clamp, nI_leI, nI_ltI, nI_eq, nI_add, nI_1, pk_mul, an_m36, an_n36, an_b468, forall_eq, true_and, and_true, true_implies, false_implies, not_true, not_false_iff, implies_true, pk_un, pk_us, ap_wrN, ap_wrS]
            exact q
          · rw [if_neg e3] at hP
            have q := ay_Pe (by decide) hP
            simp (disch := omega) only [wY_scalarTwo_50, h1, k1, an_l0, l0, e1, e2, e3, vp_in_nI, nI_clamp, nI_leI, nI_ltI, nI_eq, nI_add, nI_1, pk_mul, an_m36, an_n36, an_b468, forall_eq, true_and, and_true, true_implies, false_implies, not_true, not_false_iff, implies_true, pk_un, pk_us, ap_wrN, ap_wrS]
            exact q
    by_cases a1 : R = S
    · subst a1
      have iff := ap_flI V W
      by_cases a2 : ap_fl R r c = ap_fl R s t
      · have a3 : ¬ ap_w R c = ap_w R t := fun z => sm ⟨rfl, iff.mp ⟨a2, z⟩⟩
        simp (disch := omega) only [wpY_scalarTwo, wY_scalarTwo_49, h1, h2, h3, k1, k2, k3, a2, a3, vp_in_nI, nI_clamp, nI_leI, nI_ltI, nI_eq, nI_add, nI_1, pk_mul, an_m36, an_n36, an_b468, forall_eq, true_and, and_true, true_implies, false_implies, not_true, not_false_iff, implies_true, pk_un, pk_us, ap_wrN, ap_wrS]
        exact g50
      · simp (disch := omega) only [wpY_scalarTwo, wY_scalarTwo_49, h1, h2, h3, k1, k2, k3, a2, vp_in_nI, nI_clamp, nI_leI, nI_ltI, nI_eq, nI_add, nI_1, pk_mul, an_m36, an_n36, an_b468, forall_eq, true_and, and_true, true_implies, false_implies, not_true, not_false_iff, implies_true, pk_un, pk_us, ap_wrN, ap_wrS]
        exact g50
    · simp (disch := omega) only [wpY_scalarTwo, wY_scalarTwo_49, h1, h2, h3, k1, k2, k3, a1, vp_in_nI, nI_clamp, nI_leI, nI_ltI, nI_eq, nI_add, nI_1, pk_mul, an_m36, an_n36, an_b468, forall_eq, true_and, and_true, true_implies, false_implies, not_true, not_false_iff, implies_true, pk_un, pk_us, ap_wrN, ap_wrS]
      exact g50
theorem ay_fold {post : SY → Prop} {f y R r c : Nat} {d : Nat → Int32} (hf : ag_sc f) (y1 : 14 ≤ y) (y2 : y < 50) (V : ap_VS R r c) (H : ap_Y rk rw wd dt y R r c d)
    (hP : ay_P post ct lv tx rk rw wd dt wt fi (ap_fold f R r c d)) : wpY_foldAll post (ct, lv, 0, tx, rk, rw, wd, dt, wt, fi) (nI f) (nI y) := by
  obtain ⟨h1, h2, h3, h4⟩ := H
  have s := ap_v36 V
  have vb := ap_vb V
  have L : ∀ A : Nat, A ≤ 1 → (A = 0 → r = 1) → post (ct, lv, 0, tx, upd rk 13 (nI A), upd rw 13 (nI (ap_fl A 1 r)), upd wd 13 (nI (ap_w A r)), ap_wr dt (fun i => ap_fv f (fun k => d (i * c + k)) c) (1 * r), wt, fi) →
      wY_foldAll_31 post (nI f) (nI y) (nI c) (nI r) (nI A) 13 ct lv 0 tx rk rw wd dt wt fi := by
    intro A A1 A0 q
    have e1 : (if A = 0 then (1 : Int32) else nI r) = nI (ap_fl A 1 r) := by
      unfold ap_fl
      rw [if_neg (show ¬ A = 2 by omega)]
      by_cases z : A = 0
      · rw [if_pos z, A0 z]; rfl
      · rw [if_neg z]
    have e2 : (if A < 2 then (1 : Int32) else 1) = nI (ap_w A r) := by
      unfold ap_w
      rw [if_neg (show ¬ A = 2 by omega), if_pos (by omega)]; rfl
    rw [Nat.one_mul] at q
    unfold wY_foldAll_31
    rw [ay_sh _ (by omega), e1, e2]
    refine ap_le (fun n i a => wY_foldAll_40 post (nI f) (nI y) (nI c) (nI r) n (nI i) ct lv 0 tx (upd rk 13 (nI A)) (upd rw 13 (nI (ap_fl A 1 r))) (upd wd 13 (nI (ap_w A r))) a wt fi)
      (fun i => ap_wr dt (fun i => ap_fv f (fun k => d (i * c + k)) c) i) r (ap_wr0 _ _) (fun n => ?_) (fun n i hi ih => ?_)
    · exact br_t (nI_le (Nat.le_refl _) (by omega)) q
    · have z : ¬ r ≤ i := by omega
      have b : i * c + c ≤ r * c := by
        have := Nat.mul_le_mul_right c (show i + 1 ≤ r from hi)
        rw [Nat.succ_mul] at this
        exact this
      simp (disch := omega) only [wY_foldAll_40, z, vp_in_nI, nI_clamp, nI_leI, nI_ltI, nI_eq, nI_add, nI_1, pk_mul, an_m36, an_n36, an_b468, forall_eq, true_and, and_true, true_implies, false_implies, not_true, not_false_iff, implies_true, pk_un, pk_us, ap_wrN, ap_wrS]
      refine ay_fd _ hf (by omega) ?_
      have e : ap_fv f (fun k => ap_wr dt (fun i => ap_fv f (fun k => d (i * c + k)) c) i (y * 36 + (i * c + k))) c = ap_fv f (fun k => d (i * c + k)) c := by
        refine ap_fvc (fun k hk => ?_)
        rw [ap_wrN (by omega) (by omega)]
        exact h4 _ (by omega)
      rw [e]
      simp (disch := omega) only [ay_mk, vp_in_nI, nI_clamp, nI_leI, nI_ltI, nI_eq, nI_add, nI_1, pk_mul, an_m36, an_n36, an_b468, forall_eq, true_and, and_true, true_implies, false_implies, not_true, not_false_iff, implies_true, pk_un, pk_us, ap_wrN, ap_wrS]
      exact ih
  have q := ay_Pk (r := 1) (c := r) (by omega) hP
  by_cases e : R = 2
  · simp only [if_pos e] at q
    have g := L 1 (by omega) (by omega) q
    simp (disch := omega) only [wpY_foldAll, ay_rs _ y2 V h1 h2 h3, ay_rc _ y2 V h1 h2, h1, an_e2, e, vp_in_nI, nI_clamp, nI_leI, nI_ltI, nI_eq, nI_add, nI_1, pk_mul, an_m36, an_n36, an_b468, forall_eq, true_and, and_true, true_implies, false_implies, not_true, not_false_iff, implies_true, pk_un, pk_us, ap_wrN, ap_wrS]
    exact g
  · simp only [if_neg e] at q
    have g := L 0 (by omega) (fun _ => ap_v1 V e) q
    simp (disch := omega) only [wpY_foldAll, ay_rs _ y2 V h1 h2 h3, ay_rc _ y2 V h1 h2, h1, an_e2, e, vp_in_nI, nI_clamp, nI_leI, nI_ltI, nI_eq, nI_add, nI_1, pk_mul, an_m36, an_n36, an_b468, forall_eq, true_and, and_true, true_implies, false_implies, not_true, not_false_iff, implies_true, pk_un, pk_us, ap_wrN, ap_wrS]
    exact g
theorem ay_scan {post : SY → Prop} {f y R r c : Nat} {d : Nat → Int32} (hf : ag_sc f) (y1 : 14 ≤ y) (y2 : y < 50) (V : ap_VS R r c) (H : ap_Y rk rw wd dt y R r c d)
    (hP : ay_P post ct lv tx rk rw wd dt wt fi (ap_scan f R r c d)) : wpY_scanAll post (ct, lv, 0, tx, rk, rw, wd, dt, wt, fi) (nI f) (nI y) := by
  obtain ⟨h1, h2, h3, h4⟩ := H
  have s := ap_v36 V
  have vb := ap_vb V
  have flb := ap_flb V
  have wb := ap_wb V
  have flw := ap_flw V
  have q := ay_Pk s hP
  simp (disch := omega) only [wpY_scanAll, ay_rs _ y2 V h1 h2 h3, h1, h2, h3, ay_s3 _ V, vp_in_nI, nI_clamp, true_and]
  refine ap_le (fun n i a => wY_scanAll_33 post (nI f) (nI y) (nI c) n (nI i) ct lv 0 tx (upd rk 13 (nI R)) (upd rw 13 (nI (ap_fl R r c))) (upd wd 13 (nI (ap_w R c))) a wt fi)
    (fun i => ap_wr dt (fun i => ap_fv f (fun k => d (i - i % c + k)) (i % c + 1)) i) (r * c) (ap_wr0 _ _) (fun n => ?_) (fun n i hi ih => ?_)
  · have z : r * c ≤ r * c := Nat.le_refl _
    simp (disch := omega) only [wY_scanAll_33, ay_sz, h2, h3, flw, z, vp_in_nI, nI_clamp, nI_leI, nI_ltI, nI_eq, nI_add, nI_1, pk_mul, an_m36, an_n36, an_b468, forall_eq, true_and, and_true, true_implies, false_implies, not_true, not_false_iff, implies_true, pk_un, pk_us, ap_wrN, ap_wrS]
    exact q
  · have z : ¬ r * c ≤ i := by omega
    obtain ⟨c0, a1, a2, a3⟩ := ap_dvl hi
    have c1 : ¬ c = 0 := by omega
    have b : i / c * c + c ≤ r * c := by
      have := Nat.mul_le_mul_right c (show i / c + 1 ≤ r from a1)
      rw [Nat.succ_mul] at this
      exact this
    have m1 : i % c ≤ i := Nat.mod_le _ _
    simp (disch := omega) only [wY_scanAll_33, ay_sz, h2, h3, flw, z, an_e0, c1, pk_rem, pk_sub, vp_in_nI, nI_clamp, nI_leI, nI_ltI, nI_eq, nI_add, nI_1, pk_mul, an_m36, an_n36, an_b468, forall_eq, true_and, and_true, true_implies, false_implies, not_true, not_false_iff, implies_true, pk_un, pk_us, ap_wrN, ap_wrS]
    refine ay_fd _ hf (by omega) ?_
    have e : ap_fv f (fun k => ap_wr dt (fun i => ap_fv f (fun k => d (i - i % c + k)) (i % c + 1)) i (y * 36 + (i - i % c + k))) (i % c + 1) = ap_fv f (fun k => d (i - i % c + k)) (i % c + 1) := by
      refine ap_fvc (fun k hk => ?_)
      rw [ap_wrN (by omega) (by omega)]
      exact h4 _ (by omega)
    rw [e]
    simp (disch := omega) only [ay_mk, vp_in_nI, nI_clamp, nI_leI, nI_ltI, nI_eq, nI_add, nI_1, pk_mul, an_m36, an_n36, an_b468, forall_eq, true_and, and_true, true_implies, false_implies, not_true, not_false_iff, implies_true, pk_un, pk_us, ap_wrN, ap_wrS]
    exact ih
theorem ay_outer {post : SY → Prop} {f x y R r c S s t : Nat} {d e : Nat → Int32} (hf : ag_sc f) (x1 : 14 ≤ x) (x2 : x < 50) (y1 : 14 ≤ y) (y2 : y < 50)
    (V : ap_VS R r c) (H : ap_Y rk rw wd dt x R r c d) (W : ap_VS S s t) (K : ap_Y rk rw wd dt y S s t e)
    (hP : ay_P post ct lv tx rk rw wd dt wt fi (ap_outer R r c d S s t e f)) : wpY_outer post (ct, lv, 0, tx, rk, rw, wd, dt, wt, fi) (nI f) (nI x) (nI y) := by
  obtain ⟨h1, h2, h3, h4⟩ := H
  obtain ⟨k1, k2, k3, k4⟩ := K
  have vb := ap_vb V
  have wb := ap_vb W
  have v36 := ap_v36 V
  have w36 := ap_v36 W
  have f1 := ap_flb V
  have f2 := ap_flb W
  have f3 := ap_wb V
  have f4 := ap_wb W
  have flv := ap_flw V
  have flw := ap_flw W
  have L : ∀ rk' rw' wd' : Nat → Int32, rw' x = nI (ap_fl R r c) → wd' x = nI (ap_w R c) → rw' y = nI (ap_fl S s t) → wd' y = nI (ap_w S t) → r * c * (s * t) ≤ 36 →
      post (ct, lv, 0, tx, rk', rw', wd', ap_wr dt (fun i => ap_sf f (d (i / (s * t))) (e (i % (s * t)))) (r * c * (s * t)), wt, fi) → wY_outer_137 post (nI f) (nI x) (nI y) ct lv 0 tx rk' rw' wd' dt wt fi := by
    intro rk' rw' wd' j2 j3 i2 i3 hz q
    simp (disch := omega) only [wY_outer_137, ay_sz, i2, i3, flw, vp_in_nI, nI_clamp, nI_leI, nI_ltI, nI_eq, nI_add, nI_1, pk_mul, an_m36, an_n36, an_b468, forall_eq, true_and, and_true, true_implies, false_implies, not_true, not_false_iff, implies_true, pk_un, pk_us, ap_wrN, ap_wrS]
    refine ap_le (fun n i a => wY_outer_147 post (nI f) (nI x) (nI y) (nI (s * t)) n (nI i) ct lv 0 tx rk' rw' wd' a wt fi)
      (fun i => ap_wr dt (fun i => ap_sf f (d (i / (s * t))) (e (i % (s * t)))) i) (r * c * (s * t)) (ap_wr0 _ _) (fun n => ?_) (fun n i hi ih => ?_)
    · have z : r * c * (s * t) ≤ r * c * (s * t) := Nat.le_refl _
      simp (disch := omega) only [wY_outer_147, ay_sz, j2, j3, flv, z, vp_in_nI, nI_clamp, nI_leI, nI_ltI, nI_eq, nI_add, nI_1, pk_mul, an_m36, an_n36, an_b468, forall_eq, true_and, and_true, true_implies, false_implies, not_true, not_false_iff, implies_true, pk_un, pk_us, ap_wrN, ap_wrS]
      exact q
    · have z : ¬ r * c * (s * t) ≤ i := by omega
      obtain ⟨c0, a1, a2, a3⟩ := ap_dvl hi
      have c1 : ¬ s * t = 0 := by omega
      have a0 := Nat.zero_le (i / (s * t))
      simp (disch := omega) only [wY_outer_147, ay_sz, ay_at, ay_wk _ hf, ay_mk, j2, j3, flv, z, an_e0, c1, an_rm, pk_div, h4, k4, vp_in_nI, nI_clamp, nI_leI, nI_ltI, nI_eq, nI_add, nI_1, pk_mul, an_m36, an_n36, an_b468, forall_eq, true_and, and_true, true_implies, false_implies, not_true, not_false_iff, implies_true, pk_un, pk_us, ap_wrN, ap_wrS]
      exact ih
  have g99 : ∀ (U u v : Nat), (U = S ∧ u = s ∧ v = t ∧ R = 0) ∨ (U = R ∧ u = r ∧ v = c ∧ R ≠ 0 ∧ S = 0) → ay_P post ct lv tx rk rw wd dt wt fi (0, U, u, v, fun i => ap_sf f (d (i / (s * t))) (e (i % (s * t)))) → U = R + S → wY_outer_99 post (nI f) (nI x) (nI y) (nI U) ct lv 0 tx rk rw wd dt wt fi := by
    intro U u v hU hp hRS
    rcases hU with ⟨rfl, rfl, rfl, e1⟩ | ⟨rfl, rfl, rfl, e1, e2⟩
    · subst e1
      obtain ⟨rfl, rfl⟩ := ap_v0 V
      have q := ay_Pk w36 hp
      simp (disch := omega) only [wY_outer_99, wY_outer_113, h1, k2, k3, an_e0, ay_s3 _ W, vp_in_nI, nI_clamp, nI_leI, nI_ltI, nI_eq, nI_add, nI_1, pk_mul, an_m36, an_n36, an_b468, forall_eq, true_and, and_true, true_implies, false_implies, not_true, not_false_iff, implies_true, pk_un, pk_us, ap_wrN, ap_wrS]
      exact L _ _ _ (by rw [pk_un (by omega)]; exact h2) (by rw [pk_un (by omega)]; exact h3) (by rw [pk_un (by omega)]; exact k2) (by rw [pk_un (by omega)]; exact k3) (by omega) (by rw [Nat.mul_one, Nat.one_mul]; exact q)
    · subst e2
      obtain ⟨rfl, rfl⟩ := ap_v0 W
      have q := ay_Pk v36 hp
      simp (disch := omega) only [wY_outer_99, wY_outer_113, h1, h2, h3, an_e0, e1, ay_s3 _ V, vp_in_nI, nI_clamp, nI_leI, nI_ltI, nI_eq, nI_add, nI_1, pk_mul, an_m36, an_n36, an_b468, forall_eq, true_and, and_true, true_implies, false_implies, not_true, not_false_iff, implies_true, pk_un, pk_us, ap_wrN, ap_wrS]
      exact L _ _ _ (by rw [pk_un (by omega)]; exact h2) (by rw [pk_un (by omega)]; exact h3) (by rw [pk_un (by omega)]; exact k2) (by rw [pk_un (by omega)]; exact k3) (by omega) (by rw [Nat.mul_one, Nat.mul_one]; exact q)
  unfold ap_outer at hP
  by_cases g1 : 2 < R + S
  · rw [if_pos g1] at hP
    have q := ay_Pe (by decide) hP
    have z : ¬ R + S ≤ 2 := by omega
    simp (disch := omega) only [wpY_outer, h1, k1, an_l2, z, vp_in_nI, nI_clamp, nI_leI, nI_ltI, nI_eq, nI_add, nI_1, pk_mul, an_m36, an_n36, an_b468, forall_eq, true_and, and_true, true_implies, false_implies, not_true, not_false_iff, implies_true, pk_un, pk_us, ap_wrN, ap_wrS]
    exact q
  · rw [if_neg g1] at hP
    have z : R + S ≤ 2 := by omega
    by_cases g2 : R = 1 ∧ S = 1
    · rw [if_pos g2] at hP
      obtain ⟨rfl, rfl⟩ := g2
      have r1 := ap_v1 V (by omega)
      have s1 := ap_v1 W (by omega)
      subst r1 s1
      have fx : ap_fl 1 1 c = c := rfl
      have fy : ap_fl 1 1 t = t := rfl
      by_cases g3 : 6 < c ∨ 6 < t
      · rw [if_pos g3] at hP
        have q := ay_Pe (by decide) hP
        by_cases g4 : 6 < c
        · simp (disch := omega) only [wpY_outer, h1, h2, k1, fx, an_l2, an_e1, an_u6, g4, z, vp_in_nI, nI_clamp, nI_leI, nI_ltI, nI_eq, nI_add, nI_1, pk_mul, an_m36, an_n36, an_b468, forall_eq, true_and, and_true, true_implies, false_implies, not_true, not_false_iff, implies_true, pk_un, pk_us, ap_wrN, ap_wrS]
          exact q
        · have g5 : ¬ t ≤ 6 := by omega
          simp (disch := omega) only [wpY_outer, h1, h2, k1, k2, fx, fy, an_l2, an_e1, an_u6, an_l6, g4, g5, z, vp_in_nI, nI_clamp, nI_leI, nI_ltI, nI_eq, nI_add, nI_1, pk_mul, an_m36, an_n36, an_b468, forall_eq, true_and, and_true, true_implies, false_implies, not_true, not_false_iff, implies_true, pk_un, pk_us, ap_wrN, ap_wrS]
          exact q
      · rw [if_neg g3] at hP
        have ct6 : c * t ≤ 36 := Nat.le_trans (Nat.mul_le_mul (show c ≤ 6 by omega) (show t ≤ 6 by omega)) (by decide)
        have q := ay_Pk ct6 hP
        have g4 : ¬ 6 < c := by omega
        have g5 : t ≤ 6 := by omega
        have fq := ay_s3 (ct := ct) (lv := lv) (er := 0) (tx := tx) (rk := rk) (rw := rw) (wd := wd) (dt := dt) (wt := wt) (fi := fi) (fun u => match u with | (ct, lv, er, tx, rk, rw, wd, dt, wt, fi) => wY_outer_137 post (nI f) (nI x) (nI y) ct lv er tx rk rw wd dt wt fi) (ap_mk2 (show c ≤ 6 by omega) g5)
        have l := L (upd rk 13 (nI 2)) (upd rw 13 (nI (ap_fl 2 c t))) (upd wd 13 (nI (ap_w 2 t))) (by rw [pk_un (by omega)]; exact h2) (by rw [pk_un (by omega)]; exact h3) (by rw [pk_un (by omega)]; exact k2) (by rw [pk_un (by omega)]; exact k3) (by rw [Nat.one_mul, Nat.one_mul]; exact ct6) (by rw [Nat.one_mul c, Nat.one_mul t] at *; exact q)
        simp (disch := omega) only [wpY_outer, h1, h2, k1, k2, fx, fy, an_l2, an_e1, an_u6, an_l6, g4, g5, z, vp_in_nI, nI_clamp, nI_leI, nI_ltI, nI_eq, nI_add, nI_1, pk_mul, an_m36, an_n36, an_b468, forall_eq, true_and, and_true, true_implies, false_implies, not_true, not_false_iff, implies_true, pk_un, pk_us, ap_wrN, ap_wrS]
        exact fq.mpr l
    · rw [if_neg g2] at hP
      have g85 : wY_outer_99 post (nI f) (nI x) (nI y) (nI (R + S)) ct lv 0 tx rk rw wd dt wt fi := by
        by_cases e1 : R = 0
        · simp only [if_pos e1] at hP
          have := g99 S s t (Or.inl ⟨rfl, rfl, rfl, e1⟩) hP (by omega)
          rw [show R + S = S by omega]
          exact this
        · simp only [if_neg e1] at hP
          have := g99 R r c (Or.inr ⟨rfl, rfl, rfl, e1, by omega⟩) hP (by omega)
          rw [show R + S = R by omega]
          exact this
      by_cases e1 : R = 1
      · have e2 : ¬ S = 1 := fun z => g2 ⟨e1, z⟩
        subst e1
        simp (disch := omega) only [wpY_outer, h1, k1, an_l2, an_e1, e2, z, vp_in_nI, nI_clamp, nI_leI, nI_ltI, nI_eq, nI_add, nI_1, pk_mul, an_m36, an_n36, an_b468, forall_eq, true_and, and_true, true_implies, false_implies, not_true, not_false_iff, implies_true, pk_un, pk_us, ap_wrN, ap_wrS]
        exact g85
      · simp (disch := omega) only [wpY_outer, h1, k1, an_l2, an_e1, e1, z, vp_in_nI, nI_clamp, nI_leI, nI_ltI, nI_eq, nI_add, nI_1, pk_mul, an_m36, an_n36, an_b468, forall_eq, true_and, and_true, true_implies, false_implies, not_true, not_false_iff, implies_true, pk_un, pk_us, ap_wrN, ap_wrS]
        exact g85
end
end
section
/-! Y: inner, shape, count -/
section
variable {ct lv er : Int32} {tx rk rw wd dt wt fi : Nat → Int32}
theorem ay_inL (post : Int32 → Prop) {f g s x y w col l : Nat} (hf : ag_sc f) (hg : ag_sc g) (hs : x * 36 + s + l + 1 ≤ 1800) (hq : ∀ i, i ≤ l → y * 36 + (i * w + col) < 1800) : ∀ m n, m ≤ l → l - m < n →
    post (ap_fr f (fun i => ap_sf g (dt (x * 36 + (s + i))) (dt (y * 36 + (i * w + col)))) l l) →
    wY_inner_45 post (nI f) (nI g) (nI s) (nI x) (nI y) (nI col) (nI (l + 1)) (nI w) ct lv er tx rk rw wd dt wt fi n (ap_fr f (fun i => ap_sf g (dt (x * 36 + (s + i))) (dt (y * 36 + (i * w + col)))) l m) (nI (l - m) - 1) := by
  intro m n hm hn hp
  induction n generalizing m with
  | zero => omega
  | succ n ih =>
    by_cases e : l - m = 0
    · have e2 : m = l := by omega
      subst e2
      rw [e]
      exact br_t (by decide) hp
    · obtain ⟨k, hk⟩ : ∃ k, l - m = k + 1 := ⟨l - m - 1, by omega⟩
      have z : ¬ nI k < 0 := nI_pos (by omega)
      have z2 : ¬ k = l := by omega
      have b := hq k (by omega)
      rw [hk, nI_pred]
      simp (disch := omega) only [wY_inner_45, vp_in_nI, nI_clamp, nI_leI, nI_ltI, nI_eq, nI_add, nI_1, pk_mul, an_m36, an_n36, an_b468, forall_eq, true_and, and_true, true_implies, false_implies, not_true, not_false_iff, implies_true, pk_un, pk_us, ap_wrN, ap_wrS, z, z2, nI_pred, ay_at, ay_wk _ hf, ay_wk _ hg]
      have h := ih (m + 1) (by omega) (by omega)
      have e3 : l - (m + 1) = k := by omega
      rw [e3] at h
      rw [show ap_fr f (fun i => ap_sf g (dt (x * 36 + (s + i))) (dt (y * 36 + (i * w + col)))) l (m + 1) = ap_sf f (ap_sf g (dt (x * 36 + (s + k))) (dt (y * 36 + (k * w + col)))) (ap_fr f (fun i => ap_sf g (dt (x * 36 + (s + i))) (dt (y * 36 + (i * w + col)))) l m) by rw [← e3]; rfl] at h
      rw [show nI k + -1 = nI k - 1 from (Int32.sub_eq_add_neg _ _).symm]
      exact h
theorem ay_in (post : Int32 → Prop) {f g s x y w col k : Nat} (hf : ag_sc f) (hg : ag_sc g) (hs : x * 36 + s + k ≤ 1800) (hq : ∀ i, i < k → y * 36 + (i * w + col) < 1800)
    (hp : post (ap_fv f (fun i => ap_sf g (dt (x * 36 + (s + i))) (dt (y * 36 + (i * w + col)))) k)) : wY_inner_30 post (nI f) (nI g) (nI s) (nI x) (nI y) (nI col) (nI k) (nI w) ct lv er tx rk rw wd dt wt fi := by
  have f1 : f < 100 := by unfold ag_sc at hf; omega
  unfold ap_fv at hp
  by_cases e : k = 0
  · rw [if_pos e] at hp
    subst e
    simp (disch := omega) only [wY_inner_30, ay_no, vp_in_nI, nI_clamp, nI_leI, nI_ltI, nI_eq, nI_add, nI_1, pk_mul, an_m36, an_n36, an_b468, forall_eq, true_and, and_true, true_implies, false_implies, not_true, not_false_iff, implies_true, pk_un, pk_us, ap_wrN, ap_wrS]
    exact ⟨1, br_t (by decide) hp⟩
  · rw [if_neg e] at hp
    obtain ⟨l, rfl⟩ : ∃ l, k = l + 1 := ⟨k - 1, by omega⟩
    rw [Nat.add_sub_cancel] at hp
    have z : ¬ nI l < 0 := nI_pos (by omega)
    have b := hq l (by omega)
    simp (disch := omega) only [wY_inner_30, ay_no, nI_pred, forall_eq]
    obtain ⟨n, hn⟩ : ∃ n, n = l + 1 := ⟨_, rfl⟩
    refine ⟨n + 1, ?_⟩
    simp (disch := omega) only [wY_inner_45, vp_in_nI, nI_clamp, nI_leI, nI_ltI, nI_eq, nI_add, nI_1, pk_mul, an_m36, an_n36, an_b468, forall_eq, true_and, and_true, true_implies, false_implies, not_true, not_false_iff, implies_true, pk_un, pk_us, ap_wrN, ap_wrS, z, nI_pred, ay_at, ay_wk _ hf, ay_wk _ hg]
    rw [show nI l + -1 = nI l - 1 from (Int32.sub_eq_add_neg _ _).symm]
    exact ay_inL post hf hg (by omega) (fun i hi => hq i (by omega)) 0 n (by omega) (by omega) hp
theorem ay_inner {post : SY → Prop} {f g x y R r c S s t : Nat} {d e : Nat → Int32} (hf : ag_sc f) (hg : ag_sc g) (x1 : 14 ≤ x) (x2 : x < 50) (y1 : 14 ≤ y) (y2 : y < 50)
    (V : ap_VS R r c) (H : ap_Y rk rw wd dt x R r c d) (W : ap_VS S s t) (K : ap_Y rk rw wd dt y S s t e)
    (hP : ay_P post ct lv tx rk rw wd dt wt fi (ap_inner R r c d S s t e f g)) : wpY_innerAll post (ct, lv, 0, tx, rk, rw, wd, dt, wt, fi) (nI f) (nI g) (nI x) (nI y) := by
  have ok := ap_innerV (d := d) (e := e) (f := f) (g := g) V W
  obtain ⟨h1, h2, h3, h4⟩ := H
  obtain ⟨k1, k2, k3, k4⟩ := K
  have vb := ap_vb V
  have wb := ap_vb W
  have v36 := ap_v36 V
  have w36 := ap_v36 W
  have f1 := ap_flb V
  have f2 := ap_flb W
  have f3 := ap_wb V
  have f4 := ap_wb W
  unfold ap_inner at hP ok
  by_cases e1 : R = 0
  · rw [if_pos (Or.inl e1)] at hP
    have q := ay_Pe (by decide) hP
    simp (disch := omega) only [wpY_innerAll, h1, an_e0, e1, vp_in_nI, nI_clamp, nI_leI, nI_ltI, nI_eq, nI_add, nI_1, pk_mul, an_m36, an_n36, an_b468, forall_eq, true_and, and_true, true_implies, false_implies, not_true, not_false_iff, implies_true, pk_un, pk_us, ap_wrN, ap_wrS]
    exact q
  by_cases e2 : S = 0
  · rw [if_pos (Or.inr e2)] at hP
    have q := ay_Pe (by decide) hP
    simp (disch := omega) only [wpY_innerAll, h1, k1, an_e0, e1, e2, vp_in_nI, nI_clamp, nI_leI, nI_ltI, nI_eq, nI_add, nI_1, pk_mul, an_m36, an_n36, an_b468, forall_eq, true_and, and_true, true_implies, false_implies, not_true, not_false_iff, implies_true, pk_un, pk_us, ap_wrN, ap_wrS]
    exact q
  rw [if_neg (by omega)] at hP ok
  by_cases e3 : c = ap_fl S s t
  case neg =>
    rw [if_neg e3] at hP
    have q := ay_Pe (by decide) hP
    simp (disch := omega) only [wpY_innerAll, ay_rs _ x2 V h1 h2 h3, h1, k1, k2, an_e0, e1, e2, e3, vp_in_nI, nI_clamp, nI_leI, nI_ltI, nI_eq, nI_add, nI_1, pk_mul, an_m36, an_n36, an_b468, forall_eq, true_and, and_true, true_implies, false_implies, not_true, not_false_iff, implies_true, pk_un, pk_us, ap_wrN, ap_wrS]
    exact q
  rw [if_pos e3] at hP ok
  have ok36 := ap_v36 ok
  dsimp only at ok36
  have q := ay_Pk ok36 hP
  have kb : ∀ k j, k < c → j < ap_w S t → k * ap_w S t + j < s * t := by
    intro k j hk hj
    unfold ap_w at hj ⊢
    unfold ap_fl at e3
    by_cases z : S = 2
    · rw [if_pos z] at hj e3 ⊢
      subst e3
      exact ap_ix hk hj
    · rw [if_neg z] at hj e3 ⊢
      have := ap_v1 W z
      subst this
      omega
  have kw : ∀ (P : Int32 → Prop) (rk' rw' wd' dt' : Nat → Int32) (a b : Nat), rk' x = nI R → rw' x = nI (ap_fl R r c) → wd' x = nI (ap_w R c) → rk' y = nI S → wd' y = nI (ap_w S t) → a + c ≤ r * c → (∀ k, k < c → k * ap_w S t + b < s * t) →
      P (ap_fv f (fun i => ap_sf g (dt' (x * 36 + (a + i))) (dt' (y * 36 + (i * ap_w S t + b)))) c) → wpY_inner P (ct, lv, 0, tx, rk', rw', wd', dt', wt, fi) (nI f) (nI g) (nI a) (nI x) (nI y) (nI b) := by
    intro P rk' rw' wd' dt' a b j1 j2 j3 i1 i3 ha hb hp
    have l : wY_inner_30 P (nI f) (nI g) (nI a) (nI x) (nI y) (nI b) (nI c) (nI (ap_w S t)) ct lv 0 tx rk' rw' wd' dt' wt fi :=
      ay_in P hf hg (by omega) (fun i hi => by have := hb i hi; omega) hp
    by_cases z : S = 2
    · simp (disch := omega) only [wpY_inner, ay_rs _ x2 V j1 j2 j3, i1, i3, an_e2, z, vp_in_nI, nI_clamp, nI_leI, nI_ltI, nI_eq, nI_add, nI_1, pk_mul, an_m36, an_n36, an_b468, forall_eq, true_and, and_true, true_implies, false_implies, not_true, not_false_iff, implies_true, pk_un, pk_us, ap_wrN, ap_wrS]
      rw [z] at l
      exact l
    · have w : ap_w S t = 1 := if_neg z
      rw [w] at l
      simp (disch := omega) only [wpY_inner, ay_rs _ x2 V j1 j2 j3, i1, an_e2, z, vp_in_nI, nI_clamp, nI_leI, nI_ltI, nI_eq, nI_add, nI_1, pk_mul, an_m36, an_n36, an_b468, forall_eq, true_and, and_true, true_implies, false_implies, not_true, not_false_iff, implies_true, pk_un, pk_us, ap_wrN, ap_wrS]
      exact l
  have g77 : wY_innerAll_77 post (nI f) (nI g) (nI x) (nI y) (nI r) (nI (ap_w S t)) ct lv 0 tx rk rw wd dt wt fi := by
    have L : ∀ A B C : Nat, A ≤ 2 → r * ap_w S t ≤ 36 → post (ct, lv, 0, tx, upd rk 13 (nI A), upd rw 13 (if A = 0 then 1 else nI B), upd wd 13 (if A < 2 then 1 else nI (ap_w S t)), ap_wr dt (fun i => ap_fv f (fun k => ap_sf g (d (i / ap_w S t * c + k)) (e (k * ap_w S t + i % ap_w S t))) c) (r * ap_w S t), wt, fi) →
        wY_innerAll_119 post (nI f) (nI g) (nI x) (nI y) (nI r) (nI (ap_w S t)) (nI B) (nI A) 13 ct lv 0 tx rk rw wd dt wt fi := by
      intro A B C A2 hz p
      unfold wY_innerAll_119
      rw [ay_sh _ A2]
      refine ap_le (fun n i a => wY_innerAll_127 post (nI f) (nI g) (nI x) (nI y) (nI r) (nI (ap_w S t)) n (nI i) ct lv 0 tx (upd rk 13 (nI A)) (upd rw 13 (if A = 0 then 1 else nI B)) (upd wd 13 (if A < 2 then 1 else nI (ap_w S t))) a wt fi)
        (fun i => ap_wr dt (fun i => ap_fv f (fun k => ap_sf g (d (i / ap_w S t * c + k)) (e (k * ap_w S t + i % ap_w S t))) c) i) (r * ap_w S t) (ap_wr0 _ _) (fun n => ?_) (fun n i hi ih => ?_)
      · have z : r * ap_w S t ≤ r * ap_w S t := Nat.le_refl _
        simp (disch := omega) only [wY_innerAll_127, z, vp_in_nI, nI_clamp, nI_leI, nI_ltI, nI_eq, nI_add, nI_1, pk_mul, an_m36, an_n36, an_b468, forall_eq, true_and, and_true, true_implies, false_implies, not_true, not_false_iff, implies_true, pk_un, pk_us, ap_wrN, ap_wrS]
        exact p
      · have z : ¬ r * ap_w S t ≤ i := by omega
        have j1 : upd rk 13 (nI A) x = nI R := by rw [pk_un (by omega)]; exact h1
        have j2 : upd rw 13 (if A = 0 then 1 else nI B) x = nI (ap_fl R r c) := by rw [pk_un (by omega)]; exact h2
        have j3 : upd wd 13 (if A < 2 then 1 else nI (ap_w S t)) x = nI (ap_w R c) := by rw [pk_un (by omega)]; exact h3
        have i1 : upd rk 13 (nI A) y = nI S := by rw [pk_un (by omega)]; exact k1
        have i3 : upd wd 13 (if A < 2 then 1 else nI (ap_w S t)) y = nI (ap_w S t) := by rw [pk_un (by omega)]; exact k3
        obtain ⟨c0, a1, a2, a3⟩ := ap_dvl hi
        have c1 : ¬ ap_w S t = 0 := by omega
        have a0 := Nat.zero_le (i / ap_w S t)
        have b2 : i / ap_w S t * c + c ≤ r * c := by
          have := Nat.mul_le_mul_right c (show i / ap_w S t + 1 ≤ r from a1)
          rw [Nat.succ_mul] at this
          exact this
        have kk := kb
        simp (disch := omega) only [wY_innerAll_127, ay_rs _ x2 V j1 j2 j3, z, an_e0, c1, an_rm, pk_div, vp_in_nI, nI_clamp, nI_leI, nI_ltI, nI_eq, nI_add, nI_1, pk_mul, an_m36, an_n36, an_b468, forall_eq, true_and, and_true, true_implies, false_implies, not_true, not_false_iff, implies_true, pk_un, pk_us, ap_wrN, ap_wrS]
        refine kw _ _ _ _ _ (i / ap_w S t * c) (i % ap_w S t) j1 j2 j3 i1 i3 b2 (fun k hk => kb k _ hk a2) ?_
        have e2 : ap_fv f (fun k => ap_sf g (ap_wr dt (fun i => ap_fv f (fun k => ap_sf g (d (i / ap_w S t * c + k)) (e (k * ap_w S t + i % ap_w S t))) c) i (x * 36 + (i / ap_w S t * c + k))) (ap_wr dt (fun i => ap_fv f (fun k => ap_sf g (d (i / ap_w S t * c + k)) (e (k * ap_w S t + i % ap_w S t))) c) i (y * 36 + (k * ap_w S t + i % ap_w S t)))) c
            = ap_fv f (fun k => ap_sf g (d (i / ap_w S t * c + k)) (e (k * ap_w S t + i % ap_w S t))) c := by
          refine ap_fvc (fun k hk => ?_)
          have := kb k (i % ap_w S t) hk a2
          rw [ap_wrN (by omega) (by omega), ap_wrN (by omega) (by omega), h4 _ (by omega), k4 _ (by omega)]
        rw [e2]
        simp (disch := omega) only [ay_mk, vp_in_nI, nI_clamp, nI_leI, nI_ltI, nI_eq, nI_add, nI_1, pk_mul, an_m36, an_n36, an_b468, forall_eq, true_and, and_true, true_implies, false_implies, not_true, not_false_iff, implies_true, pk_un, pk_us, ap_wrN, ap_wrS]
        exact ih
    have sub : nI (R + S) - 2 = nI (R + S - 2) := pk_sub (b := 2) (by omega)
    by_cases a1 : R = 2
    · by_cases a2 : S = 2
      · subst a1 a2
        have l := L 2 r 0 (by omega) ok36 q
        simp (disch := omega) only [wY_innerAll_77, h1, k1, an_e2, sub, vp_in_nI, nI_clamp, nI_leI, nI_ltI, nI_eq, nI_add, nI_1, pk_mul, an_m36, an_n36, an_b468, forall_eq, true_and, and_true, true_implies, false_implies, not_true, not_false_iff, implies_true, pk_un, pk_us, ap_wrN, ap_wrS]
        exact l
      · have e4 : S = 1 := by omega
        subst a1 e4
        have q1 := ay_Pk (R := 1) (r := 1) (c := r * 1) (by omega) hP
        rw [Nat.mul_one, Nat.one_mul] at q1
        have l := L 1 r 0 (by omega) (by rw [show r * ap_w 1 t = r from Nat.mul_one r]; omega) (by rw [show r * ap_w 1 t = r from Nat.mul_one r]; exact q1)
        simp (disch := omega) only [wY_innerAll_77, h1, k1, an_e2, sub, vp_in_nI, nI_clamp, nI_leI, nI_ltI, nI_eq, nI_add, nI_1, pk_mul, an_m36, an_n36, an_b468, forall_eq, true_and, and_true, true_implies, false_implies, not_true, not_false_iff, implies_true, pk_un, pk_us, ap_wrN, ap_wrS]
        exact l
    · have e5 : R = 1 := by omega
      subst e5
      have r1 := ap_v1 V (by omega)
      subst r1
      by_cases a2 : S = 2
      · subst a2
        have q1 := ay_Pk (R := 1) (r := 1) (c := 1 * t) (by omega) hP
        rw [Nat.one_mul, Nat.one_mul] at q1
        have l := L 1 (ap_w 2 t) 0 (by omega) (by omega) (by rw [show 1 * ap_w 2 t = t from Nat.one_mul t]; exact q1)
        have z12 : ¬ (1 : Nat) = 2 := by omega
        simp (disch := omega) only [wY_innerAll_77, h1, k1, an_e2, sub, z12, vp_in_nI, nI_clamp, nI_leI, nI_ltI, nI_eq, nI_add, nI_1, pk_mul, an_m36, an_n36, an_b468, forall_eq, true_and, and_true, true_implies, false_implies, not_true, not_false_iff, implies_true, pk_un, pk_us, ap_wrN, ap_wrS]
        exact l
      · have e4 : S = 1 := by omega
        subst e4
        have q1 := ay_Pk (R := 0) (r := 1) (c := 1) (by omega) hP
        have l := L 0 (ap_w 1 t) 0 (by omega) (by omega) q1
        have z12 : ¬ (1 : Nat) = 2 := by omega
        simp (disch := omega) only [wY_innerAll_77, h1, k1, an_e2, sub, z12, vp_in_nI, nI_clamp, nI_leI, nI_ltI, nI_eq, nI_add, nI_1, pk_mul, an_m36, an_n36, an_b468, forall_eq, true_and, and_true, true_implies, false_implies, not_true, not_false_iff, implies_true, pk_un, pk_us, ap_wrN, ap_wrS]
        exact l
  simp (disch := omega) only [wpY_innerAll, ay_rs _ x2 V h1 h2 h3, ay_rc _ x2 V h1 h2, h1, k1, k2, k3, an_e0, e1, e2, vp_in_nI, nI_clamp, nI_leI, nI_ltI, nI_eq, nI_add, nI_1, pk_mul, an_m36, an_n36, an_b468, forall_eq, true_and, and_true, true_implies, false_implies, not_true, not_false_iff, implies_true, pk_un, pk_us, ap_wrN, ap_wrS]
  simp only [← e3, true_implies, not_true, false_implies, and_true]
  by_cases z : S = 2
  · simp (disch := omega) only [an_e2, z, vp_in_nI, nI_clamp, nI_leI, nI_ltI, nI_eq, nI_add, nI_1, pk_mul, an_m36, an_n36, an_b468, forall_eq, true_and, and_true, true_implies, false_implies, not_true, not_false_iff, implies_true, pk_un, pk_us, ap_wrN, ap_wrS]
    rw [z] at g77
    exact g77
  · have w : ap_w S t = 1 := if_neg z
    rw [w] at g77
    simp (disch := omega) only [an_e2, z, vp_in_nI, nI_clamp, nI_leI, nI_ltI, nI_eq, nI_add, nI_1, pk_mul, an_m36, an_n36, an_b468, forall_eq, true_and, and_true, true_implies, false_implies, not_true, not_false_iff, implies_true, pk_un, pk_us, ap_wrN, ap_wrS]
    exact g77
end
end
section
/-! Y: shape, count, turn, back -/
theorem ap_cp13 {dt : Nat → Int32} {y : Nat} : ∀ j, (j < 468 ∨ 504 ≤ j) → ap_cp dt y 13 36 j = dt j := fun _ h => ap_cpN (by omega)
section
variable {ct lv er : Int32} {tx rk rw wd dt wt fi : Nat → Int32}
theorem ay_shape {post : SY → Prop} {y R r c : Nat} {d : Nat → Int32} (y1 : 14 ≤ y) (y2 : y < 50) (V : ap_VS R r c) (H : ap_Y rk rw wd dt y R r c d)
    (hP : ay_P post ct lv tx rk rw wd dt wt fi (ap_shape R r c)) : wpY_lengths post (ct, lv, 0, tx, rk, rw, wd, dt, wt, fi) (nI y) := by
  obtain ⟨h1, h2, h3, h4⟩ := H
  have vb := ap_vb V
  have w : upd (upd dt (468 + 0) (nI (ap_fl R r c))) (468 + 1) (nI (ap_w R c)) = ap_wr dt (fun i => if i = 0 then nI (ap_fl R r c) else nI (ap_w R c)) 2 := by
    have a := ap_wrS dt (fun i => if i = 0 then nI (ap_fl R r c) else nI (ap_w R c)) 0
    have b := ap_wrS dt (fun i => if i = 0 then nI (ap_fl R r c) else nI (ap_w R c)) 1
    rw [← a, ap_wr0] at b
    exact b
  have m0 := fun (P : SY → Prop) (rk rw wd dt : Nat → Int32) (v : Int32) => ay_mk (ct := ct) (lv := lv) (er := 0) (tx := tx) (rk := rk) (rw := rw) (wd := wd) (dt := dt) (wt := wt) (fi := fi) P (i := 0) (by omega) v
  have m1 := fun (P : SY → Prop) (rk rw wd dt : Nat → Int32) (v : Int32) => ay_mk (ct := ct) (lv := lv) (er := 0) (tx := tx) (rk := rk) (rw := rw) (wd := wd) (dt := dt) (wt := wt) (fi := fi) P (i := 1) (by omega) v
  have sh := fun (P : SY → Prop) (a b : Int32) => ay_sh (ct := ct) (lv := lv) (er := 0) (tx := tx) (rk := rk) (rw := rw) (wd := wd) (dt := dt) (wt := wt) (fi := fi) P (R := 1) (by omega) a b
  rw [nI_0] at m0
  rw [show nI 1 = 1 from rfl] at m1 sh
  simp (disch := omega) only [wpY_lengths, sh, m0, m1, h1, h2, h3, w, vp_in_nI, nI_clamp, nI_leI, nI_ltI, nI_eq, nI_add, nI_1, pk_mul, an_m36, an_n36, an_b468, forall_eq, true_and, and_true, true_implies, false_implies, not_true, not_false_iff, implies_true, pk_un, pk_us, ap_wrN, ap_wrS]
  refine hP _ _ _ _ ⟨fun _ h => ⟨pk_un h, pk_un h, pk_un h⟩, fun _ h => ap_wrN (by omega) (by omega)⟩ (fun _ => ⟨pk_us, ?_, ?_, fun i h => ?_⟩)
  · rw [pk_us]; rfl
  · rw [pk_us]; rfl
  · have hi : i < 1 * R := h
    rw [show 13 * 36 + i = 468 + i from rfl, ap_wrI (by omega)]
    show (if i = 0 then nI (ap_fl R r c) else nI (ap_w R c)) = if i = 0 then nI (if R = 2 then r else c) else nI c
    by_cases e : i = 0
    · rw [if_pos e, if_pos e]; rfl
    · rw [if_neg e, if_neg e]
      unfold ap_w
      rw [if_pos (by omega)]
theorem ay_resh {post : SY → Prop} {x y R r c S s t : Nat} {d e : Nat → Int32} (x1 : 14 ≤ x) (x2 : x < 50) (y1 : 14 ≤ y) (y2 : y < 50)
    (V : ap_VS R r c) (H : ap_Y rk rw wd dt x R r c d) (W : ap_VS S s t) (K : ap_Y rk rw wd dt y S s t e)
    (hP : ay_P post ct lv tx rk rw wd dt wt fi (ap_resh R r c d s t e)) : wpY_reshape post (ct, lv, 0, tx, rk, rw, wd, dt, wt, fi) (nI x) (nI y) := by
  have ok := ap_reshV (R := R) (r := r) (c := c) (d := d) (s := s) (t := t) (e := e)
  obtain ⟨h1, h2, h3, h4⟩ := H
  obtain ⟨k1, k2, k3, k4⟩ := K
  have vb := ap_vb V
  have v36 := ap_v36 V
  have w36 := ap_v36 W
  have wb := ap_vb W
  have flv := ap_flw V
  have flw := ap_flw W
  have f1 := ap_flb V
  have f2 := ap_flb W
  have f3 := ap_wb V
  have f4 := ap_wb W
  unfold ap_resh at hP ok
  by_cases e1 : R = 2
  · rw [if_pos e1] at hP
    have q := ay_Pe (by decide) hP
    simp (disch := omega) only [wpY_reshape, wY_reshape_21, ay_sz, h1, h2, h3, flv, an_e2, e1, vp_in_nI, nI_clamp, nI_leI, nI_ltI, nI_eq, nI_add, nI_1, pk_mul, an_m36, an_n36, an_b468, forall_eq, true_and, and_true, true_implies, false_implies, not_true, not_false_iff, implies_true, pk_un, pk_us, ap_wrN, ap_wrS]
    exact q
  rw [if_neg e1] at hP ok
  by_cases e2 : 2 < r * c
  · rw [if_pos e2] at hP
    have q := ay_Pe (by decide) hP
    have z : ¬ r * c ≤ 2 := by omega
    simp (disch := omega) only [wpY_reshape, wY_reshape_21, ay_sz, h1, h2, h3, flv, an_e2, an_l2, e1, z, vp_in_nI, nI_clamp, nI_leI, nI_ltI, nI_eq, nI_add, nI_1, pk_mul, an_m36, an_n36, an_b468, forall_eq, true_and, and_true, true_implies, false_implies, not_true, not_false_iff, implies_true, pk_un, pk_us, ap_wrN, ap_wrS]
    exact q
  rw [if_neg e2] at hP ok
  have z2 : r * c ≤ 2 := by omega
  have M : (∃ n, wY_reshape_46 post (nI x) (nI y) (nI (r * c)) ct lv 0 tx rk rw wd dt wt fi n 0) → wpY_reshape post (ct, lv, 0, tx, rk, rw, wd, dt, wt, fi) (nI x) (nI y) := by
    intro h
    simp (disch := omega) only [wpY_reshape, ay_sz, h1, h2, h3, flv, an_e2, an_l2, e1, z2, vp_in_nI, nI_clamp, nI_leI, nI_ltI, nI_eq, nI_add, nI_1, pk_mul, an_m36, an_n36, an_b468, forall_eq, true_and, and_true, true_implies, false_implies, not_true, not_false_iff, implies_true, pk_un, pk_us, ap_wrN, ap_wrS]
    exact h
  apply M
  have st : ∀ n i, i < r * c → ((¬ d i < 0 ∧ ¬ (if r * c = 1 then 36 else 6) < d i) → wY_reshape_46 post (nI x) (nI y) (nI (r * c)) ct lv 0 tx rk rw wd dt wt fi n (nI (i + 1))) → (¬ (¬ d i < 0 ∧ ¬ (if r * c = 1 then 36 else 6) < d i) → post (ct, lv, (-15), tx, rk, rw, wd, dt, wt, fi)) →
      wY_reshape_46 post (nI x) (nI y) (nI (r * c)) ct lv 0 tx rk rw wd dt wt fi (n + 1) (nI i) := by
    intro n i hi ha hb
    have z : ¬ r * c ≤ i := by omega
    simp (disch := omega) only [wY_reshape_46, wY_reshape_81, ay_at, z, h4, an_e1, vp_in_nI, nI_clamp, nI_leI, nI_ltI, nI_eq, nI_add, nI_1, pk_mul, an_m36, an_n36, an_b468, forall_eq, true_and, and_true, true_implies, false_implies, not_true, not_false_iff, implies_true, pk_un, pk_us, ap_wrN, ap_wrS]
    by_cases a1 : d i < 0
    · exact br_t a1 (hb (fun z => z.1 a1))
    · refine br_f a1 ?_
      by_cases m1 : r * c = 1
      · rw [if_pos m1] at ha hb
        refine br_t m1 ?_
        by_cases a2 : 36 < d i
        · exact br_f (Int32.not_le.mpr a2) (hb (fun z => z.2 a2))
        · exact br_t (Int32.not_lt.mp a2) (ha ⟨a1, a2⟩)
      · rw [if_neg m1] at ha hb
        refine br_f m1 ?_
        by_cases a2 : 6 < d i
        · exact br_f (Int32.not_le.mpr a2) (hb (fun z => z.2 a2))
        · exact br_t (Int32.not_lt.mp a2) (ha ⟨a1, a2⟩)
  by_cases al : ∀ i, i < r * c → ¬ d i < 0 ∧ ¬ (if r * c = 1 then 36 else 6) < d i
  case neg =>
    rw [if_neg al] at hP
    have q := ay_Pe (by decide) hP
    refine ap_ls (fun n i => wY_reshape_46 post (nI x) (nI y) (nI (r * c)) ct lv 0 tx rk rw wd dt wt fi n (nI i)) (fun i => ∃ j, i ≤ j ∧ j < r * c ∧ ¬ (¬ d j < 0 ∧ ¬ (if r * c = 1 then 36 else 6) < d j)) (r * c) (fun ⟨j, a, b, _⟩ => by omega) (fun n i hi hq hk => ?_) ?_
    · refine st n i hi (fun ok => hk ?_) (fun _ => q)
      obtain ⟨j, a, b, g⟩ := hq
      refine ⟨j, ?_, b, g⟩
      by_cases ej : j = i
      · subst ej; exact absurd ok g
      · omega
    · apply Classical.byContradiction
      intro no
      exact al (fun i hi => Classical.byContradiction (fun g => no ⟨i, by omega, hi, g⟩))
  rw [if_pos al] at hP ok
  have ok36 := ap_v36 ok
  dsimp only at ok36
  generalize hG : (fun i : Nat => if s * t = 0 then (0 : Int32) else e (i % (s * t))) = G at *
  have G0 : s * t = 0 → ∀ i, (0 : Int32) = G i := fun h i => by rw [← hG]; exact (if_pos h).symm
  have G1 : ¬ s * t = 0 → ∀ i, e (i % (s * t)) = G i := fun h i => by rw [← hG]; exact (if_neg h).symm
  refine ap_ls (fun n i => wY_reshape_46 post (nI x) (nI y) (nI (r * c)) ct lv 0 tx rk rw wd dt wt fi n (nI i)) (fun _ => True) (r * c) (fun _ n => ?_) (fun n i hi _ hk => st n i hi (fun _ => hk trivial) (fun g => absurd (al i hi) g)) trivial
  have L : ∀ A B C : Nat, ap_VS C A B → ay_P post ct lv tx rk rw wd dt wt fi (0, C, A, B, G) → wY_reshape_130 post (nI y) (nI (ap_w C B)) (nI (ap_fl C A B)) (nI C) 13 ct lv 0 tx rk rw wd dt wt fi := by
    intro A B C vs hp
    have hz := ap_v36 vs
    have p := ay_Pk hz hp
    have flx := ap_flw vs
    have g1 := ap_flb vs
    have g2 := ap_wb vs
    have j2 : upd rw 13 (nI (ap_fl C A B)) y = nI (ap_fl S s t) := by rw [pk_un (by omega)]; exact k2
    have j3 : upd wd 13 (nI (ap_w C B)) y = nI (ap_w S t) := by rw [pk_un (by omega)]; exact k3
    simp (disch := omega) only [wY_reshape_130, ay_s3 _ vs, ay_sz, j2, j3, flw, vp_in_nI, nI_clamp, nI_leI, nI_ltI, nI_eq, nI_add, nI_1, pk_mul, an_m36, an_n36, an_b468, forall_eq, true_and, and_true, true_implies, false_implies, not_true, not_false_iff, implies_true, pk_un, pk_us, ap_wrN, ap_wrS]
    refine ap_le (fun n i a => wY_reshape_143 post (nI y) (nI (s * t)) n (nI i) ct lv 0 tx (upd rk 13 (nI C)) (upd rw 13 (nI (ap_fl C A B))) (upd wd 13 (nI (ap_w C B))) a wt fi)
      (fun i => ap_wr dt G i) (A * B) (ap_wr0 _ _) (fun n => ?_) (fun n i hi ih => ?_)
    · have z : A * B ≤ A * B := Nat.le_refl _
      simp (disch := omega) only [wY_reshape_143, ay_s13, flx, z, vp_in_nI, nI_clamp, nI_leI, nI_ltI, nI_eq, nI_add, nI_1, pk_mul, an_m36, an_n36, an_b468, forall_eq, true_and, and_true, true_implies, false_implies, not_true, not_false_iff, implies_true, pk_un, pk_us, ap_wrN, ap_wrS]
      exact p
    · have z : ¬ A * B ≤ i := by omega
      by_cases s0 : s * t = 0
      · have eq := G0 s0 i
        simp (disch := omega) only [wY_reshape_143, wY_reshape_176, ay_s13, ay_mk, flx, z, an_e0, s0, vp_in_nI, nI_clamp, nI_leI, nI_ltI, nI_eq, nI_add, nI_1, pk_mul, an_m36, an_n36, an_b468, forall_eq, true_and, and_true, true_implies, false_implies, not_true, not_false_iff, implies_true, pk_un, pk_us, ap_wrN, ap_wrS]
        rw [s0] at ih
        rw [ap_wrE eq]
        exact ih
      · have m := Nat.mod_lt i (show 0 < s * t by omega)
        have eq := G1 s0 i
        simp (disch := omega) only [wY_reshape_143, wY_reshape_176, ay_s13, ay_at, ay_mk, flx, z, an_e0, s0, pk_rem, k4, vp_in_nI, nI_clamp, nI_leI, nI_ltI, nI_eq, nI_add, nI_1, pk_mul, an_m36, an_n36, an_b468, forall_eq, true_and, and_true, true_implies, false_implies, not_true, not_false_iff, implies_true, pk_un, pk_us, ap_wrN, ap_wrS]
        rw [ap_wrE eq]
        exact ih
  have a0 : ∀ i, i < r * c → d i = nI (d i).toNatClampNeg := fun i hi => by
    obtain ⟨j, hj, ej⟩ := nI_of (al i hi).1
    rw [ej, nI_clamp hj]
  have z : r * c ≤ r * c := Nat.le_refl _
  have at1 := fun (P : Int32 → Prop) => ay_at (ct := ct) (lv := lv) (er := 0) (tx := tx) (rk := rk) (rw := rw) (wd := wd) (dt := dt) (wt := wt) (fi := fi) P (h := x) (i := 1) (by omega)
  rw [show nI 1 = 1 from rfl] at at1
  simp (disch := omega) only [wY_reshape_46, wY_reshape_115, ay_a0, at1, z, an_l0, an_l1, vp_in_nI, nI_clamp, nI_leI, nI_ltI, nI_eq, nI_add, nI_1, pk_mul, an_m36, an_n36, an_b468, forall_eq, true_and, and_true, true_implies, false_implies, not_true, not_false_iff, implies_true, pk_un, pk_us, ap_wrN, ap_wrS]
  generalize r * c = m at *
  rcases (by omega : m = 0 ∨ m = 1 ∨ m = 2) with rfl | rfl | rfl
  · have l := L 1 1 0 ok hP
    exact br_t (by omega) (br_t (by omega) l)
  · have l := L 1 (d 0).toNatClampNeg 1 ok hP
    have d0 := h4 0 (by omega)
    rw [Nat.add_zero] at d0
    refine br_f (by omega) (br_t (by omega) ?_)
    rw [d0, a0 0 (by omega)]
    exact l
  · have l := L (d 0).toNatClampNeg (d 1).toNatClampNeg 2 ok hP
    have d0 := h4 0 (by omega)
    rw [Nat.add_zero] at d0
    have d1 := h4 1 (by omega)
    refine br_f (by omega) (br_f (by omega) ?_)
    rw [d0, d1, a0 0 (by omega), a0 1 (by omega)]
    exact l
theorem ay_count {post : SY → Prop} {y R r c : Nat} {d : Nat → Int32} (y1 : 14 ≤ y) (y2 : y < 50) (V : ap_VS R r c) (H : ap_Y rk rw wd dt y R r c d)
    (hP : ay_P post ct lv tx rk rw wd dt wt fi (ap_count R d)) : wpY_upTo post (ct, lv, 0, tx, rk, rw, wd, dt, wt, fi) (nI y) := by
  obtain ⟨h1, h2, h3, h4⟩ := H
  have vb := ap_vb V
  unfold ap_count at hP
  by_cases e1 : R = 0
  case neg =>
    rw [if_neg e1] at hP
    have q := ay_Pe (by decide) hP
    simp (disch := omega) only [wpY_upTo, h1, an_e0, e1, vp_in_nI, nI_clamp, nI_leI, nI_ltI, nI_eq, nI_add, nI_1, pk_mul, an_m36, an_n36, an_b468, forall_eq, true_and, and_true, true_implies, false_implies, not_true, not_false_iff, implies_true, pk_un, pk_us, ap_wrN, ap_wrS]
    exact q
  rw [if_pos e1] at hP
  subst e1
  obtain ⟨rfl, rfl⟩ := ap_v0 V
  have d0 := h4 0 (by omega)
  rw [Nat.add_zero] at d0
  by_cases a1 : d 0 < 0
  · rw [if_pos (Or.inl a1)] at hP
    have q := ay_Pe (by decide) hP
    simp (disch := omega) only [wpY_upTo, h1, an_e0, ay_a0, d0, a1, vp_in_nI, nI_clamp, nI_leI, nI_ltI, nI_eq, nI_add, nI_1, pk_mul, an_m36, an_n36, an_b468, forall_eq, true_and, and_true, true_implies, false_implies, not_true, not_false_iff, implies_true, pk_un, pk_us, ap_wrN, ap_wrS]
    exact q
  by_cases a2 : 36 < d 0
  · rw [if_pos (Or.inr a2)] at hP
    have q := ay_Pe (by decide) hP
    simp (disch := omega) only [wpY_upTo, h1, an_e0, ay_a0, d0, a1, Int32.not_le.mpr a2, vp_in_nI, nI_clamp, nI_leI, nI_ltI, nI_eq, nI_add, nI_1, pk_mul, an_m36, an_n36, an_b468, forall_eq, true_and, and_true, true_implies, false_implies, not_true, not_false_iff, implies_true, pk_un, pk_us, ap_wrN, ap_wrS]
    exact q
  rw [if_neg (fun z => z.elim a1 a2)] at hP
  obtain ⟨j, hj, ej⟩ := nI_of a1
  have j36 := ap_c36 (m := 36) (by decide) a2
  rw [ej, nI_clamp hj] at j36
  rw [ej] at a2 d0
  rw [ej, nI_clamp hj] at hP
  have z0 : ¬ nI j < 0 := nI_pos hj
  have sh := fun (P : SY → Prop) (a b : Int32) => ay_sh (ct := ct) (lv := lv) (er := 0) (tx := tx) (rk := rk) (rw := rw) (wd := wd) (dt := dt) (wt := wt) (fi := fi) P (R := 1) (by omega) a b
  rw [show nI 1 = 1 from rfl] at sh
  simp (disch := omega) only [wpY_upTo, h1, an_e0, ay_a0, d0, z0, sh, an_l36, j36, vp_in_nI, nI_clamp, nI_leI, nI_ltI, nI_eq, nI_add, nI_1, pk_mul, an_m36, an_n36, an_b468, forall_eq, true_and, and_true, true_implies, false_implies, not_true, not_false_iff, implies_true, pk_un, pk_us, ap_wrN, ap_wrS]
  refine ap_le (fun n i a => wY_upTo_63 post n (nI i) ct lv 0 tx (upd rk 13 1) (upd rw 13 (if 1 = 0 then 1 else nI j)) (upd wd 13 (if 1 < 2 then 1 else 1)) a wt fi)
    (fun i => ap_wr dt (fun i => nI i) i) 36 (ap_wr0 _ _) (fun n => ?_) (fun n i hi ih => ?_)
  · refine br_t (by decide) (hP _ _ _ _ ⟨fun _ h => ⟨pk_un h, pk_un h, pk_un h⟩, fun _ h => ap_wrN (by omega) (by omega)⟩ (fun _ => ⟨pk_us, pk_us, pk_us, fun i h => ?_⟩))
    have hi : i < 1 * j := h
    rw [show 13 * 36 + i = 468 + i from rfl, ap_wrI (by omega)]
  · have z : ¬ 36 ≤ i := by omega
    simp (disch := omega) only [wY_upTo_63, an_g36, ay_mk, z, vp_in_nI, nI_clamp, nI_leI, nI_ltI, nI_eq, nI_add, nI_1, pk_mul, an_m36, an_n36, an_b468, forall_eq, true_and, and_true, true_implies, false_implies, not_true, not_false_iff, implies_true, pk_un, pk_us, ap_wrN, ap_wrS]
    exact ih
theorem ay_fpL {post : SY → Prop} {J : Int32 → Int32 → Int32 → Int32 → (Nat → Int32) → (Nat → Int32) → (Nat → Int32) → (Nat → Int32) → (Nat → Int32) → (Nat → Int32) → (Nat → Int32) → Prop} {x y k c : Nat} {w : Int32} {d : Nat → Int32} (x2 : x < 50) (hc : rw x = nI c) (c36 : c ≤ 36) (hd : ∀ k, k < c → dt (x * 36 + k) = d k) (hk : k < 36) (hw : dt (y * 36 + k) = w) (y2 : y < 50) :
    ∀ m i n, i + m = c → m < n → J (nI (k + 1)) ct lv er tx rk rw wd (upd dt (468 + k) (nI (ap_fp (fun k => decide (d k = w)) m i))) wt fi → wY_findAll_55 post J (nI x) (nI y) (nI k) ct lv er tx rk rw wd dt wt fi n (nI i) := by
  intro m
  induction m with
  | zero =>
    intro i n h1 hn hp
    obtain ⟨n, rfl⟩ : ∃ k, n = k + 1 := ⟨n - 1, by omega⟩
    have z2 : c ≤ i := by omega
    simp (disch := omega) only [wY_findAll_55, wY_findAll_88, ay_mk, hc, z2, vp_in_nI, nI_clamp, nI_leI, nI_ltI, nI_eq, nI_add, nI_1, pk_mul, an_m36, an_n36, an_b468, forall_eq, true_and, and_true, true_implies, false_implies, not_true, not_false_iff, implies_true, pk_un, pk_us, ap_wrN, ap_wrS]
    exact hp
  | succ m ih =>
    intro i n h1 hn hp
    obtain ⟨n, rfl⟩ : ∃ k, n = k + 1 := ⟨n - 1, by omega⟩
    have z : ¬ c ≤ i := by omega
    unfold ap_fp at hp
    simp (disch := omega) only [wY_findAll_55, wY_findAll_88, ay_at, ay_mk, hc, z, hd, hw, vp_in_nI, nI_clamp, nI_leI, nI_ltI, nI_eq, nI_add, nI_1, pk_mul, an_m36, an_n36, an_b468, forall_eq, true_and, and_true, true_implies, false_implies, not_true, not_false_iff, implies_true, pk_un, pk_us, ap_wrN, ap_wrS]
    by_cases a : d i = w
    · rw [if_pos (by rw [a]; simp)] at hp
      exact br_t a hp
    · rw [if_neg (by simp [a])] at hp
      exact br_f a (ih (i + 1) n (by omega) (by omega) hp)
theorem ay_find {post : SY → Prop} {x y R r c S s t : Nat} {d e : Nat → Int32} (x1 : 14 ≤ x) (x2 : x < 50) (y1 : 14 ≤ y) (y2 : y < 50)
    (V : ap_VS R r c) (H : ap_Y rk rw wd dt x R r c d) (W : ap_VS S s t) (K : ap_Y rk rw wd dt y S s t e)
    (hP : ay_P post ct lv tx rk rw wd dt wt fi (ap_find R c d S s t e)) : wpY_findAll post (ct, lv, 0, tx, rk, rw, wd, dt, wt, fi) (nI x) (nI y) := by
  obtain ⟨h1, h2, h3, h4⟩ := H
  obtain ⟨k1, k2, k3, k4⟩ := K
  have vb := ap_vb V
  have wb := ap_vb W
  have w36 := ap_v36 W
  have flw := ap_flw W
  have f2 := ap_flb W
  have f4 := ap_wb W
  unfold ap_find at hP
  by_cases e1 : R = 1
  case neg =>
    rw [if_neg e1] at hP
    have q := ay_Pe (by decide) hP
    simp (disch := omega) only [wpY_findAll, h1, an_e1, e1, vp_in_nI, nI_clamp, nI_leI, nI_ltI, nI_eq, nI_add, nI_1, pk_mul, an_m36, an_n36, an_b468, forall_eq, true_and, and_true, true_implies, false_implies, not_true, not_false_iff, implies_true, pk_un, pk_us, ap_wrN, ap_wrS]
    exact q
  rw [if_pos e1] at hP
  subst e1
  have r1 := ap_v1 V (by omega)
  subst r1
  have q := ay_Pk w36 hP
  simp (disch := omega) only [wpY_findAll, h1, k1, k2, k3, an_e1, ay_s3 _ W, vp_in_nI, nI_clamp, true_and, true_implies, not_true, false_implies, and_true]
  refine ap_le (fun n i a => wY_findAll_43 post (nI x) (nI y) n (nI i) ct lv 0 tx (upd rk 13 (nI S)) (upd rw 13 (nI (ap_fl S s t))) (upd wd 13 (nI (ap_w S t))) a wt fi)
    (fun i => ap_wr dt (fun i => nI (ap_fp (fun k => decide (d k = e i)) c 0)) i) (s * t) (ap_wr0 _ _) (fun n => ?_) (fun n i hi ih => ?_)
  · have z : s * t ≤ s * t := Nat.le_refl _
    simp (disch := omega) only [wY_findAll_43, ay_sz, k2, k3, flw, z, vp_in_nI, nI_clamp, nI_leI, nI_ltI, nI_eq, nI_add, nI_1, pk_mul, an_m36, an_n36, an_b468, forall_eq, true_and, and_true, true_implies, false_implies, not_true, not_false_iff, implies_true, pk_un, pk_us, ap_wrN, ap_wrS]
    exact q
  · have z : ¬ s * t ≤ i := by omega
    simp (disch := omega) only [wY_findAll_43, ay_sz, k2, k3, flw, z, vp_in_nI, nI_clamp, nI_leI, nI_ltI, nI_eq, nI_add, nI_1, pk_mul, an_m36, an_n36, an_b468, forall_eq, true_and, and_true, true_implies, false_implies, not_true, not_false_iff, implies_true, pk_un, pk_us, ap_wrN, ap_wrS]
    refine ⟨c + 1, ay_fpL (d := d) (c := c) (w := e i) x2 (by rw [pk_un (by omega)]; exact h2) vb.2.2 (fun k hk => ?_) (by omega) ?_ y2 c 0 (c + 1) (by omega) (by omega) ?_⟩
    · rw [ap_wrN (by omega) (by omega)]
      exact h4 k (by omega)
    · rw [ap_wrN (by omega) (by omega)]
      exact k4 i hi
    · rw [ap_wrS dt (fun i => nI (ap_fp (fun k => decide (d k = e i)) c 0)) i]
      exact ih
end
end
section
/-! Y: turn, back, first, ravel, rise -/
theorem an_l0n {n : Nat} (h0 : 0 < n) (h : n < 2 ^ 31) : ¬ (nI n).toInt64 = 0 := by
  rw [nI_l h]
  intro e
  have := (lN_eq (a := n) (b := 0) h (by omega)).mp e
  omega
section
variable {ct lv er : Int32} {tx rk rw wd dt wt fi : Nat → Int32}
theorem ay_turn {post : SY → Prop} {y R r c : Nat} {d : Nat → Int32} (y1 : 14 ≤ y) (y2 : y < 50) (V : ap_VS R r c) (H : ap_Y rk rw wd dt y R r c d)
    (hP : ay_P post ct lv tx rk rw wd dt wt fi (ap_turn R r c d)) : wpY_turn post (ct, lv, 0, tx, rk, rw, wd, dt, wt, fi) (nI y) := by
  have vb := ap_vb V
  have v36 := ap_v36 V
  unfold ap_turn at hP
  by_cases e1 : R = 2
  case neg =>
    rw [if_neg e1] at hP
    have H0 := H
    obtain ⟨h1, h2, h3, h4⟩ := H
    have z : ¬ 2 ≤ R := by omega
    simp (disch := omega) only [wpY_turn, h1, an_g2, z, vp_in_nI, nI_clamp, nI_leI, nI_ltI, nI_eq, nI_add, nI_1, pk_mul, an_m36, an_n36, an_b468, forall_eq, true_and, and_true, true_implies, false_implies, not_true, not_false_iff, implies_true, pk_un, pk_us, ap_wrN, ap_wrS]
    exact ay_cp y2 (b := 13) (by omega) (by omega) (hP _ _ _ _ ap_cpF (fun _ => ap_cpY v36 H0))
  rw [if_pos e1] at hP
  subst e1
  obtain ⟨h1, h2, h3, h4⟩ := H
  have vs := ap_v2 V
  have h2' : rw y = nI r := h2
  have h3' : wd y = nI c := h3
  have sh := fun (P : SY → Prop) (a b : Int32) => ay_sh (ct := ct) (lv := lv) (er := 0) (tx := tx) (rk := rk) (rw := rw) (wd := wd) (dt := dt) (wt := wt) (fi := fi) P (R := 2) (by omega) a b
  rw [show nI 2 = 2 from rfl] at sh
  have z : 2 ≤ 2 := Nat.le_refl 2
  simp (disch := omega) only [wpY_turn, h1, h2', h3', an_g2, sh, z, vp_in_nI, nI_clamp, nI_leI, nI_ltI, nI_eq, nI_add, nI_1, pk_mul, an_m36, an_n36, an_b468, forall_eq, true_and, and_true, true_implies, false_implies, not_true, not_false_iff, implies_true, pk_un, pk_us, ap_wrN, ap_wrS]
  rw [show (if 2 = 0 then (1 : Int32) else nI c) = nI c from rfl, show (if 2 < 2 then (1 : Int32) else nI r) = nI r from rfl]
  have j2 : upd rw 13 (nI c) y = nI r := by rw [pk_un (by omega)]; exact h2
  have j3 : upd wd 13 (nI r) y = nI c := by rw [pk_un (by omega)]; exact h3
  refine pk_loop (fun n i a => wY_turn_39 post (nI y) n (nI i) ct lv 0 tx (upd rk 13 2) (upd rw 13 (nI c)) (upd wd 13 (nI r)) a wt fi)
    (fun i a => (∀ j, (j < 468 ∨ 504 ≤ j) → a j = dt j) ∧ ∀ p q, p < r → q < c → p * c + q < i → a (468 + (q * r + p)) = d (p * c + q)) (r * c) 0 dt (by omega) ⟨fun _ _ => rfl, fun p q _ _ h => by omega⟩ (fun n a hI => ?_) (fun n i a hi hI ih => ?_)
  · have z : r * c ≤ r * c := Nat.le_refl _
    simp (disch := omega) only [wY_turn_39, ay_sz, j2, j3, z, vp_in_nI, nI_clamp, nI_leI, nI_ltI, nI_eq, nI_add, nI_1, pk_mul, an_m36, an_n36, an_b468, forall_eq, true_and, and_true, true_implies, false_implies, not_true, not_false_iff, implies_true, pk_un, pk_us, ap_wrN, ap_wrS]
    refine hP _ _ _ _ ⟨fun _ h => ⟨pk_un h, pk_un h, pk_un h⟩, fun j h => hI.1 j (by omega)⟩ (fun _ => ⟨pk_us, pk_us, pk_us, fun j h => ?_⟩)
    have hj : j < c * r := h
    obtain ⟨r0, a1, a2, a3⟩ := ap_dvl hj
    have g := hI.2 (j % r) (j / r) a2 a1 (ap_ix a2 a1)
    rw [a3] at g
    exact g
  · have z : ¬ r * c ≤ i := by omega
    obtain ⟨c0, a1, a2, a3⟩ := ap_dvl hi
    have c1 : ¬ c = 0 := by omega
    have b2 := ap_ix a2 a1
    rw [Nat.mul_comm c r] at b2
    have g : a (y * 36 + i) = d i := by rw [hI.1 _ (by omega)]; exact h4 _ hi
    have a0 := Nat.zero_le (i / c)
    simp (disch := omega) only [wY_turn_39, ay_sz, ay_at, ay_mk, j2, j3, z, an_e0, c1, an_rm, pk_div, g, vp_in_nI, nI_clamp, nI_leI, nI_ltI, nI_eq, nI_add, nI_1, pk_mul, an_m36, an_n36, an_b468, forall_eq, true_and, and_true, true_implies, false_implies, not_true, not_false_iff, implies_true, pk_un, pk_us, ap_wrN, ap_wrS]
    refine ih _ ⟨fun j h => ?_, fun p q h1 h2 h3 => ?_⟩
    · rw [pk_un (by omega)]; exact hI.1 j h
    · by_cases e : p * c + q = i
      · have e2 : p * c + q = i / c * c + i % c := by omega
        obtain ⟨rfl, rfl⟩ := ap_uq h2 a2 e2
        rw [pk_us, a3]
      · have ne : ¬ q * r + p = i % c * r + i / c := fun z => by
          obtain ⟨rfl, rfl⟩ := ap_uq h1 a1 z
          exact e a3
        rw [pk_un (by omega)]
        exact hI.2 p q h1 h2 (by omega)
theorem ay_bk {post : SY → Prop} {y R r c o : Nat} {d : Nat → Int32} {x : Int32} {b : Int64} {F : Nat → Nat} (y1 : 14 ≤ y) (y2 : y < 50) (V : ap_VS R r c) (H : ap_Y rk rw wd dt y R r c d)
    (o1 : o ≤ 1) (hb : o = 0 → b = x.toInt64) (hF : o = 0 → ∀ k, k < c → F k = (((k : Int) + x.toInt) % c).toNat) (hF1 : o = 1 → ∀ k, k < c → F k = c - 1 - k) (hFb : ∀ k, k < c → F k < c)
    (hP : ∀ rk' rw' wd' dt', ap_F 13 rk rw wd dt rk' rw' wd' dt' → ap_Y rk' rw' wd' dt' 13 R r c (fun i => d (i - i % c + F (i % c))) → post (ct, lv, er, tx, rk', rw', wd', dt', wt, fi)) : wpY_back post (ct, lv, er, tx, rk, rw, wd, dt, wt, fi) (nI y) b (nI o) := by
  have vb := ap_vb V
  have v36 := ap_v36 V
  have flw := ap_flw V
  have f1 := ap_flb V
  have f3 := ap_wb V
  have H0 := H
  obtain ⟨h1, h2, h3, h4⟩ := H
  unfold wpY_back
  refine ay_cp y2 (b := 13) (by omega) (by omega) ?_
  rw [h1, h2, h3]
  have j1 : upd rk 13 (nI R) y = nI R := by rw [pk_un (by omega)]; exact h1
  have j2 : upd rw 13 (nI (ap_fl R r c)) y = nI (ap_fl R r c) := by rw [pk_un (by omega)]; exact h2
  have j3 : upd wd 13 (nI (ap_w R c)) y = nI (ap_w R c) := by rw [pk_un (by omega)]; exact h3
  simp (disch := omega) only [ay_rs _ y2 V j1 j2 j3]
  by_cases e0 : R = 0
  · subst e0
    obtain ⟨rfl, rfl⟩ := ap_v0 V
    have l0 : 0 ≤ 0 := Nat.le_refl 0
    have z : ¬ 1 * 1 ≤ 0 := by omega
    have cpY := ap_cpY (q := 13) v36 H0
    rw [h1, h2, h3] at cpY
    have cpF := ap_cpF (rk := rk) (rw := rw) (cl := wd) (nb := dt) (p := y) (q := 13) (x := nI 0) (y := nI (ap_fl 0 1 1)) (z := nI (ap_w 0 1))
    refine ⟨1, ?_⟩
    rw [← nI_0]
    simp (disch := omega) only [wY_back_17, ay_sz, j1, j2, j3, flw, an_l0, l0, z, vp_in_nI, nI_clamp, nI_leI, nI_ltI, nI_eq, nI_add, nI_1, pk_mul, an_m36, an_n36, an_b468, forall_eq, true_and, and_true, true_implies, false_implies, not_true, not_false_iff, implies_true, pk_un, pk_us, ap_wrN, ap_wrS]
    refine hP _ _ _ _ cpF ⟨cpY.1, cpY.2.1, cpY.2.2.1, fun i hi => ?_⟩
    have i0 : i = 0 := by omega
    subst i0
    have f0 := hFb 0 (by omega)
    rw [cpY.2.2.2 0 hi]
    show d 0 = d (0 - 0 % 1 + F (0 % 1))
    have e9 : (0 : Nat) % 1 = 0 := rfl
    rw [e9, show F 0 = 0 by omega]
  have l0 : ¬ R ≤ 0 := by omega
  refine ap_le (fun n i a => wY_back_17 post (nI y) b (nI o) (nI c) n (nI i) ct lv er tx (upd rk 13 (nI R)) (upd rw 13 (nI (ap_fl R r c))) (upd wd 13 (nI (ap_w R c))) a wt fi)
    (fun i => ap_wr (ap_cp dt y 13 36) (fun i => d (i - i % c + F (i % c))) i) (r * c) (ap_wr0 _ _) (fun n => ?_) (fun n i hi ih => ?_)
  · have z : r * c ≤ r * c := Nat.le_refl _
    simp (disch := omega) only [wY_back_17, ay_sz, j2, j3, flw, z, vp_in_nI, nI_clamp, nI_leI, nI_ltI, nI_eq, nI_add, nI_1, pk_mul, an_m36, an_n36, an_b468, forall_eq, true_and, and_true, true_implies, false_implies, not_true, not_false_iff, implies_true, pk_un, pk_us, ap_wrN, ap_wrS]
    exact hP _ _ _ _ ⟨fun _ h => ⟨pk_un h, pk_un h, pk_un h⟩, fun j h => (ap_wrN (by omega) (by omega)).trans (ap_cpN (by omega))⟩ ap_Y13
  · have z : ¬ r * c ≤ i := by omega
    obtain ⟨c0, a1, a2, a3⟩ := ap_dvl hi
    have c1 : ¬ c = 0 := by omega
    have c64 : ¬ (nI c).toInt64 = 0 := an_l0n c0 (by omega)
    have m1 : i % c ≤ i := Nat.mod_le _ _
    have fb := hFb (i % c) a2
    have bb := ap_ix a1 fb
    have b9 : i - i % c + F (i % c) < r * c := by omega
    have ix : i - i % c + F (i % c) = i - i % c + F (i % c) := rfl
    have eq := ap_wrS (ap_cp dt y 13 36) (fun i => d (i - i % c + F (i % c))) i
    have g : ap_wr (ap_cp dt y 13 36) (fun i => d (i - i % c + F (i % c))) i (y * 36 + (i - i % c + F (i % c))) = d (i - i % c + F (i % c)) := by
      rw [ap_wrN (by omega) (by omega), ap_cpN (by omega)]
      exact h4 _ b9
    by_cases eo : o = 0
    · have fk := hF eo (i % c) a2
      have bk := an_bk (k := i % c) (w := c) x c0 (by omega) (by omega) rfl rfl rfl
      rw [← fk] at bk
      have b0 := hb eo
      subst b0 eo
      simp (disch := omega) only [wY_back_17, wY_back_76, ay_sz, ay_at, ay_mk, j1, j2, j3, flw, z, an_l0, l0, an_e0, c1, c64, pk_rem, pk_sub, bk, g, vp_in_nI, nI_clamp, nI_leI, nI_ltI, nI_eq, nI_add, nI_1, pk_mul, an_m36, an_n36, an_b468, forall_eq, true_and, and_true, true_implies, false_implies, not_true, not_false_iff, implies_true, pk_un, pk_us, ap_wrN, ap_wrS]
      exact ih
    · have eo1 : o = 1 := by omega
      have fk := hF1 eo1 (i % c) a2
      subst eo1
      have e10 : ¬ (1 : Nat) = 0 := by omega
      simp (disch := omega) only [wY_back_17, wY_back_76, ay_sz, ay_at, ay_mk, j1, j2, j3, flw, z, an_l0, l0, an_e0, c1, e10, pk_rem, pk_sub, an_s1, ← fk, g, vp_in_nI, nI_clamp, nI_leI, nI_ltI, nI_eq, nI_add, nI_1, pk_mul, an_m36, an_n36, an_b468, forall_eq, true_and, and_true, true_implies, false_implies, not_true, not_false_iff, implies_true, pk_un, pk_us, ap_wrN, ap_wrS]
      exact ih
theorem ay_rev {post : SY → Prop} {y R r c : Nat} {d : Nat → Int32} (y1 : 14 ≤ y) (y2 : y < 50) (V : ap_VS R r c) (H : ap_Y rk rw wd dt y R r c d)
    (hP : ay_P post ct lv tx rk rw wd dt wt fi (ap_rev R r c d)) : wpY_back post (ct, lv, 0, tx, rk, rw, wd, dt, wt, fi) (nI y) 0 1 :=
  ay_bk (o := 1) (x := 0) (F := fun k => c - 1 - k) y1 y2 V H (by omega) (by omega) (by omega) (fun _ _ _ => rfl) (fun k h => by omega) (fun rk' rw' wd' dt' F Y => hP rk' rw' wd' dt' F (fun _ => Y))
theorem ay_rot {post : SY → Prop} {x y R r c S s t : Nat} {d e : Nat → Int32} (x1 : 14 ≤ x) (x2 : x < 50) (y1 : 14 ≤ y) (y2 : y < 50)
    (V : ap_VS R r c) (H : ap_Y rk rw wd dt x R r c d) (W : ap_VS S s t) (K : ap_Y rk rw wd dt y S s t e)
    (hP : ay_P post ct lv tx rk rw wd dt wt fi (ap_rot R d S s t e)) : (nI R = 0 → wY_applyTwo_165 post (nI x) (nI y) 0 ct lv 0 tx rk rw wd dt wt fi) ∧ (¬ nI R = 0 → wY_applyTwo_165 post (nI x) (nI y) (-13) ct lv 0 tx rk rw wd dt wt fi) := by
  obtain ⟨h1, h2, h3, h4⟩ := H
  have vb := ap_vb V
  unfold ap_rot at hP
  have md : ∀ (v : Int32) (k : Nat), k < t → (((k : Int) + v.toInt) % t).toNat < t := fun v k h => by
    have m0 := Int.emod_nonneg ((k : Int) + v.toInt) (b := t) (by omega)
    have m1 := Int.emod_lt_of_pos ((k : Int) + v.toInt) (b := t) (by omega)
    omega
  by_cases e1 : R = 0
  · rw [if_pos e1] at hP
    subst e1
    obtain ⟨rfl, rfl⟩ := ap_v0 V
    have d0 := h4 0 (by omega)
    rw [Nat.add_zero] at d0
    refine br_t nI_0 ?_
    simp (disch := omega) only [wY_applyTwo_165, ay_a0, d0]
    refine ay_bk (o := 0) (x := d 0) (F := fun k => (((k : Int) + (d 0).toInt) % t).toNat) y1 y2 W K (by omega) (fun _ => rfl) (fun _ _ _ => rfl) (by omega) (md _) (fun rk' rw' wd' dt' F Y => hP rk' rw' wd' dt' F (fun _ => ?_))
    refine ⟨Y.1, Y.2.1, Y.2.2.1, fun i hi => ?_⟩
    have hi' : i < s * t := hi
    obtain ⟨t0, a1, a2, a3⟩ := ap_dvl hi'
    rw [Y.2.2.2 i hi]
    show e (i - i % t + ((((i % t : Nat) : Int) + (d 0).toInt) % t).toNat) = e (i - i % t + (i % t + ((d 0).toInt % t).toNat) % t)
    rw [an_rt (k := i % t) (d 0).toInt t0]
  · rw [if_neg e1] at hP
    refine br_f (nI_ne0 (by omega) (by omega)) ?_
    simp (disch := omega) only [wY_applyTwo_165, ay_a0]
    exact ay_bk (o := 0) (x := dt (x * 36)) (F := fun k => (((k : Int) + (dt (x * 36)).toInt) % t).toNat) y1 y2 W K (by omega) (fun _ => rfl) (fun _ _ _ => rfl) (by omega) (md _) (fun rk' rw' wd' dt' F Y => hP rk' rw' wd' dt' F (fun z => absurd z (by decide)))
theorem ay_first {post : SY → Prop} {y R r c : Nat} {d : Nat → Int32} (y1 : 14 ≤ y) (y2 : y < 50) (V : ap_VS R r c) (H : ap_Y rk rw wd dt y R r c d)
    (hP : ay_P post ct lv tx rk rw wd dt wt fi (ap_first r c d)) : wpY_first post (ct, lv, 0, tx, rk, rw, wd, dt, wt, fi) (nI y) := by
  obtain ⟨h1, h2, h3, h4⟩ := H
  have s := ap_v36 V
  have flw := ap_flw V
  have f1 := ap_flb V
  have f3 := ap_wb V
  have q := ay_Pk (r := 1) (c := 1) (by omega) hP
  have m0 := fun (P : SY → Prop) (v : Int32) => ay_mk (ct := ct) (lv := lv) (er := 0) (tx := tx) (rk := rk) (rw := rw) (wd := wd) (dt := dt) (wt := wt) (fi := fi) P (i := 0) (by omega) v
  have sh := fun (P : SY → Prop) (dt : Nat → Int32) (a b : Int32) => ay_sh (ct := ct) (lv := lv) (er := 0) (tx := tx) (rk := rk) (rw := rw) (wd := wd) (dt := dt) (wt := wt) (fi := fi) P (R := 0) (by omega) a b
  rw [nI_0] at m0 sh
  rw [show (468 + 0 : Nat) = 468 from rfl] at m0
  by_cases e : r * c = 0
  · simp only [if_pos e, Nat.mul_one, ← ap_wr1] at q
    simp (disch := omega) only [wpY_first, wY_first_20, ay_sz, h2, h3, flw, an_e0, e, m0, sh, vp_in_nI, nI_clamp, nI_leI, nI_ltI, nI_eq, nI_add, nI_1, pk_mul, an_m36, an_n36, an_b468, forall_eq, true_and, and_true, true_implies, false_implies, not_true, not_false_iff, implies_true, pk_un, pk_us, ap_wrN, ap_wrS]
    exact q
  · simp only [if_neg e, Nat.mul_one, ← ap_wr1] at q
    have d0 := h4 0 (by omega)
    rw [Nat.add_zero] at d0
    simp (disch := omega) only [wpY_first, wY_first_20, ay_sz, ay_a0, h2, h3, flw, an_e0, e, d0, m0, sh, vp_in_nI, nI_clamp, nI_leI, nI_ltI, nI_eq, nI_add, nI_1, pk_mul, an_m36, an_n36, an_b468, forall_eq, true_and, and_true, true_implies, false_implies, not_true, not_false_iff, implies_true, pk_un, pk_us, ap_wrN, ap_wrS]
    exact q
theorem ay_ravel {post : SY → Prop} {y R r c : Nat} {d : Nat → Int32} (y1 : 14 ≤ y) (y2 : y < 50) (V : ap_VS R r c) (H : ap_Y rk rw wd dt y R r c d)
    (hP : ay_P post ct lv tx rk rw wd dt wt fi (ap_ravel r c d)) : wpY_ravel post (ct, lv, 0, tx, rk, rw, wd, dt, wt, fi) (nI y) := by
  have s := ap_v36 V
  have flw := ap_flw V
  have f1 := ap_flb V
  have f3 := ap_wb V
  obtain ⟨h1, h2, h3, h4⟩ := H
  unfold wpY_ravel
  refine ay_cp y2 (b := 13) (by omega) (by omega) ?_
  have sh := fun (P : SY → Prop) (rk rw wd dt : Nat → Int32) (a b : Int32) => ay_sh (ct := ct) (lv := lv) (er := 0) (tx := tx) (rk := rk) (rw := rw) (wd := wd) (dt := dt) (wt := wt) (fi := fi) P (R := 1) (by omega) a b
  rw [show nI 1 = 1 from rfl] at sh
  simp (disch := omega) only [ay_sz, h2, h3, flw, sh, vp_in_nI, nI_clamp, nI_leI, nI_ltI, nI_eq, nI_add, nI_1, pk_mul, an_m36, an_n36, an_b468, forall_eq, true_and, and_true, true_implies, false_implies, not_true, not_false_iff, implies_true, pk_un, pk_us, ap_wrN, ap_wrS]
  refine hP _ _ _ _ ⟨fun _ h => ⟨?_, ?_, ?_⟩, fun _ h => ap_cpN h⟩ (fun _ => ⟨pk_us, pk_us, pk_us, fun i h => ?_⟩)
  · rw [pk_un h, pk_un h]
  · rw [pk_un h, pk_un h]
  · rw [pk_un h, pk_un h]
  · have hi : i < 1 * (r * c) := h
    rw [ap_cpI (by omega)]
    exact h4 i (by omega)
theorem ay_rpL {post : SY → Prop} {J : Int32 → Int32 → Int32 → Int32 → (Nat → Int32) → (Nat → Int32) → (Nat → Int32) → (Nat → Int32) → (Nat → Int32) → (Nat → Int32) → (Nat → Int32) → Prop} {y i c : Nat} {d : Nat → Int32} (y2 : y < 50) (hi : i < c) (hc : rw y = nI c) (c36 : c ≤ 36) (hd : ∀ k, k < c → dt (y * 36 + k) = d k)
    (hp : J (nI (i + 1)) ct lv er tx rk rw wd (upd dt (468 + ap_pl d i c) (nI i)) wt fi) : ∃ n, wY_rise_48 post J (nI y) (nI i) ct lv er tx rk rw wd dt wt fi n 0 0 := by
  refine ap_le (fun n k a => wY_rise_48 post J (nI y) (nI i) ct lv er tx rk rw wd dt wt fi n (nI a) (nI k)) (fun k => ap_pl d i k) c rfl (fun n => ?_) (fun n k hk ih => ?_)
  · have z : c ≤ c := Nat.le_refl c
    have pl := (ap_plL (d := d) (i := i) c).2 hi
    simp (disch := omega) only [wY_rise_48, ay_mk, hc, z, vp_in_nI, nI_clamp, nI_leI, nI_ltI, nI_eq, nI_add, nI_1, pk_mul, an_m36, an_n36, an_b468, forall_eq, true_and, and_true, true_implies, false_implies, not_true, not_false_iff, implies_true, pk_un, pk_us, ap_wrN, ap_wrS]
    exact hp
  · have z : ¬ c ≤ k := by omega
    have z1 : ¬ (1 : Int32) = 0 := by decide
    have pl := (ap_plL (d := d) (i := i) k).1
    unfold ap_pl at ih
    simp (disch := omega) only [wY_rise_48, wY_rise_97, wY_rise_101, wY_rise_102, ay_at, hc, z, hd, z1, vp_in_nI, nI_clamp, nI_leI, nI_ltI, nI_eq, nI_add, nI_1, pk_mul, an_m36, an_n36, an_b468, forall_eq, true_and, and_true, true_implies, false_implies, not_true, not_false_iff, implies_true, pk_un, pk_us, ap_wrN, ap_wrS]
    by_cases a : d k < d i
    · rw [if_pos (Or.inl a)] at ih
      exact br_t a ih
    · refine br_f a ?_
      by_cases b : d k = d i
      · by_cases g : k < i
        · rw [if_pos (Or.inr ⟨b, g⟩)] at ih
          exact br_t b (br_f (by omega) ih)
        · rw [if_neg (fun z => z.elim a (fun z => g z.2))] at ih
          exact br_t b (br_t (by omega) ih)
      · rw [if_neg (fun z => z.elim a (fun z => b z.1))] at ih
        exact br_f b ih
theorem ay_rise {post : SY → Prop} {y R r c : Nat} {d : Nat → Int32} (y1 : 14 ≤ y) (y2 : y < 50) (V : ap_VS R r c) (H : ap_Y rk rw wd dt y R r c d)
    (hP : ay_P post ct lv tx rk rw wd dt wt fi (ap_rise R c d)) : wpY_rise post (ct, lv, 0, tx, rk, rw, wd, dt, wt, fi) (nI y) := by
  obtain ⟨h1, h2, h3, h4⟩ := H
  have vb := ap_vb V
  unfold ap_rise at hP
  by_cases e1 : R = 1
  case neg =>
    rw [if_neg e1] at hP
    have q := ay_Pe (by decide) hP
    simp (disch := omega) only [wpY_rise, h1, an_e1, e1, vp_in_nI, nI_clamp, nI_leI, nI_ltI, nI_eq, nI_add, nI_1, pk_mul, an_m36, an_n36, an_b468, forall_eq, true_and, and_true, true_implies, false_implies, not_true, not_false_iff, implies_true, pk_un, pk_us, ap_wrN, ap_wrS]
    exact q
  rw [if_pos e1] at hP
  subst e1
  have r1 := ap_v1 V (by omega)
  subst r1
  have h2' : rw y = nI c := h2
  have j2 : upd rw 13 (nI c) y = nI c := by rw [pk_un (by omega)]; exact h2
  have sh := fun (P : SY → Prop) (a b : Int32) => ay_sh (ct := ct) (lv := lv) (er := 0) (tx := tx) (rk := rk) (rw := rw) (wd := wd) (dt := dt) (wt := wt) (fi := fi) P (R := 1) (by omega) a b
  rw [show nI 1 = 1 from rfl] at sh
  simp (disch := omega) only [wpY_rise, h1, h2', an_e1, sh, vp_in_nI, nI_clamp, nI_leI, nI_ltI, nI_eq, nI_add, nI_1, pk_mul, an_m36, an_n36, an_b468, forall_eq, true_and, and_true, true_implies, false_implies, not_true, not_false_iff, implies_true, pk_un, pk_us, ap_wrN, ap_wrS]
  rw [show (if 1 = 0 then (1 : Int32) else nI c) = nI c from rfl]
  refine pk_loop (fun n i a => wY_rise_33 post (nI y) n (nI i) ct lv 0 tx (upd rk 13 1) (upd rw 13 (nI c)) (upd wd 13 (if 1 < 2 then 1 else 1)) a wt fi)
    (fun i a => (∀ j, (j < 468 ∨ 504 ≤ j) → a j = dt j) ∧ ∀ k, k < i → a (468 + ap_pl d k c) = nI k) c 0 dt (by omega) ⟨fun _ _ => rfl, fun k h => by omega⟩ (fun n a hI => ?_) (fun n i a hi hI ih => ?_)
  · have z : c ≤ c := Nat.le_refl c
    simp (disch := omega) only [wY_rise_33, j2, z, vp_in_nI, nI_clamp, nI_leI, nI_ltI, nI_eq, nI_add, nI_1, pk_mul, an_m36, an_n36, an_b468, forall_eq, true_and, and_true, true_implies, false_implies, not_true, not_false_iff, implies_true, pk_un, pk_us, ap_wrN, ap_wrS]
    refine hP _ _ _ _ ⟨fun _ h => ⟨pk_un h, pk_un h, pk_un h⟩, fun j h => hI.1 j (by omega)⟩ (fun _ => ⟨pk_us, pk_us, pk_us, fun j h => ?_⟩)
    have hj : j < 1 * c := h
    obtain ⟨i, hi, rfl⟩ := ap_riseS (d := d) (show j < c by omega)
    rw [show 13 * 36 + ap_pl d i c = 468 + ap_pl d i c from rfl, hI.2 i hi]
    dsimp only
    rw [ap_riseE hi]
  · have z : ¬ c ≤ i := by omega
    have pl := (ap_plL (d := d) (i := i) c).2 hi
    simp (disch := omega) only [wY_rise_33, j2, z, vp_in_nI, nI_clamp, nI_leI, nI_ltI, nI_eq, nI_add, nI_1, pk_mul, an_m36, an_n36, an_b468, forall_eq, true_and, and_true, true_implies, false_implies, not_true, not_false_iff, implies_true, pk_un, pk_us, ap_wrN, ap_wrS]
    refine ay_rpL (d := d) y2 hi j2 vb.2.2 (fun k hk => by rw [hI.1 _ (by omega)]; exact h4 k (by omega)) ?_
    refine ih _ ⟨fun j h => ?_, fun k hk => ?_⟩
    · rw [pk_un (by omega)]; exact hI.1 j h
    · by_cases e : k = i
      · subst e; rw [pk_us]
      · have ne : ¬ ap_pl d k c = ap_pl d i c := fun z => e (ap_plI (by omega) hi z)
        rw [pk_un (by omega)]
        exact hI.2 k (by omega)
end
end
section
/-! Y: take, drop, join, pick -/
section
variable {ct lv er : Int32} {tx rk rw wd dt wt fi : Nat → Int32}
theorem ap_lq {a : Int} {w i q r : Nat} (h0 : 0 < w) (hq : q = i / w) : (0 ≤ a * w + i ∧ a * w + i < ((r * w : Nat) : Int)) ↔ (0 ≤ a + q ∧ a + q < r) := by
  have e := Nat.div_add_mod' i w
  have m := Nat.mod_lt i h0
  rw [← hq] at e
  have e2 : ((i : Nat) : Int) = ((q * w + i % w : Nat) : Int) := by rw [e]
  rw [Int.natCast_add, Int.natCast_mul] at e2
  have e3 : a * w + i = (a + q) * w + (i % w : Nat) := by rw [e2, Int.add_mul]; omega
  rw [e3]
  have w0 : (0 : Int) < w := by omega
  generalize a + (q : Int) = b at *
  constructor
  · intro ⟨h1, h2⟩
    constructor
    · apply Classical.byContradiction
      intro n
      have : b + 1 ≤ 0 := by omega
      have := Int.mul_le_mul_of_nonneg_right this (Int.le_of_lt w0)
      rw [Int.add_mul] at this
      omega
    · apply Classical.byContradiction
      intro n
      have : (r : Int) ≤ b := by omega
      have := Int.mul_le_mul_of_nonneg_right this (Int.le_of_lt w0)
      push_cast at h2
      omega
  · intro ⟨h1, h2⟩
    have g1 := Int.mul_nonneg h1 (Int.le_of_lt w0)
    have g2 : b + 1 ≤ r := by omega
    have g3 := Int.mul_le_mul_of_nonneg_right g2 (Int.le_of_lt w0)
    rw [Int.add_mul] at g3
    push_cast
    constructor
    · omega
    · omega
theorem ap_lv {a : Int} {w i q : Nat} (h0 : 0 < w) (hq : q = i / w) (h1 : 0 ≤ a + q) : (a * w + i).toNat = (a + q).toNat * w + i % w := by
  have e := Nat.div_add_mod' i w
  rw [← hq] at e
  have e2 : ((i : Nat) : Int) = ((q * w + i % w : Nat) : Int) := by rw [e]
  rw [Int.natCast_add, Int.natCast_mul] at e2
  have e3 : a * w + i = (a + q) * w + (i % w : Nat) := by rw [e2, Int.add_mul]; omega
  rw [e3]
  obtain ⟨b, hb⟩ : ∃ b : Nat, a + q = b := ⟨(a + q).toNat, by omega⟩
  rw [hb, Int.toNat_natCast]
  have : ((b : Int) * w + (i % w : Nat)) = ((b * w + i % w : Nat) : Int) := by push_cast; rfl
  rw [this, Int.toNat_natCast]
theorem ay_lines {post : SY → Prop} {y R r c m : Nat} {d : Nat → Int32} {x : Int32} {a : Int} (y1 : 14 ≤ y) (y2 : y < 50) (V : ap_VS R r c) (H : ap_Y rk rw wd dt y R r c d)
    (hx : x.toInt = a) (a1 : -36 ≤ a) (a2 : a ≤ 36) (hm : m ≤ if R = 2 then 6 else 36)
    (hP : ay_P post ct lv tx rk rw wd dt wt fi (ap_lines a m R r c d)) : wpY_part post (ct, lv, 0, tx, rk, rw, wd, dt, wt, fi) (nI y) x (nI m) := by
  have okv := ap_linesV (a := a) (m := m) (e := d) V hm
  have ok := ap_v36 okv
  obtain ⟨h1, h2, h3, h4⟩ := H
  have vb := ap_vb V
  have v36 := ap_v36 V
  have f1 := ap_flb V
  have wW := ap_wb V
  have flw := ap_flw V
  have m36 : m ≤ 36 := by split at hm <;> omega
  have mw : m * ap_w R c ≤ 36 := by
    unfold ap_lines at ok
    unfold ap_w
    dsimp only at ok
    by_cases e : R = 2
    · simp only [if_pos e] at ok ⊢; exact ok
    · simp only [if_neg e] at ok ⊢; omega
  have q := ay_Pk ok hP
  have L : ∀ rk' rw' wd' : Nat → Int32, rw' y = nI (ap_fl R r c) → post (ct, lv, 0, tx, rk', rw', wd', ap_wr dt (fun i => if 0 ≤ a * ap_w R c + i ∧ a * ap_w R c + i < (r * c : Nat) then d (a * ap_w R c + i).toNat else 0) (m * ap_w R c), wt, fi) →
      ∃ n, wY_part_49 post (nI y) x (nI m) (nI (ap_w R c)) n 0 ct lv 0 tx rk' rw' wd' dt wt fi := by
    intro rk' rw' wd' j2 p
    generalize hG : (fun i : Nat => if 0 ≤ a * ap_w R c + i ∧ a * ap_w R c + i < (r * c : Nat) then d (a * ap_w R c + i).toNat else (0 : Int32)) = G at *
    refine ap_le (fun n i b => wY_part_49 post (nI y) x (nI m) (nI (ap_w R c)) n (nI i) ct lv 0 tx rk' rw' wd' b wt fi)
      (fun i => ap_wr dt G i) (m * ap_w R c) (ap_wr0 _ _) (fun n => ?_) (fun n i hi ih => ?_)
    · have z : m * ap_w R c ≤ m * ap_w R c := Nat.le_refl _
      simp (disch := omega) only [wY_part_49, z, vp_in_nI, nI_clamp, nI_leI, nI_ltI, nI_eq, nI_add, nI_1, pk_mul, an_m36, an_n36, an_b468, forall_eq, true_and, and_true, true_implies, false_implies, not_true, not_false_iff, implies_true, pk_un, pk_us, ap_wrN, ap_wrS]
      exact p
    · have z : ¬ m * ap_w R c ≤ i := by omega
      obtain ⟨c0, b1, b2, b3⟩ := ap_dvl hi
      have c1 : ¬ ap_w R c = 0 := by omega
      have b0 := Nat.zero_le (i / ap_w R c)
      have e0 := an_ad (i := i / ap_w R c) hx (by omega) (by omega) (by omega)
      have lq := ap_lq (a := a) (r := ap_fl R r c) c0 rfl (i := i)
      rw [flw] at lq
      by_cases g : 0 ≤ a + (i / ap_w R c : Nat) ∧ a + (i / ap_w R c : Nat) < ap_fl R r c
      · have e1 := an_nn e0 g.1
        have lv' := ap_lv (a := a) c0 rfl (i := i) g.1
        have bd := lq.mpr g
        have g1 : ¬ nI (a + (i / ap_w R c : Nat)).toNat < 0 := nI_pos (by omega)
        have g2 : ¬ ap_fl R r c ≤ (a + (i / ap_w R c : Nat)).toNat := by omega
        have g3 : (a + (i / ap_w R c : Nat)).toNat * ap_w R c + i % ap_w R c < r * c := by omega
        have g4 := Nat.zero_le ((a + (i / ap_w R c : Nat)).toNat * ap_w R c)
        have eq : d ((a + (i / ap_w R c : Nat)).toNat * ap_w R c + i % ap_w R c) = G i := by rw [← hG, ← lv']; exact (if_pos bd).symm
        simp (disch := omega) only [wY_part_49, wY_part_106, z, an_e0, c1, pk_div, an_rm, e1, g1, g2, j2, ay_at, ay_mk, h4, vp_in_nI, nI_clamp, nI_leI, nI_ltI, nI_eq, nI_add, nI_1, pk_mul, an_m36, an_n36, an_b468, forall_eq, true_and, and_true, true_implies, false_implies, not_true, not_false_iff, implies_true, pk_un, pk_us, ap_wrN, ap_wrS]
        rw [ap_wrE eq]
        exact ih
      · have eq : (0 : Int32) = G i := by rw [← hG]; exact (if_neg (fun z => g (lq.mp z))).symm
        by_cases g1 : a + (i / ap_w R c : Nat) < 0
        · have g3 : x + nI (i / ap_w R c) < 0 := by rw [an_lt0, e0]; exact g1
          simp (disch := omega) only [wY_part_49, wY_part_105, wY_part_106, z, an_e0, c1, pk_div, g3, ay_mk, vp_in_nI, nI_clamp, nI_leI, nI_ltI, nI_eq, nI_add, nI_1, pk_mul, an_m36, an_n36, an_b468, forall_eq, true_and, and_true, true_implies, false_implies, not_true, not_false_iff, implies_true, pk_un, pk_us, ap_wrN, ap_wrS]
          rw [ap_wrE eq]
          exact ih
        · have g3 : ¬ x + nI (i / ap_w R c) < 0 := by rw [an_lt0, e0]; exact g1
          have g4 : nI (ap_fl R r c) ≤ x + nI (i / ap_w R c) := by rw [an_nle (by omega), e0]; omega
          simp (disch := omega) only [wY_part_49, wY_part_105, wY_part_106, z, an_e0, c1, pk_div, g3, g4, j2, ay_mk, vp_in_nI, nI_clamp, nI_leI, nI_ltI, nI_eq, nI_add, nI_1, pk_mul, an_m36, an_n36, an_b468, forall_eq, true_and, and_true, true_implies, false_implies, not_true, not_false_iff, implies_true, pk_un, pk_us, ap_wrN, ap_wrS]
          rw [ap_wrE eq]
          exact ih
  by_cases e : R = 2
  · subst e
    have q := ay_Pk (R := 2) (r := m) (c := c) mw hP
    have sh := fun (P : SY → Prop) (a b : Int32) => ay_sh (ct := ct) (lv := lv) (er := 0) (tx := tx) (rk := rk) (rw := rw) (wd := wd) (dt := dt) (wt := wt) (fi := fi) P (R := 2) (by omega) a b
    rw [show nI 2 = 2 from rfl] at sh
    have t1 : nI (ap_fl 2 m c) = (if 2 = 0 then 1 else nI m) := rfl
    have t2 : nI (ap_w 2 c) = (if 2 < 2 then 1 else nI (ap_w 2 c)) := rfl
    have t3 : m * c = m * ap_w 2 c := rfl
    have t4 : nI 2 = 2 := rfl
    rw [t1, t3] at q
    have l := L (upd rk 13 2) (upd rw 13 (if 2 = 0 then 1 else nI m)) (upd wd 13 (nI (ap_w 2 c))) (by rw [pk_un (by omega)]; exact h2) q
    simp (disch := omega) only [wpY_part, wY_part_20, wY_part_40, h1, h3, an_e2, sh, vp_in_nI, nI_clamp, nI_leI, nI_ltI, nI_eq, nI_add, nI_1, pk_mul, an_m36, an_n36, an_b468, forall_eq, true_and, and_true, true_implies, false_implies, not_true, not_false_iff, implies_true, pk_un, pk_us, ap_wrN, ap_wrS]
    exact l
  · have sh := fun (P : SY → Prop) (a b : Int32) => ay_sh (ct := ct) (lv := lv) (er := 0) (tx := tx) (rk := rk) (rw := rw) (wd := wd) (dt := dt) (wt := wt) (fi := fi) P (R := 1) (by omega) a b
    rw [show nI 1 = 1 from rfl] at sh
    have w : ap_w R c = 1 := if_neg e
    unfold ap_lines at hP
    simp only [if_neg e] at hP
    have q := ay_Pk (R := 1) (r := 1) (c := m) (by omega) hP
    rw [w, Nat.one_mul] at q
    rw [w, Nat.mul_one] at L
    have l := L (upd rk 13 (nI 1)) (upd rw 13 (nI (ap_fl 1 1 m))) (upd wd 13 (nI (ap_w 1 m))) (by rw [pk_un (by omega)]; exact h2) q
    simp (disch := omega) only [wpY_part, wY_part_20, wY_part_40, h1, an_e2, e, sh, vp_in_nI, nI_clamp, nI_leI, nI_ltI, nI_eq, nI_add, nI_1, pk_mul, an_m36, an_n36, an_b468, forall_eq, true_and, and_true, true_implies, false_implies, not_true, not_false_iff, implies_true, pk_un, pk_us, ap_wrN, ap_wrS]
    exact l
theorem ay_take {post : SY → Prop} {x y R r c S s t : Nat} {d e : Nat → Int32} (x1 : 14 ≤ x) (x2 : x < 50) (y1 : 14 ≤ y) (y2 : y < 50)
    (V : ap_VS R r c) (H : ap_Y rk rw wd dt x R r c d) (W : ap_VS S s t) (K : ap_Y rk rw wd dt y S s t e)
    (hP : ay_P post ct lv tx rk rw wd dt wt fi (ap_take R d S s t e)) : wpY_take post (ct, lv, 0, tx, rk, rw, wd, dt, wt, fi) (nI x) (nI y) := by
  obtain ⟨h1, h2, h3, h4⟩ := H
  have K0 := K
  obtain ⟨k1, k2, k3, k4⟩ := K
  have vb := ap_vb V
  have wb := ap_vb W
  have flb := ap_flb W
  unfold ap_take at hP
  by_cases e1 : R = 0
  case neg =>
    rw [if_neg e1] at hP
    have q := ay_Pe (by decide) hP
    by_cases e2 : S = 2
    · simp (disch := omega) only [wpY_take, wY_take_17, wY_take_48, ay_a0, h1, k1, an_e0, an_e2, e1, e2, vp_in_nI, nI_clamp, nI_leI, nI_ltI, nI_eq, nI_add, nI_1, pk_mul, an_m36, an_n36, an_b468, forall_eq, true_and, and_true, true_implies, false_implies, not_true, not_false_iff, implies_true, pk_un, pk_us, ap_wrN, ap_wrS]
      exact q
    · simp (disch := omega) only [wpY_take, wY_take_17, wY_take_48, ay_a0, h1, k1, an_e0, an_e2, e1, e2, vp_in_nI, nI_clamp, nI_leI, nI_ltI, nI_eq, nI_add, nI_1, pk_mul, an_m36, an_n36, an_b468, forall_eq, true_and, and_true, true_implies, false_implies, not_true, not_false_iff, implies_true, pk_un, pk_us, ap_wrN, ap_wrS]
      exact q
  rw [if_pos e1] at hP
  subst e1
  obtain ⟨rfl, rfl⟩ := ap_v0 V
  have d0 := h4 0 (by omega)
  rw [Nat.add_zero] at d0
  generalize hv : (d 0).toInt = v at *
  have M : ∀ b : Nat, b ≤ 36 → (b = if S = 2 then 6 else 36) → ay_P post ct lv tx rk rw wd dt wt fi (if v < -(b : Int) ∨ (b : Int) < v then ap_er (-15) else ap_lines (if v < 0 then ap_fl S s t + v else 0) v.natAbs S s t e) →
      wY_take_17 post (nI x) (nI y) (nI b) ct lv 0 tx rk rw wd dt wt fi := by
    intro b b36 hb hp
    have neg : (-nI b).toInt = -(b : Int) := an_nm (by omega)
    simp (disch := omega) only [wY_take_17, ay_a0, d0, h1, an_e0, vp_in_nI, nI_clamp, nI_leI, nI_ltI, nI_eq, nI_add, nI_1, pk_mul, an_m36, an_n36, an_b468, forall_eq, true_and, and_true, true_implies, false_implies, not_true, not_false_iff, implies_true, pk_un, pk_us, ap_wrN, ap_wrS]
    by_cases g1 : v < -(b : Int)
    · rw [if_pos (Or.inl g1)] at hp
      have q := ay_Pe (by decide) hp
      refine br_t (by rw [Int32.lt_iff_toInt_lt, hv, neg]; exact g1) ?_
      simp (disch := omega) only [wY_take_48, h1, an_e0, vp_in_nI, nI_clamp, nI_leI, nI_ltI, nI_eq, nI_add, nI_1, pk_mul, an_m36, an_n36, an_b468, forall_eq, true_and, and_true, true_implies, false_implies, not_true, not_false_iff, implies_true, pk_un, pk_us, ap_wrN, ap_wrS]
      exact q
    refine br_f (by rw [Int32.lt_iff_toInt_lt, hv, neg]; exact g1) ?_
    by_cases g2 : (b : Int) < v
    · rw [if_pos (Or.inr g2)] at hp
      have q := ay_Pe (by decide) hp
      refine br_f (by rw [an_len (by omega), hv]; omega) ?_
      simp (disch := omega) only [wY_take_48, h1, an_e0, vp_in_nI, nI_clamp, nI_leI, nI_ltI, nI_eq, nI_add, nI_1, pk_mul, an_m36, an_n36, an_b468, forall_eq, true_and, and_true, true_implies, false_implies, not_true, not_false_iff, implies_true, pk_un, pk_us, ap_wrN, ap_wrS]
      exact q
    refine br_t (by rw [an_len (by omega), hv]; omega) ?_
    rw [if_neg (by omega)] at hp
    have mb : v.natAbs ≤ if S = 2 then 6 else 36 := by rw [← hb]; omega
    by_cases g3 : v < 0
    · rw [if_pos g3] at hp
      refine br_f (by rw [an_0le, hv]; omega) ?_
      have e2 : (-(d 0)).toInt = -v := an_ng hv (by omega)
      have e3 : -(d 0) = nI v.natAbs := by
        have := an_nn e2 (by omega)
        rw [this]
        exact congrArg nI (by omega)
      simp (disch := omega) only [k2]
      unfold wY_take_91
      refine br_f (by rw [an_0le, hv]; omega) ?_
      rw [e3]
      unfold wY_take_104
      refine ay_lines (a := ap_fl S s t + v) y1 y2 W K0 ?_ (by omega) (by omega) mb hp
      rw [an_da hv (by omega) (by omega) (by omega)]
    · rw [if_neg g3] at hp
      refine br_t (by rw [an_0le, hv]; omega) ?_
      have e3 : d 0 = nI v.natAbs := by
        rw [an_nn hv (by omega)]
        exact congrArg nI (by omega)
      unfold wY_take_91
      refine br_t (by rw [an_0le, hv]; omega) ?_
      rw [e3]
      unfold wY_take_104
      exact ay_lines (a := 0) y1 y2 W K0 (by decide) (by omega) (by omega) mb hp
  by_cases e2 : S = 2
  · have l := M 6 (by omega) (by rw [if_pos e2]) (by simp only [if_pos e2] at hP; exact hP)
    simp (disch := omega) only [wpY_take, k1, an_e2, e2, vp_in_nI, nI_clamp, nI_leI, nI_ltI, nI_eq, nI_add, nI_1, pk_mul, an_m36, an_n36, an_b468, forall_eq, true_and, and_true, true_implies, false_implies, not_true, not_false_iff, implies_true, pk_un, pk_us, ap_wrN, ap_wrS]
    exact l
  · have l := M 36 (by omega) (by rw [if_neg e2]) (by simp only [if_neg e2] at hP; exact hP)
    simp (disch := omega) only [wpY_take, k1, an_e2, e2, vp_in_nI, nI_clamp, nI_leI, nI_ltI, nI_eq, nI_add, nI_1, pk_mul, an_m36, an_n36, an_b468, forall_eq, true_and, and_true, true_implies, false_implies, not_true, not_false_iff, implies_true, pk_un, pk_us, ap_wrN, ap_wrS]
    exact l
theorem ay_drop {post : SY → Prop} {x y R r c S s t : Nat} {d e : Nat → Int32} (x1 : 14 ≤ x) (x2 : x < 50) (y1 : 14 ≤ y) (y2 : y < 50)
    (V : ap_VS R r c) (H : ap_Y rk rw wd dt x R r c d) (W : ap_VS S s t) (K : ap_Y rk rw wd dt y S s t e)
    (hP : ay_P post ct lv tx rk rw wd dt wt fi (ap_drop R d S s t e)) : wpY_drop post (ct, lv, 0, tx, rk, rw, wd, dt, wt, fi) (nI x) (nI y) := by
  obtain ⟨h1, h2, h3, h4⟩ := H
  have K0 := K
  obtain ⟨k1, k2, k3, k4⟩ := K
  have vb := ap_vb V
  have wb := ap_vb W
  have flb2 := ap_flb W
  have flb : ap_fl S s t ≤ if S = 2 then 6 else 36 := by unfold ap_fl ap_VS at *; split <;> omega
  unfold ap_drop at hP
  by_cases e1 : R = 0
  case neg =>
    rw [if_neg e1] at hP
    have q := ay_Pe (by decide) hP
    simp (disch := omega) only [wpY_drop, h1, an_e0, e1, vp_in_nI, nI_clamp, nI_leI, nI_ltI, nI_eq, nI_add, nI_1, pk_mul, an_m36, an_n36, an_b468, forall_eq, true_and, and_true, true_implies, false_implies, not_true, not_false_iff, implies_true, pk_un, pk_us, ap_wrN, ap_wrS]
    exact q
  rw [if_pos e1] at hP
  subst e1
  obtain ⟨rfl, rfl⟩ := ap_v0 V
  have d0 := h4 0 (by omega)
  rw [Nat.add_zero] at d0
  have vl := (d 0).le_toInt
  have vu := (d 0).toInt_lt
  have v64 : (d 0).toInt64.toInt = (d 0).toInt := Jvm.Kit.i64_of_i32 _
  generalize hv : (d 0).toInt = v at *
  generalize hF : ap_fl S s t = F at *
  have le0 : (0 ≤ (d 0).toInt64) = (0 ≤ v) := by rw [Int64.le_iff_toInt_le, v64]; rfl
  have lF : (nI F).toInt64.toInt = F := by rw [Jvm.Kit.i64_of_i32, nI_toInt (by omega)]
  have N : ∀ z : Int64, z.toInt = (v.natAbs : Int) → wY_drop_36 post (nI y) (d 0).toInt64 z ct lv 0 tx rk rw wd dt wt fi := by
    intro z hz
    have fin : wY_drop_65 post (nI y) (d 0).toInt64 (nI (F - v.natAbs)) ct lv 0 tx rk rw wd dt wt fi := by
      unfold wY_drop_65
      by_cases g : 0 ≤ v
      · refine br_t (by rw [le0]; exact g) ?_
        rw [if_neg (by omega)] at hP
        have e3 : nI F - nI (F - v.natAbs) = nI (F - (F - v.natAbs)) := pk_sub (by omega)
        simp (disch := omega) only [k2, hF, e3, vp_in_nI, nI_clamp, true_and]
        unfold wY_drop_88
        exact ay_lines (a := ((F - (F - v.natAbs) : Nat) : Int)) y1 y2 W K0 (nI_toInt (by omega)) (by omega) (by omega) (by omega) hP
      · refine br_f (by rw [le0]; exact g) ?_
        rw [if_pos (by omega)] at hP
        unfold wY_drop_88
        exact ay_lines (a := 0) y1 y2 W K0 (by decide) (by omega) (by omega) (by omega) hP
    simp (disch := omega) only [wY_drop_36, k2, hF, vp_in_nI, nI_clamp, true_and]
    by_cases g : v.natAbs ≤ F
    · refine br_t (by rw [Int64.le_iff_toInt_le, hz, lF]; omega) ?_
      have e4 : z.toInt32 = nI v.natAbs := by
        apply Int32.toInt_inj.mp
        rw [Jvm.Kit.i32_of_i64 (by omega) (by omega), hz, nI_toInt (by omega)]
      rw [e4, pk_sub g]
      exact fin
    · refine br_f (by rw [Int64.le_iff_toInt_le, hz, lF]; omega) ?_
      rw [show F - v.natAbs = 0 by omega] at fin
      exact fin
  simp (disch := omega) only [wpY_drop, h1, an_e0, ay_a0, d0, vp_in_nI, nI_clamp, nI_leI, nI_ltI, nI_eq, nI_add, nI_1, pk_mul, an_m36, an_n36, an_b468, forall_eq, true_and, and_true, true_implies, false_implies, not_true, not_false_iff, implies_true, pk_un, pk_us, ap_wrN, ap_wrS]
  by_cases g : 0 ≤ v
  · exact br_t (by rw [le0]; exact g) (N _ (by rw [v64]; omega))
  · refine br_f (by rw [le0]; exact g) (N _ ?_)
    rw [Jvm.Kit.i64_neg (by rw [v64]; omega), v64]
    omega
end
end
section
/-! Y: join, pick -/
section
variable {ct lv er : Int32} {tx rk rw wd dt wt fi : Nat → Int32}
theorem ay_join {post : SY → Prop} {x y R r c S s t : Nat} {d e : Nat → Int32} (x1 : 14 ≤ x) (x2 : x < 50) (y1 : 14 ≤ y) (y2 : y < 50)
    (V : ap_VS R r c) (H : ap_Y rk rw wd dt x R r c d) (W : ap_VS S s t) (K : ap_Y rk rw wd dt y S s t e)
    (hP : ay_P post ct lv tx rk rw wd dt wt fi (ap_join R r c d S s t e)) : wpY_join post (ct, lv, 0, tx, rk, rw, wd, dt, wt, fi) (nI x) (nI y) := by
  have ok := ap_joinV (d := d) (S := S) (s := s) (t := t) (e := e) V
  obtain ⟨h1, h2, h3, h4⟩ := H
  obtain ⟨k1, k2, k3, k4⟩ := K
  have vb := ap_vb V
  have wb := ap_vb W
  have v36 := ap_v36 V
  have w36 := ap_v36 W
  have f1 := ap_flb V
  have f2 := ap_flb W
  have z21 : ¬ (2 : Int32) = 1 := by decide
  have z12 : ¬ (1 : Int32) = 2 := by decide
  unfold ap_join at hP ok
  by_cases e1 : (R = 2 ∧ S ≠ 2) ∨ (R ≠ 2 ∧ S = 2)
  · rw [if_pos e1] at hP
    have q := ay_Pe (by decide) hP
    by_cases a1 : R = 2
    · have a2 : ¬ S = 2 := by omega
      simp (disch := omega) only [wpY_join, wY_join_15, wY_join_31, wY_join_59, h1, k1, an_e2, a1, a2, z21, vp_in_nI, nI_clamp, nI_leI, nI_ltI, nI_eq, nI_add, nI_1, pk_mul, an_m36, an_n36, an_b468, forall_eq, true_and, and_true, true_implies, false_implies, not_true, not_false_iff, implies_true, pk_un, pk_us, ap_wrN, ap_wrS]
      exact q
    · have a2 : S = 2 := by omega
      simp (disch := omega) only [wpY_join, wY_join_15, wY_join_31, wY_join_59, h1, k1, an_e2, a1, a2, z12, vp_in_nI, nI_clamp, nI_leI, nI_ltI, nI_eq, nI_add, nI_1, pk_mul, an_m36, an_n36, an_b468, forall_eq, true_and, and_true, true_implies, false_implies, not_true, not_false_iff, implies_true, pk_un, pk_us, ap_wrN, ap_wrS]
      exact q
  rw [if_neg e1] at hP ok
  have core : ∀ C : Nat, r = s → ap_VS C r (c + t) → (C = 2 ↔ R = 2) → ay_P post ct lv tx rk rw wd dt wt fi (0, C, r, c + t, fun i => if i % (c + t) < c then d (i / (c + t) * c + i % (c + t)) else e (i / (c + t) * t + (i % (c + t) - c))) →
      wY_join_138 post (nI x) (nI y) (nI c) (nI (c + t)) (nI (ap_fl C r (c + t))) (nI C) 13 ct lv 0 tx rk rw wd dt wt fi := by
    intro C rs vs hC hp
    subst rs
    have ok36 := ap_v36 vs
    have flx := ap_flw vs
    have g1 := ap_flb vs
    have g2 := ap_wb vs
    have cb := ap_vb vs
    have q := ay_Pk ok36 hp
    have e1 : (if C = 0 then (1 : Int32) else nI (ap_fl C r (c + t))) = nI (ap_fl C r (c + t)) := by
      by_cases z : C = 0
      · subst z
        have := ap_v0 vs
        rw [if_pos rfl]
        show 1 = nI (c + t)
        rw [this.2]
        rfl
      · rw [if_neg z]
    have e2 : (if C < 2 then (1 : Int32) else nI (c + t)) = nI (ap_w C (c + t)) := by
      unfold ap_w
      by_cases z : C < 2
      · rw [if_pos z, if_neg (by omega)]; rfl
      · rw [if_neg z, if_pos (by omega)]
    unfold wY_join_138
    rw [ay_sh _ (by omega), e1, e2]
    generalize hG : (fun i : Nat => if i % (c + t) < c then d (i / (c + t) * c + i % (c + t)) else e (i / (c + t) * t + (i % (c + t) - c))) = G at *
    refine ap_le (fun n i a => wY_join_146 post (nI x) (nI y) (nI c) (nI (c + t)) n (nI i) ct lv 0 tx (upd rk 13 (nI C)) (upd rw 13 (nI (ap_fl C r (c + t)))) (upd wd 13 (nI (ap_w C (c + t)))) a wt fi)
      (fun i => ap_wr dt G i) (r * (c + t)) (ap_wr0 _ _) (fun n => ?_) (fun n i hi ih => ?_)
    · have z : r * (c + t) ≤ r * (c + t) := Nat.le_refl _
      simp (disch := omega) only [wY_join_146, ay_s13, flx, z, vp_in_nI, nI_clamp, nI_leI, nI_ltI, nI_eq, nI_add, nI_1, pk_mul, an_m36, an_n36, an_b468, forall_eq, true_and, and_true, true_implies, false_implies, not_true, not_false_iff, implies_true, pk_un, pk_us, ap_wrN, ap_wrS]
      exact q
    · have z : ¬ r * (c + t) ≤ i := by omega
      obtain ⟨w0, a1, a2, a3⟩ := ap_dvl hi
      have w1 : ¬ c + t = 0 := by omega
      have b0 := Nat.zero_le (i / (c + t))
      have sub : nI (c + t) - nI c = nI t := by rw [pk_sub (by omega)]; exact congrArg nI (by omega)
      generalize hq : i / (c + t) = q0 at *
      generalize hm : i % (c + t) = m0 at *
      have dv : nI i / nI (c + t) = nI q0 := by rw [pk_div (by omega) w0 (by omega), hq]
      have md : nI i - nI (q0 * (c + t)) = nI m0 := by rw [← hq, an_rm, hm]
      have b1 : q0 * c + c ≤ r * c := by
        have := Nat.mul_le_mul_right c (show q0 + 1 ≤ r from a1)
        rw [Nat.succ_mul] at this
        exact this
      have b2 : q0 * t + t ≤ r * t := by
        have := Nat.mul_le_mul_right t (show q0 + 1 ≤ r from a1)
        rw [Nat.succ_mul] at this
        exact this
      by_cases g : m0 < c
      · have g3 : ¬ c ≤ m0 := by omega
        have eq : d (q0 * c + m0) = G i := by
          rw [← hG]
          show _ = if i % (c + t) < c then d (i / (c + t) * c + i % (c + t)) else e (i / (c + t) * t + (i % (c + t) - c))
          rw [hq, hm, if_pos g]
        simp (disch := omega) only [wY_join_146, wY_join_216, ay_s13, ay_at, ay_mk, flx, z, an_e0, w1, dv, md, g3, h4, vp_in_nI, nI_clamp, nI_leI, nI_ltI, nI_eq, nI_add, nI_1, pk_mul, an_m36, an_n36, an_b468, forall_eq, true_and, and_true, true_implies, false_implies, not_true, not_false_iff, implies_true, pk_un, pk_us, ap_wrN, ap_wrS]
        rw [ap_wrE eq]
        exact ih
      · have g3 : c ≤ m0 := by omega
        have eq : e (q0 * t + (m0 - c)) = G i := by
          rw [← hG]
          show _ = if i % (c + t) < c then d (i / (c + t) * c + i % (c + t)) else e (i / (c + t) * t + (i % (c + t) - c))
          rw [hq, hm, if_neg g]
        have ix : q0 * t + m0 - c = q0 * t + (m0 - c) := by omega
        simp (disch := omega) only [wY_join_146, wY_join_216, ay_s13, ay_at, ay_mk, flx, z, an_e0, w1, dv, md, sub, pk_sub, ix, g3, k4, vp_in_nI, nI_clamp, nI_leI, nI_ltI, nI_eq, nI_add, nI_1, pk_mul, an_m36, an_n36, an_b468, forall_eq, true_and, and_true, true_implies, false_implies, not_true, not_false_iff, implies_true, pk_un, pk_us, ap_wrN, ap_wrS]
        rw [ap_wrE eq]
        exact ih
  by_cases e2 : r = s
  case neg =>
    rw [if_pos e2] at hP
    have q := ay_Pe (by decide) hP
    by_cases a1 : R = 2
    · have a2 : S = 2 := by omega
      subst a1 a2
      have h2' : rw x = nI r := h2
      have k2' : rw y = nI s := k2
      simp (disch := omega) only [wpY_join, wY_join_15, wY_join_31, wY_join_59, h1, h2', k1, k2', an_e2, e2, vp_in_nI, nI_clamp, nI_leI, nI_ltI, nI_eq, nI_add, nI_1, pk_mul, an_m36, an_n36, an_b468, forall_eq, true_and, and_true, true_implies, false_implies, not_true, not_false_iff, implies_true, pk_un, pk_us, ap_wrN, ap_wrS]
      exact q
    · exact absurd ((ap_v1 V a1).trans (ap_v1 W (by omega)).symm) e2
  rw [if_neg (fun z => z e2)] at hP ok
  by_cases a1 : R = 2
  · have a2 : S = 2 := by omega
    subst a1 a2
    have h2' : rw x = nI r := h2
    have k2' : rw y = nI s := k2
    simp only [if_true] at hP ok
    have rs1 := fun (P : Int32 → Prop) => ay_rs (ct := ct) (lv := lv) (er := 0) (tx := tx) (dt := dt) (wt := wt) (fi := fi) P x2 V h1 h2 h3
    have rs2 := fun (P : Int32 → Prop) => ay_rs (ct := ct) (lv := lv) (er := 0) (tx := tx) (dt := dt) (wt := wt) (fi := fi) P y2 W k1 k2 k3
    by_cases g : 6 < c + t
    · rw [if_pos g] at hP
      have q := ay_Pe (by decide) hP
      have g2 : ¬ c + t ≤ 6 := by omega
      simp (disch := omega) only [wpY_join, wY_join_15, wY_join_31, wY_join_77, wY_join_108, rs1, rs2, h1, h2', k1, k2', an_e2, an_l6, e2, g2, vp_in_nI, nI_clamp, nI_leI, nI_ltI, nI_eq, nI_add, nI_1, pk_mul, an_m36, an_n36, an_b468, forall_eq, true_and, and_true, true_implies, false_implies, not_true, not_false_iff, implies_true, pk_un, pk_us, ap_wrN, ap_wrS]
      exact q
    · rw [if_neg g] at hP ok
      have g2 : c + t ≤ 6 := by omega
      have l := core 2 e2 ok (by omega) hP
      simp (disch := omega) only [wpY_join, wY_join_15, wY_join_31, wY_join_77, wY_join_108, rs1, rs2, h1, h2', k1, k2', an_e2, an_l6, e2, g2, vp_in_nI, nI_clamp, nI_leI, nI_ltI, nI_eq, nI_add, nI_1, pk_mul, an_m36, an_n36, an_b468, forall_eq, true_and, and_true, true_implies, false_implies, not_true, not_false_iff, implies_true, pk_un, pk_us, ap_wrN, ap_wrS]
      rw [e2] at l
      exact l
  · have a2 : ¬ S = 2 := by omega
    simp only [if_neg a1] at hP ok
    have rs1 := fun (P : Int32 → Prop) => ay_rs (ct := ct) (lv := lv) (er := 0) (tx := tx) (dt := dt) (wt := wt) (fi := fi) P x2 V h1 h2 h3
    have rs2 := fun (P : Int32 → Prop) => ay_rs (ct := ct) (lv := lv) (er := 0) (tx := tx) (dt := dt) (wt := wt) (fi := fi) P y2 W k1 k2 k3
    by_cases g : 36 < c + t
    · rw [if_pos g] at hP
      have q := ay_Pe (by decide) hP
      have g2 : ¬ c + t ≤ 36 := by omega
      simp (disch := omega) only [wpY_join, wY_join_15, wY_join_31, wY_join_77, wY_join_108, rs1, rs2, h1, k1, an_e2, an_l36, a1, a2, z12, g2, vp_in_nI, nI_clamp, nI_leI, nI_ltI, nI_eq, nI_add, nI_1, pk_mul, an_m36, an_n36, an_b468, forall_eq, true_and, and_true, true_implies, false_implies, not_true, not_false_iff, implies_true, pk_un, pk_us, ap_wrN, ap_wrS]
      exact q
    · rw [if_neg g] at hP ok
      have g2 : c + t ≤ 36 := by omega
      have l := core 1 e2 ok (by omega) hP
      simp (disch := omega) only [wpY_join, wY_join_15, wY_join_31, wY_join_77, wY_join_108, rs1, rs2, h1, k1, an_e2, an_l36, a1, a2, z12, g2, vp_in_nI, nI_clamp, nI_leI, nI_ltI, nI_eq, nI_add, nI_1, pk_mul, an_m36, an_n36, an_b468, forall_eq, true_and, and_true, true_implies, false_implies, not_true, not_false_iff, implies_true, pk_un, pk_us, ap_wrN, ap_wrS]
      exact l
theorem ay_pick {post : SY → Prop} {x y R r c S s t : Nat} {d e : Nat → Int32} (x1 : 14 ≤ x) (x2 : x < 50) (y1 : 14 ≤ y) (y2 : y < 50)
    (V : ap_VS R r c) (H : ap_Y rk rw wd dt x R r c d) (W : ap_VS S s t) (K : ap_Y rk rw wd dt y S s t e)
    (hP : ay_P post ct lv tx rk rw wd dt wt fi (ap_pick R c d S s t e)) : wpY_pick post (ct, lv, 0, tx, rk, rw, wd, dt, wt, fi) (nI x) (nI y) := by
  have ok := ap_pickV (d := d) (e := e) V W
  obtain ⟨h1, h2, h3, h4⟩ := H
  obtain ⟨k1, k2, k3, k4⟩ := K
  have vb := ap_vb V
  have wb := ap_vb W
  have v36 := ap_v36 V
  have w36 := ap_v36 W
  have flb := ap_flb W
  have wW := ap_wb W
  unfold ap_pick at hP ok
  by_cases e1 : R = 2
  · rw [if_pos (Or.inl e1)] at hP
    have q := ay_Pe (by decide) hP
    simp (disch := omega) only [wpY_pick, h1, an_e2, e1, vp_in_nI, nI_clamp, nI_leI, nI_ltI, nI_eq, nI_add, nI_1, pk_mul, an_m36, an_n36, an_b468, forall_eq, true_and, and_true, true_implies, false_implies, not_true, not_false_iff, implies_true, pk_un, pk_us, ap_wrN, ap_wrS]
    exact q
  by_cases e2 : S = 0
  · rw [if_pos (Or.inr e2)] at hP
    have q := ay_Pe (by decide) hP
    simp (disch := omega) only [wpY_pick, h1, k1, an_e2, an_e0, e1, e2, vp_in_nI, nI_clamp, nI_leI, nI_ltI, nI_eq, nI_add, nI_1, pk_mul, an_m36, an_n36, an_b468, forall_eq, true_and, and_true, true_implies, false_implies, not_true, not_false_iff, implies_true, pk_un, pk_us, ap_wrN, ap_wrS]
    exact q
  rw [if_neg (by omega)] at hP ok
  have r1 := ap_v1 V e1
  subst r1
  have fx : ap_fl R 1 c = c := if_neg e1
  rw [fx] at h2
  have st : ∀ n i, i < c → ((¬ d i < 0 ∧ d i < nI (ap_fl S s t)) → wY_pick_28 post (nI x) (nI y) ct lv 0 tx rk rw wd dt wt fi n (nI (i + 1))) → (¬ (¬ d i < 0 ∧ d i < nI (ap_fl S s t)) → post (ct, lv, (-15), tx, rk, rw, wd, dt, wt, fi)) →
      wY_pick_28 post (nI x) (nI y) ct lv 0 tx rk rw wd dt wt fi (n + 1) (nI i) := by
    intro n i hi ha hb
    have z : ¬ c ≤ i := by omega
    simp (disch := omega) only [wY_pick_28, ay_at, h2, k2, z, h4, vp_in_nI, nI_clamp, nI_leI, nI_ltI, nI_eq, nI_add, nI_1, pk_mul, an_m36, an_n36, an_b468, forall_eq, true_and, and_true, true_implies, false_implies, not_true, not_false_iff, implies_true, pk_un, pk_us, ap_wrN, ap_wrS]
    by_cases a1 : d i < 0
    · exact br_t a1 (hb (fun z => z.1 a1))
    · refine br_f a1 ?_
      by_cases a2 : d i < nI (ap_fl S s t)
      · exact br_t a2 (ha ⟨a1, a2⟩)
      · exact br_f a2 (hb (fun z => a2 z.2))
  simp (disch := omega) only [wpY_pick, h1, k1, an_e2, an_e0, e1, e2, vp_in_nI, nI_clamp, nI_leI, nI_ltI, nI_eq, nI_add, nI_1, pk_mul, an_m36, an_n36, an_b468, forall_eq, true_and, and_true, true_implies, false_implies, not_true, not_false_iff, implies_true, pk_un, pk_us, ap_wrN, ap_wrS]
  by_cases al : ∀ i, i < c → ¬ d i < 0 ∧ d i < nI (ap_fl S s t)
  case neg =>
    rw [if_neg al] at hP
    have q := ay_Pe (by decide) hP
    refine ap_ls (fun n i => wY_pick_28 post (nI x) (nI y) ct lv 0 tx rk rw wd dt wt fi n (nI i)) (fun i => ∃ j, i ≤ j ∧ j < c ∧ ¬ (¬ d j < 0 ∧ d j < nI (ap_fl S s t))) c (fun ⟨j, a, b, _⟩ => by omega) (fun n i hi hq hk => ?_) ?_
    · refine st n i hi (fun ok => hk ?_) (fun _ => q)
      obtain ⟨j, a, b, g⟩ := hq
      refine ⟨j, ?_, b, g⟩
      by_cases ej : j = i
      · subst ej; exact absurd ok g
      · omega
    · apply Classical.byContradiction
      intro no
      exact al (fun i hi => Classical.byContradiction (fun g => no ⟨i, by omega, hi, g⟩))
  rw [if_pos al] at hP ok
  have a0 : ∀ i, i < c → d i = nI (d i).toNatClampNeg ∧ (d i).toNatClampNeg < ap_fl S s t := fun i hi => by
    obtain ⟨j, hj, ej⟩ := nI_of (al i hi).1
    have g := (al i hi).2
    rw [ej, nI_ltI hj (by omega)] at g
    rw [ej, nI_clamp hj]
    exact ⟨rfl, g⟩
  refine ap_ls (fun n i => wY_pick_28 post (nI x) (nI y) ct lv 0 tx rk rw wd dt wt fi n (nI i)) (fun _ => True) c (fun _ n => ?_) (fun n i hi _ hk => st n i hi (fun _ => hk trivial) (fun g => absurd (al i hi) g)) trivial
  have kb : ∀ k j, k < ap_fl S s t → j < ap_w S t → k * ap_w S t + j < s * t := by
    intro k j hk hj
    unfold ap_w at hj ⊢
    unfold ap_fl at hk
    by_cases z : S = 2
    · rw [if_pos z] at hj hk ⊢
      exact ap_ix hk hj
    · rw [if_neg z] at hj hk ⊢
      have := ap_v1 W z
      subst this
      omega
  have z : c ≤ c := Nat.le_refl c
  have g113 : ¬ (S = 2 ∧ 6 < c) → wY_pick_113 post (nI x) (nI y) ct lv 0 tx rk rw wd dt wt fi := by
    intro g
    rw [if_neg g] at hP ok
    have L : ∀ B C : Nat, C ≤ 2 → c * ap_w S t ≤ 36 → post (ct, lv, 0, tx, upd rk 13 (nI C), upd rw 13 (if C = 0 then 1 else nI B), upd wd 13 (if C < 2 then 1 else nI (ap_w S t)), ap_wr dt (fun i => e ((d (i / ap_w S t)).toNatClampNeg * ap_w S t + i % ap_w S t)) (c * ap_w S t), wt, fi) →
        wY_pick_162 post (nI x) (nI y) (nI (ap_w S t)) (nI B) (nI C) 13 ct lv 0 tx rk rw wd dt wt fi := by
      intro B C C2 hz p
      unfold wY_pick_162
      rw [ay_sh _ C2]
      have j2 : upd rw 13 (if C = 0 then 1 else nI B) x = nI c := by rw [pk_un (by omega)]; exact h2
      refine ap_le (fun n i a => wY_pick_169 post (nI x) (nI y) (nI (ap_w S t)) n (nI i) ct lv 0 tx (upd rk 13 (nI C)) (upd rw 13 (if C = 0 then 1 else nI B)) (upd wd 13 (if C < 2 then 1 else nI (ap_w S t))) a wt fi)
        (fun i => ap_wr dt (fun i => e ((d (i / ap_w S t)).toNatClampNeg * ap_w S t + i % ap_w S t)) i) (c * ap_w S t) (ap_wr0 _ _) (fun n => ?_) (fun n i hi ih => ?_)
      · have z : c * ap_w S t ≤ c * ap_w S t := Nat.le_refl _
        simp (disch := omega) only [wY_pick_169, j2, z, vp_in_nI, nI_clamp, nI_leI, nI_ltI, nI_eq, nI_add, nI_1, pk_mul, an_m36, an_n36, an_b468, forall_eq, true_and, and_true, true_implies, false_implies, not_true, not_false_iff, implies_true, pk_un, pk_us, ap_wrN, ap_wrS]
        exact p
      · have z : ¬ c * ap_w S t ≤ i := by omega
        obtain ⟨w0, b1, b2, b3⟩ := ap_dvl hi
        have w1 : ¬ ap_w S t = 0 := by omega
        have b0 := Nat.zero_le (i / ap_w S t)
        obtain ⟨g1, g2⟩ := a0 (i / ap_w S t) b1
        have g3 := kb _ (i % ap_w S t) g2 b2
        have hn : dt (x * 36 + i / ap_w S t) = nI (d (i / ap_w S t)).toNatClampNeg := by rw [h4 _ (by omega)]; exact g1
        have hn2 : ap_wr dt (fun i => e ((d (i / ap_w S t)).toNatClampNeg * ap_w S t + i % ap_w S t)) i (x * 36 + i / ap_w S t) = nI (d (i / ap_w S t)).toNatClampNeg := by rw [ap_wrN (by omega) (by omega)]; exact hn
        simp (disch := omega) only [wY_pick_169, j2, z, an_e0, w1, pk_div, an_rm, ay_at, ay_mk, hn2, k4, vp_in_nI, nI_clamp, nI_leI, nI_ltI, nI_eq, nI_add, nI_1, pk_mul, an_m36, an_n36, an_b468, forall_eq, true_and, and_true, true_implies, false_implies, not_true, not_false_iff, implies_true, pk_un, pk_us, ap_wrN, ap_wrS]
        exact ih
    have sub : nI (R + S) - 1 = nI (R + S - 1) := an_s1 (by omega)
    by_cases a1 : R = 1
    · subst a1
      by_cases a2 : S = 2
      · subst a2
        have t6 := (ap_v2 W).2
        have c6 : c ≤ 6 := by omega
        have ct6 : c * t ≤ 36 := Nat.le_trans (Nat.mul_le_mul c6 t6) (by decide)
        have q := ay_Pk (R := 2) (r := c) (c := t) ct6 hP
        have l := L c 2 (by omega) ct6 q
        simp (disch := omega) only [wY_pick_113, h1, h2, k1, k3, an_e1, sub, vp_in_nI, nI_clamp, nI_leI, nI_ltI, nI_eq, nI_add, nI_1, pk_mul, an_m36, an_n36, an_b468, forall_eq, true_and, and_true, true_implies, false_implies, not_true, not_false_iff, implies_true, pk_un, pk_us, ap_wrN, ap_wrS]
        exact l
      · have e4 : S = 1 := by omega
        subst e4
        have q := ay_Pk (R := 1) (r := 1) (c := c * 1) (by omega) hP
        rw [Nat.mul_one, Nat.one_mul] at q
        have l := L c 1 (by omega) (by rw [show c * ap_w 1 t = c from Nat.mul_one c]; omega) (by rw [show c * ap_w 1 t = c from Nat.mul_one c]; exact q)
        simp (disch := omega) only [wY_pick_113, h1, h2, k1, k3, an_e1, sub, vp_in_nI, nI_clamp, nI_leI, nI_ltI, nI_eq, nI_add, nI_1, pk_mul, an_m36, an_n36, an_b468, forall_eq, true_and, and_true, true_implies, false_implies, not_true, not_false_iff, implies_true, pk_un, pk_us, ap_wrN, ap_wrS]
        exact l
    · have e5 : R = 0 := by omega
      subst e5
      have c1 := (ap_v0 V).2
      subst c1
      have z01 : ¬ (0 : Nat) = 1 := by omega
      by_cases a2 : S = 2
      · subst a2
        have t6 := (ap_v2 W).2
        have q := ay_Pk (R := 1) (r := 1) (c := 1 * t) (by omega) hP
        rw [Nat.one_mul, Nat.one_mul] at q
        have l := L (ap_w 2 t) 1 (by omega) (by omega) (by rw [show 1 * ap_w 2 t = t from Nat.one_mul t]; exact q)
        simp (disch := omega) only [wY_pick_113, h1, k1, k3, an_e1, sub, z01, vp_in_nI, nI_clamp, nI_leI, nI_ltI, nI_eq, nI_add, nI_1, pk_mul, an_m36, an_n36, an_b468, forall_eq, true_and, and_true, true_implies, false_implies, not_true, not_false_iff, implies_true, pk_un, pk_us, ap_wrN, ap_wrS]
        exact l
      · have e4 : S = 1 := by omega
        subst e4
        have q := ay_Pk (R := 0) (r := 1) (c := 1) (by omega) hP
        have l := L (ap_w 1 t) 0 (by omega) (by omega) q
        simp (disch := omega) only [wY_pick_113, h1, k1, k3, an_e1, sub, z01, vp_in_nI, nI_clamp, nI_leI, nI_ltI, nI_eq, nI_add, nI_1, pk_mul, an_m36, an_n36, an_b468, forall_eq, true_and, and_true, true_implies, false_implies, not_true, not_false_iff, implies_true, pk_un, pk_us, ap_wrN, ap_wrS]
        exact l
  simp (disch := omega) only [wY_pick_28, h1, h2, k1, z, an_e1, an_e2, an_l6, vp_in_nI, nI_clamp, nI_leI, nI_ltI, nI_eq, nI_add, nI_1, pk_mul, an_m36, an_n36, an_b468, forall_eq, true_and, and_true, true_implies, false_implies, not_true, not_false_iff, implies_true, pk_un, pk_us, ap_wrN, ap_wrS]
  by_cases a1 : R = 1
  · refine br_t a1 ?_
    by_cases a2 : S = 2
    · refine br_t a2 ?_
      by_cases g6 : 6 < c
      · rw [if_pos ⟨a2, g6⟩] at hP
        have q := ay_Pe (by decide) hP
        exact br_f (by omega) q
      · exact br_t (by omega) (g113 (fun z => g6 z.2))
    · exact br_f a2 (g113 (fun z => a2 z.1))
  · have e5 : R = 0 := by omega
    subst e5
    have c1 := (ap_v0 V).2
    exact br_f a1 (g113 (fun z => by omega))
end
end
section
/-! X: the function that waits is put to its arrays -/
/-- the places below m but 13 keep what they hold -/
def ap_K (m : Nat) (rk rw cl nb rk' rw' cl' nb' : Nat → Int32) : Prop :=
  ∀ j, j < m → j ≠ 13 → rk' j = rk j ∧ rw' j = rw j ∧ cl' j = cl j ∧ ∀ i, i < 36 → nb' (j * 36 + i) = nb (j * 36 + i)
theorem ap_Kr (m : Nat) (rk rw cl nb : Nat → Int32) : ap_K m rk rw cl nb rk rw cl nb := fun _ _ _ => ⟨rfl, rfl, rfl, fun _ _ => rfl⟩
theorem ap_Kt {m : Nat} {a1 a2 a3 a4 b1 b2 b3 b4 c1 c2 c3 c4 : Nat → Int32} (h : ap_K m a1 a2 a3 a4 b1 b2 b3 b4) (k : ap_K m b1 b2 b3 b4 c1 c2 c3 c4) : ap_K m a1 a2 a3 a4 c1 c2 c3 c4 := fun j h1 h2 => by
  obtain ⟨x, y, z, w⟩ := h j h1 h2
  obtain ⟨x', y', z', w'⟩ := k j h1 h2
  exact ⟨x'.trans x, y'.trans y, z'.trans z, fun i hi => (w' i hi).trans (w i hi)⟩
theorem ap_Km {m m' : Nat} (hm : m' ≤ m) {a1 a2 a3 a4 b1 b2 b3 b4 : Nat → Int32} (h : ap_K m a1 a2 a3 a4 b1 b2 b3 b4) : ap_K m' a1 a2 a3 a4 b1 b2 b3 b4 := fun j h1 h2 => h j (by omega) h2
theorem ap_KF {m q : Nat} {a1 a2 a3 a4 b1 b2 b3 b4 : Nat → Int32} (hq : q = 13 ∨ m ≤ q) (h : ap_F q a1 a2 a3 a4 b1 b2 b3 b4) : ap_K m a1 a2 a3 a4 b1 b2 b3 b4 := fun j h1 h2 => by
  obtain ⟨x, y, z⟩ := h.1 j (by omega)
  exact ⟨x, y, z, fun i hi => h.2 _ (by omega)⟩
theorem ap_KX {m j R r c : Nat} {d a1 a2 a3 a4 b1 b2 b3 b4 : Nat → Int32} (h : ap_K m a1 a2 a3 a4 b1 b2 b3 b4) (hj : j < m) (h13 : j ≠ 13) (V : r * c ≤ 36) (H : ap_X a1 a2 a3 a4 j R r c d) : ap_X b1 b2 b3 b4 j R r c d := by
  obtain ⟨x, y, z, w⟩ := h j hj h13
  exact ⟨x.trans H.1, y.trans H.2.1, z.trans H.2.2.1, fun i hi => (w i (by omega)).trans (H.2.2.2 i hi)⟩
theorem ap_KY {m j R r c : Nat} {d a1 a2 a3 a4 b1 b2 b3 b4 : Nat → Int32} (h : ap_K m a1 a2 a3 a4 b1 b2 b3 b4) (hj : j < m) (h13 : j ≠ 13) (V : r * c ≤ 36) (H : ap_Y a1 a2 a3 a4 j R r c d) : ap_Y b1 b2 b3 b4 j R r c d := by
  obtain ⟨x, y, z, w⟩ := h j hj h13
  exact ⟨x.trans H.1, y.trans H.2.1, z.trans H.2.2.1, fun i hi => (w i (by omega)).trans (H.2.2.2 i hi)⟩
def ax_R (post : Int32 → SX → Prop) (y : Nat) (tc lv : Int32) (tx rk rw cl nb gv wt : Nat → Int32) (T : ap_T) : Prop :=
  (T.1 ≠ 0 → post T.1 (tc, lv, tx, rk, rw, cl, nb, gv, wt)) ∧ (T.1 = 0 → ∀ rk' rw' cl' nb', ap_K y rk rw cl nb rk' rw' cl' nb' → ap_X rk' rw' cl' nb' y T.2.1 T.2.2.1 T.2.2.2.1 T.2.2.2.2 → post 0 (tc, lv, tx, rk', rw', cl', nb', gv, wt))
section
variable {tc lv : Int32} {tx rk rw cl nb gv wt : Nat → Int32}
theorem ax_W1 {post : Int32 → SX → Prop} {y : Nat} {T : ap_T} (y1 : 14 ≤ y) (y2 : y < 46) (ok : ap_ok T) (h : ax_R post y tc lv tx rk rw cl nb gv wt T) :
    ax_P (fun r u => match u with | (tc, lv, tx, rk, rw, cl, nb, gv, wt) => wX_workAlone_247 post (nI y) r tc lv tx rk rw cl nb gv wt) tc lv tx rk rw cl nb gv wt T := by
  refine ⟨fun n => br_f n (h.1 n), fun z rk' rw' cl' nb' F X => br_t rfl ?_⟩
  have v := ap_v36 ok
  refine ax_cp (a := 13) (b := y) (by omega) y2 (by omega) (h.2 z _ _ _ _ ?_ (ap_cpX v X))
  exact ap_Kt (ap_KF (Or.inl rfl) F) (ap_KF (Or.inr (Nat.le_refl y)) ap_cpF)
theorem ax_W1q {post : Int32 → SX → Prop} {y : Nat} {T : ap_T} (y1 : 14 ≤ y) (y2 : y < 46) (ok : ap_ok T) (z : T.1 = 0) (h : ax_R post y tc lv tx rk rw cl nb gv wt T) :
    ax_Q (fun u => match u with | (tc, lv, tx, rk, rw, cl, nb, gv, wt) => wX_workAlone_247 post (nI y) 0 tc lv tx rk rw cl nb gv wt) tc lv tx rk rw cl nb gv wt T := fun rk' rw' cl' nb' F X => (ax_W1 y1 y2 ok h).2 z rk' rw' cl' nb' F X
theorem ax_W2 {post : Int32 → SX → Prop} {y : Nat} {T : ap_T} (y1 : 14 ≤ y) (y2 : y < 46) (ok : ap_ok T) (h : ax_R post y tc lv tx rk rw cl nb gv wt T) :
    ax_P (fun r u => match u with | (tc, lv, tx, rk, rw, cl, nb, gv, wt) => wX_workWithLeft_306 post (nI y) r tc lv tx rk rw cl nb gv wt) tc lv tx rk rw cl nb gv wt T := by
  refine ⟨fun n => br_f n (h.1 n), fun z rk' rw' cl' nb' F X => br_t rfl ?_⟩
  have v := ap_v36 ok
  refine ax_cp (a := 13) (b := y) (by omega) y2 (by omega) (h.2 z _ _ _ _ ?_ (ap_cpX v X))
  exact ap_Kt (ap_KF (Or.inl rfl) F) (ap_KF (Or.inr (Nat.le_refl y)) ap_cpF)
theorem ax_tk (post : Int32 → Prop) {n p : Nat} {tn : Nat → Nat} (hn : n ≤ 30) (ht : ∀ j, tx j = nI (tn j)) (hp : p < n) : wpX_tokenAt post (nI n, lv, tx, rk, rw, cl, nb, gv, wt) (nI p) = post (nI (tn p)) := by
  have z : ¬ n ≤ p := by omega
  have z0 : ¬ nI p < 0 := nI_pos (by omega)
  simp (disch := omega) only [wpX_tokenAt, ht, z, z0, vp_in_nI, nI_clamp, nI_leI, nI_ltI, nI_eq, nI_add, nI_1, pk_mul, an_m36, an_n36, an_b468, forall_eq, true_and, and_true, true_implies, false_implies, not_true, not_false_iff, implies_true, pk_un, pk_us, ap_wrN, ap_wrS]
theorem ax_tkn (post : Int32 → Prop) {n p : Nat} (hn : n ≤ 30) (hp : n ≤ p) (hp2 : p < 1000) : wpX_tokenAt post (nI n, lv, tx, rk, rw, cl, nb, gv, wt) (nI p) = post (-1) := by
  have z0 : ¬ nI p < 0 := nI_pos (by omega)
  simp (disch := omega) only [wpX_tokenAt, hp, z0, vp_in_nI, nI_clamp, nI_leI, nI_ltI, nI_eq, nI_add, nI_1, pk_mul, an_m36, an_n36, an_b468, forall_eq, true_and, and_true, true_implies, false_implies, not_true, not_false_iff, implies_true, pk_un, pk_us, ap_wrN, ap_wrS]
theorem ax_tkm (post : Int32 → Prop) : wpX_tokenAt post (tc, lv, tx, rk, rw, cl, nb, gv, wt) (nI 0 - 1) = post (-1) := by
  have z0 : nI 0 - 1 < 0 := by decide
  simp only [wpX_tokenAt, z0, true_implies, not_true, false_implies, and_true]
end
theorem ax_S1 (post : Int32 → Prop) {t : Nat} (h : ag_sc t) : wpX_isScalar post (nI t) = post 1 := by
  have a : ¬ t < 20 := by omega
  have b : ¬ 27 < t := by omega
  simp (disch := omega) only [wpX_isScalar, an_t20, an_u27, a, b, vp_in_nI, nI_clamp, nI_leI, nI_ltI, nI_eq, nI_add, nI_1, pk_mul, an_m36, an_n36, an_b468, forall_eq, true_and, and_true, true_implies, false_implies, not_true, not_false_iff, implies_true, pk_un, pk_us, ap_wrN, ap_wrS]
theorem ax_S0 (post : Int32 → Prop) {t : Nat} (h2 : t < 1000) (h : ¬ ag_sc t) : wpX_isScalar post (nI t) = post 0 := by
  simp (disch := omega) only [wpX_isScalar, an_t20, an_u27]
  by_cases a : t < 20
  · simp only [a, true_implies, not_true, false_implies, and_true]
  · have b : 27 < t := by omega
    simp only [a, b, false_implies, not_false_iff, true_implies, true_and, not_true, and_true]
theorem ax_M1 (post : Int32 → Prop) {t : Nat} (h : ag_mx t) : wpX_isMixed post (nI t) = post 1 := by
  have a : ¬ t < 30 := by omega
  have b : ¬ 38 < t := by omega
  simp (disch := omega) only [wpX_isMixed, an_t30, an_u38, a, b, vp_in_nI, nI_clamp, nI_leI, nI_ltI, nI_eq, nI_add, nI_1, pk_mul, an_m36, an_n36, an_b468, forall_eq, true_and, and_true, true_implies, false_implies, not_true, not_false_iff, implies_true, pk_un, pk_us, ap_wrN, ap_wrS]
theorem ax_M0 (post : Int32 → Prop) {t : Nat} (h2 : t < 1000) (h : ¬ ag_mx t) : wpX_isMixed post (nI t) = post 0 := by
  simp (disch := omega) only [wpX_isMixed, an_t30, an_u38]
  by_cases a : t < 30
  · simp only [a, true_implies, not_true, false_implies, and_true]
  · have b : 38 < t := by omega
    simp only [a, b, false_implies, not_false_iff, true_implies, true_and, not_true, and_true]
theorem ax_N1 (post : Int32 → Prop) {t : Nat} (h : ag_nm t) : wpX_isNameToken post (nI t) = post 1 := by
  have a : ¬ t < 10 := by omega
  have b : ¬ 15 < t := by omega
  simp (disch := omega) only [wpX_isNameToken, an_t10, an_u15, a, b, vp_in_nI, nI_clamp, nI_leI, nI_ltI, nI_eq, nI_add, nI_1, pk_mul, an_m36, an_n36, an_b468, forall_eq, true_and, and_true, true_implies, false_implies, not_true, not_false_iff, implies_true, pk_un, pk_us, ap_wrN, ap_wrS]
theorem ax_N0 (post : Int32 → Prop) {t : Nat} (h2 : t < 1000) (h : ¬ ag_nm t) : wpX_isNameToken post (nI t) = post 0 := by
  simp (disch := omega) only [wpX_isNameToken, an_t10, an_u15]
  by_cases a : t < 10
  · simp only [a, true_implies, not_true, false_implies, and_true]
  · have b : 15 < t := by omega
    simp only [a, b, false_implies, not_false_iff, true_implies, true_and, not_true, and_true]
theorem ax_D1 (post : Int32 → Prop) {t : Nat} (h : t ≤ 9) : wpX_isNumberToken post (nI t) = post 1 := by
  have a : ¬ t < 0 := by omega
  have b : ¬ 9 < t := by omega
  simp (disch := omega) only [wpX_isNumberToken, an_t0, an_u9, a, b, vp_in_nI, nI_clamp, nI_leI, nI_ltI, nI_eq, nI_add, nI_1, pk_mul, an_m36, an_n36, an_b468, forall_eq, true_and, and_true, true_implies, false_implies, not_true, not_false_iff, implies_true, pk_un, pk_us, ap_wrN, ap_wrS]
theorem ax_D0 (post : Int32 → Prop) {t : Nat} (h2 : t < 1000) (h : ¬ t ≤ 9) : wpX_isNumberToken post (nI t) = post 0 := by
  have a : ¬ t < 0 := by omega
  have b : 9 < t := by omega
  simp (disch := omega) only [wpX_isNumberToken, an_t0, an_u9, a, b, vp_in_nI, nI_clamp, nI_leI, nI_ltI, nI_eq, nI_add, nI_1, pk_mul, an_m36, an_n36, an_b468, forall_eq, true_and, and_true, true_implies, false_implies, not_true, not_false_iff, implies_true, pk_un, pk_us, ap_wrN, ap_wrS]
theorem ax_Dm (post : Int32 → Prop) : wpX_isNumberToken post (-1) = post 0 := by
  have a : (-1 : Int32) < 0 := by decide
  simp only [wpX_isNumberToken, a, true_implies, not_true, false_implies, and_true]
section
variable {tc lv : Int32} {tx rk rw cl nb gv wt : Nat → Int32}
theorem ag_kA {tn : Nat → Nat} {n q : Nat} (s : ag_sc (tn q)) (b : q + 1 < n) (e : tn (q + 1) = 40) : ag_k tn n q = 1 := by
  unfold ag_k
  rw [if_neg (show ¬ tn q = 42 by omega), if_neg (fun z => z s), if_pos ⟨b, e⟩]
theorem ag_kB {tn : Nat → Nat} {n q : Nat} (s : ag_sc (tn q)) (b : q + 1 < n) (e : tn (q + 1) = 41) : ag_k tn n q = 2 := by
  unfold ag_k
  rw [if_neg (show ¬ tn q = 42 by omega), if_neg (fun z => z s), if_neg (by omega), if_pos ⟨b, e⟩]
theorem ag_kD {tn : Nat → Nat} {n q : Nat} (s : ag_sc (tn q)) (b : q + 1 < n) (e : tn (q + 1) = 43) : ag_k tn n q = 4 := by
  unfold ag_k
  rw [if_neg (show ¬ tn q = 42 by omega), if_neg (fun z => z s), if_neg (by omega), if_neg (by omega), if_pos ⟨b, e⟩]
theorem ag_k0 {tn : Nat → Nat} {n q : Nat} (s : ag_sc (tn q)) (b : q + 1 < n → tn (q + 1) ≠ 40 ∧ tn (q + 1) ≠ 41 ∧ tn (q + 1) ≠ 43) : ag_k tn n q = 0 := by
  unfold ag_k
  rw [if_neg (show ¬ tn q = 42 by omega), if_neg (fun z => z s), if_neg (by omega), if_neg (by omega), if_neg (by omega)]
theorem ag_kM {tn : Nat → Nat} {n q : Nat} (s : ag_mx (tn q)) : ag_k tn n q = 0 := by
  unfold ag_k
  rw [if_neg (show ¬ tn q = 42 by omega), if_pos (by omega)]
theorem ag_kO {tn : Nat → Nat} {n q : Nat} (s : tn q = 42) : ag_k tn n q = 3 := by
  unfold ag_k
  rw [if_pos s]
/-- which case the function at q is -/
def ag_cs (tn : Nat → Nat) (n q : Nat) : Nat := if ag_k tn n q = 0 then (if ag_sc (tn q) then 20 else tn q) else if ag_k tn n q = 1 then 40 else if ag_k tn n q = 2 then 41 else if ag_k tn n q = 3 then 42 else 43
theorem ax_cs (post : Int32 → Prop) {n q : Nat} {tn : Nat → Nat} (hn : n ≤ 30) (ht : ∀ j, tx j = nI (tn j)) (hk : ∀ j, ag_tok (tn j)) (h : ag_wf tn n q) : wpX_caseOf post (nI n, lv, tx, rk, rw, cl, nb, gv, wt) (nI q) = post (nI (ag_cs tn n q)) := by
  have q30 := h.1
  have t0 := ag_tk (hk q)
  have t1 := ag_tk (hk (q + 1))
  by_cases s : ag_sc (tn q)
  · have n42 : ¬ tn q = 42 := by omega
    by_cases b : q + 1 < n
    · by_cases b40 : tn (q + 1) = 40
      · have e : ag_cs tn n q = 40 := by unfold ag_cs; rw [ag_kA s b b40]; rfl
        simp (disch := omega) only [wpX_caseOf, ax_tk _ hn ht, ax_S1 _ s, e, an_e40, b40, show ¬ (1 : Int32) = 0 by decide, vp_in_nI, nI_clamp, nI_leI, nI_ltI, nI_eq, nI_add, nI_1, pk_mul, an_m36, an_n36, an_b468, forall_eq, true_and, and_true, true_implies, false_implies, not_true, not_false_iff, implies_true, pk_un, pk_us, ap_wrN, ap_wrS]
      · by_cases b41 : tn (q + 1) = 41
        · have e : ag_cs tn n q = 41 := by unfold ag_cs; rw [ag_kB s b b41]; rfl
          simp (disch := omega) only [wpX_caseOf, ax_tk _ hn ht, ax_S1 _ s, e, an_e40, an_e41, b40, b41, show ¬ (1 : Int32) = 0 by decide, show ¬ (41 : Nat) = 40 by decide, vp_in_nI, nI_clamp, nI_leI, nI_ltI, nI_eq, nI_add, nI_1, pk_mul, an_m36, an_n36, an_b468, forall_eq, true_and, and_true, true_implies, false_implies, not_true, not_false_iff, implies_true, pk_un, pk_us, ap_wrN, ap_wrS]
        · by_cases b43 : tn (q + 1) = 43
          · have e : ag_cs tn n q = 43 := by unfold ag_cs; rw [ag_kD s b b43]; rfl
            simp (disch := omega) only [wpX_caseOf, ax_tk _ hn ht, ax_S1 _ s, e, an_e40, an_e41, an_e43, b43, show ¬ (1 : Int32) = 0 by decide, show ¬ (43 : Nat) = 40 by decide, show ¬ (43 : Nat) = 41 by decide, vp_in_nI, nI_clamp, nI_leI, nI_ltI, nI_eq, nI_add, nI_1, pk_mul, an_m36, an_n36, an_b468, forall_eq, true_and, and_true, true_implies, false_implies, not_true, not_false_iff, implies_true, pk_un, pk_us, ap_wrN, ap_wrS]
          · have e : ag_cs tn n q = 20 := by
              unfold ag_cs
              rw [ag_k0 s (fun _ => ⟨b40, b41, b43⟩), if_pos rfl, if_pos s]
            simp (disch := omega) only [wpX_caseOf, ax_tk _ hn ht, ax_S1 _ s, e, an_e40, an_e41, an_e43, b40, b41, b43, show ¬ (1 : Int32) = 0 by decide, vp_in_nI, nI_clamp, nI_leI, nI_ltI, nI_eq, nI_add, nI_1, pk_mul, an_m36, an_n36, an_b468, forall_eq, true_and, and_true, true_implies, false_implies, not_true, not_false_iff, implies_true, pk_un, pk_us, ap_wrN, ap_wrS]
            rfl
    · have e : ag_cs tn n q = 20 := by
        unfold ag_cs
        rw [ag_k0 s (fun z => absurd z b), if_pos rfl, if_pos s]
      simp (disch := omega) only [wpX_caseOf, ax_tk _ hn ht, ax_tkn _ hn, ax_S1 _ s, e, show ¬ (1 : Int32) = 0 by decide, show ¬ (-1 : Int32) = 40 by decide, show ¬ (-1 : Int32) = 41 by decide, show ¬ (-1 : Int32) = 43 by decide, vp_in_nI, nI_clamp, nI_leI, nI_ltI, nI_eq, nI_add, nI_1, pk_mul, an_m36, an_n36, an_b468, forall_eq, true_and, and_true, true_implies, false_implies, not_true, not_false_iff, implies_true, pk_un, pk_us, ap_wrN, ap_wrS]
      rfl
  · have e : ag_cs tn n q = tn q := by
      unfold ag_cs
      by_cases o : tn q = 42
      · rw [ag_kO o, o]; rfl
      · have m : ag_mx (tn q) := by
          rcases h.2 with z | z | z
          · exact z
          · exact absurd z.1 o
          · exact absurd z.1 s
        rw [ag_kM m, if_pos rfl, if_neg s]
    simp (disch := omega) only [wpX_caseOf, ax_tk _ hn ht, ax_S0 _ (show tn q < 1000 by omega) s, e, vp_in_nI, nI_clamp, nI_leI, nI_ltI, nI_eq, nI_add, nI_1, pk_mul, an_m36, an_n36, an_b468, forall_eq, true_and, and_true, true_implies, false_implies, not_true, not_false_iff, implies_true, pk_un, pk_us, ap_wrN, ap_wrS]
end
end
section
/-! X: the waiting function alone, and with its left array -/
section
variable {tc lv : Int32} {tx rk rw cl nb gv wt : Nat → Int32}
theorem ax_tkG (post : Int32 → Prop) {n p : Nat} {tn : Nat → Nat} (hn : n ≤ 30) (ht : ∀ j, tx j = nI (tn j)) (hp : p < 1000) : wpX_tokenAt post (nI n, lv, tx, rk, rw, cl, nb, gv, wt) (nI p) = post (if p < n then nI (tn p) else -1) := by
  by_cases h : p < n
  · rw [if_pos h]; exact ax_tk post hn ht h
  · rw [if_neg h]; exact ax_tkn post hn (by omega) hp
theorem ax_wa0 {post : Int32 → SX → Prop} {l : Nat} (l15 : l ≤ 15) (hw : wt l = -1) (hp : post 0 (tc, nI l, tx, rk, rw, cl, nb, gv, wt)) : wpX_workAlone post (tc, nI l, tx, rk, rw, cl, nb, gv, wt) := by
  have z : ¬ (0 : Int32) ≤ -1 := by decide
  simp (disch := omega) only [wpX_workAlone, hw, z, vp_in_nI, nI_clamp, nI_leI, nI_ltI, nI_eq, nI_add, nI_1, pk_mul, an_m36, an_n36, an_b468, forall_eq, true_and, and_true, true_implies, false_implies, not_true, not_false_iff, implies_true, pk_un, pk_us, ap_wrN, ap_wrS]
  exact hp
theorem ax_wa {post : Int32 → SX → Prop} {n q l R r c : Nat} {tn : Nat → Nat} {d : Nat → Int32} (hn : n ≤ 30) (ht : ∀ j, tx j = nI (tn j)) (hk : ∀ j, ag_tok (tn j)) (l15 : l ≤ 15) (wf : ag_wf tn n q) (hw : wt l = nI q)
    (V : ap_VS R r c) (H : ap_X rk rw cl nb (14 + l) R r c d) (hR : ax_R post (14 + l) (nI n) (nI l) tx rk rw cl nb gv (upd wt l (-1)) (ap_one (ag_k tn n q) (ag_f tn q) R r c d)) : wpX_workAlone post (nI n, nI l, tx, rk, rw, cl, nb, gv, wt) := by
  have q30 := wf.1
  have ok := ap_oneV (k := ag_k tn n q) (f := ag_f tn q) (d := d) V
  have y1 : 14 ≤ 14 + l := by omega
  have y2 : 14 + l < 46 := by omega
  have z0 : 0 ≤ nI q := nI_pos' (by omega)
  have cs := fun (P : Int32 → Prop) (wt : Nat → Int32) => ax_cs (lv := nI l) (rk := rk) (rw := rw) (cl := cl) (nb := nb) (gv := gv) (wt := wt) P hn ht hk wf
  rcases wf.2 with m | o | s
  · have ef : ag_f tn q = tn q := if_neg (by omega)
    have ek : ag_k tn n q = 0 := ag_kM m
    have ec : ag_cs tn n q = tn q := by
      unfold ag_cs
      rw [ek, if_pos rfl, if_neg (by omega)]
    rw [ek, ef] at hR ok
    rw [ec] at cs
    rcases (by omega : tn q = 30 ∨ tn q = 31 ∨ tn q = 32 ∨ tn q = 33 ∨ tn q = 34 ∨ tn q = 35 ∨ tn q = 36 ∨ tn q = 37 ∨ tn q = 38) with e | e | e | e | e | e | e | e | e
    · rw [e] at hR ok cs
      simp (disch := omega) only [wpX_workAlone, wX_workAlone_244, hw, cs, an_b14, z0, an_t20, an_u41, an_u43, an_e20, an_e21, an_e22, an_e23, an_e24, an_e25, an_e26, an_e27, an_e28, an_e29, an_e30, an_e31, an_e32, an_e33, an_e34, an_e35, an_e36, an_e37, an_e38, an_e39, an_e40, an_e41, an_e42, an_e43, Nat.reduceEqDiff, Nat.reduceLT, Nat.reduceLeDiff, eq_self, vp_in_nI, nI_clamp, nI_leI, nI_ltI, nI_eq, nI_add, nI_1, pk_mul, an_m36, an_n36, an_b468, forall_eq, true_and, and_true, true_implies, false_implies, not_true, not_false_iff, implies_true, pk_un, pk_us, ap_wrN, ap_wrS]
      exact ax_shape y1 y2 V H (ax_W1q y1 y2 ok rfl hR)
    · rw [e] at hR ok cs
      simp (disch := omega) only [wpX_workAlone, wX_workAlone_244, hw, cs, an_b14, z0, an_t20, an_u41, an_u43, an_e20, an_e21, an_e22, an_e23, an_e24, an_e25, an_e26, an_e27, an_e28, an_e29, an_e30, an_e31, an_e32, an_e33, an_e34, an_e35, an_e36, an_e37, an_e38, an_e39, an_e40, an_e41, an_e42, an_e43, Nat.reduceEqDiff, Nat.reduceLT, Nat.reduceLeDiff, eq_self, vp_in_nI, nI_clamp, nI_leI, nI_ltI, nI_eq, nI_add, nI_1, pk_mul, an_m36, an_n36, an_b468, forall_eq, true_and, and_true, true_implies, false_implies, not_true, not_false_iff, implies_true, pk_un, pk_us, ap_wrN, ap_wrS]
      exact ax_count y1 y2 V H (ax_W1 y1 y2 ok hR)
    · rw [e] at hR ok cs
      simp (disch := omega) only [wpX_workAlone, wX_workAlone_244, hw, cs, an_b14, z0, an_t20, an_u41, an_u43, an_e20, an_e21, an_e22, an_e23, an_e24, an_e25, an_e26, an_e27, an_e28, an_e29, an_e30, an_e31, an_e32, an_e33, an_e34, an_e35, an_e36, an_e37, an_e38, an_e39, an_e40, an_e41, an_e42, an_e43, Nat.reduceEqDiff, Nat.reduceLT, Nat.reduceLeDiff, eq_self, vp_in_nI, nI_clamp, nI_leI, nI_ltI, nI_eq, nI_add, nI_1, pk_mul, an_m36, an_n36, an_b468, forall_eq, true_and, and_true, true_implies, false_implies, not_true, not_false_iff, implies_true, pk_un, pk_us, ap_wrN, ap_wrS]
      exact ax_turn y1 y2 V H (ax_W1q y1 y2 ok (by show (ap_turn R r c d).1 = 0; unfold ap_turn; split <;> rfl) hR)
    · rw [e] at hR ok cs
      simp (disch := omega) only [wpX_workAlone, wX_workAlone_244, hw, cs, an_b14, z0, an_t20, an_u41, an_u43, an_e20, an_e21, an_e22, an_e23, an_e24, an_e25, an_e26, an_e27, an_e28, an_e29, an_e30, an_e31, an_e32, an_e33, an_e34, an_e35, an_e36, an_e37, an_e38, an_e39, an_e40, an_e41, an_e42, an_e43, Nat.reduceEqDiff, Nat.reduceLT, Nat.reduceLeDiff, eq_self, vp_in_nI, nI_clamp, nI_leI, nI_ltI, nI_eq, nI_add, nI_1, pk_mul, an_m36, an_n36, an_b468, forall_eq, true_and, and_true, true_implies, false_implies, not_true, not_false_iff, implies_true, pk_un, pk_us, ap_wrN, ap_wrS]
      exact ax_rev y1 y2 V H (ax_W1q y1 y2 ok rfl hR)
    · rw [e] at hR ok cs
      simp (disch := omega) only [wpX_workAlone, wX_workAlone_244, hw, cs, an_b14, z0, an_t20, an_u41, an_u43, an_e20, an_e21, an_e22, an_e23, an_e24, an_e25, an_e26, an_e27, an_e28, an_e29, an_e30, an_e31, an_e32, an_e33, an_e34, an_e35, an_e36, an_e37, an_e38, an_e39, an_e40, an_e41, an_e42, an_e43, Nat.reduceEqDiff, Nat.reduceLT, Nat.reduceLeDiff, eq_self, vp_in_nI, nI_clamp, nI_leI, nI_ltI, nI_eq, nI_add, nI_1, pk_mul, an_m36, an_n36, an_b468, forall_eq, true_and, and_true, true_implies, false_implies, not_true, not_false_iff, implies_true, pk_un, pk_us, ap_wrN, ap_wrS]
      exact ax_first y1 y2 V H (ax_W1q y1 y2 ok rfl hR)
    · rw [e] at hR ok cs
      simp (disch := omega) only [wpX_workAlone, wX_workAlone_244, hw, cs, an_b14, z0, an_t20, an_u41, an_u43, an_e20, an_e21, an_e22, an_e23, an_e24, an_e25, an_e26, an_e27, an_e28, an_e29, an_e30, an_e31, an_e32, an_e33, an_e34, an_e35, an_e36, an_e37, an_e38, an_e39, an_e40, an_e41, an_e42, an_e43, Nat.reduceEqDiff, Nat.reduceLT, Nat.reduceLeDiff, eq_self, vp_in_nI, nI_clamp, nI_leI, nI_ltI, nI_eq, nI_add, nI_1, pk_mul, an_m36, an_n36, an_b468, forall_eq, true_and, and_true, true_implies, false_implies, not_true, not_false_iff, implies_true, pk_un, pk_us, ap_wrN, ap_wrS]
      exact br_f (by decide) (hR.1 (show (-12 : Int32) ≠ 0 by decide))
    · rw [e] at hR ok cs
      simp (disch := omega) only [wpX_workAlone, wX_workAlone_244, hw, cs, an_b14, z0, an_t20, an_u41, an_u43, an_e20, an_e21, an_e22, an_e23, an_e24, an_e25, an_e26, an_e27, an_e28, an_e29, an_e30, an_e31, an_e32, an_e33, an_e34, an_e35, an_e36, an_e37, an_e38, an_e39, an_e40, an_e41, an_e42, an_e43, Nat.reduceEqDiff, Nat.reduceLT, Nat.reduceLeDiff, eq_self, vp_in_nI, nI_clamp, nI_leI, nI_ltI, nI_eq, nI_add, nI_1, pk_mul, an_m36, an_n36, an_b468, forall_eq, true_and, and_true, true_implies, false_implies, not_true, not_false_iff, implies_true, pk_un, pk_us, ap_wrN, ap_wrS]
      exact ax_ravel y1 y2 V H (ax_W1q y1 y2 ok rfl hR)
    · rw [e] at hR ok cs
      simp (disch := omega) only [wpX_workAlone, wX_workAlone_244, hw, cs, an_b14, z0, an_t20, an_u41, an_u43, an_e20, an_e21, an_e22, an_e23, an_e24, an_e25, an_e26, an_e27, an_e28, an_e29, an_e30, an_e31, an_e32, an_e33, an_e34, an_e35, an_e36, an_e37, an_e38, an_e39, an_e40, an_e41, an_e42, an_e43, Nat.reduceEqDiff, Nat.reduceLT, Nat.reduceLeDiff, eq_self, vp_in_nI, nI_clamp, nI_leI, nI_ltI, nI_eq, nI_add, nI_1, pk_mul, an_m36, an_n36, an_b468, forall_eq, true_and, and_true, true_implies, false_implies, not_true, not_false_iff, implies_true, pk_un, pk_us, ap_wrN, ap_wrS]
      exact br_f (by decide) (hR.1 (show (-12 : Int32) ≠ 0 by decide))
    · rw [e] at hR ok cs
      simp (disch := omega) only [wpX_workAlone, wX_workAlone_244, hw, cs, an_b14, z0, an_t20, an_u41, an_u43, an_e20, an_e21, an_e22, an_e23, an_e24, an_e25, an_e26, an_e27, an_e28, an_e29, an_e30, an_e31, an_e32, an_e33, an_e34, an_e35, an_e36, an_e37, an_e38, an_e39, an_e40, an_e41, an_e42, an_e43, Nat.reduceEqDiff, Nat.reduceLT, Nat.reduceLeDiff, eq_self, vp_in_nI, nI_clamp, nI_leI, nI_ltI, nI_eq, nI_add, nI_1, pk_mul, an_m36, an_n36, an_b468, forall_eq, true_and, and_true, true_implies, false_implies, not_true, not_false_iff, implies_true, pk_un, pk_us, ap_wrN, ap_wrS]
      exact ax_rise y1 y2 V H (ax_W1 y1 y2 ok hR)
  · have ef : ag_f tn q = tn (q + 1) := if_pos o.1
    have ek : ag_k tn n q = 3 := ag_kO o.1
    have ec : ag_cs tn n q = 42 := by unfold ag_cs; rw [ek]; rfl
    rw [ek] at hR ok
    rw [ec] at cs
    simp (disch := omega) only [wpX_workAlone, wX_workAlone_244, hw, cs, an_b14, z0, an_t20, an_u41, an_u43, an_e20, an_e21, an_e22, an_e23, an_e24, an_e25, an_e26, an_e27, an_e28, an_e29, an_e30, an_e31, an_e32, an_e33, an_e34, an_e35, an_e36, an_e37, an_e38, an_e39, an_e40, an_e41, an_e42, an_e43, Nat.reduceEqDiff, Nat.reduceLT, Nat.reduceLeDiff, eq_self, vp_in_nI, nI_clamp, nI_leI, nI_ltI, nI_eq, nI_add, nI_1, pk_mul, an_m36, an_n36, an_b468, forall_eq, true_and, and_true, true_implies, false_implies, not_true, not_false_iff, implies_true, pk_un, pk_us, ap_wrN, ap_wrS]
    exact br_f (by decide) (hR.1 (show (-12 : Int32) ≠ 0 by decide))
  · have ef : ag_f tn q = tn q := if_neg (by omega)
    have sc := s.1
    have tl : tn q < 30 := by omega
    rw [ef] at hR ok
    by_cases b : q + 1 < n
    · by_cases b40 : tn (q + 1) = 40
      · have ek := ag_kA sc b b40
        have ec : ag_cs tn n q = 40 := by unfold ag_cs; rw [ek]; rfl
        rw [ek] at hR ok
        rw [ec] at cs
        have e1 : ap_one 1 (tn q) R r c d = ap_fold (tn q) R r c d := by unfold ap_one; rw [if_neg (by omega), if_pos rfl]
        rw [e1] at hR ok
        simp (disch := omega) only [wpX_workAlone, wX_workAlone_244, hw, cs, ht, an_b14, z0, an_t20, an_u41, an_u43, an_e20, an_e21, an_e22, an_e23, an_e24, an_e25, an_e26, an_e27, an_e28, an_e29, an_e30, an_e31, an_e32, an_e33, an_e34, an_e35, an_e36, an_e37, an_e38, an_e39, an_e40, an_e41, an_e42, an_e43, Nat.reduceEqDiff, Nat.reduceLT, Nat.reduceLeDiff, eq_self, vp_in_nI, nI_clamp, nI_leI, nI_ltI, nI_eq, nI_add, nI_1, pk_mul, an_m36, an_n36, an_b468, forall_eq, true_and, and_true, true_implies, false_implies, not_true, not_false_iff, implies_true, pk_un, pk_us, ap_wrN, ap_wrS]
        exact ax_fold sc y1 y2 V H (ax_W1q y1 y2 ok rfl hR)
      · by_cases b41 : tn (q + 1) = 41
        · have ek := ag_kB sc b b41
          have ec : ag_cs tn n q = 41 := by unfold ag_cs; rw [ek]; rfl
          rw [ek] at hR ok
          rw [ec] at cs
          have e1 : ap_one 2 (tn q) R r c d = ap_scan (tn q) R r c d := by unfold ap_one; rw [if_neg (by omega), if_neg (by omega), if_pos rfl]
          rw [e1] at hR ok
          simp (disch := omega) only [wpX_workAlone, wX_workAlone_244, hw, cs, ht, an_b14, z0, an_t20, an_u41, an_u43, an_e20, an_e21, an_e22, an_e23, an_e24, an_e25, an_e26, an_e27, an_e28, an_e29, an_e30, an_e31, an_e32, an_e33, an_e34, an_e35, an_e36, an_e37, an_e38, an_e39, an_e40, an_e41, an_e42, an_e43, Nat.reduceEqDiff, Nat.reduceLT, Nat.reduceLeDiff, eq_self, vp_in_nI, nI_clamp, nI_leI, nI_ltI, nI_eq, nI_add, nI_1, pk_mul, an_m36, an_n36, an_b468, forall_eq, true_and, and_true, true_implies, false_implies, not_true, not_false_iff, implies_true, pk_un, pk_us, ap_wrN, ap_wrS]
          exact ax_scan sc y1 y2 V H (ax_W1q y1 y2 ok rfl hR)
        · by_cases b43 : tn (q + 1) = 43
          · have ek := ag_kD sc b b43
            have ec : ag_cs tn n q = 43 := by unfold ag_cs; rw [ek]; rfl
            rw [ek] at hR ok
            rw [ec] at cs
            simp (disch := omega) only [wpX_workAlone, wX_workAlone_244, hw, cs, an_b14, z0, an_t20, an_u41, an_u43, an_e20, an_e21, an_e22, an_e23, an_e24, an_e25, an_e26, an_e27, an_e28, an_e29, an_e30, an_e31, an_e32, an_e33, an_e34, an_e35, an_e36, an_e37, an_e38, an_e39, an_e40, an_e41, an_e42, an_e43, Nat.reduceEqDiff, Nat.reduceLT, Nat.reduceLeDiff, eq_self, vp_in_nI, nI_clamp, nI_leI, nI_ltI, nI_eq, nI_add, nI_1, pk_mul, an_m36, an_n36, an_b468, forall_eq, true_and, and_true, true_implies, false_implies, not_true, not_false_iff, implies_true, pk_un, pk_us, ap_wrN, ap_wrS]
            exact br_f (by decide) (hR.1 (show (-12 : Int32) ≠ 0 by decide))
          · have ek := ag_k0 (n := n) sc (fun _ => ⟨b40, b41, b43⟩)
            have ec : ag_cs tn n q = 20 := by unfold ag_cs; rw [ek, if_pos rfl, if_pos sc]
            rw [ek] at hR ok
            rw [ec] at cs
            have e1 : ap_one 0 (tn q) R r c d = ap_s1 (tn q) R r c d := by unfold ap_one; rw [if_neg (by omega), if_neg (by omega), if_neg (by omega), if_pos tl]
            rw [e1] at hR ok
            simp (disch := omega) only [wpX_workAlone, wX_workAlone_244, hw, cs, ht, an_b14, z0, an_t20, an_u41, an_u43, an_e20, an_e21, an_e22, an_e23, an_e24, an_e25, an_e26, an_e27, an_e28, an_e29, an_e30, an_e31, an_e32, an_e33, an_e34, an_e35, an_e36, an_e37, an_e38, an_e39, an_e40, an_e41, an_e42, an_e43, Nat.reduceEqDiff, Nat.reduceLT, Nat.reduceLeDiff, eq_self, vp_in_nI, nI_clamp, nI_leI, nI_ltI, nI_eq, nI_add, nI_1, pk_mul, an_m36, an_n36, an_b468, forall_eq, true_and, and_true, true_implies, false_implies, not_true, not_false_iff, implies_true, pk_un, pk_us, ap_wrN, ap_wrS]
            exact ax_s1 sc y1 y2 V H (ax_W1q y1 y2 ok rfl hR)
    · have ek := ag_k0 (n := n) sc (fun z => absurd z b)
      have ec : ag_cs tn n q = 20 := by unfold ag_cs; rw [ek, if_pos rfl, if_pos sc]
      rw [ek] at hR ok
      rw [ec] at cs
      have e1 : ap_one 0 (tn q) R r c d = ap_s1 (tn q) R r c d := by unfold ap_one; rw [if_neg (by omega), if_neg (by omega), if_neg (by omega), if_pos tl]
      rw [e1] at hR ok
      simp (disch := omega) only [wpX_workAlone, wX_workAlone_244, hw, cs, ht, an_b14, z0, an_t20, an_u41, an_u43, an_e20, an_e21, an_e22, an_e23, an_e24, an_e25, an_e26, an_e27, an_e28, an_e29, an_e30, an_e31, an_e32, an_e33, an_e34, an_e35, an_e36, an_e37, an_e38, an_e39, an_e40, an_e41, an_e42, an_e43, Nat.reduceEqDiff, Nat.reduceLT, Nat.reduceLeDiff, eq_self, vp_in_nI, nI_clamp, nI_leI, nI_ltI, nI_eq, nI_add, nI_1, pk_mul, an_m36, an_n36, an_b468, forall_eq, true_and, and_true, true_implies, false_implies, not_true, not_false_iff, implies_true, pk_un, pk_us, ap_wrN, ap_wrS]
      exact ax_s1 sc y1 y2 V H (ax_W1q y1 y2 ok rfl hR)
theorem ax_wl0 {post : Int32 → SX → Prop} {l R r c : Nat} {d : Nat → Int32} (l15 : l ≤ 15) (hw : wt l = -1) (V : ap_VS R r c) (H : ap_X rk rw cl nb (14 + l + 1) R r c d)
    (hp : ∀ rk' rw' cl' nb', ap_K (14 + l) rk rw cl nb rk' rw' cl' nb' → ap_X rk' rw' cl' nb' (14 + l) R r c d → post 0 (tc, nI l, tx, rk', rw', cl', nb', gv, wt)) : wpX_workWithLeft post (tc, nI l, tx, rk, rw, cl, nb, gv, wt) := by
  have z : ¬ (0 : Int32) ≤ -1 := by decide
  simp (disch := omega) only [wpX_workWithLeft, hw, z, an_b14, vp_in_nI, nI_clamp, nI_leI, nI_ltI, nI_eq, nI_add, nI_1, pk_mul, an_m36, an_n36, an_b468, forall_eq, true_and, and_true, true_implies, false_implies, not_true, not_false_iff, implies_true, pk_un, pk_us, ap_wrN, ap_wrS]
  exact ax_cp (by omega) (by omega) (by omega) (hp _ _ _ _ (ap_KF (Or.inr (Nat.le_refl _)) ap_cpF) (ap_cpX (ap_v36 V) H))
theorem ax_wl {post : Int32 → SX → Prop} {n q l R r c S s t : Nat} {tn : Nat → Nat} {d e : Nat → Int32} (hn : n ≤ 30) (ht : ∀ j, tx j = nI (tn j)) (hk : ∀ j, ag_tok (tn j)) (l15 : l ≤ 15) (wf : ag_wf tn n q) (hw : wt l = nI q)
    (V : ap_VS R r c) (H : ap_X rk rw cl nb (14 + l + 1) R r c d) (W : ap_VS S s t) (K : ap_X rk rw cl nb (14 + l) S s t e)
    (hR : ax_R post (14 + l) (nI n) (nI l) tx rk rw cl nb gv (upd wt l (-1)) (ap_two R r c d S s t e (ag_k tn n q) (ag_f tn q) (ag_g tn q))) : wpX_workWithLeft post (nI n, nI l, tx, rk, rw, cl, nb, gv, wt) := by
  have q30 := wf.1
  have ok := ap_twoV (k := ag_k tn n q) (f := ag_f tn q) (g := ag_g tn q) (d := d) (e := e) V W
  have x1 : 14 ≤ 14 + l + 1 := by omega
  have x2 : 14 + l + 1 < 46 := by omega
  have y1 : 14 ≤ 14 + l := by omega
  have y2 : 14 + l < 46 := by omega
  have z0 : 0 ≤ nI q := nI_pos' (by omega)
  have cs := fun (P : Int32 → Prop) (wt : Nat → Int32) => ax_cs (lv := nI l) (rk := rk) (rw := rw) (cl := cl) (nb := nb) (gv := gv) (wt := wt) P hn ht hk wf
  rcases wf.2 with m | o | sx
  · have ef : ag_f tn q = tn q := if_neg (by omega)
    have ek : ag_k tn n q = 0 := ag_kM m
    have ec : ag_cs tn n q = tn q := by
      unfold ag_cs
      rw [ek, if_pos rfl, if_neg (by omega)]
    rw [ek, ef] at hR ok
    rw [ec] at cs
    rcases (by omega : tn q = 30 ∨ tn q = 31 ∨ tn q = 32 ∨ tn q = 33 ∨ tn q = 34 ∨ tn q = 35 ∨ tn q = 36 ∨ tn q = 37 ∨ tn q = 38) with e | e | e | e | e | e | e | e | e
    · rw [e] at hR ok cs
      simp (disch := omega) only [wpX_workWithLeft, wX_workWithLeft_302, hw, cs, ax_tkG _ hn ht, an_a2, an_b14, z0, an_t20, an_u41, an_u43, an_e20, an_e21, an_e22, an_e23, an_e24, an_e25, an_e26, an_e27, an_e28, an_e29, an_e30, an_e31, an_e32, an_e33, an_e34, an_e35, an_e36, an_e37, an_e38, an_e39, an_e40, an_e41, an_e42, an_e43, Nat.reduceEqDiff, Nat.reduceLT, Nat.reduceLeDiff, eq_self, vp_in_nI, nI_clamp, nI_leI, nI_ltI, nI_eq, nI_add, nI_1, pk_mul, an_m36, an_n36, an_b468, forall_eq, true_and, and_true, true_implies, false_implies, not_true, not_false_iff, implies_true, pk_un, pk_us, ap_wrN, ap_wrS]
      exact ax_resh x1 x2 y1 y2 V H W K (ax_W2 y1 y2 ok hR)
    · rw [e] at hR ok cs
      simp (disch := omega) only [wpX_workWithLeft, wX_workWithLeft_302, hw, cs, ax_tkG _ hn ht, an_a2, an_b14, z0, an_t20, an_u41, an_u43, an_e20, an_e21, an_e22, an_e23, an_e24, an_e25, an_e26, an_e27, an_e28, an_e29, an_e30, an_e31, an_e32, an_e33, an_e34, an_e35, an_e36, an_e37, an_e38, an_e39, an_e40, an_e41, an_e42, an_e43, Nat.reduceEqDiff, Nat.reduceLT, Nat.reduceLeDiff, eq_self, vp_in_nI, nI_clamp, nI_leI, nI_ltI, nI_eq, nI_add, nI_1, pk_mul, an_m36, an_n36, an_b468, forall_eq, true_and, and_true, true_implies, false_implies, not_true, not_false_iff, implies_true, pk_un, pk_us, ap_wrN, ap_wrS]
      exact ax_find x1 x2 y1 y2 V H W K (ax_W2 y1 y2 ok hR)
    · rw [e] at hR ok cs
      simp (disch := omega) only [wpX_workWithLeft, wX_workWithLeft_302, hw, cs, ax_tkG _ hn ht, an_a2, an_b14, z0, an_t20, an_u41, an_u43, an_e20, an_e21, an_e22, an_e23, an_e24, an_e25, an_e26, an_e27, an_e28, an_e29, an_e30, an_e31, an_e32, an_e33, an_e34, an_e35, an_e36, an_e37, an_e38, an_e39, an_e40, an_e41, an_e42, an_e43, Nat.reduceEqDiff, Nat.reduceLT, Nat.reduceLeDiff, eq_self, vp_in_nI, nI_clamp, nI_leI, nI_ltI, nI_eq, nI_add, nI_1, pk_mul, an_m36, an_n36, an_b468, forall_eq, true_and, and_true, true_implies, false_implies, not_true, not_false_iff, implies_true, pk_un, pk_us, ap_wrN, ap_wrS]
      exact br_f (by decide) (hR.1 (show (-12 : Int32) ≠ 0 by decide))
    · rw [e] at hR ok cs
      simp (disch := omega) only [wpX_workWithLeft, wX_workWithLeft_302, hw, cs, ax_tkG _ hn ht, an_a2, an_b14, z0, an_t20, an_u41, an_u43, an_e20, an_e21, an_e22, an_e23, an_e24, an_e25, an_e26, an_e27, an_e28, an_e29, an_e30, an_e31, an_e32, an_e33, an_e34, an_e35, an_e36, an_e37, an_e38, an_e39, an_e40, an_e41, an_e42, an_e43, Nat.reduceEqDiff, Nat.reduceLT, Nat.reduceLeDiff, eq_self, vp_in_nI, nI_clamp, nI_leI, nI_ltI, nI_eq, nI_add, nI_1, pk_mul, an_m36, an_n36, an_b468, forall_eq, true_and, and_true, true_implies, false_implies, not_true, not_false_iff, implies_true, pk_un, pk_us, ap_wrN, ap_wrS]
      exact ax_rot x1 x2 y1 y2 V H W K (ax_W2 y1 y2 ok hR)
    · rw [e] at hR ok cs
      simp (disch := omega) only [wpX_workWithLeft, wX_workWithLeft_302, hw, cs, ax_tkG _ hn ht, an_a2, an_b14, z0, an_t20, an_u41, an_u43, an_e20, an_e21, an_e22, an_e23, an_e24, an_e25, an_e26, an_e27, an_e28, an_e29, an_e30, an_e31, an_e32, an_e33, an_e34, an_e35, an_e36, an_e37, an_e38, an_e39, an_e40, an_e41, an_e42, an_e43, Nat.reduceEqDiff, Nat.reduceLT, Nat.reduceLeDiff, eq_self, vp_in_nI, nI_clamp, nI_leI, nI_ltI, nI_eq, nI_add, nI_1, pk_mul, an_m36, an_n36, an_b468, forall_eq, true_and, and_true, true_implies, false_implies, not_true, not_false_iff, implies_true, pk_un, pk_us, ap_wrN, ap_wrS]
      exact ax_take x1 x2 y1 y2 V H W K (ax_W2 y1 y2 ok hR)
    · rw [e] at hR ok cs
      simp (disch := omega) only [wpX_workWithLeft, wX_workWithLeft_302, hw, cs, ax_tkG _ hn ht, an_a2, an_b14, z0, an_t20, an_u41, an_u43, an_e20, an_e21, an_e22, an_e23, an_e24, an_e25, an_e26, an_e27, an_e28, an_e29, an_e30, an_e31, an_e32, an_e33, an_e34, an_e35, an_e36, an_e37, an_e38, an_e39, an_e40, an_e41, an_e42, an_e43, Nat.reduceEqDiff, Nat.reduceLT, Nat.reduceLeDiff, eq_self, vp_in_nI, nI_clamp, nI_leI, nI_ltI, nI_eq, nI_add, nI_1, pk_mul, an_m36, an_n36, an_b468, forall_eq, true_and, and_true, true_implies, false_implies, not_true, not_false_iff, implies_true, pk_un, pk_us, ap_wrN, ap_wrS]
      exact ax_drop x1 x2 y1 y2 V H W K (ax_W2 y1 y2 ok hR)
    · rw [e] at hR ok cs
      simp (disch := omega) only [wpX_workWithLeft, wX_workWithLeft_302, hw, cs, ax_tkG _ hn ht, an_a2, an_b14, z0, an_t20, an_u41, an_u43, an_e20, an_e21, an_e22, an_e23, an_e24, an_e25, an_e26, an_e27, an_e28, an_e29, an_e30, an_e31, an_e32, an_e33, an_e34, an_e35, an_e36, an_e37, an_e38, an_e39, an_e40, an_e41, an_e42, an_e43, Nat.reduceEqDiff, Nat.reduceLT, Nat.reduceLeDiff, eq_self, vp_in_nI, nI_clamp, nI_leI, nI_ltI, nI_eq, nI_add, nI_1, pk_mul, an_m36, an_n36, an_b468, forall_eq, true_and, and_true, true_implies, false_implies, not_true, not_false_iff, implies_true, pk_un, pk_us, ap_wrN, ap_wrS]
      exact ax_join x1 x2 y1 y2 V H W K (ax_W2 y1 y2 ok hR)
    · rw [e] at hR ok cs
      simp (disch := omega) only [wpX_workWithLeft, wX_workWithLeft_302, hw, cs, ax_tkG _ hn ht, an_a2, an_b14, z0, an_t20, an_u41, an_u43, an_e20, an_e21, an_e22, an_e23, an_e24, an_e25, an_e26, an_e27, an_e28, an_e29, an_e30, an_e31, an_e32, an_e33, an_e34, an_e35, an_e36, an_e37, an_e38, an_e39, an_e40, an_e41, an_e42, an_e43, Nat.reduceEqDiff, Nat.reduceLT, Nat.reduceLeDiff, eq_self, vp_in_nI, nI_clamp, nI_leI, nI_ltI, nI_eq, nI_add, nI_1, pk_mul, an_m36, an_n36, an_b468, forall_eq, true_and, and_true, true_implies, false_implies, not_true, not_false_iff, implies_true, pk_un, pk_us, ap_wrN, ap_wrS]
      exact ax_pick x1 x2 y1 y2 V H W K (ax_W2 y1 y2 ok hR)
    · rw [e] at hR ok cs
      simp (disch := omega) only [wpX_workWithLeft, wX_workWithLeft_302, hw, cs, ax_tkG _ hn ht, an_a2, an_b14, z0, an_t20, an_u41, an_u43, an_e20, an_e21, an_e22, an_e23, an_e24, an_e25, an_e26, an_e27, an_e28, an_e29, an_e30, an_e31, an_e32, an_e33, an_e34, an_e35, an_e36, an_e37, an_e38, an_e39, an_e40, an_e41, an_e42, an_e43, Nat.reduceEqDiff, Nat.reduceLT, Nat.reduceLeDiff, eq_self, vp_in_nI, nI_clamp, nI_leI, nI_ltI, nI_eq, nI_add, nI_1, pk_mul, an_m36, an_n36, an_b468, forall_eq, true_and, and_true, true_implies, false_implies, not_true, not_false_iff, implies_true, pk_un, pk_us, ap_wrN, ap_wrS]
      exact br_f (by decide) (hR.1 (show (-12 : Int32) ≠ 0 by decide))
  · have ef : ag_f tn q = tn (q + 1) := if_pos o.1
    have ek : ag_k tn n q = 3 := ag_kO o.1
    have ec : ag_cs tn n q = 42 := by unfold ag_cs; rw [ek]; rfl
    rw [ek, ef] at hR ok
    rw [ec] at cs
    have e1 : ap_two R r c d S s t e 3 (tn (q + 1)) (ag_g tn q) = ap_outer R r c d S s t e (tn (q + 1)) := by unfold ap_two; rw [if_neg (by omega), if_pos rfl]
    rw [e1] at hR ok
    have b := o.2.1
    simp (disch := omega) only [wpX_workWithLeft, wX_workWithLeft_302, hw, cs, ax_tkG _ hn ht, an_a2, an_b14, z0, an_t20, an_u41, an_u43, an_e20, an_e21, an_e22, an_e23, an_e24, an_e25, an_e26, an_e27, an_e28, an_e29, an_e30, an_e31, an_e32, an_e33, an_e34, an_e35, an_e36, an_e37, an_e38, an_e39, an_e40, an_e41, an_e42, an_e43, Nat.reduceEqDiff, Nat.reduceLT, Nat.reduceLeDiff, eq_self, b, if_true, vp_in_nI, nI_clamp, nI_leI, nI_ltI, nI_eq, nI_add, nI_1, pk_mul, an_m36, an_n36, an_b468, forall_eq, true_and, and_true, true_implies, false_implies, not_true, not_false_iff, implies_true, pk_un, pk_us, ap_wrN, ap_wrS]
    exact ax_outer o.2.2 x1 x2 y1 y2 V H W K (ax_W2 y1 y2 ok hR)
  · have ef : ag_f tn q = tn q := if_neg (by omega)
    have sc := sx.1
    have tl : tn q < 30 := by omega
    rw [ef] at hR ok
    by_cases b : q + 1 < n
    · by_cases b40 : tn (q + 1) = 40
      · have ek := ag_kA sc b b40
        have ec : ag_cs tn n q = 40 := by unfold ag_cs; rw [ek]; rfl
        rw [ek] at hR ok
        rw [ec] at cs
        simp (disch := omega) only [wpX_workWithLeft, wX_workWithLeft_302, hw, cs, ax_tkG _ hn ht, an_a2, an_b14, z0, an_t20, an_u41, an_u43, an_e20, an_e21, an_e22, an_e23, an_e24, an_e25, an_e26, an_e27, an_e28, an_e29, an_e30, an_e31, an_e32, an_e33, an_e34, an_e35, an_e36, an_e37, an_e38, an_e39, an_e40, an_e41, an_e42, an_e43, Nat.reduceEqDiff, Nat.reduceLT, Nat.reduceLeDiff, eq_self, vp_in_nI, nI_clamp, nI_leI, nI_ltI, nI_eq, nI_add, nI_1, pk_mul, an_m36, an_n36, an_b468, forall_eq, true_and, and_true, true_implies, false_implies, not_true, not_false_iff, implies_true, pk_un, pk_us, ap_wrN, ap_wrS]
        exact br_f (by decide) (hR.1 (show (-12 : Int32) ≠ 0 by decide))
      · by_cases b41 : tn (q + 1) = 41
        · have ek := ag_kB sc b b41
          have ec : ag_cs tn n q = 41 := by unfold ag_cs; rw [ek]; rfl
          rw [ek] at hR ok
          rw [ec] at cs
          simp (disch := omega) only [wpX_workWithLeft, wX_workWithLeft_302, hw, cs, ax_tkG _ hn ht, an_a2, an_b14, z0, an_t20, an_u41, an_u43, an_e20, an_e21, an_e22, an_e23, an_e24, an_e25, an_e26, an_e27, an_e28, an_e29, an_e30, an_e31, an_e32, an_e33, an_e34, an_e35, an_e36, an_e37, an_e38, an_e39, an_e40, an_e41, an_e42, an_e43, Nat.reduceEqDiff, Nat.reduceLT, Nat.reduceLeDiff, eq_self, vp_in_nI, nI_clamp, nI_leI, nI_ltI, nI_eq, nI_add, nI_1, pk_mul, an_m36, an_n36, an_b468, forall_eq, true_and, and_true, true_implies, false_implies, not_true, not_false_iff, implies_true, pk_un, pk_us, ap_wrN, ap_wrS]
          exact br_f (by decide) (hR.1 (show (-12 : Int32) ≠ 0 by decide))
        · by_cases b43 : tn (q + 1) = 43
          · have ek := ag_kD sc b b43
            have ec : ag_cs tn n q = 43 := by unfold ag_cs; rw [ek]; rfl
            rw [ek] at hR ok
            rw [ec] at cs
            have b2 := sx.2 b b43
            have e1 : ap_two R r c d S s t e 4 (tn q) (tn (q + 2)) = ap_inner R r c d S s t e (tn q) (tn (q + 2)) := by unfold ap_two; rw [if_neg (by omega), if_neg (by omega), if_pos rfl]
            unfold ag_g at hR ok
            rw [e1] at hR ok
            have b3 := b2.1
            simp (disch := omega) only [wpX_workWithLeft, wX_workWithLeft_302, hw, cs, ax_tkG _ hn ht, an_a2, an_b14, z0, an_t20, an_u41, an_u43, an_e20, an_e21, an_e22, an_e23, an_e24, an_e25, an_e26, an_e27, an_e28, an_e29, an_e30, an_e31, an_e32, an_e33, an_e34, an_e35, an_e36, an_e37, an_e38, an_e39, an_e40, an_e41, an_e42, an_e43, Nat.reduceEqDiff, Nat.reduceLT, Nat.reduceLeDiff, eq_self, ht, b3, if_true, vp_in_nI, nI_clamp, nI_leI, nI_ltI, nI_eq, nI_add, nI_1, pk_mul, an_m36, an_n36, an_b468, forall_eq, true_and, and_true, true_implies, false_implies, not_true, not_false_iff, implies_true, pk_un, pk_us, ap_wrN, ap_wrS]
            exact ax_inner sc b2.2 x1 x2 y1 y2 V H W K (ax_W2 y1 y2 ok hR)
          · have ek := ag_k0 (n := n) sc (fun _ => ⟨b40, b41, b43⟩)
            have ec : ag_cs tn n q = 20 := by unfold ag_cs; rw [ek, if_pos rfl, if_pos sc]
            rw [ek] at hR ok
            rw [ec] at cs
            have e1 : ap_two R r c d S s t e 0 (tn q) (ag_g tn q) = ap_s2 R r c d S s t e (tn q) := by unfold ap_two; rw [if_neg (by omega), if_neg (by omega), if_neg (by omega), if_pos tl]
            rw [e1] at hR ok
            simp (disch := omega) only [wpX_workWithLeft, wX_workWithLeft_302, hw, cs, ax_tkG _ hn ht, an_a2, an_b14, z0, an_t20, an_u41, an_u43, an_e20, an_e21, an_e22, an_e23, an_e24, an_e25, an_e26, an_e27, an_e28, an_e29, an_e30, an_e31, an_e32, an_e33, an_e34, an_e35, an_e36, an_e37, an_e38, an_e39, an_e40, an_e41, an_e42, an_e43, Nat.reduceEqDiff, Nat.reduceLT, Nat.reduceLeDiff, eq_self, ht, vp_in_nI, nI_clamp, nI_leI, nI_ltI, nI_eq, nI_add, nI_1, pk_mul, an_m36, an_n36, an_b468, forall_eq, true_and, and_true, true_implies, false_implies, not_true, not_false_iff, implies_true, pk_un, pk_us, ap_wrN, ap_wrS]
            exact ax_s2 sc x1 x2 y1 y2 V H W K (ax_W2 y1 y2 ok hR)
    · have ek := ag_k0 (n := n) sc (fun z => absurd z b)
      have ec : ag_cs tn n q = 20 := by unfold ag_cs; rw [ek, if_pos rfl, if_pos sc]
      rw [ek] at hR ok
      rw [ec] at cs
      have e1 : ap_two R r c d S s t e 0 (tn q) (ag_g tn q) = ap_s2 R r c d S s t e (tn q) := by unfold ap_two; rw [if_neg (by omega), if_neg (by omega), if_neg (by omega), if_pos tl]
      rw [e1] at hR ok
      simp (disch := omega) only [wpX_workWithLeft, wX_workWithLeft_302, hw, cs, ax_tkG _ hn ht, an_a2, an_b14, z0, an_t20, an_u41, an_u43, an_e20, an_e21, an_e22, an_e23, an_e24, an_e25, an_e26, an_e27, an_e28, an_e29, an_e30, an_e31, an_e32, an_e33, an_e34, an_e35, an_e36, an_e37, an_e38, an_e39, an_e40, an_e41, an_e42, an_e43, Nat.reduceEqDiff, Nat.reduceLT, Nat.reduceLeDiff, eq_self, ht, vp_in_nI, nI_clamp, nI_leI, nI_ltI, nI_eq, nI_add, nI_1, pk_mul, an_m36, an_n36, an_b468, forall_eq, true_and, and_true, true_implies, false_implies, not_true, not_false_iff, implies_true, pk_un, pk_us, ap_wrN, ap_wrS]
      exact ax_s2 sc x1 x2 y1 y2 V H W K (ax_W2 y1 y2 ok hR)
end
end
section
/-! Y: the waiting function alone, and with its left array -/
def ag_kf (k f g : Nat) : Prop := (k = 0 ∧ (ag_mx f ∨ ag_sc f)) ∨ ((k = 1 ∨ k = 2 ∨ k = 3) ∧ ag_sc f) ∨ (k = 4 ∧ ag_sc f ∧ ag_sc g)
theorem ag_wk {tn : Nat → Nat} {n q : Nat} (wf : ag_wf tn n q) : ag_kf (ag_k tn n q) (ag_f tn q) (ag_g tn q) := by
  rcases wf.2 with m | o | s
  · rw [ag_kM m, show ag_f tn q = tn q from if_neg (by omega)]
    exact Or.inl ⟨rfl, Or.inl m⟩
  · rw [ag_kO o.1, show ag_f tn q = tn (q + 1) from if_pos o.1]
    exact Or.inr (Or.inl ⟨by omega, o.2.2⟩)
  · have sc := s.1
    rw [show ag_f tn q = tn q from if_neg (by omega)]
    by_cases b : q + 1 < n
    · by_cases b40 : tn (q + 1) = 40
      · rw [ag_kA sc b b40]; exact Or.inr (Or.inl ⟨by omega, sc⟩)
      · by_cases b41 : tn (q + 1) = 41
        · rw [ag_kB sc b b41]; exact Or.inr (Or.inl ⟨by omega, sc⟩)
        · by_cases b43 : tn (q + 1) = 43
          · rw [ag_kD sc b b43]; exact Or.inr (Or.inr ⟨rfl, sc, (s.2 b b43).2⟩)
          · rw [ag_k0 sc (fun _ => ⟨b40, b41, b43⟩)]; exact Or.inl ⟨rfl, Or.inr sc⟩
    · rw [ag_k0 sc (fun z => absurd z b)]; exact Or.inl ⟨rfl, Or.inr sc⟩
theorem ag_w1 {k f g : Nat} (h : ag_kf k f g) : nI (ag_w k f g) / 10000 = nI k ∧ nI (ag_w k f g) - nI (ag_w k f g) / 100 * 100 = nI (if k = 4 then g else f) ∧ (k = 4 → nI (ag_w k f g) / 100 - nI (ag_w k f g) / 100 / 100 * 100 = nI f) ∧ ag_w k f g < 50000 := by
  have e : (ag_w k f g / 10000 = k ∧ ag_w k f g % 100 = (if k = 4 then g else f) ∧ (k = 4 → ag_w k f g / 100 % 100 = f)) ∧ ag_w k f g < 50000 := by
    unfold ag_w ag_kf at *
    by_cases k4 : k = 4
    · simp only [if_pos k4]; omega
    · simp only [if_neg k4]; omega
  obtain ⟨⟨e1, e2, e3⟩, e4⟩ := e
  refine ⟨?_, ?_, fun k4 => ?_, e4⟩
  · rw [show nI (ag_w k f g) / 10000 = nI (ag_w k f g / 10000) from pk_div (d := 10000) (by omega) (by omega) (by omega), e1]
  · rw [show nI (ag_w k f g) - nI (ag_w k f g) / 100 * 100 = nI (ag_w k f g % 100) from pk_rem (d := 100) (by omega) (by omega) (by omega), e2]
  · rw [show nI (ag_w k f g) / 100 = nI (ag_w k f g / 100) from pk_div (d := 100) (by omega) (by omega) (by omega), show nI (ag_w k f g / 100) - nI (ag_w k f g / 100) / 100 * 100 = nI (ag_w k f g / 100 % 100) from pk_rem (d := 100) (by omega) (by omega) (by omega), e3 k4]
section
variable {ct lv er : Int32} {tx rk rw wd dt wt fi : Nat → Int32}
theorem ay_one {post : SY → Prop} {k f g y R r c : Nat} {d : Nat → Int32} (hk : ag_kf k f g) (y1 : 14 ≤ y) (y2 : y < 50) (V : ap_VS R r c) (H : ap_Y rk rw wd dt y R r c d)
    (hP : ay_P post ct lv tx rk rw wd dt wt fi (ap_one k f R r c d)) : wpY_applyOne post (ct, lv, 0, tx, rk, rw, wd, dt, wt, fi) (nI (ag_w k f g)) (nI y) := by
  obtain ⟨w1, w2, w3, w4⟩ := ag_w1 hk
  have n1 : ¬ (10000 : Int32) = 0 := by decide
  have n2 : ¬ (100 : Int32) = 0 := by decide
  rcases hk with ⟨rfl, m | s⟩ | ⟨ks, s⟩ | ⟨rfl, s, sg⟩
  · rw [show (if (0 : Nat) = 4 then g else f) = f from rfl] at w2
    rcases (by omega : f = 30 ∨ f = 31 ∨ f = 32 ∨ f = 33 ∨ f = 34 ∨ f = 35 ∨ f = 36 ∨ f = 37 ∨ f = 38) with rfl | rfl | rfl | rfl | rfl | rfl | rfl | rfl | rfl
    · simp (disch := omega) only [wpY_applyOne, w1, w2, n1, n2, an_u2, an_e35, an_e37, an_e1, an_e2, an_g30, an_g32, an_g34, an_e34, an_e36, an_e32, an_e30, Nat.reduceEqDiff, Nat.reduceLT, Nat.reduceLeDiff, eq_self, vp_in_nI, nI_clamp, nI_leI, nI_ltI, nI_eq, nI_add, nI_1, pk_mul, an_m36, an_n36, an_b468, forall_eq, true_and, and_true, true_implies, false_implies, not_true, not_false_iff, implies_true, pk_un, pk_us, ap_wrN, ap_wrS]
      exact ay_shape y1 y2 V H hP
    · simp (disch := omega) only [wpY_applyOne, w1, w2, n1, n2, an_u2, an_e35, an_e37, an_e1, an_e2, an_g30, an_g32, an_g34, an_e34, an_e36, an_e32, an_e30, Nat.reduceEqDiff, Nat.reduceLT, Nat.reduceLeDiff, eq_self, vp_in_nI, nI_clamp, nI_leI, nI_ltI, nI_eq, nI_add, nI_1, pk_mul, an_m36, an_n36, an_b468, forall_eq, true_and, and_true, true_implies, false_implies, not_true, not_false_iff, implies_true, pk_un, pk_us, ap_wrN, ap_wrS]
      exact ay_count y1 y2 V H hP
    · simp (disch := omega) only [wpY_applyOne, w1, w2, n1, n2, an_u2, an_e35, an_e37, an_e1, an_e2, an_g30, an_g32, an_g34, an_e34, an_e36, an_e32, an_e30, Nat.reduceEqDiff, Nat.reduceLT, Nat.reduceLeDiff, eq_self, vp_in_nI, nI_clamp, nI_leI, nI_ltI, nI_eq, nI_add, nI_1, pk_mul, an_m36, an_n36, an_b468, forall_eq, true_and, and_true, true_implies, false_implies, not_true, not_false_iff, implies_true, pk_un, pk_us, ap_wrN, ap_wrS]
      exact ay_turn y1 y2 V H hP
    · simp (disch := omega) only [wpY_applyOne, w1, w2, n1, n2, an_u2, an_e35, an_e37, an_e1, an_e2, an_g30, an_g32, an_g34, an_e34, an_e36, an_e32, an_e30, Nat.reduceEqDiff, Nat.reduceLT, Nat.reduceLeDiff, eq_self, vp_in_nI, nI_clamp, nI_leI, nI_ltI, nI_eq, nI_add, nI_1, pk_mul, an_m36, an_n36, an_b468, forall_eq, true_and, and_true, true_implies, false_implies, not_true, not_false_iff, implies_true, pk_un, pk_us, ap_wrN, ap_wrS]
      exact ay_rev y1 y2 V H hP
    · simp (disch := omega) only [wpY_applyOne, w1, w2, n1, n2, an_u2, an_e35, an_e37, an_e1, an_e2, an_g30, an_g32, an_g34, an_e34, an_e36, an_e32, an_e30, Nat.reduceEqDiff, Nat.reduceLT, Nat.reduceLeDiff, eq_self, vp_in_nI, nI_clamp, nI_leI, nI_ltI, nI_eq, nI_add, nI_1, pk_mul, an_m36, an_n36, an_b468, forall_eq, true_and, and_true, true_implies, false_implies, not_true, not_false_iff, implies_true, pk_un, pk_us, ap_wrN, ap_wrS]
      exact ay_first y1 y2 V H hP
    · simp (disch := omega) only [wpY_applyOne, w1, w2, n1, n2, an_u2, an_e35, an_e37, an_e1, an_e2, an_g30, an_g32, an_g34, an_e34, an_e36, an_e32, an_e30, Nat.reduceEqDiff, Nat.reduceLT, Nat.reduceLeDiff, eq_self, vp_in_nI, nI_clamp, nI_leI, nI_ltI, nI_eq, nI_add, nI_1, pk_mul, an_m36, an_n36, an_b468, forall_eq, true_and, and_true, true_implies, false_implies, not_true, not_false_iff, implies_true, pk_un, pk_us, ap_wrN, ap_wrS]
      exact ay_Pe (e := -12) (by decide) hP
    · simp (disch := omega) only [wpY_applyOne, w1, w2, n1, n2, an_u2, an_e35, an_e37, an_e1, an_e2, an_g30, an_g32, an_g34, an_e34, an_e36, an_e32, an_e30, Nat.reduceEqDiff, Nat.reduceLT, Nat.reduceLeDiff, eq_self, vp_in_nI, nI_clamp, nI_leI, nI_ltI, nI_eq, nI_add, nI_1, pk_mul, an_m36, an_n36, an_b468, forall_eq, true_and, and_true, true_implies, false_implies, not_true, not_false_iff, implies_true, pk_un, pk_us, ap_wrN, ap_wrS]
      exact ay_ravel y1 y2 V H hP
    · simp (disch := omega) only [wpY_applyOne, w1, w2, n1, n2, an_u2, an_e35, an_e37, an_e1, an_e2, an_g30, an_g32, an_g34, an_e34, an_e36, an_e32, an_e30, Nat.reduceEqDiff, Nat.reduceLT, Nat.reduceLeDiff, eq_self, vp_in_nI, nI_clamp, nI_leI, nI_ltI, nI_eq, nI_add, nI_1, pk_mul, an_m36, an_n36, an_b468, forall_eq, true_and, and_true, true_implies, false_implies, not_true, not_false_iff, implies_true, pk_un, pk_us, ap_wrN, ap_wrS]
      exact ay_Pe (e := -12) (by decide) hP
    · simp (disch := omega) only [wpY_applyOne, w1, w2, n1, n2, an_u2, an_e35, an_e37, an_e1, an_e2, an_g30, an_g32, an_g34, an_e34, an_e36, an_e32, an_e30, Nat.reduceEqDiff, Nat.reduceLT, Nat.reduceLeDiff, eq_self, vp_in_nI, nI_clamp, nI_leI, nI_ltI, nI_eq, nI_add, nI_1, pk_mul, an_m36, an_n36, an_b468, forall_eq, true_and, and_true, true_implies, false_implies, not_true, not_false_iff, implies_true, pk_un, pk_us, ap_wrN, ap_wrS]
      exact ay_rise y1 y2 V H hP
  · rw [show (if (0 : Nat) = 4 then g else f) = f from rfl] at w2
    have a1 : ¬ f = 35 := by omega
    have a2 : ¬ f = 37 := by omega
    have a3 : ¬ 30 ≤ f := by omega
    have e1 : ap_one 0 f R r c d = ap_s1 f R r c d := by unfold ap_one; rw [if_neg (by omega), if_neg (by omega), if_neg (by omega), if_pos (by omega)]
    rw [e1] at hP
    simp (disch := omega) only [wpY_applyOne, w1, w2, n1, n2, an_u2, an_e35, an_e37, an_e1, an_e2, an_g30, an_g32, an_g34, an_e34, an_e36, an_e32, an_e30, Nat.reduceEqDiff, Nat.reduceLT, Nat.reduceLeDiff, eq_self, a1, a2, a3, vp_in_nI, nI_clamp, nI_leI, nI_ltI, nI_eq, nI_add, nI_1, pk_mul, an_m36, an_n36, an_b468, forall_eq, true_and, and_true, true_implies, false_implies, not_true, not_false_iff, implies_true, pk_un, pk_us, ap_wrN, ap_wrS]
    exact ay_s1 s y1 y2 V H hP
  · have a1 : ¬ f = 35 := by omega
    have a2 : ¬ f = 37 := by omega
    rcases ks with rfl | rfl | rfl
    · rw [show (if (1 : Nat) = 4 then g else f) = f from rfl] at w2
      have e1 : ap_one 1 f R r c d = ap_fold f R r c d := by unfold ap_one; rw [if_neg (by omega), if_pos rfl]
      rw [e1] at hP
      simp (disch := omega) only [wpY_applyOne, w1, w2, n1, n2, an_u2, an_e35, an_e37, an_e1, an_e2, an_g30, an_g32, an_g34, an_e34, an_e36, an_e32, an_e30, Nat.reduceEqDiff, Nat.reduceLT, Nat.reduceLeDiff, eq_self, a1, a2, vp_in_nI, nI_clamp, nI_leI, nI_ltI, nI_eq, nI_add, nI_1, pk_mul, an_m36, an_n36, an_b468, forall_eq, true_and, and_true, true_implies, false_implies, not_true, not_false_iff, implies_true, pk_un, pk_us, ap_wrN, ap_wrS]
      exact ay_fold s y1 y2 V H hP
    · rw [show (if (2 : Nat) = 4 then g else f) = f from rfl] at w2
      have e1 : ap_one 2 f R r c d = ap_scan f R r c d := by unfold ap_one; rw [if_neg (by omega), if_neg (by omega), if_pos rfl]
      rw [e1] at hP
      simp (disch := omega) only [wpY_applyOne, w1, w2, n1, n2, an_u2, an_e35, an_e37, an_e1, an_e2, an_g30, an_g32, an_g34, an_e34, an_e36, an_e32, an_e30, Nat.reduceEqDiff, Nat.reduceLT, Nat.reduceLeDiff, eq_self, a1, a2, vp_in_nI, nI_clamp, nI_leI, nI_ltI, nI_eq, nI_add, nI_1, pk_mul, an_m36, an_n36, an_b468, forall_eq, true_and, and_true, true_implies, false_implies, not_true, not_false_iff, implies_true, pk_un, pk_us, ap_wrN, ap_wrS]
      exact ay_scan s y1 y2 V H hP
    · simp (disch := omega) only [wpY_applyOne, w1, w2, n1, n2, an_u2, an_e35, an_e37, an_e1, an_e2, an_g30, an_g32, an_g34, an_e34, an_e36, an_e32, an_e30, Nat.reduceEqDiff, Nat.reduceLT, Nat.reduceLeDiff, eq_self, vp_in_nI, nI_clamp, nI_leI, nI_ltI, nI_eq, nI_add, nI_1, pk_mul, an_m36, an_n36, an_b468, forall_eq, true_and, and_true, true_implies, false_implies, not_true, not_false_iff, implies_true, pk_un, pk_us, ap_wrN, ap_wrS]
      exact ay_Pe (e := -12) (by decide) hP
  · simp (disch := omega) only [wpY_applyOne, w1, w2, n1, n2, an_u2, an_e35, an_e37, an_e1, an_e2, an_g30, an_g32, an_g34, an_e34, an_e36, an_e32, an_e30, Nat.reduceEqDiff, Nat.reduceLT, Nat.reduceLeDiff, eq_self, vp_in_nI, nI_clamp, nI_leI, nI_ltI, nI_eq, nI_add, nI_1, pk_mul, an_m36, an_n36, an_b468, forall_eq, true_and, and_true, true_implies, false_implies, not_true, not_false_iff, implies_true, pk_un, pk_us, ap_wrN, ap_wrS]
    exact ay_Pe (e := -12) (by decide) hP
theorem ay_two {post : SY → Prop} {k f g x y R r c S s t : Nat} {d e : Nat → Int32} (hk : ag_kf k f g) (x1 : 14 ≤ x) (x2 : x < 50) (y1 : 14 ≤ y) (y2 : y < 50)
    (V : ap_VS R r c) (H : ap_Y rk rw wd dt x R r c d) (W : ap_VS S s t) (K : ap_Y rk rw wd dt y S s t e)
    (hP : ay_P post ct lv tx rk rw wd dt wt fi (ap_two R r c d S s t e k f g)) : wpY_applyTwo post (ct, lv, 0, tx, rk, rw, wd, dt, wt, fi) (nI (ag_w k f g)) (nI x) (nI y) := by
  obtain ⟨w1, w2, w3, w4⟩ := ag_w1 hk
  have n1 : ¬ (10000 : Int32) = 0 := by decide
  have n2 : ¬ (100 : Int32) = 0 := by decide
  have H1 := H.1
  rcases hk with ⟨rfl, m | sc⟩ | ⟨ks, sc⟩ | ⟨rfl, sc, sg⟩
  · rw [show (if (0 : Nat) = 4 then g else f) = f from rfl] at w2
    rcases (by omega : f = 30 ∨ f = 31 ∨ f = 32 ∨ f = 33 ∨ f = 34 ∨ f = 35 ∨ f = 36 ∨ f = 37 ∨ f = 38) with rfl | rfl | rfl | rfl | rfl | rfl | rfl | rfl | rfl
    · simp (disch := omega) only [wpY_applyTwo, w1, w2, n1, n2, an_e1, an_e2, an_e32, an_e38, an_e3, an_e4, an_g30, an_g32, an_e33, an_g36, an_e36, an_e34, an_e30, Nat.reduceEqDiff, Nat.reduceLT, Nat.reduceLeDiff, eq_self, vp_in_nI, nI_clamp, nI_leI, nI_ltI, nI_eq, nI_add, nI_1, pk_mul, an_m36, an_n36, an_b468, forall_eq, true_and, and_true, true_implies, false_implies, not_true, not_false_iff, implies_true, pk_un, pk_us, ap_wrN, ap_wrS]
      exact ay_resh x1 x2 y1 y2 V H W K hP
    · simp (disch := omega) only [wpY_applyTwo, w1, w2, n1, n2, an_e1, an_e2, an_e32, an_e38, an_e3, an_e4, an_g30, an_g32, an_e33, an_g36, an_e36, an_e34, an_e30, Nat.reduceEqDiff, Nat.reduceLT, Nat.reduceLeDiff, eq_self, vp_in_nI, nI_clamp, nI_leI, nI_ltI, nI_eq, nI_add, nI_1, pk_mul, an_m36, an_n36, an_b468, forall_eq, true_and, and_true, true_implies, false_implies, not_true, not_false_iff, implies_true, pk_un, pk_us, ap_wrN, ap_wrS]
      exact ay_find x1 x2 y1 y2 V H W K hP
    · simp (disch := omega) only [wpY_applyTwo, w1, w2, n1, n2, an_e1, an_e2, an_e32, an_e38, an_e3, an_e4, an_g30, an_g32, an_e33, an_g36, an_e36, an_e34, an_e30, Nat.reduceEqDiff, Nat.reduceLT, Nat.reduceLeDiff, eq_self, vp_in_nI, nI_clamp, nI_leI, nI_ltI, nI_eq, nI_add, nI_1, pk_mul, an_m36, an_n36, an_b468, forall_eq, true_and, and_true, true_implies, false_implies, not_true, not_false_iff, implies_true, pk_un, pk_us, ap_wrN, ap_wrS]
      exact ay_Pe (e := -12) (by decide) hP
    · simp (disch := omega) only [wpY_applyTwo, w1, w2, n1, n2, an_e1, an_e2, an_e32, an_e38, an_e3, an_e4, an_g30, an_g32, an_e33, an_g36, an_e36, an_e34, an_e30, Nat.reduceEqDiff, Nat.reduceLT, Nat.reduceLeDiff, eq_self, H1, vp_in_nI, nI_clamp, forall_eq, true_and, and_true, true_implies, false_implies, not_true, not_false_iff]
      exact ay_rot x1 x2 y1 y2 V H W K hP
    · simp (disch := omega) only [wpY_applyTwo, w1, w2, n1, n2, an_e1, an_e2, an_e32, an_e38, an_e3, an_e4, an_g30, an_g32, an_e33, an_g36, an_e36, an_e34, an_e30, Nat.reduceEqDiff, Nat.reduceLT, Nat.reduceLeDiff, eq_self, vp_in_nI, nI_clamp, nI_leI, nI_ltI, nI_eq, nI_add, nI_1, pk_mul, an_m36, an_n36, an_b468, forall_eq, true_and, and_true, true_implies, false_implies, not_true, not_false_iff, implies_true, pk_un, pk_us, ap_wrN, ap_wrS]
      exact ay_take x1 x2 y1 y2 V H W K hP
    · simp (disch := omega) only [wpY_applyTwo, w1, w2, n1, n2, an_e1, an_e2, an_e32, an_e38, an_e3, an_e4, an_g30, an_g32, an_e33, an_g36, an_e36, an_e34, an_e30, Nat.reduceEqDiff, Nat.reduceLT, Nat.reduceLeDiff, eq_self, vp_in_nI, nI_clamp, nI_leI, nI_ltI, nI_eq, nI_add, nI_1, pk_mul, an_m36, an_n36, an_b468, forall_eq, true_and, and_true, true_implies, false_implies, not_true, not_false_iff, implies_true, pk_un, pk_us, ap_wrN, ap_wrS]
      exact ay_drop x1 x2 y1 y2 V H W K hP
    · simp (disch := omega) only [wpY_applyTwo, w1, w2, n1, n2, an_e1, an_e2, an_e32, an_e38, an_e3, an_e4, an_g30, an_g32, an_e33, an_g36, an_e36, an_e34, an_e30, Nat.reduceEqDiff, Nat.reduceLT, Nat.reduceLeDiff, eq_self, vp_in_nI, nI_clamp, nI_leI, nI_ltI, nI_eq, nI_add, nI_1, pk_mul, an_m36, an_n36, an_b468, forall_eq, true_and, and_true, true_implies, false_implies, not_true, not_false_iff, implies_true, pk_un, pk_us, ap_wrN, ap_wrS]
      exact ay_join x1 x2 y1 y2 V H W K hP
    · simp (disch := omega) only [wpY_applyTwo, w1, w2, n1, n2, an_e1, an_e2, an_e32, an_e38, an_e3, an_e4, an_g30, an_g32, an_e33, an_g36, an_e36, an_e34, an_e30, Nat.reduceEqDiff, Nat.reduceLT, Nat.reduceLeDiff, eq_self, vp_in_nI, nI_clamp, nI_leI, nI_ltI, nI_eq, nI_add, nI_1, pk_mul, an_m36, an_n36, an_b468, forall_eq, true_and, and_true, true_implies, false_implies, not_true, not_false_iff, implies_true, pk_un, pk_us, ap_wrN, ap_wrS]
      exact ay_pick x1 x2 y1 y2 V H W K hP
    · simp (disch := omega) only [wpY_applyTwo, w1, w2, n1, n2, an_e1, an_e2, an_e32, an_e38, an_e3, an_e4, an_g30, an_g32, an_e33, an_g36, an_e36, an_e34, an_e30, Nat.reduceEqDiff, Nat.reduceLT, Nat.reduceLeDiff, eq_self, vp_in_nI, nI_clamp, nI_leI, nI_ltI, nI_eq, nI_add, nI_1, pk_mul, an_m36, an_n36, an_b468, forall_eq, true_and, and_true, true_implies, false_implies, not_true, not_false_iff, implies_true, pk_un, pk_us, ap_wrN, ap_wrS]
      exact ay_Pe (e := -12) (by decide) hP
  · rw [show (if (0 : Nat) = 4 then g else f) = f from rfl] at w2
    have a1 : ¬ f = 32 := by omega
    have a2 : ¬ f = 38 := by omega
    have a3 : ¬ 30 ≤ f := by omega
    have e1 : ap_two R r c d S s t e 0 f g = ap_s2 R r c d S s t e f := by unfold ap_two; rw [if_neg (by omega), if_neg (by omega), if_neg (by omega), if_pos (by omega)]
    rw [e1] at hP
    simp (disch := omega) only [wpY_applyTwo, w1, w2, n1, n2, an_e1, an_e2, an_e32, an_e38, an_e3, an_e4, an_g30, an_g32, an_e33, an_g36, an_e36, an_e34, an_e30, Nat.reduceEqDiff, Nat.reduceLT, Nat.reduceLeDiff, eq_self, a1, a2, a3, vp_in_nI, nI_clamp, nI_leI, nI_ltI, nI_eq, nI_add, nI_1, pk_mul, an_m36, an_n36, an_b468, forall_eq, true_and, and_true, true_implies, false_implies, not_true, not_false_iff, implies_true, pk_un, pk_us, ap_wrN, ap_wrS]
    exact ay_s2 sc x1 x2 y1 y2 V H W K hP
  · have a1 : ¬ f = 32 := by omega
    have a2 : ¬ f = 38 := by omega
    rcases ks with rfl | rfl | rfl
    · simp (disch := omega) only [wpY_applyTwo, w1, w2, n1, n2, an_e1, an_e2, an_e32, an_e38, an_e3, an_e4, an_g30, an_g32, an_e33, an_g36, an_e36, an_e34, an_e30, Nat.reduceEqDiff, Nat.reduceLT, Nat.reduceLeDiff, eq_self, vp_in_nI, nI_clamp, nI_leI, nI_ltI, nI_eq, nI_add, nI_1, pk_mul, an_m36, an_n36, an_b468, forall_eq, true_and, and_true, true_implies, false_implies, not_true, not_false_iff, implies_true, pk_un, pk_us, ap_wrN, ap_wrS]
      exact ay_Pe (e := -12) (by decide) hP
    · simp (disch := omega) only [wpY_applyTwo, w1, w2, n1, n2, an_e1, an_e2, an_e32, an_e38, an_e3, an_e4, an_g30, an_g32, an_e33, an_g36, an_e36, an_e34, an_e30, Nat.reduceEqDiff, Nat.reduceLT, Nat.reduceLeDiff, eq_self, vp_in_nI, nI_clamp, nI_leI, nI_ltI, nI_eq, nI_add, nI_1, pk_mul, an_m36, an_n36, an_b468, forall_eq, true_and, and_true, true_implies, false_implies, not_true, not_false_iff, implies_true, pk_un, pk_us, ap_wrN, ap_wrS]
      exact ay_Pe (e := -12) (by decide) hP
    · rw [show (if (3 : Nat) = 4 then g else f) = f from rfl] at w2
      have e1 : ap_two R r c d S s t e 3 f g = ap_outer R r c d S s t e f := by unfold ap_two; rw [if_neg (by omega), if_pos rfl]
      rw [e1] at hP
      simp (disch := omega) only [wpY_applyTwo, w1, w2, n1, n2, an_e1, an_e2, an_e32, an_e38, an_e3, an_e4, an_g30, an_g32, an_e33, an_g36, an_e36, an_e34, an_e30, Nat.reduceEqDiff, Nat.reduceLT, Nat.reduceLeDiff, eq_self, a1, a2, vp_in_nI, nI_clamp, nI_leI, nI_ltI, nI_eq, nI_add, nI_1, pk_mul, an_m36, an_n36, an_b468, forall_eq, true_and, and_true, true_implies, false_implies, not_true, not_false_iff, implies_true, pk_un, pk_us, ap_wrN, ap_wrS]
      exact ay_outer sc x1 x2 y1 y2 V H W K hP
  · rw [show (if (4 : Nat) = 4 then g else f) = g from rfl] at w2
    have a1 : ¬ g = 32 := by omega
    have a2 : ¬ g = 38 := by omega
    have w5 := w3 rfl
    have e1 : ap_two R r c d S s t e 4 f g = ap_inner R r c d S s t e f g := by unfold ap_two; rw [if_neg (by omega), if_neg (by omega), if_pos rfl]
    rw [e1] at hP
    simp (disch := omega) only [wpY_applyTwo, w1, w2, n1, n2, an_e1, an_e2, an_e32, an_e38, an_e3, an_e4, an_g30, an_g32, an_e33, an_g36, an_e36, an_e34, an_e30, Nat.reduceEqDiff, Nat.reduceLT, Nat.reduceLeDiff, eq_self, w5, a1, a2, vp_in_nI, nI_clamp, nI_leI, nI_ltI, nI_eq, nI_add, nI_1, pk_mul, an_m36, an_n36, an_b468, forall_eq, true_and, and_true, true_implies, false_implies, not_true, not_false_iff, implies_true, pk_un, pk_us, ap_wrN, ap_wrS]
    exact ay_inner sc sg x1 x2 y1 y2 V H W K hP
end
def ay_R (post : SY → Prop) (y : Nat) (ct lv : Int32) (tx rk rw wd dt wt fi : Nat → Int32) (T : ap_T) : Prop :=
  ∀ rk' rw' wd' dt', ap_K y rk rw wd dt rk' rw' wd' dt' → (T.1 = 0 → ap_Y rk' rw' wd' dt' y T.2.1 T.2.2.1 T.2.2.2.1 T.2.2.2.2) → post (ct, lv, T.1, tx, rk', rw', wd', dt', wt, fi)
theorem an_bt : vp_nar .boolean 1 = 1 := by decide
theorem an_bf : vp_nar .boolean 0 = 0 := by decide
section
variable {ct lv er : Int32} {tx rk rw wd dt wt fi : Nat → Int32}
theorem ay_st0 {post : SY → Prop} {l : Nat} (l15 : l ≤ 15) (hw : wt l = -1) (hp : post (ct, nI l, er, tx, rk, rw, wd, dt, upd wt l (-1), fi)) : wpY_settle post (ct, nI l, er, tx, rk, rw, wd, dt, wt, fi) := by
  have z : (-1 : Int32) < 0 := by decide
  simp (disch := omega) only [wpY_settle, hw, z, vp_in_nI, nI_clamp, nI_leI, nI_ltI, nI_eq, nI_add, nI_1, pk_mul, an_m36, an_n36, an_b468, forall_eq, true_and, and_true, true_implies, false_implies, not_true, not_false_iff, implies_true, pk_un, pk_us, ap_wrN, ap_wrS]
  exact hp
theorem ay_stE {post : SY → Prop} {l : Nat} (l15 : l ≤ 15) (he : er ≠ 0) (hp : post (ct, nI l, er, tx, rk, rw, wd, dt, upd wt l (-1), fi)) : wpY_settle post (ct, nI l, er, tx, rk, rw, wd, dt, wt, fi) := by
  by_cases z : wt l < 0
  · simp (disch := omega) only [wpY_settle, z, vp_in_nI, nI_clamp, nI_leI, nI_ltI, nI_eq, nI_add, nI_1, pk_mul, an_m36, an_n36, an_b468, forall_eq, true_and, and_true, true_implies, false_implies, not_true, not_false_iff, implies_true, pk_un, pk_us, ap_wrN, ap_wrS]
    exact hp
  · simp (disch := omega) only [wpY_settle, z, he, vp_in_nI, nI_clamp, nI_leI, nI_ltI, nI_eq, nI_add, nI_1, pk_mul, an_m36, an_n36, an_b468, forall_eq, true_and, and_true, true_implies, false_implies, not_true, not_false_iff, implies_true, pk_un, pk_us, ap_wrN, ap_wrS]
    exact hp
theorem ay_st1 {post : SY → Prop} {l k f g R r c : Nat} {d : Nat → Int32} (l15 : l ≤ 15) (hk : ag_kf k f g) (hw : wt l = nI (ag_w k f g)) (V : ap_VS R r c) (H : ap_Y rk rw wd dt (14 + l * 2) R r c d)
    (hR : ay_R post (14 + l * 2) ct (nI l) tx rk rw wd dt (upd wt l (-1)) fi (ap_one k f R r c d)) : wpY_settle post (ct, nI l, 0, tx, rk, rw, wd, dt, wt, fi) := by
  have w4 := (ag_w1 hk).2.2.2
  have z : ¬ nI (ag_w k f g) < 0 := nI_pos (by omega)
  have ok := ap_v36 (ap_oneV (k := k) (f := f) (d := d) V)
  simp (disch := omega) only [wpY_settle, wpY_valuePlace, hw, z, an_n2, an_b14, vp_in_nI, nI_clamp, nI_leI, nI_ltI, nI_eq, nI_add, nI_1, pk_mul, an_m36, an_n36, an_b468, forall_eq, true_and, and_true, true_implies, false_implies, not_true, not_false_iff, implies_true, pk_un, pk_us, ap_wrN, ap_wrS]
  refine ay_one hk (by omega) (by omega) V H (fun rk' rw' wd' dt' F Y => ?_)
  simp (disch := omega) only [an_n2, an_b14]
  refine ay_cp (a := 13) (b := 14 + l * 2) (by omega) (by omega) (by omega) ?_
  simp (disch := omega) only [vp_in_nI, nI_clamp, nI_leI, nI_ltI, nI_eq, nI_add, nI_1, pk_mul, an_m36, an_n36, an_b468, forall_eq, true_and, and_true, true_implies, false_implies, not_true, not_false_iff, implies_true, pk_un, pk_us, ap_wrN, ap_wrS]
  refine hR _ _ _ _ (ap_Kt (ap_KF (Or.inl rfl) F) (ap_KF (Or.inr (Nat.le_refl _)) ap_cpF)) (fun z => ap_cpY ok (Y z))
theorem ay_op59 {post : SY → Prop} {l : Nat} (l15 : l ≤ 15) (hp : post (ct, nI l, er, tx, rk, rw, wd, dt, upd wt l (-1), upd fi l 1)) : wY_operand_59 post ct (nI l) er tx rk rw wd dt wt fi := by
  simp (disch := omega) only [wY_operand_59, an_bt, vp_in_nI, nI_clamp, nI_leI, nI_ltI, nI_eq, nI_add, nI_1, pk_mul, an_m36, an_n36, an_b468, forall_eq, true_and, and_true, true_implies, false_implies, not_true, not_false_iff, implies_true, pk_un, pk_us, ap_wrN, ap_wrS]
  exact hp
theorem ay_op0 {post : SY → Prop} {l R r c : Nat} {d : Nat → Int32} (l15 : l ≤ 15) (hf : fi l = 0) (V : ap_VS R r c) (H : ap_Y rk rw wd dt (14 + l * 2 + 1) R r c d)
    (hp : ∀ rk' rw' wd' dt', ap_K (14 + l * 2) rk rw wd dt rk' rw' wd' dt' → ap_Y rk' rw' wd' dt' (14 + l * 2) R r c d → post (ct, nI l, er, tx, rk', rw', wd', dt', upd wt l (-1), upd fi l 1)) : wpY_operand post (ct, nI l, er, tx, rk, rw, wd, dt, wt, fi) := by
  simp (disch := omega) only [wpY_operand, wpY_valuePlace, hf, an_n2, an_b14, vp_in_nI, nI_clamp, nI_leI, nI_ltI, nI_eq, nI_add, nI_1, pk_mul, an_m36, an_n36, an_b468, forall_eq, true_and, and_true, true_implies, false_implies, not_true, not_false_iff, implies_true, pk_un, pk_us, ap_wrN, ap_wrS]
  refine ay_cp (by omega) (by omega) (by omega) (ay_op59 l15 (hp _ _ _ _ (ap_KF (Or.inr (Nat.le_refl _)) ap_cpF) (ap_cpY (ap_v36 V) H)))
theorem ay_opE {post : SY → Prop} {l : Nat} (l15 : l ≤ 15) (he : er ≠ 0)
    (hp : ∀ rk' rw' wd' dt', ap_K (14 + l * 2) rk rw wd dt rk' rw' wd' dt' → post (ct, nI l, er, tx, rk', rw', wd', dt', upd wt l (-1), upd fi l 1)) : wpY_operand post (ct, nI l, er, tx, rk, rw, wd, dt, wt, fi) := by
  by_cases hf : fi l = 0
  · simp (disch := omega) only [wpY_operand, wpY_valuePlace, hf, an_n2, an_b14, vp_in_nI, nI_clamp, nI_leI, nI_ltI, nI_eq, nI_add, nI_1, pk_mul, an_m36, an_n36, an_b468, forall_eq, true_and, and_true, true_implies, false_implies, not_true, not_false_iff, implies_true, pk_un, pk_us, ap_wrN, ap_wrS]
    exact ay_cp (by omega) (by omega) (by omega) (ay_op59 l15 (hp _ _ _ _ (ap_KF (Or.inr (Nat.le_refl _)) ap_cpF)))
  · simp (disch := omega) only [wpY_operand, wpY_valuePlace, hf, he, an_n2, an_b14, vp_in_nI, nI_clamp, nI_leI, nI_ltI, nI_eq, nI_add, nI_1, pk_mul, an_m36, an_n36, an_b468, forall_eq, true_and, and_true, true_implies, false_implies, not_true, not_false_iff, implies_true, pk_un, pk_us, ap_wrN, ap_wrS]
    exact ay_op59 l15 (hp _ _ _ _ (ap_Kr _ _ _ _ _))
theorem ay_op1 {post : SY → Prop} {l k f g R r c S s t : Nat} {d e : Nat → Int32} (l15 : l ≤ 15) (hf : fi l = 1) (hk : ag_kf k f g) (hw : wt l = nI (ag_w k f g))
    (V : ap_VS R r c) (H : ap_Y rk rw wd dt (14 + l * 2 + 1) R r c d) (W : ap_VS S s t) (K : ap_Y rk rw wd dt (14 + l * 2) S s t e)
    (hR : ay_R post (14 + l * 2) ct (nI l) tx rk rw wd dt (upd wt l (-1)) (upd fi l 1) (ap_two R r c d S s t e k f g)) : wpY_operand post (ct, nI l, 0, tx, rk, rw, wd, dt, wt, fi) := by
  have z1 : ¬ (1 : Int32) = 0 := by decide
  have ok := ap_v36 (ap_twoV (k := k) (f := f) (g := g) (d := d) (e := e) V W)
  simp (disch := omega) only [wpY_operand, wpY_valuePlace, hf, hw, z1, an_n2, an_b14, vp_in_nI, nI_clamp, nI_leI, nI_ltI, nI_eq, nI_add, nI_1, pk_mul, an_m36, an_n36, an_b468, forall_eq, true_and, and_true, true_implies, false_implies, not_true, not_false_iff, implies_true, pk_un, pk_us, ap_wrN, ap_wrS]
  refine ay_two hk (by omega) (by omega) (by omega) (by omega) V H W K (fun rk' rw' wd' dt' F Y => ?_)
  dsimp only
  refine ay_cp (a := 13) (by omega) (by omega) (by omega) (ay_op59 l15 ?_)
  exact hR _ _ _ _ (ap_Kt (ap_KF (Or.inl rfl) F) (ap_KF (Or.inr (Nat.le_refl _)) ap_cpF)) (fun z => ap_cpY ok (Y z))
end
end
section
/-! which texts are statements -/
theorem ax_st (post : Int32 → Prop) {s t : Nat} (hs : s < 7) (ht : t < 53) : wpX_stateAfter post (nI s) (nI t) = post (nI (ag_step s t)) := by
  have z1 : ¬ (1 : Int32) = 0 := by decide
  have e50 : wX_stateAfter_50 post (nI s) (nI t) = post (nI (if ag_sc t then 2 else if ag_mx t then 1 else if t = 42 then 3 else if s = 4 ∨ s = 5 ∨ s = 6 then (if s = 4 ∧ t ≤ 9 then 4 else if s = 5 ∧ t = 52 then 1 else if t = 51 then 6 else 0) else (if t ≤ 9 then 4 else if ag_nm t then 5 else if t = 50 then 1 else 0))) := by
    by_cases a : ag_sc t
    · rw [if_pos a]
      simp (disch := omega) only [wX_stateAfter_50, ax_S1 _ a, z1, vp_in_nI, nI_clamp, nI_leI, nI_ltI, nI_eq, nI_add, nI_1, pk_mul, an_m36, an_n36, an_b468, forall_eq, true_and, and_true, true_implies, false_implies, not_true, not_false_iff, implies_true, pk_un, pk_us, ap_wrN, ap_wrS]
      rfl
    rw [if_neg a]
    by_cases b : ag_mx t
    · rw [if_pos b]
      simp (disch := omega) only [wX_stateAfter_50, ax_S0 _ (show t < 1000 by omega) a, ax_M1 _ b, z1, vp_in_nI, nI_clamp, nI_leI, nI_ltI, nI_eq, nI_add, nI_1, pk_mul, an_m36, an_n36, an_b468, forall_eq, true_and, and_true, true_implies, false_implies, not_true, not_false_iff, implies_true, pk_un, pk_us, ap_wrN, ap_wrS]
      rfl
    rw [if_neg b]
    by_cases c : t = 42
    · rw [if_pos c]
      simp (disch := omega) only [wX_stateAfter_50, ax_S0 _ (show t < 1000 by omega) a, ax_M0 _ (show t < 1000 by omega) b, an_e42, eq_true c, vp_in_nI, nI_clamp, nI_leI, nI_ltI, nI_eq, nI_add, nI_1, pk_mul, an_m36, an_n36, an_b468, forall_eq, true_and, and_true, true_implies, false_implies, not_true, not_false_iff, implies_true, pk_un, pk_us, ap_wrN, ap_wrS]
      rfl
    rw [if_neg c]
    by_cases d : s = 4 ∨ s = 5 ∨ s = 6
    · rw [if_pos d]
      have en : ∀ P : Int32 → Prop, wpX_endsOperand P (nI s) = P 1 := fun P => by
        simp (disch := omega) only [wpX_endsOperand, an_e4, an_e5, an_e6]
        rcases d with rfl | rfl | rfl <;> simp
      by_cases d4 : s = 4
      · by_cases d9 : t ≤ 9
        · rw [if_pos ⟨d4, d9⟩]
          simp (disch := omega) only [wX_stateAfter_50, ax_S0 _ (show t < 1000 by omega) a, ax_M0 _ (show t < 1000 by omega) b, an_e42, c, en, wpX_stateBehindOperand, an_e4, eq_true d4, ax_D1 _ d9, z1, vp_in_nI, nI_clamp, nI_leI, nI_ltI, nI_eq, nI_add, nI_1, pk_mul, an_m36, an_n36, an_b468, forall_eq, true_and, and_true, true_implies, false_implies, not_true, not_false_iff, implies_true, pk_un, pk_us, ap_wrN, ap_wrS]
          rfl
        · rw [if_neg (fun z => d9 z.2), if_neg (by omega)]
          have d5 : ¬ s = 5 := by omega
          by_cases d51 : t = 51
          · rw [if_pos d51]
            simp (disch := omega) only [wX_stateAfter_50, ax_S0 _ (show t < 1000 by omega) a, ax_M0 _ (show t < 1000 by omega) b, an_e42, c, en, z1, wpX_stateBehindOperand, wX_stateBehindOperand_14, wX_stateBehindOperand_27, an_e4, an_e5, an_e51, eq_true d4, d5, ax_D0 _ (show t < 1000 by omega) d9, eq_true d51, vp_in_nI, nI_clamp, nI_leI, nI_ltI, nI_eq, nI_add, nI_1, pk_mul, an_m36, an_n36, an_b468, forall_eq, true_and, and_true, true_implies, false_implies, not_true, not_false_iff, implies_true, pk_un, pk_us, ap_wrN, ap_wrS]
            rfl
          · rw [if_neg d51]
            simp (disch := omega) only [wX_stateAfter_50, ax_S0 _ (show t < 1000 by omega) a, ax_M0 _ (show t < 1000 by omega) b, an_e42, c, en, z1, wpX_stateBehindOperand, wX_stateBehindOperand_14, wX_stateBehindOperand_27, an_e4, an_e5, an_e51, eq_true d4, d5, ax_D0 _ (show t < 1000 by omega) d9, d51, vp_in_nI, nI_clamp, nI_leI, nI_ltI, nI_eq, nI_add, nI_1, pk_mul, an_m36, an_n36, an_b468, forall_eq, true_and, and_true, true_implies, false_implies, not_true, not_false_iff, implies_true, pk_un, pk_us, ap_wrN, ap_wrS]
            rfl
      · rw [if_neg (fun z => d4 z.1)]
        by_cases d5 : s = 5
        · by_cases d52 : t = 52
          · rw [if_pos ⟨d5, d52⟩]
            simp (disch := omega) only [wX_stateAfter_50, ax_S0 _ (show t < 1000 by omega) a, ax_M0 _ (show t < 1000 by omega) b, an_e42, c, en, z1, wpX_stateBehindOperand, wX_stateBehindOperand_14, wX_stateBehindOperand_27, an_e4, an_e5, an_e52, eq_true d5, d4, eq_true d52, vp_in_nI, nI_clamp, nI_leI, nI_ltI, nI_eq, nI_add, nI_1, pk_mul, an_m36, an_n36, an_b468, forall_eq, true_and, and_true, true_implies, false_implies, not_true, not_false_iff, implies_true, pk_un, pk_us, ap_wrN, ap_wrS]
            rfl
          · rw [if_neg (fun z => d52 z.2)]
            by_cases d51 : t = 51
            · rw [if_pos d51]
              simp (disch := omega) only [wX_stateAfter_50, ax_S0 _ (show t < 1000 by omega) a, ax_M0 _ (show t < 1000 by omega) b, an_e42, c, en, z1, wpX_stateBehindOperand, wX_stateBehindOperand_14, wX_stateBehindOperand_27, an_e4, an_e5, an_e52, an_e51, eq_true d5, d4, eq_true d51, d52, vp_in_nI, nI_clamp, nI_leI, nI_ltI, nI_eq, nI_add, nI_1, pk_mul, an_m36, an_n36, an_b468, forall_eq, true_and, and_true, true_implies, false_implies, not_true, not_false_iff, implies_true, pk_un, pk_us, ap_wrN, ap_wrS]
              rfl
            · rw [if_neg d51]
              simp (disch := omega) only [wX_stateAfter_50, ax_S0 _ (show t < 1000 by omega) a, ax_M0 _ (show t < 1000 by omega) b, an_e42, c, en, z1, wpX_stateBehindOperand, wX_stateBehindOperand_14, wX_stateBehindOperand_27, an_e4, an_e5, an_e52, an_e51, eq_true d5, d4, d51, d52, vp_in_nI, nI_clamp, nI_leI, nI_ltI, nI_eq, nI_add, nI_1, pk_mul, an_m36, an_n36, an_b468, forall_eq, true_and, and_true, true_implies, false_implies, not_true, not_false_iff, implies_true, pk_un, pk_us, ap_wrN, ap_wrS]
              rfl
        · rw [if_neg (fun z => d5 z.1)]
          by_cases d51 : t = 51
          · rw [if_pos d51]
            simp (disch := omega) only [wX_stateAfter_50, ax_S0 _ (show t < 1000 by omega) a, ax_M0 _ (show t < 1000 by omega) b, an_e42, c, en, z1, wpX_stateBehindOperand, wX_stateBehindOperand_14, wX_stateBehindOperand_27, an_e4, an_e5, an_e51, d4, d5, eq_true d51, vp_in_nI, nI_clamp, nI_leI, nI_ltI, nI_eq, nI_add, nI_1, pk_mul, an_m36, an_n36, an_b468, forall_eq, true_and, and_true, true_implies, false_implies, not_true, not_false_iff, implies_true, pk_un, pk_us, ap_wrN, ap_wrS]
            rfl
          · rw [if_neg d51]
            simp (disch := omega) only [wX_stateAfter_50, ax_S0 _ (show t < 1000 by omega) a, ax_M0 _ (show t < 1000 by omega) b, an_e42, c, en, z1, wpX_stateBehindOperand, wX_stateBehindOperand_14, wX_stateBehindOperand_27, an_e4, an_e5, an_e51, d4, d5, d51, vp_in_nI, nI_clamp, nI_leI, nI_ltI, nI_eq, nI_add, nI_1, pk_mul, an_m36, an_n36, an_b468, forall_eq, true_and, and_true, true_implies, false_implies, not_true, not_false_iff, implies_true, pk_un, pk_us, ap_wrN, ap_wrS]
            rfl
    · rw [if_neg d]
      have en : ∀ P : Int32 → Prop, wpX_endsOperand P (nI s) = P 0 := fun P => by
        have d4 : ¬ s = 4 := by omega
        have d5 : ¬ s = 5 := by omega
        have d6 : ¬ s = 6 := by omega
        simp (disch := omega) only [wpX_endsOperand, an_e4, an_e5, an_e6, d4, d5, d6, vp_in_nI, nI_clamp, nI_leI, nI_ltI, nI_eq, nI_add, nI_1, pk_mul, an_m36, an_n36, an_b468, forall_eq, true_and, and_true, true_implies, false_implies, not_true, not_false_iff, implies_true, pk_un, pk_us, ap_wrN, ap_wrS]
      by_cases d9 : t ≤ 9
      · rw [if_pos d9]
        simp (disch := omega) only [wX_stateAfter_50, ax_S0 _ (show t < 1000 by omega) a, ax_M0 _ (show t < 1000 by omega) b, an_e42, c, en, wpX_stateInOperand, ax_D1 _ d9, z1, vp_in_nI, nI_clamp, nI_leI, nI_ltI, nI_eq, nI_add, nI_1, pk_mul, an_m36, an_n36, an_b468, forall_eq, true_and, and_true, true_implies, false_implies, not_true, not_false_iff, implies_true, pk_un, pk_us, ap_wrN, ap_wrS]
        rfl
      · rw [if_neg d9]
        by_cases dn : ag_nm t
        · rw [if_pos dn]
          simp (disch := omega) only [wX_stateAfter_50, ax_S0 _ (show t < 1000 by omega) a, ax_M0 _ (show t < 1000 by omega) b, an_e42, c, en, wpX_stateInOperand, ax_D0 _ (show t < 1000 by omega) d9, ax_N1 _ dn, z1, vp_in_nI, nI_clamp, nI_leI, nI_ltI, nI_eq, nI_add, nI_1, pk_mul, an_m36, an_n36, an_b468, forall_eq, true_and, and_true, true_implies, false_implies, not_true, not_false_iff, implies_true, pk_un, pk_us, ap_wrN, ap_wrS]
          rfl
        · rw [if_neg dn]
          by_cases d50 : t = 50
          · rw [if_pos d50]
            simp (disch := omega) only [wX_stateAfter_50, ax_S0 _ (show t < 1000 by omega) a, ax_M0 _ (show t < 1000 by omega) b, an_e42, c, en, wpX_stateInOperand, ax_D0 _ (show t < 1000 by omega) d9, ax_N0 _ (show t < 1000 by omega) dn, an_e50, eq_true d50, vp_in_nI, nI_clamp, nI_leI, nI_ltI, nI_eq, nI_add, nI_1, pk_mul, an_m36, an_n36, an_b468, forall_eq, true_and, and_true, true_implies, false_implies, not_true, not_false_iff, implies_true, pk_un, pk_us, ap_wrN, ap_wrS]
            rfl
          · rw [if_neg d50]
            simp (disch := omega) only [wX_stateAfter_50, ax_S0 _ (show t < 1000 by omega) a, ax_M0 _ (show t < 1000 by omega) b, an_e42, c, en, wpX_stateInOperand, ax_D0 _ (show t < 1000 by omega) d9, ax_N0 _ (show t < 1000 by omega) dn, an_e50, d50, vp_in_nI, nI_clamp, nI_leI, nI_ltI, nI_eq, nI_add, nI_1, pk_mul, an_m36, an_n36, an_b468, forall_eq, true_and, and_true, true_implies, false_implies, not_true, not_false_iff, implies_true, pk_un, pk_us, ap_wrN, ap_wrS]
            rfl
  unfold ag_step
  by_cases a : s = 3
  · rw [if_pos a]
    by_cases b : ag_sc t
    · rw [if_pos b]
      simp (disch := omega) only [wpX_stateAfter, an_e3, eq_true a, ax_S1 _ b, z1, vp_in_nI, nI_clamp, nI_leI, nI_ltI, nI_eq, nI_add, nI_1, pk_mul, an_m36, an_n36, an_b468, forall_eq, true_and, and_true, true_implies, false_implies, not_true, not_false_iff, implies_true, pk_un, pk_us, ap_wrN, ap_wrS]
      rfl
    · rw [if_neg b]
      simp (disch := omega) only [wpX_stateAfter, an_e3, eq_true a, ax_S0 _ (show t < 1000 by omega) b, vp_in_nI, nI_clamp, nI_leI, nI_ltI, nI_eq, nI_add, nI_1, pk_mul, an_m36, an_n36, an_b468, forall_eq, true_and, and_true, true_implies, false_implies, not_true, not_false_iff, implies_true, pk_un, pk_us, ap_wrN, ap_wrS]
      rfl
  rw [if_neg a]
  by_cases b : s = 2
  · by_cases b1 : t = 40 ∨ t = 41
    · rw [if_pos ⟨b, b1⟩]
      rcases b1 with b1 | b1
      · simp (disch := omega) only [wpX_stateAfter, an_e3, an_e2, an_e40, a, eq_true b, eq_true b1, vp_in_nI, nI_clamp, nI_leI, nI_ltI, nI_eq, nI_add, nI_1, pk_mul, an_m36, an_n36, an_b468, forall_eq, true_and, and_true, true_implies, false_implies, not_true, not_false_iff, implies_true, pk_un, pk_us, ap_wrN, ap_wrS]
        rfl
      · simp (disch := omega) only [wpX_stateAfter, an_e3, an_e2, an_e40, an_e41, a, eq_true b, eq_true b1, show (t = 40) = False from eq_false (by omega), vp_in_nI, nI_clamp, nI_leI, nI_ltI, nI_eq, nI_add, nI_1, pk_mul, an_m36, an_n36, an_b468, forall_eq, true_and, and_true, true_implies, false_implies, not_true, not_false_iff, implies_true, pk_un, pk_us, ap_wrN, ap_wrS]
        rfl
    · rw [if_neg (fun z => b1 z.2)]
      have c1 : ¬ t = 40 := by omega
      have c2 : ¬ t = 41 := by omega
      by_cases b3 : t = 43
      · rw [if_pos ⟨b, b3⟩]
        simp (disch := omega) only [wpX_stateAfter, wX_stateAfter_37, an_e3, an_e2, an_e40, an_e41, an_e43, a, eq_true b, c1, c2, eq_true b3, vp_in_nI, nI_clamp, nI_leI, nI_ltI, nI_eq, nI_add, nI_1, pk_mul, an_m36, an_n36, an_b468, forall_eq, true_and, and_true, true_implies, false_implies, not_true, not_false_iff, implies_true, pk_un, pk_us, ap_wrN, ap_wrS]
        rfl
      · rw [if_neg (fun z => b3 z.2), ← e50]
        simp (disch := omega) only [wpX_stateAfter, wX_stateAfter_37, an_e3, an_e2, an_e40, an_e41, an_e43, a, eq_true b, c1, c2, b3, vp_in_nI, nI_clamp, nI_leI, nI_ltI, nI_eq, nI_add, nI_1, pk_mul, an_m36, an_n36, an_b468, forall_eq, true_and, and_true, true_implies, false_implies, not_true, not_false_iff, implies_true, pk_un, pk_us, ap_wrN, ap_wrS]
  · rw [if_neg (fun z => b z.1), if_neg (fun z => b z.1), ← e50]
    simp (disch := omega) only [wpX_stateAfter, wX_stateAfter_37, an_e3, an_e2, a, b, vp_in_nI, nI_clamp, nI_leI, nI_ltI, nI_eq, nI_add, nI_1, pk_mul, an_m36, an_n36, an_b468, forall_eq, true_and, and_true, true_implies, false_implies, not_true, not_false_iff, implies_true, pk_un, pk_us, ap_wrN, ap_wrS]
section
variable {tc lv : Int32} {tx rk rw cl nb gv wt : Nat → Int32}
theorem ax_rdL {post : Int32 → Prop} {n : Nat} {tn : Nat → Nat} (hn : n ≤ 30) (ht : ∀ j, tx j = nI (tn j)) (hk : ∀ j, ag_tok (tn j)) (h1 : ag_ok tn n → post 1) (h0 : ¬ ag_ok tn n → post 0) :
    ∀ m p f, p + m = n → m < f → ag_pre tn p → wX_reads_6 post (nI n) lv tx rk rw cl nb gv wt f (nI (ag_st tn p)) (nI (ag_dp tn p)) (nI p) := by
  intro m
  induction m with
  | zero =>
    intro p f hp hf pre
    obtain ⟨f, rfl⟩ : ∃ k, f = k + 1 := ⟨f - 1, by omega⟩
    have e : p = n := by omega
    subst e
    have s7 := ag_s7 tn p
    have d30 := ag_dle tn p
    have z : p ≤ p := Nat.le_refl p
    have z1 : ¬ (1 : Int32) = 0 := by decide
    simp (disch := omega) only [wX_reads_6, wpX_endsOperand, z, an_e0, an_e4, an_e5, an_e6, z1, vp_in_nI, nI_clamp, nI_leI, nI_ltI, nI_eq, nI_add, nI_1, pk_mul, an_m36, an_n36, an_b468, forall_eq, true_and, and_true, true_implies, false_implies, not_true, not_false_iff, implies_true, pk_un, pk_us, ap_wrN, ap_wrS]
    by_cases d : ag_dp tn p = 0
    · refine br_t d ?_
      by_cases g : 4 ≤ ag_st tn p
      · have q := h1 ⟨pre, d, g⟩
        refine br_c (fun _ => q) (fun g4 => br_c (fun _ => q) (fun g5 => br_c (fun _ => q) (fun g6 => ?_)))
        omega
      · have q := h0 (fun k => g k.2.2)
        exact br_f (by omega) (br_f (by omega) (br_f (by omega) q))
    · exact br_f d (h0 (fun k => d k.2.1))
  | succ m ih =>
    intro p f hp hf pre
    obtain ⟨f, rfl⟩ : ∃ k, f = k + 1 := ⟨f - 1, by omega⟩
    have s7 := ag_s7 tn p
    have t0 := ag_tk (hk p)
    have d30 := ag_dle tn p
    have z : ¬ n ≤ p := by omega
    have s7' := ag_s7 tn (p + 1)
    have fin : ∀ (o : Int32), (tn p = 51 → ag_dp tn p = 0 → o = -1) → ((tn p = 51 → 0 < ag_dp tn p) → o = nI (ag_dp tn (p + 1))) → (ag_st tn (p + 1) = 0 → post 0) ∧ (¬ ag_st tn (p + 1) = 0 → (0 ≤ o → wX_reads_6 post (nI n) lv tx rk rw cl nb gv wt f (nI (ag_st tn (p + 1))) o (nI (p + 1))) ∧ (¬ 0 ≤ o → post 0)) := by
      intro o o1 o2
      refine br_c (fun e => h0 (ag_no (by omega) e)) (fun e => ?_)
      by_cases g : tn p = 51 ∧ ag_dp tn p = 0
      · have e1 := o1 g.1 g.2
        subst e1
        exact br_f (by decide) (h0 (ag_nod (by omega) g.1 g.2))
      · have g2 : tn p = 51 → 0 < ag_dp tn p := fun z => by omega
        have e1 := o2 g2
        subst e1
        have d31 := ag_dle tn (p + 1)
        exact br_t (nI_pos' (by omega)) (ih (p + 1) f (by omega) (by omega) (ag_preS pre e g2))
    simp (disch := omega) only [wX_reads_6, wX_reads_53, ht, ax_st _ s7 t0, z, an_e50, an_e51, vp_in_nI, nI_clamp, nI_leI, nI_ltI, nI_eq, nI_add, nI_1, pk_mul, an_m36, an_n36, an_b468, forall_eq, true_and, and_true, true_implies, false_implies, not_true, not_false_iff, implies_true, pk_un, pk_us, ap_wrN, ap_wrS]
    rw [← ag_s]
    have en : (nI (ag_st tn (p + 1)) = 0) = (ag_st tn (p + 1) = 0) := an_e0 (by omega)
    rw [en]
    by_cases a : tn p = 50
    · have e : ag_dp tn (p + 1) = ag_dp tn p + 1 := by rw [ag_d, if_pos a]
      exact br_t a (fin _ (by omega) (fun _ => by rw [e]))
    · refine br_f a ?_
      by_cases b : tn p = 51
      · refine br_t b (fin _ (fun _ e => by rw [e]; decide) (fun g => ?_))
        have e : ag_dp tn (p + 1) = ag_dp tn p - 1 := by rw [ag_d, if_neg a, if_pos b]
        rw [e]
        exact an_m1s (g b)
      · refine br_f b (fin _ (by omega) (fun _ => ?_))
        have e : ag_dp tn (p + 1) = ag_dp tn p := by rw [ag_d, if_neg a, if_neg b]
        rw [e, Int32.add_zero]
theorem ax_rd {post : Int32 → Prop} {n : Nat} {tn : Nat → Nat} (hn : n ≤ 30) (ht : ∀ j, tx j = nI (tn j)) (hk : ∀ j, ag_tok (tn j)) (h1 : ag_ok tn n → post 1) (h0 : ¬ ag_ok tn n → post 0) : wpX_reads post (nI n, lv, tx, rk, rw, cl, nb, gv, wt) :=
  ⟨n + 1, ax_rdL hn ht hk h1 h0 n 0 (n + 1) (by omega) (by omega) (ag_pre0 tn)⟩
end
end
section
/-! Y: which texts are statements -/
theorem ag_fs3 (tn : Nat → Nat) (n i : Nat) : ag_fs tn n i ≤ 3 := by
  unfold ag_fs
  repeat' split
  all_goals omega
section
variable {ct lv er : Int32} {tx rk rw wd dt wt fi : Nat → Int32}
theorem ay_tkG (post : Int32 → Prop) {n p : Nat} {tn : Nat → Nat} (hn : n ≤ 30) (ht : ∀ j, tx j = nI (tn j)) (hp : p < 1000) : wpY_tokenAt post (nI n, lv, er, tx, rk, rw, wd, dt, wt, fi) (nI p) = post (if p < n then nI (tn p) else -1) := by
  have z0 : ¬ nI p < 0 := nI_pos (by omega)
  by_cases h : p < n
  · rw [if_pos h]
    have z : ¬ n ≤ p := by omega
    simp (disch := omega) only [wpY_tokenAt, ht, z, z0, vp_in_nI, nI_clamp, nI_leI, nI_ltI, nI_eq, nI_add, nI_1, pk_mul, an_m36, an_n36, an_b468, forall_eq, true_and, and_true, true_implies, false_implies, not_true, not_false_iff, implies_true, pk_un, pk_us, ap_wrN, ap_wrS]
  · rw [if_neg h]
    have z : n ≤ p := by omega
    simp (disch := omega) only [wpY_tokenAt, z, z0, vp_in_nI, nI_clamp, nI_leI, nI_ltI, nI_eq, nI_add, nI_1, pk_mul, an_m36, an_n36, an_b468, forall_eq, true_and, and_true, true_implies, false_implies, not_true, not_false_iff, implies_true, pk_un, pk_us, ap_wrN, ap_wrS]
theorem ay_S1 (post : Int32 → Prop) {n p : Nat} {tn : Nat → Nat} (hn : n ≤ 30) (ht : ∀ j, tx j = nI (tn j)) (hp : p < n) (h : ag_sc (tn p)) : wpY_isScalar post (nI n, lv, er, tx, rk, rw, wd, dt, wt, fi) (nI p) = post 1 := by
  have a : ¬ tn p < 20 := by omega
  have b : ¬ 27 < tn p := by omega
  simp (disch := omega) only [wpY_isScalar, ay_tkG _ hn ht, hp, if_true, an_t20, an_u27, a, b, vp_in_nI, nI_clamp, nI_leI, nI_ltI, nI_eq, nI_add, nI_1, pk_mul, an_m36, an_n36, an_b468, forall_eq, true_and, and_true, true_implies, false_implies, not_true, not_false_iff, implies_true, pk_un, pk_us, ap_wrN, ap_wrS]
theorem ay_S0 (post : Int32 → Prop) {n p : Nat} {tn : Nat → Nat} (hn : n ≤ 30) (ht : ∀ j, tx j = nI (tn j)) (hk : ∀ j, ag_tok (tn j)) (hp : p < 1000) (h : ¬ (p < n ∧ ag_sc (tn p))) : wpY_isScalar post (nI n, lv, er, tx, rk, rw, wd, dt, wt, fi) (nI p) = post 0 := by
  have t0 := ag_tk (hk p)
  by_cases q : p < n
  · simp (disch := omega) only [wpY_isScalar, ay_tkG _ hn ht, q, if_true, an_t20, an_u27]
    by_cases a : tn p < 20
    · simp only [a, true_implies, not_true, false_implies, and_true]
    · have b : 27 < tn p := by omega
      simp only [a, b, false_implies, not_false_iff, true_implies, true_and, not_true, and_true]
  · have m : (-1 : Int32) < 20 := by decide
    simp (disch := omega) only [wpY_isScalar, ay_tkG _ hn ht, q, if_false, m, vp_in_nI, nI_clamp, nI_leI, nI_ltI, nI_eq, nI_add, nI_1, pk_mul, an_m36, an_n36, an_b468, forall_eq, true_and, and_true, true_implies, false_implies, not_true, not_false_iff, implies_true, pk_un, pk_us, ap_wrN, ap_wrS]
theorem ay_fs (post : Int32 → Prop) {n i : Nat} {tn : Nat → Nat} (hn : n ≤ 30) (ht : ∀ j, tx j = nI (tn j)) (hk : ∀ j, ag_tok (tn j)) (hi : i < n) : wpY_functionSize post (nI n, lv, er, tx, rk, rw, wd, dt, wt, fi) (nI i) = post (nI (ag_fs tn n i)) := by
  have t0 := ag_tk (hk i)
  have t1 := ag_tk (hk (i + 1))
  have z1 : ¬ (1 : Int32) = 0 := by decide
  have m1 : ¬ (-1 : Int32) = 40 := by decide
  have m2 : ¬ (-1 : Int32) = 41 := by decide
  have m3 : ¬ (-1 : Int32) = 43 := by decide
  unfold ag_fs
  by_cases m : ag_mx (tn i)
  · rw [if_pos m]
    have a : ¬ tn i < 30 := by omega
    have b : ¬ 38 < tn i := by omega
    simp (disch := omega) only [wpY_functionSize, ay_tkG _ hn ht, hi, if_true, an_t30, an_u38, a, b, vp_in_nI, nI_clamp, nI_leI, nI_ltI, nI_eq, nI_add, nI_1, pk_mul, an_m36, an_n36, an_b468, forall_eq, true_and, and_true, true_implies, false_implies, not_true, not_false_iff, implies_true, pk_un, pk_us, ap_wrN, ap_wrS]
    rfl
  rw [if_neg m]
  have c20 : wpY_functionSize post (nI n, lv, er, tx, rk, rw, wd, dt, wt, fi) (nI i) = wY_functionSize_20 post (nI i) (nI (tn i)) (nI n) lv er tx rk rw wd dt wt fi := by
    simp (disch := omega) only [wpY_functionSize, ay_tkG _ hn ht, hi, if_true, an_t30, an_u38]
    by_cases a : tn i < 30
    · simp only [a, true_implies, not_true, false_implies, and_true]
    · have b : 38 < tn i := by omega
      simp only [a, b, false_implies, not_false_iff, true_implies, true_and, not_true, and_true]
  rw [c20]
  by_cases o : tn i = 42
  · rw [if_pos o]
    by_cases k : i + 1 < n ∧ ag_sc (tn (i + 1))
    · rw [if_pos k]
      simp (disch := omega) only [wY_functionSize_20, an_e42, eq_true o, nI_1, ay_S1 _ hn ht k.1 k.2, z1, vp_in_nI, nI_clamp, nI_leI, nI_ltI, nI_eq, nI_add, nI_1, pk_mul, an_m36, an_n36, an_b468, forall_eq, true_and, and_true, true_implies, false_implies, not_true, not_false_iff, implies_true, pk_un, pk_us, ap_wrN, ap_wrS]
      rfl
    · rw [if_neg k]
      simp (disch := omega) only [wY_functionSize_20, an_e42, eq_true o, nI_1, ay_S0 _ hn ht hk (show i + 1 < 1000 by omega) k, vp_in_nI, nI_clamp, nI_leI, nI_ltI, nI_eq, nI_add, nI_1, pk_mul, an_m36, an_n36, an_b468, forall_eq, true_and, and_true, true_implies, false_implies, not_true, not_false_iff, implies_true, pk_un, pk_us, ap_wrN, ap_wrS]
      rfl
  rw [if_neg o]
  by_cases s : ag_sc (tn i)
  case neg =>
    rw [if_pos s]
    simp (disch := omega) only [wY_functionSize_20, an_e42, o, ay_S0 _ hn ht hk (show i < 1000 by omega) (fun z => s z.2), vp_in_nI, nI_clamp, nI_leI, nI_ltI, nI_eq, nI_add, nI_1, pk_mul, an_m36, an_n36, an_b468, forall_eq, true_and, and_true, true_implies, false_implies, not_true, not_false_iff, implies_true, pk_un, pk_us, ap_wrN, ap_wrS]
    rfl
  rw [if_neg (fun z => z s)]
  by_cases b : i + 1 < n
  case neg =>
    rw [if_neg (fun z => b z.1), if_neg (fun z => b z.1)]
    simp (disch := omega) only [wY_functionSize_20, an_e42, o, ay_S1 _ hn ht hi s, z1, nI_1, ay_tkG _ hn ht, b, if_false, m1, m2, m3, vp_in_nI, nI_clamp, nI_leI, nI_ltI, nI_eq, nI_add, nI_1, pk_mul, an_m36, an_n36, an_b468, forall_eq, true_and, and_true, true_implies, false_implies, not_true, not_false_iff, implies_true, pk_un, pk_us, ap_wrN, ap_wrS]
    rfl
  by_cases k : tn (i + 1) = 43
  · rw [if_pos ⟨b, k⟩]
    by_cases k2 : i + 2 < n ∧ ag_sc (tn (i + 2))
    · rw [if_pos k2]
      simp (disch := omega) only [wY_functionSize_20, an_e42, o, ay_S1 _ hn ht hi s, z1, nI_1, ay_tkG _ hn ht, b, if_true, an_e43, eq_true k, an_a2, ay_S1 _ hn ht k2.1 k2.2, vp_in_nI, nI_clamp, nI_leI, nI_ltI, nI_eq, nI_add, nI_1, pk_mul, an_m36, an_n36, an_b468, forall_eq, true_and, and_true, true_implies, false_implies, not_true, not_false_iff, implies_true, pk_un, pk_us, ap_wrN, ap_wrS]
      rfl
    · rw [if_neg k2]
      simp (disch := omega) only [wY_functionSize_20, an_e42, o, ay_S1 _ hn ht hi s, z1, nI_1, ay_tkG _ hn ht, b, if_true, an_e43, eq_true k, an_a2, ay_S0 _ hn ht hk (show i + 2 < 1000 by omega) k2, vp_in_nI, nI_clamp, nI_leI, nI_ltI, nI_eq, nI_add, nI_1, pk_mul, an_m36, an_n36, an_b468, forall_eq, true_and, and_true, true_implies, false_implies, not_true, not_false_iff, implies_true, pk_un, pk_us, ap_wrN, ap_wrS]
      rfl
  rw [if_neg (fun z => k z.2)]
  by_cases k3 : tn (i + 1) = 40 ∨ tn (i + 1) = 41
  · rw [if_pos ⟨b, k3⟩]
    by_cases k4 : tn (i + 1) = 40
    · simp (disch := omega) only [wY_functionSize_20, an_e42, o, ay_S1 _ hn ht hi s, z1, nI_1, ay_tkG _ hn ht, b, if_true, an_e43, k, an_e40, eq_true k4, vp_in_nI, nI_clamp, nI_leI, nI_ltI, nI_eq, nI_add, nI_1, pk_mul, an_m36, an_n36, an_b468, forall_eq, true_and, and_true, true_implies, false_implies, not_true, not_false_iff, implies_true, pk_un, pk_us, ap_wrN, ap_wrS]
      rfl
    · have k5 : tn (i + 1) = 41 := by omega
      simp (disch := omega) only [wY_functionSize_20, an_e42, o, ay_S1 _ hn ht hi s, z1, nI_1, ay_tkG _ hn ht, b, if_true, an_e43, k, an_e40, k4, an_e41, eq_true k5, vp_in_nI, nI_clamp, nI_leI, nI_ltI, nI_eq, nI_add, nI_1, pk_mul, an_m36, an_n36, an_b468, forall_eq, true_and, and_true, true_implies, false_implies, not_true, not_false_iff, implies_true, pk_un, pk_us, ap_wrN, ap_wrS]
      rfl
  · rw [if_neg (fun z => k3 z.2)]
    have k4 : ¬ tn (i + 1) = 40 := by omega
    have k5 : ¬ tn (i + 1) = 41 := by omega
    simp (disch := omega) only [wY_functionSize_20, an_e42, o, ay_S1 _ hn ht hi s, z1, nI_1, ay_tkG _ hn ht, b, if_true, an_e43, k, an_e40, k4, an_e41, k5, vp_in_nI, nI_clamp, nI_leI, nI_ltI, nI_eq, nI_add, nI_1, pk_mul, an_m36, an_n36, an_b468, forall_eq, true_and, and_true, true_implies, false_implies, not_true, not_false_iff, implies_true, pk_un, pk_us, ap_wrN, ap_wrS]
    rfl
theorem ay_76 {post : Int32 → Prop} {J : Int32 → Int32 → Int32 → Prop} {x1 : Int32} {n i : Nat} {tn : Nat → Nat} (hn : n ≤ 30) (ht : ∀ j, tx j = nI (tn j)) (hk : ∀ j, ag_tok (tn j))
    (hJ : ∀ e, i ≤ e → e < n → (∀ k, i ≤ k → k ≤ e → tn k ≤ 9) → (e + 1 < n → ¬ tn (e + 1) ≤ 9) → J x1 1 (nI (e + 1))) :
    ∀ m j f, j + m + 1 = n → m < f → i ≤ j → (∀ k, i ≤ k → k ≤ j → tn k ≤ 9) → wY_isStatement_76 post J x1 (nI n) lv er tx rk rw wd dt wt fi f (nI j) := by
  intro m
  induction m with
  | zero =>
    intro j f h1 hf hij hd
    obtain ⟨f, rfl⟩ : ∃ k, f = k + 1 := ⟨f - 1, by omega⟩
    have b : ¬ j + 1 < n := by omega
    have z : (-1 : Int32) < 0 := by decide
    simp (disch := omega) only [wY_isStatement_76, nI_1, ay_tkG _ hn ht, b, if_false, z, vp_in_nI, nI_clamp, nI_leI, nI_ltI, nI_eq, nI_add, nI_1, pk_mul, an_m36, an_n36, an_b468, forall_eq, true_and, and_true, true_implies, false_implies, not_true, not_false_iff, implies_true, pk_un, pk_us, ap_wrN, ap_wrS]
    exact hJ j hij (by omega) hd (fun z => absurd z b)
  | succ m ih =>
    intro j f h1 hf hij hd
    obtain ⟨f, rfl⟩ : ∃ k, f = k + 1 := ⟨f - 1, by omega⟩
    have b : j + 1 < n := by omega
    have t0 := ag_tk (hk (j + 1))
    have z : ¬ nI (tn (j + 1)) < 0 := nI_pos (by omega)
    simp (disch := omega) only [wY_isStatement_76, nI_1, ay_tkG _ hn ht, b, if_true, z, an_g10, vp_in_nI, nI_clamp, nI_leI, nI_ltI, nI_eq, nI_add, nI_1, pk_mul, an_m36, an_n36, an_b468, forall_eq, true_and, and_true, true_implies, false_implies, not_true, not_false_iff, implies_true, pk_un, pk_us, ap_wrN, ap_wrS]
    by_cases g : 10 ≤ tn (j + 1)
    · exact br_t g (hJ j hij (by omega) hd (fun _ => by omega))
    · refine br_f g (ih (j + 1) f (by omega) (by omega) (by omega) (fun k h2 h3 => ?_))
      by_cases e : k = j + 1
      · subst e; omega
      · exact hd k h2 (by omega)
theorem ay_isL {post : Int32 → Prop} {n : Nat} {tn : Nat → Nat} (hn : n ≤ 30) (ht : ∀ j, tx j = nI (tn j)) (hk : ∀ j, ag_tok (tn j)) (h1 : ag_ok tn n → post 1) (h0 : ¬ ag_ok tn n → post 0) :
    ∀ f i, i ≤ n → n - i < f → ag_pre tn i → ag_H tn n i → wY_isStatement_6 post (nI n) lv er tx rk rw wd dt wt fi f (nI (ag_dp tn i)) (if 4 ≤ ag_st tn i then 1 else 0) (nI i) := by
  have F3 : ∀ s, s < 7 → 4 ≤ s → ag_step s 51 = 6 := by decide +kernel
  have F2 : ∀ s, s < 7 → ∀ t, t < 53 → (s = 1 ∨ s = 2) → ag_nm t → ag_step s t = 5 :=
    fun _ hs _ ht => of_decide_eq_true (ag_cc (p := fun s t => decide ((s = 1 ∨ s = 2) → ag_nm t → ag_step s t = 5)) (by decide +kernel) hs ht)
  have F4 : ∀ s, s < 7 → (s = 1 ∨ s = 2) → ag_step s 50 = 1 := by decide +kernel
  have z1 : ¬ (1 : Int32) = 0 := by decide
  intro f
  induction f with
  | zero => intro i _ h; omega
  | succ f ih =>
    intro i hi hf pre hH
    have s7 := ag_s7 tn i
    have s0 := ag_n0 pre (Nat.le_refl i)
    have d30 := ag_dle tn i
    by_cases e : i = n
    · subst e
      have z : i ≤ i := Nat.le_refl i
      by_cases g : 4 ≤ ag_st tn i
      · rw [if_pos g]
        simp (disch := omega) only [wY_isStatement_6, z, z1, an_e0, vp_in_nI, nI_clamp, nI_leI, nI_ltI, nI_eq, nI_add, nI_1, pk_mul, an_m36, an_n36, an_b468, forall_eq, true_and, and_true, true_implies, false_implies, not_true, not_false_iff, implies_true, pk_un, pk_us, ap_wrN, ap_wrS]
        by_cases d : ag_dp tn i = 0
        · exact br_t d (h1 ⟨pre, d, g⟩)
        · exact br_f d (h0 (fun k => d k.2.1))
      · rw [if_neg g]
        simp (disch := omega) only [wY_isStatement_6, z, vp_in_nI, nI_clamp, nI_leI, nI_ltI, nI_eq, nI_add, nI_1, pk_mul, an_m36, an_n36, an_b468, forall_eq, true_and, and_true, true_implies, false_implies, not_true, not_false_iff, implies_true, pk_un, pk_us, ap_wrN, ap_wrS]
        exact h0 (fun k => g k.2.2)
    have il : i < n := by omega
    have z : ¬ n ≤ i := by omega
    have t0 := ag_tk (hk i)
    have t1 := ag_tk (hk (i + 1))
    have fsb := ag_fs3 tn n i
    by_cases k : 0 < ag_fs tn n i
    · obtain ⟨a1, a2, a3, a4, a5⟩ := ag_fn hk il pre hH k
      have nx := ih (i + ag_fs tn n i) a1 (by omega) a2 a3
      rw [if_neg (by omega), a5] at nx
      have k0 : ¬ ag_fs tn n i ≤ 0 := by omega
      have ix : i + ag_fs tn n i - 1 + 1 = i + ag_fs tn n i := by omega
      by_cases g : 4 ≤ ag_st tn i
      · rw [if_pos g]
        simp (disch := omega) only [wY_isStatement_6, z, ht, ay_fs _ hn ht hk il, an_l0, k0, an_s1, ix, vp_in_nI, nI_clamp, nI_leI, nI_ltI, nI_eq, nI_add, nI_1, pk_mul, an_m36, an_n36, an_b468, forall_eq, true_and, and_true, true_implies, false_implies, not_true, not_false_iff, implies_true, pk_un, pk_us, ap_wrN, ap_wrS]
        exact nx
      · rw [if_neg g]
        simp (disch := omega) only [wY_isStatement_6, z, ht, ay_fs _ hn ht hk il, an_l0, k0, an_s1, ix, vp_in_nI, nI_clamp, nI_leI, nI_ltI, nI_eq, nI_add, nI_1, pk_mul, an_m36, an_n36, an_b468, forall_eq, true_and, and_true, true_implies, false_implies, not_true, not_false_iff, implies_true, pk_un, pk_us, ap_wrN, ap_wrS]
        exact nx
    have k0 : ag_fs tn n i ≤ 0 := by omega
    have kz : ag_fs tn n i = 0 := by omega
    have nmx := ag_fs0 kz
    have bad : ¬ ag_sc (tn i) → tn i ≠ 42 → ag_step (ag_st tn i) (tn i) = 0 → ¬ ag_ok tn n := fun _ _ e => ag_no il e
    by_cases g : 4 ≤ ag_st tn i
    · rw [if_pos g]
      simp (disch := omega) only [wY_isStatement_6, z, ht, ay_fs _ hn ht hk il, an_l0, k0, z1, an_e51, an_e0, vp_in_nI, nI_clamp, nI_leI, nI_ltI, nI_eq, nI_add, nI_1, pk_mul, an_m36, an_n36, an_b468, forall_eq, true_and, and_true, true_implies, false_implies, not_true, not_false_iff, implies_true, pk_un, pk_us, ap_wrN, ap_wrS]
      by_cases a : tn i = 51
      · refine br_t a ?_
        by_cases d : ag_dp tn i = 0
        · exact br_t d (h0 (ag_nod il a d))
        · refine br_f d ?_
          have st : ag_st tn (i + 1) = 6 := by rw [ag_s, a]; exact F3 _ s7 g
          have dp : ag_dp tn (i + 1) = ag_dp tn i - 1 := by rw [ag_d, if_neg (by omega), if_pos a]
          have nx := ih (i + 1) (by omega) (by omega) (ag_preS pre (by omega) (by omega)) (by unfold ag_H; omega)
          rw [if_pos (by omega), dp] at nx
          rw [an_m1s (by omega)]
          exact nx
      · refine br_f a (h0 ?_)
        by_cases b : tn i = 42 ∨ ag_sc (tn i)
        · exact ag_fn0 hk il pre hH kz b
        · have hh := hH.2 il
          exact ag_no il (by rw [ag_s]; exact ag_F12 _ s7 _ t0 g (fun z => hh.1 z.1 z.2) (fun z => hh.2.1 z.1 z.2) a (by omega) nmx (by omega))
    · rw [if_neg g]
      have s12 : ag_st tn i = 1 ∨ ag_st tn i = 2 := by
        have := hH.1
        omega
      simp (disch := omega) only [wY_isStatement_6, z, ht, ay_fs _ hn ht hk il, an_l0, k0, an_g10, an_g16, an_e50, vp_in_nI, nI_clamp, nI_leI, nI_ltI, nI_eq, nI_add, nI_1, pk_mul, an_m36, an_n36, an_b468, forall_eq, true_and, and_true, true_implies, false_implies, not_true, not_false_iff, implies_true, pk_un, pk_us, ap_wrN, ap_wrS]
      by_cases a : 10 ≤ tn i
      · refine br_t a ?_
        by_cases b : 16 ≤ tn i
        · refine br_t b ?_
          by_cases c : tn i = 50
          · refine br_t c ?_
            have st : ag_st tn (i + 1) = 1 := by rw [ag_s, c]; exact F4 _ s7 s12
            have dp : ag_dp tn (i + 1) = ag_dp tn i + 1 := by rw [ag_d, if_pos c]
            have nx := ih (i + 1) (by omega) (by omega) (ag_preS pre (by omega) (by omega)) (by unfold ag_H; omega)
            rw [if_neg (by omega), dp] at nx
            exact nx
          · refine br_f c (h0 ?_)
            by_cases b2 : tn i = 42 ∨ ag_sc (tn i)
            · exact ag_fn0 hk il pre hH kz b2
            · have hh := hH.2 il
              exact ag_no il (by rw [ag_s]; exact ag_F13 s12 (by omega) (by omega) c (by omega) nmx (by omega) (fun z => by have := hh.2.2 z.1; omega))
        · refine br_f b ?_
          have nm : ag_nm (tn i) := by omega
          have st : ag_st tn (i + 1) = 5 := by rw [ag_s]; exact F2 _ s7 _ t0 s12 nm
          have dp : ag_dp tn (i + 1) = ag_dp tn i := ag_dno (by omega) (by omega)
          have pr : ag_pre tn (i + 1) := ag_preS pre (by omega) (by omega)
          by_cases c : i + 1 < n ∧ tn (i + 1) = 52
          · have st2 : ag_st tn (i + 2) = 1 := by rw [show i + 2 = (i + 1) + 1 from rfl, ag_s, st, c.2]; decide
            have dp2 : ag_dp tn (i + 1 + 1) = ag_dp tn (i + 1) := ag_dno (by omega) (by omega)
            have nx := ih (i + 2) (by omega) (by omega) (ag_preS pr (by rw [show i + 1 + 1 = i + 2 from rfl]; omega) (by omega)) (by unfold ag_H; omega)
            rw [if_neg (by omega), show i + 2 = i + 1 + 1 from rfl, dp2, dp] at nx
            have c1 := c.1
            have c2 := c.2
            simp (disch := omega) only [wY_isStatement_133, ay_tkG _ hn ht, c1, if_true, an_e52, eq_true c2, vp_in_nI, nI_clamp, nI_leI, nI_ltI, nI_eq, nI_add, nI_1, pk_mul, an_m36, an_n36, an_b468, forall_eq, true_and, and_true, true_implies, false_implies, not_true, not_false_iff, implies_true, pk_un, pk_us, ap_wrN, ap_wrS]
            exact nx
          · have nx := ih (i + 1) (by omega) (by omega) pr (by unfold ag_H; omega)
            rw [if_pos (by omega), dp] at nx
            have cond : ¬ (if i + 1 < n then nI (tn (i + 1)) else -1) = 52 := by
              by_cases c1 : i + 1 < n
              · rw [if_pos c1, an_e52 (by omega)]
                exact fun z => c ⟨c1, z⟩
              · rw [if_neg c1]; decide
            simp (disch := omega) only [wY_isStatement_133, ay_tkG _ hn ht, cond, z1, vp_in_nI, nI_clamp, nI_leI, nI_ltI, nI_eq, nI_add, nI_1, pk_mul, an_m36, an_n36, an_b468, forall_eq, true_and, and_true, true_implies, false_implies, not_true, not_false_iff, implies_true, pk_un, pk_us, ap_wrN, ap_wrS]
            exact nx
      · refine br_f a ?_
        refine ⟨30, ay_76 (i := i) hn ht hk (fun e h1 h2 h3 h4 => ?_) (n - i - 1) i 30 (by omega) (by omega) (by omega) (fun k h1 h2 => by rw [show k = i by omega]; omega)⟩
        obtain ⟨b1, b2, b3⟩ := ag_Fnum (m := e - i) hk pre s12 (fun j h5 h6 => h3 j h5 (by omega))
        rw [show i + (e - i) + 1 = e + 1 by omega] at b1 b2 b3
        have nx := ih (e + 1) (by omega) (by omega) b1 (by unfold ag_H; omega)
        rw [if_pos (by omega), b3] at nx
        exact nx
theorem ay_is {post : Int32 → Prop} {n : Nat} {tn : Nat → Nat} (hn : n ≤ 30) (ht : ∀ j, tx j = nI (tn j)) (hk : ∀ j, ag_tok (tn j)) (h1 : ag_ok tn n → post 1) (h0 : ¬ ag_ok tn n → post 0) : wpY_isStatement post (nI n, lv, er, tx, rk, rw, wd, dt, wt, fi) := by
  have l := ay_isL (lv := lv) (er := er) (rk := rk) (rw := rw) (wd := wd) (dt := dt) (wt := wt) (fi := fi) hn ht hk h1 h0 (n + 1) 0 (by omega) (by omega) (ag_pre0 tn) (by
    refine ⟨?_, fun _ => ⟨fun e => ?_, fun e => ?_, fun e => ?_⟩⟩
    · exact (by decide : (1 : Nat) ≠ 3)
    · exact absurd e (by decide : ¬ (1 : Nat) = 4)
    · exact absurd e (by decide : ¬ (1 : Nat) = 5)
    · exact absurd e (by decide : ¬ (1 : Nat) = 2))
  exact ⟨n + 1, l⟩
end
end
section
/-! the relation; the text -/
def ar_G (t : Int32) : Prop := t = -1 ∨ ∃ j, ag_tok j ∧ t = nI j
theorem ar_neg {j : Nat} (h : j < 2 ^ 31) : ¬ nI j = -1 := by
  intro e
  have := nI_pos (n := j) h
  rw [e] at this
  exact this (by decide)
theorem ax_maN (post : Int32 → Prop) {j : Nat} (hj : j < 2 ^ 31) : (ag_tok j → wpX_mayAppend post (nI j) = post 1) ∧ (¬ ag_tok j → wpX_mayAppend post (nI j) = post 0) := by
  have hm : ¬ nI j = -1 := ar_neg hj
  have z1 : ¬ (1 : Int32) = 0 := by decide
  rcases (by omega : (0 ≤ j ∧ j ≤ 9) ∨ (10 ≤ j ∧ j ≤ 15) ∨ (16 ≤ j ∧ j ≤ 19) ∨ (20 ≤ j ∧ j ≤ 27) ∨ (28 ≤ j ∧ j ≤ 29) ∨ (30 ≤ j ∧ j ≤ 38) ∨ (39 ≤ j ∧ j ≤ 39) ∨ (40 ≤ j ∧ j ≤ 43) ∨ (44 ≤ j ∧ j ≤ 49) ∨ (50 ≤ j ∧ j ≤ 52) ∨ 53 ≤ j) with h | h | h | h | h | h | h | h | h | h | h
  · have f0 : (j < 0) = False := eq_false (by omega)
    have f1 : (9 < j) = False := eq_false (by omega)
    have f2 : (j < 10) = True := eq_true (by omega)
    have f3 : (15 < j) = False := eq_false (by omega)
    have f4 : (j < 20) = True := eq_true (by omega)
    have f5 : (27 < j) = False := eq_false (by omega)
    have f6 : (j < 30) = True := eq_true (by omega)
    have f7 : (38 < j) = False := eq_false (by omega)
    have f8 : (j < 40) = True := eq_true (by omega)
    have f9 : (j ≤ 43) = True := eq_true (by omega)
    have f10 : (j < 50) = True := eq_true (by omega)
    have f11 : (52 < j) = False := eq_false (by omega)
    have f12 : (j ≤ 15) = True := eq_true (by omega)
    have f13 : (j ≤ 27) = True := eq_true (by omega)
    have f14 : (j ≤ 38) = True := eq_true (by omega)
    refine ⟨fun _ => ?_, fun z => absurd (by unfold ag_tok; omega) z⟩
    simp (disch := omega) only [wpX_mayAppend, wpX_isNumberToken, wpX_isNameToken, wpX_isScalar, wpX_isMixed, wX_mayAppend_45, hm, an_t0, an_u9, an_t10, an_u15, an_t20, an_u27, an_t30, an_u38, an_t40, an_l43, an_t50, an_u52, an_l15, an_l27, an_l38, f0, f1, f2, f3, f4, f5, f6, f7, f8, f9, f10, f11, f12, f13, f14, z1, forall_eq, true_and, and_true, true_implies, false_implies, not_true, not_false_iff, not_false_eq_true]
  · have f0 : (j < 0) = False := eq_false (by omega)
    have f1 : (9 < j) = True := eq_true (by omega)
    have f2 : (j < 10) = False := eq_false (by omega)
    have f3 : (15 < j) = False := eq_false (by omega)
    have f4 : (j < 20) = True := eq_true (by omega)
    have f5 : (27 < j) = False := eq_false (by omega)
    have f6 : (j < 30) = True := eq_true (by omega)
    have f7 : (38 < j) = False := eq_false (by omega)
    have f8 : (j < 40) = True := eq_true (by omega)
    have f9 : (j ≤ 43) = True := eq_true (by omega)
    have f10 : (j < 50) = True := eq_true (by omega)
    have f11 : (52 < j) = False := eq_false (by omega)
    have f12 : (j ≤ 15) = True := eq_true (by omega)
    have f13 : (j ≤ 27) = True := eq_true (by omega)
    have f14 : (j ≤ 38) = True := eq_true (by omega)
    refine ⟨fun _ => ?_, fun z => absurd (by unfold ag_tok; omega) z⟩
    simp (disch := omega) only [wpX_mayAppend, wpX_isNumberToken, wpX_isNameToken, wpX_isScalar, wpX_isMixed, wX_mayAppend_45, hm, an_t0, an_u9, an_t10, an_u15, an_t20, an_u27, an_t30, an_u38, an_t40, an_l43, an_t50, an_u52, an_l15, an_l27, an_l38, f0, f1, f2, f3, f4, f5, f6, f7, f8, f9, f10, f11, f12, f13, f14, z1, forall_eq, true_and, and_true, true_implies, false_implies, not_true, not_false_iff, not_false_eq_true]
  · have f0 : (j < 0) = False := eq_false (by omega)
    have f1 : (9 < j) = True := eq_true (by omega)
    have f2 : (j < 10) = False := eq_false (by omega)
    have f3 : (15 < j) = True := eq_true (by omega)
    have f4 : (j < 20) = True := eq_true (by omega)
    have f5 : (27 < j) = False := eq_false (by omega)
    have f6 : (j < 30) = True := eq_true (by omega)
    have f7 : (38 < j) = False := eq_false (by omega)
    have f8 : (j < 40) = True := eq_true (by omega)
    have f9 : (j ≤ 43) = True := eq_true (by omega)
    have f10 : (j < 50) = True := eq_true (by omega)
    have f11 : (52 < j) = False := eq_false (by omega)
    have f12 : (j ≤ 15) = False := eq_false (by omega)
    have f13 : (j ≤ 27) = True := eq_true (by omega)
    have f14 : (j ≤ 38) = True := eq_true (by omega)
    refine ⟨fun z => absurd z (by unfold ag_tok; omega), fun _ => ?_⟩
    simp (disch := omega) only [wpX_mayAppend, wpX_isNumberToken, wpX_isNameToken, wpX_isScalar, wpX_isMixed, wX_mayAppend_45, hm, an_t0, an_u9, an_t10, an_u15, an_t20, an_u27, an_t30, an_u38, an_t40, an_l43, an_t50, an_u52, an_l15, an_l27, an_l38, f0, f1, f2, f3, f4, f5, f6, f7, f8, f9, f10, f11, f12, f13, f14, z1, forall_eq, true_and, and_true, true_implies, false_implies, not_true, not_false_iff, not_false_eq_true]
  · have f0 : (j < 0) = False := eq_false (by omega)
    have f1 : (9 < j) = True := eq_true (by omega)
    have f2 : (j < 10) = False := eq_false (by omega)
    have f3 : (15 < j) = True := eq_true (by omega)
    have f4 : (j < 20) = False := eq_false (by omega)
    have f5 : (27 < j) = False := eq_false (by omega)
    have f6 : (j < 30) = True := eq_true (by omega)
    have f7 : (38 < j) = False := eq_false (by omega)
    have f8 : (j < 40) = True := eq_true (by omega)
    have f9 : (j ≤ 43) = True := eq_true (by omega)
    have f10 : (j < 50) = True := eq_true (by omega)
    have f11 : (52 < j) = False := eq_false (by omega)
    have f12 : (j ≤ 15) = False := eq_false (by omega)
    have f13 : (j ≤ 27) = True := eq_true (by omega)
    have f14 : (j ≤ 38) = True := eq_true (by omega)
    refine ⟨fun _ => ?_, fun z => absurd (by unfold ag_tok; omega) z⟩
    simp (disch := omega) only [wpX_mayAppend, wpX_isNumberToken, wpX_isNameToken, wpX_isScalar, wpX_isMixed, wX_mayAppend_45, hm, an_t0, an_u9, an_t10, an_u15, an_t20, an_u27, an_t30, an_u38, an_t40, an_l43, an_t50, an_u52, an_l15, an_l27, an_l38, f0, f1, f2, f3, f4, f5, f6, f7, f8, f9, f10, f11, f12, f13, f14, z1, forall_eq, true_and, and_true, true_implies, false_implies, not_true, not_false_iff, not_false_eq_true]
  · have f0 : (j < 0) = False := eq_false (by omega)
    have f1 : (9 < j) = True := eq_true (by omega)
    have f2 : (j < 10) = False := eq_false (by omega)
    have f3 : (15 < j) = True := eq_true (by omega)
    have f4 : (j < 20) = False := eq_false (by omega)
    have f5 : (27 < j) = True := eq_true (by omega)
    have f6 : (j < 30) = True := eq_true (by omega)
    have f7 : (38 < j) = False := eq_false (by omega)
    have f8 : (j < 40) = True := eq_true (by omega)
    have f9 : (j ≤ 43) = True := eq_true (by omega)
    have f10 : (j < 50) = True := eq_true (by omega)
    have f11 : (52 < j) = False := eq_false (by omega)
    have f12 : (j ≤ 15) = False := eq_false (by omega)
    have f13 : (j ≤ 27) = False := eq_false (by omega)
    have f14 : (j ≤ 38) = True := eq_true (by omega)
    refine ⟨fun z => absurd z (by unfold ag_tok; omega), fun _ => ?_⟩
    simp (disch := omega) only [wpX_mayAppend, wpX_isNumberToken, wpX_isNameToken, wpX_isScalar, wpX_isMixed, wX_mayAppend_45, hm, an_t0, an_u9, an_t10, an_u15, an_t20, an_u27, an_t30, an_u38, an_t40, an_l43, an_t50, an_u52, an_l15, an_l27, an_l38, f0, f1, f2, f3, f4, f5, f6, f7, f8, f9, f10, f11, f12, f13, f14, z1, forall_eq, true_and, and_true, true_implies, false_implies, not_true, not_false_iff, not_false_eq_true]
  · have f0 : (j < 0) = False := eq_false (by omega)
    have f1 : (9 < j) = True := eq_true (by omega)
    have f2 : (j < 10) = False := eq_false (by omega)
    have f3 : (15 < j) = True := eq_true (by omega)
    have f4 : (j < 20) = False := eq_false (by omega)
    have f5 : (27 < j) = True := eq_true (by omega)
    have f6 : (j < 30) = False := eq_false (by omega)
    have f7 : (38 < j) = False := eq_false (by omega)
    have f8 : (j < 40) = True := eq_true (by omega)
    have f9 : (j ≤ 43) = True := eq_true (by omega)
    have f10 : (j < 50) = True := eq_true (by omega)
    have f11 : (52 < j) = False := eq_false (by omega)
    have f12 : (j ≤ 15) = False := eq_false (by omega)
    have f13 : (j ≤ 27) = False := eq_false (by omega)
    have f14 : (j ≤ 38) = True := eq_true (by omega)
    refine ⟨fun _ => ?_, fun z => absurd (by unfold ag_tok; omega) z⟩
    simp (disch := omega) only [wpX_mayAppend, wpX_isNumberToken, wpX_isNameToken, wpX_isScalar, wpX_isMixed, wX_mayAppend_45, hm, an_t0, an_u9, an_t10, an_u15, an_t20, an_u27, an_t30, an_u38, an_t40, an_l43, an_t50, an_u52, an_l15, an_l27, an_l38, f0, f1, f2, f3, f4, f5, f6, f7, f8, f9, f10, f11, f12, f13, f14, z1, forall_eq, true_and, and_true, true_implies, false_implies, not_true, not_false_iff, not_false_eq_true]
  · have f0 : (j < 0) = False := eq_false (by omega)
    have f1 : (9 < j) = True := eq_true (by omega)
    have f2 : (j < 10) = False := eq_false (by omega)
    have f3 : (15 < j) = True := eq_true (by omega)
    have f4 : (j < 20) = False := eq_false (by omega)
    have f5 : (27 < j) = True := eq_true (by omega)
    have f6 : (j < 30) = False := eq_false (by omega)
    have f7 : (38 < j) = True := eq_true (by omega)
    have f8 : (j < 40) = True := eq_true (by omega)
    have f9 : (j ≤ 43) = True := eq_true (by omega)
    have f10 : (j < 50) = True := eq_true (by omega)
    have f11 : (52 < j) = False := eq_false (by omega)
    have f12 : (j ≤ 15) = False := eq_false (by omega)
    have f13 : (j ≤ 27) = False := eq_false (by omega)
    have f14 : (j ≤ 38) = False := eq_false (by omega)
    refine ⟨fun z => absurd z (by unfold ag_tok; omega), fun _ => ?_⟩
    simp (disch := omega) only [wpX_mayAppend, wpX_isNumberToken, wpX_isNameToken, wpX_isScalar, wpX_isMixed, wX_mayAppend_45, hm, an_t0, an_u9, an_t10, an_u15, an_t20, an_u27, an_t30, an_u38, an_t40, an_l43, an_t50, an_u52, an_l15, an_l27, an_l38, f0, f1, f2, f3, f4, f5, f6, f7, f8, f9, f10, f11, f12, f13, f14, z1, forall_eq, true_and, and_true, true_implies, false_implies, not_true, not_false_iff, not_false_eq_true]
  · have f0 : (j < 0) = False := eq_false (by omega)
    have f1 : (9 < j) = True := eq_true (by omega)
    have f2 : (j < 10) = False := eq_false (by omega)
    have f3 : (15 < j) = True := eq_true (by omega)
    have f4 : (j < 20) = False := eq_false (by omega)
    have f5 : (27 < j) = True := eq_true (by omega)
    have f6 : (j < 30) = False := eq_false (by omega)
    have f7 : (38 < j) = True := eq_true (by omega)
    have f8 : (j < 40) = False := eq_false (by omega)
    have f9 : (j ≤ 43) = True := eq_true (by omega)
    have f10 : (j < 50) = True := eq_true (by omega)
    have f11 : (52 < j) = False := eq_false (by omega)
    have f12 : (j ≤ 15) = False := eq_false (by omega)
    have f13 : (j ≤ 27) = False := eq_false (by omega)
    have f14 : (j ≤ 38) = False := eq_false (by omega)
    refine ⟨fun _ => ?_, fun z => absurd (by unfold ag_tok; omega) z⟩
    simp (disch := omega) only [wpX_mayAppend, wpX_isNumberToken, wpX_isNameToken, wpX_isScalar, wpX_isMixed, wX_mayAppend_45, hm, an_t0, an_u9, an_t10, an_u15, an_t20, an_u27, an_t30, an_u38, an_t40, an_l43, an_t50, an_u52, an_l15, an_l27, an_l38, f0, f1, f2, f3, f4, f5, f6, f7, f8, f9, f10, f11, f12, f13, f14, z1, forall_eq, true_and, and_true, true_implies, false_implies, not_true, not_false_iff, not_false_eq_true]
  · have f0 : (j < 0) = False := eq_false (by omega)
    have f1 : (9 < j) = True := eq_true (by omega)
    have f2 : (j < 10) = False := eq_false (by omega)
    have f3 : (15 < j) = True := eq_true (by omega)
    have f4 : (j < 20) = False := eq_false (by omega)
    have f5 : (27 < j) = True := eq_true (by omega)
    have f6 : (j < 30) = False := eq_false (by omega)
    have f7 : (38 < j) = True := eq_true (by omega)
    have f8 : (j < 40) = False := eq_false (by omega)
    have f9 : (j ≤ 43) = False := eq_false (by omega)
    have f10 : (j < 50) = True := eq_true (by omega)
    have f11 : (52 < j) = False := eq_false (by omega)
    have f12 : (j ≤ 15) = False := eq_false (by omega)
    have f13 : (j ≤ 27) = False := eq_false (by omega)
    have f14 : (j ≤ 38) = False := eq_false (by omega)
    refine ⟨fun z => absurd z (by unfold ag_tok; omega), fun _ => ?_⟩
    simp (disch := omega) only [wpX_mayAppend, wpX_isNumberToken, wpX_isNameToken, wpX_isScalar, wpX_isMixed, wX_mayAppend_45, hm, an_t0, an_u9, an_t10, an_u15, an_t20, an_u27, an_t30, an_u38, an_t40, an_l43, an_t50, an_u52, an_l15, an_l27, an_l38, f0, f1, f2, f3, f4, f5, f6, f7, f8, f9, f10, f11, f12, f13, f14, z1, forall_eq, true_and, and_true, true_implies, false_implies, not_true, not_false_iff, not_false_eq_true]
  · have f0 : (j < 0) = False := eq_false (by omega)
    have f1 : (9 < j) = True := eq_true (by omega)
    have f2 : (j < 10) = False := eq_false (by omega)
    have f3 : (15 < j) = True := eq_true (by omega)
    have f4 : (j < 20) = False := eq_false (by omega)
    have f5 : (27 < j) = True := eq_true (by omega)
    have f6 : (j < 30) = False := eq_false (by omega)
    have f7 : (38 < j) = True := eq_true (by omega)
    have f8 : (j < 40) = False := eq_false (by omega)
    have f9 : (j ≤ 43) = False := eq_false (by omega)
    have f10 : (j < 50) = False := eq_false (by omega)
    have f11 : (52 < j) = False := eq_false (by omega)
    have f12 : (j ≤ 15) = False := eq_false (by omega)
    have f13 : (j ≤ 27) = False := eq_false (by omega)
    have f14 : (j ≤ 38) = False := eq_false (by omega)
    refine ⟨fun _ => ?_, fun z => absurd (by unfold ag_tok; omega) z⟩
    simp (disch := omega) only [wpX_mayAppend, wpX_isNumberToken, wpX_isNameToken, wpX_isScalar, wpX_isMixed, wX_mayAppend_45, hm, an_t0, an_u9, an_t10, an_u15, an_t20, an_u27, an_t30, an_u38, an_t40, an_l43, an_t50, an_u52, an_l15, an_l27, an_l38, f0, f1, f2, f3, f4, f5, f6, f7, f8, f9, f10, f11, f12, f13, f14, z1, forall_eq, true_and, and_true, true_implies, false_implies, not_true, not_false_iff, not_false_eq_true]
  · have f0 : (j < 0) = False := eq_false (by omega)
    have f1 : (9 < j) = True := eq_true (by omega)
    have f2 : (j < 10) = False := eq_false (by omega)
    have f3 : (15 < j) = True := eq_true (by omega)
    have f4 : (j < 20) = False := eq_false (by omega)
    have f5 : (27 < j) = True := eq_true (by omega)
    have f6 : (j < 30) = False := eq_false (by omega)
    have f7 : (38 < j) = True := eq_true (by omega)
    have f8 : (j < 40) = False := eq_false (by omega)
    have f9 : (j ≤ 43) = False := eq_false (by omega)
    have f10 : (j < 50) = False := eq_false (by omega)
    have f11 : (52 < j) = True := eq_true (by omega)
    have f12 : (j ≤ 15) = False := eq_false (by omega)
    have f13 : (j ≤ 27) = False := eq_false (by omega)
    have f14 : (j ≤ 38) = False := eq_false (by omega)
    refine ⟨fun z => absurd z (by unfold ag_tok; omega), fun _ => ?_⟩
    simp (disch := omega) only [wpX_mayAppend, wpX_isNumberToken, wpX_isNameToken, wpX_isScalar, wpX_isMixed, wX_mayAppend_45, hm, an_t0, an_u9, an_t10, an_u15, an_t20, an_u27, an_t30, an_u38, an_t40, an_l43, an_t50, an_u52, an_l15, an_l27, an_l38, f0, f1, f2, f3, f4, f5, f6, f7, f8, f9, f10, f11, f12, f13, f14, z1, forall_eq, true_and, and_true, true_implies, false_implies, not_true, not_false_iff, not_false_eq_true]
theorem ax_maM (post : Int32 → Prop) {t : Int32} (h : t < 0) (hm : ¬ t = -1) : wpX_mayAppend post t = post 0 := by
  have l10 : t < 10 := Int32.lt_trans h (by decide)
  have l20 : t < 20 := Int32.lt_trans h (by decide)
  have l30 : t < 30 := Int32.lt_trans h (by decide)
  have l40 : t < 40 := Int32.lt_trans h (by decide)
  have l50 : t < 50 := Int32.lt_trans h (by decide)
  simp only [wpX_mayAppend, wpX_isNumberToken, wpX_isNameToken, wpX_isScalar, wpX_isMixed, wX_mayAppend_45, hm, h, l10, l20, l30, l40, l50, forall_eq, true_and, and_true, true_implies, false_implies, not_true, not_false_iff]
theorem ax_ma1 (post : Int32 → Prop) {j : Nat} (h : ag_tok j) : wpX_mayAppend post (nI j) = post 1 := (ax_maN post (by have := ag_tk h; omega)).1 h
theorem ax_ma0 (post : Int32 → Prop) {t : Int32} (h : ¬ ar_G t) : wpX_mayAppend post t = post 0 := by
  by_cases n : t < 0
  · exact ax_maM post n (fun z => h (Or.inl z))
  · obtain ⟨j, hj, rfl⟩ := nI_of n
    exact (ax_maN post hj).2 (fun z => h (Or.inr ⟨j, z, rfl⟩))
section
variable {ct lv er : Int32} {tx rk rw wd dt wt fi : Nat → Int32}
theorem ay_itN (post : Int32 → Prop) {j : Nat} (hj : j < 2 ^ 31) : (ag_tok j → wpY_isToken post (ct, lv, er, tx, rk, rw, wd, dt, wt, fi) (nI j) = post 1) ∧ (¬ ag_tok j → wpY_isToken post (ct, lv, er, tx, rk, rw, wd, dt, wt, fi) (nI j) = post 0) := by
  have hm : ¬ nI j = -1 := ar_neg hj
  have z1 : ¬ (1 : Int32) = 0 := by decide
  rcases (by omega : (0 ≤ j ∧ j ≤ 9) ∨ (10 ≤ j ∧ j ≤ 15) ∨ (16 ≤ j ∧ j ≤ 19) ∨ (20 ≤ j ∧ j ≤ 27) ∨ (28 ≤ j ∧ j ≤ 29) ∨ (30 ≤ j ∧ j ≤ 38) ∨ (39 ≤ j ∧ j ≤ 39) ∨ (40 ≤ j ∧ j ≤ 43) ∨ (44 ≤ j ∧ j ≤ 49) ∨ (50 ≤ j ∧ j ≤ 52) ∨ 53 ≤ j) with h | h | h | h | h | h | h | h | h | h | h
  · have f0 : (j < 0) = False := eq_false (by omega)
    have f1 : (9 < j) = False := eq_false (by omega)
    have f2 : (j < 10) = True := eq_true (by omega)
    have f3 : (15 < j) = False := eq_false (by omega)
    have f4 : (j < 20) = True := eq_true (by omega)
    have f5 : (27 < j) = False := eq_false (by omega)
    have f6 : (j < 30) = True := eq_true (by omega)
    have f7 : (38 < j) = False := eq_false (by omega)
    have f8 : (j < 40) = True := eq_true (by omega)
    have f9 : (j ≤ 43) = True := eq_true (by omega)
    have f10 : (j < 50) = True := eq_true (by omega)
    have f11 : (52 < j) = False := eq_false (by omega)
    have f12 : (j ≤ 15) = True := eq_true (by omega)
    have f13 : (j ≤ 27) = True := eq_true (by omega)
    have f14 : (j ≤ 38) = True := eq_true (by omega)
    refine ⟨fun _ => ?_, fun z => absurd (by unfold ag_tok; omega) z⟩
    simp (disch := omega) only [wpY_isToken, wY_isToken_10, wY_isToken_22, wY_isToken_34, wY_isToken_46, an_t0, an_u9, an_t10, an_u15, an_t20, an_u27, an_t30, an_u38, an_t40, an_l43, an_t50, an_u52, an_l15, an_l27, an_l38, f0, f1, f2, f3, f4, f5, f6, f7, f8, f9, f10, f11, f12, f13, f14, z1, forall_eq, true_and, and_true, true_implies, false_implies, not_true, not_false_iff, not_false_eq_true]
  · have f0 : (j < 0) = False := eq_false (by omega)
    have f1 : (9 < j) = True := eq_true (by omega)
    have f2 : (j < 10) = False := eq_false (by omega)
    have f3 : (15 < j) = False := eq_false (by omega)
    have f4 : (j < 20) = True := eq_true (by omega)
    have f5 : (27 < j) = False := eq_false (by omega)
    have f6 : (j < 30) = True := eq_true (by omega)
    have f7 : (38 < j) = False := eq_false (by omega)
    have f8 : (j < 40) = True := eq_true (by omega)
    have f9 : (j ≤ 43) = True := eq_true (by omega)
    have f10 : (j < 50) = True := eq_true (by omega)
    have f11 : (52 < j) = False := eq_false (by omega)
    have f12 : (j ≤ 15) = True := eq_true (by omega)
    have f13 : (j ≤ 27) = True := eq_true (by omega)
    have f14 : (j ≤ 38) = True := eq_true (by omega)
    refine ⟨fun _ => ?_, fun z => absurd (by unfold ag_tok; omega) z⟩
    simp (disch := omega) only [wpY_isToken, wY_isToken_10, wY_isToken_22, wY_isToken_34, wY_isToken_46, an_t0, an_u9, an_t10, an_u15, an_t20, an_u27, an_t30, an_u38, an_t40, an_l43, an_t50, an_u52, an_l15, an_l27, an_l38, f0, f1, f2, f3, f4, f5, f6, f7, f8, f9, f10, f11, f12, f13, f14, z1, forall_eq, true_and, and_true, true_implies, false_implies, not_true, not_false_iff, not_false_eq_true]
  · have f0 : (j < 0) = False := eq_false (by omega)
    have f1 : (9 < j) = True := eq_true (by omega)
    have f2 : (j < 10) = False := eq_false (by omega)
    have f3 : (15 < j) = True := eq_true (by omega)
    have f4 : (j < 20) = True := eq_true (by omega)
    have f5 : (27 < j) = False := eq_false (by omega)
    have f6 : (j < 30) = True := eq_true (by omega)
    have f7 : (38 < j) = False := eq_false (by omega)
    have f8 : (j < 40) = True := eq_true (by omega)
    have f9 : (j ≤ 43) = True := eq_true (by omega)
    have f10 : (j < 50) = True := eq_true (by omega)
    have f11 : (52 < j) = False := eq_false (by omega)
    have f12 : (j ≤ 15) = False := eq_false (by omega)
    have f13 : (j ≤ 27) = True := eq_true (by omega)
    have f14 : (j ≤ 38) = True := eq_true (by omega)
    refine ⟨fun z => absurd z (by unfold ag_tok; omega), fun _ => ?_⟩
    simp (disch := omega) only [wpY_isToken, wY_isToken_10, wY_isToken_22, wY_isToken_34, wY_isToken_46, an_t0, an_u9, an_t10, an_u15, an_t20, an_u27, an_t30, an_u38, an_t40, an_l43, an_t50, an_u52, an_l15, an_l27, an_l38, f0, f1, f2, f3, f4, f5, f6, f7, f8, f9, f10, f11, f12, f13, f14, z1, forall_eq, true_and, and_true, true_implies, false_implies, not_true, not_false_iff, not_false_eq_true]
  · have f0 : (j < 0) = False := eq_false (by omega)
    have f1 : (9 < j) = True := eq_true (by omega)
    have f2 : (j < 10) = False := eq_false (by omega)
    have f3 : (15 < j) = True := eq_true (by omega)
    have f4 : (j < 20) = False := eq_false (by omega)
    have f5 : (27 < j) = False := eq_false (by omega)
    have f6 : (j < 30) = True := eq_true (by omega)
    have f7 : (38 < j) = False := eq_false (by omega)
    have f8 : (j < 40) = True := eq_true (by omega)
    have f9 : (j ≤ 43) = True := eq_true (by omega)
    have f10 : (j < 50) = True := eq_true (by omega)
    have f11 : (52 < j) = False := eq_false (by omega)
    have f12 : (j ≤ 15) = False := eq_false (by omega)
    have f13 : (j ≤ 27) = True := eq_true (by omega)
    have f14 : (j ≤ 38) = True := eq_true (by omega)
    refine ⟨fun _ => ?_, fun z => absurd (by unfold ag_tok; omega) z⟩
    simp (disch := omega) only [wpY_isToken, wY_isToken_10, wY_isToken_22, wY_isToken_34, wY_isToken_46, an_t0, an_u9, an_t10, an_u15, an_t20, an_u27, an_t30, an_u38, an_t40, an_l43, an_t50, an_u52, an_l15, an_l27, an_l38, f0, f1, f2, f3, f4, f5, f6, f7, f8, f9, f10, f11, f12, f13, f14, z1, forall_eq, true_and, and_true, true_implies, false_implies, not_true, not_false_iff, not_false_eq_true]
  · have f0 : (j < 0) = False := eq_false (by omega)
    have f1 : (9 < j) = True := eq_true (by omega)
    have f2 : (j < 10) = False := eq_false (by omega)
    have f3 : (15 < j) = True := eq_true (by omega)
    have f4 : (j < 20) = False := eq_false (by omega)
    have f5 : (27 < j) = True := eq_true (by omega)
    have f6 : (j < 30) = True := eq_true (by omega)
    have f7 : (38 < j) = False := eq_false (by omega)
    have f8 : (j < 40) = True := eq_true (by omega)
    have f9 : (j ≤ 43) = True := eq_true (by omega)
    have f10 : (j < 50) = True := eq_true (by omega)
    have f11 : (52 < j) = False := eq_false (by omega)
    have f12 : (j ≤ 15) = False := eq_false (by omega)
    have f13 : (j ≤ 27) = False := eq_false (by omega)
    have f14 : (j ≤ 38) = True := eq_true (by omega)
    refine ⟨fun z => absurd z (by unfold ag_tok; omega), fun _ => ?_⟩
    simp (disch := omega) only [wpY_isToken, wY_isToken_10, wY_isToken_22, wY_isToken_34, wY_isToken_46, an_t0, an_u9, an_t10, an_u15, an_t20, an_u27, an_t30, an_u38, an_t40, an_l43, an_t50, an_u52, an_l15, an_l27, an_l38, f0, f1, f2, f3, f4, f5, f6, f7, f8, f9, f10, f11, f12, f13, f14, z1, forall_eq, true_and, and_true, true_implies, false_implies, not_true, not_false_iff, not_false_eq_true]
  · have f0 : (j < 0) = False := eq_false (by omega)
    have f1 : (9 < j) = True := eq_true (by omega)
    have f2 : (j < 10) = False := eq_false (by omega)
    have f3 : (15 < j) = True := eq_true (by omega)
    have f4 : (j < 20) = False := eq_false (by omega)
    have f5 : (27 < j) = True := eq_true (by omega)
    have f6 : (j < 30) = False := eq_false (by omega)
    have f7 : (38 < j) = False := eq_false (by omega)
    have f8 : (j < 40) = True := eq_true (by omega)
    have f9 : (j ≤ 43) = True := eq_true (by omega)
    have f10 : (j < 50) = True := eq_true (by omega)
    have f11 : (52 < j) = False := eq_false (by omega)
    have f12 : (j ≤ 15) = False := eq_false (by omega)
    have f13 : (j ≤ 27) = False := eq_false (by omega)
    have f14 : (j ≤ 38) = True := eq_true (by omega)
    refine ⟨fun _ => ?_, fun z => absurd (by unfold ag_tok; omega) z⟩
    simp (disch := omega) only [wpY_isToken, wY_isToken_10, wY_isToken_22, wY_isToken_34, wY_isToken_46, an_t0, an_u9, an_t10, an_u15, an_t20, an_u27, an_t30, an_u38, an_t40, an_l43, an_t50, an_u52, an_l15, an_l27, an_l38, f0, f1, f2, f3, f4, f5, f6, f7, f8, f9, f10, f11, f12, f13, f14, z1, forall_eq, true_and, and_true, true_implies, false_implies, not_true, not_false_iff, not_false_eq_true]
  · have f0 : (j < 0) = False := eq_false (by omega)
    have f1 : (9 < j) = True := eq_true (by omega)
    have f2 : (j < 10) = False := eq_false (by omega)
    have f3 : (15 < j) = True := eq_true (by omega)
    have f4 : (j < 20) = False := eq_false (by omega)
    have f5 : (27 < j) = True := eq_true (by omega)
    have f6 : (j < 30) = False := eq_false (by omega)
    have f7 : (38 < j) = True := eq_true (by omega)
    have f8 : (j < 40) = True := eq_true (by omega)
    have f9 : (j ≤ 43) = True := eq_true (by omega)
    have f10 : (j < 50) = True := eq_true (by omega)
    have f11 : (52 < j) = False := eq_false (by omega)
    have f12 : (j ≤ 15) = False := eq_false (by omega)
    have f13 : (j ≤ 27) = False := eq_false (by omega)
    have f14 : (j ≤ 38) = False := eq_false (by omega)
    refine ⟨fun z => absurd z (by unfold ag_tok; omega), fun _ => ?_⟩
    simp (disch := omega) only [wpY_isToken, wY_isToken_10, wY_isToken_22, wY_isToken_34, wY_isToken_46, an_t0, an_u9, an_t10, an_u15, an_t20, an_u27, an_t30, an_u38, an_t40, an_l43, an_t50, an_u52, an_l15, an_l27, an_l38, f0, f1, f2, f3, f4, f5, f6, f7, f8, f9, f10, f11, f12, f13, f14, z1, forall_eq, true_and, and_true, true_implies, false_implies, not_true, not_false_iff, not_false_eq_true]
  · have f0 : (j < 0) = False := eq_false (by omega)
    have f1 : (9 < j) = True := eq_true (by omega)
    have f2 : (j < 10) = False := eq_false (by omega)
    have f3 : (15 < j) = True := eq_true (by omega)
    have f4 : (j < 20) = False := eq_false (by omega)
    have f5 : (27 < j) = True := eq_true (by omega)
    have f6 : (j < 30) = False := eq_false (by omega)
    have f7 : (38 < j) = True := eq_true (by omega)
    have f8 : (j < 40) = False := eq_false (by omega)
    have f9 : (j ≤ 43) = True := eq_true (by omega)
    have f10 : (j < 50) = True := eq_true (by omega)
    have f11 : (52 < j) = False := eq_false (by omega)
    have f12 : (j ≤ 15) = False := eq_false (by omega)
    have f13 : (j ≤ 27) = False := eq_false (by omega)
    have f14 : (j ≤ 38) = False := eq_false (by omega)
    refine ⟨fun _ => ?_, fun z => absurd (by unfold ag_tok; omega) z⟩
    simp (disch := omega) only [wpY_isToken, wY_isToken_10, wY_isToken_22, wY_isToken_34, wY_isToken_46, an_t0, an_u9, an_t10, an_u15, an_t20, an_u27, an_t30, an_u38, an_t40, an_l43, an_t50, an_u52, an_l15, an_l27, an_l38, f0, f1, f2, f3, f4, f5, f6, f7, f8, f9, f10, f11, f12, f13, f14, z1, forall_eq, true_and, and_true, true_implies, false_implies, not_true, not_false_iff, not_false_eq_true]
  · have f0 : (j < 0) = False := eq_false (by omega)
    have f1 : (9 < j) = True := eq_true (by omega)
    have f2 : (j < 10) = False := eq_false (by omega)
    have f3 : (15 < j) = True := eq_true (by omega)
    have f4 : (j < 20) = False := eq_false (by omega)
    have f5 : (27 < j) = True := eq_true (by omega)
    have f6 : (j < 30) = False := eq_false (by omega)
    have f7 : (38 < j) = True := eq_true (by omega)
    have f8 : (j < 40) = False := eq_false (by omega)
    have f9 : (j ≤ 43) = False := eq_false (by omega)
    have f10 : (j < 50) = True := eq_true (by omega)
    have f11 : (52 < j) = False := eq_false (by omega)
    have f12 : (j ≤ 15) = False := eq_false (by omega)
    have f13 : (j ≤ 27) = False := eq_false (by omega)
    have f14 : (j ≤ 38) = False := eq_false (by omega)
    refine ⟨fun z => absurd z (by unfold ag_tok; omega), fun _ => ?_⟩
    simp (disch := omega) only [wpY_isToken, wY_isToken_10, wY_isToken_22, wY_isToken_34, wY_isToken_46, an_t0, an_u9, an_t10, an_u15, an_t20, an_u27, an_t30, an_u38, an_t40, an_l43, an_t50, an_u52, an_l15, an_l27, an_l38, f0, f1, f2, f3, f4, f5, f6, f7, f8, f9, f10, f11, f12, f13, f14, z1, forall_eq, true_and, and_true, true_implies, false_implies, not_true, not_false_iff, not_false_eq_true]
  · have f0 : (j < 0) = False := eq_false (by omega)
    have f1 : (9 < j) = True := eq_true (by omega)
    have f2 : (j < 10) = False := eq_false (by omega)
    have f3 : (15 < j) = True := eq_true (by omega)
    have f4 : (j < 20) = False := eq_false (by omega)
    have f5 : (27 < j) = True := eq_true (by omega)
    have f6 : (j < 30) = False := eq_false (by omega)
    have f7 : (38 < j) = True := eq_true (by omega)
    have f8 : (j < 40) = False := eq_false (by omega)
    have f9 : (j ≤ 43) = False := eq_false (by omega)
    have f10 : (j < 50) = False := eq_false (by omega)
    have f11 : (52 < j) = False := eq_false (by omega)
    have f12 : (j ≤ 15) = False := eq_false (by omega)
    have f13 : (j ≤ 27) = False := eq_false (by omega)
    have f14 : (j ≤ 38) = False := eq_false (by omega)
    refine ⟨fun _ => ?_, fun z => absurd (by unfold ag_tok; omega) z⟩
    simp (disch := omega) only [wpY_isToken, wY_isToken_10, wY_isToken_22, wY_isToken_34, wY_isToken_46, an_t0, an_u9, an_t10, an_u15, an_t20, an_u27, an_t30, an_u38, an_t40, an_l43, an_t50, an_u52, an_l15, an_l27, an_l38, f0, f1, f2, f3, f4, f5, f6, f7, f8, f9, f10, f11, f12, f13, f14, z1, forall_eq, true_and, and_true, true_implies, false_implies, not_true, not_false_iff, not_false_eq_true]
  · have f0 : (j < 0) = False := eq_false (by omega)
    have f1 : (9 < j) = True := eq_true (by omega)
    have f2 : (j < 10) = False := eq_false (by omega)
    have f3 : (15 < j) = True := eq_true (by omega)
    have f4 : (j < 20) = False := eq_false (by omega)
    have f5 : (27 < j) = True := eq_true (by omega)
    have f6 : (j < 30) = False := eq_false (by omega)
    have f7 : (38 < j) = True := eq_true (by omega)
    have f8 : (j < 40) = False := eq_false (by omega)
    have f9 : (j ≤ 43) = False := eq_false (by omega)
    have f10 : (j < 50) = False := eq_false (by omega)
    have f11 : (52 < j) = True := eq_true (by omega)
    have f12 : (j ≤ 15) = False := eq_false (by omega)
    have f13 : (j ≤ 27) = False := eq_false (by omega)
    have f14 : (j ≤ 38) = False := eq_false (by omega)
    refine ⟨fun z => absurd z (by unfold ag_tok; omega), fun _ => ?_⟩
    simp (disch := omega) only [wpY_isToken, wY_isToken_10, wY_isToken_22, wY_isToken_34, wY_isToken_46, an_t0, an_u9, an_t10, an_u15, an_t20, an_u27, an_t30, an_u38, an_t40, an_l43, an_t50, an_u52, an_l15, an_l27, an_l38, f0, f1, f2, f3, f4, f5, f6, f7, f8, f9, f10, f11, f12, f13, f14, z1, forall_eq, true_and, and_true, true_implies, false_implies, not_true, not_false_iff, not_false_eq_true]
theorem ay_itM (post : Int32 → Prop) {t : Int32} (h : t < 0) (hm : ¬ t = -1) : wpY_isToken post (ct, lv, er, tx, rk, rw, wd, dt, wt, fi) t = post 0 := by
  have l10 : t < 10 := Int32.lt_trans h (by decide)
  have l20 : t < 20 := Int32.lt_trans h (by decide)
  have l30 : t < 30 := Int32.lt_trans h (by decide)
  have l40 : t < 40 := Int32.lt_trans h (by decide)
  have l50 : t < 50 := Int32.lt_trans h (by decide)
  simp only [wpY_isToken, wY_isToken_10, wY_isToken_22, wY_isToken_34, wY_isToken_46, h, l10, l20, l30, l40, l50, forall_eq, true_and, and_true, true_implies, false_implies, not_true, not_false_iff]
theorem ay_it1 (post : Int32 → Prop) {j : Nat} (h : ag_tok j) : wpY_isToken post (ct, lv, er, tx, rk, rw, wd, dt, wt, fi) (nI j) = post 1 := (ay_itN post (by have := ag_tk h; omega)).1 h
theorem ay_it0 (post : Int32 → Prop) {t : Int32} (h : ¬ ar_G t) : wpY_isToken post (ct, lv, er, tx, rk, rw, wd, dt, wt, fi) t = post 0 := by
  by_cases n : t < 0
  · exact ay_itM post n (fun z => h (Or.inl z))
  · obtain ⟨j, hj, rfl⟩ := nI_of n
    exact (ay_itN post hj).2 (fun z => h (Or.inr ⟨j, z, rfl⟩))
end
theorem ax_mam (post : Int32 → Prop) : wpX_mayAppend post (-1) = post 1 := by
  simp only [wpX_mayAppend, true_implies, not_true, false_implies, and_true]
theorem ax_maG (post : Int32 → Prop) {t : Int32} (h : ar_G t) : wpX_mayAppend post t = post 1 := by
  rcases h with rfl | ⟨j, h, rfl⟩
  · exact ax_mam post
  · exact ax_ma1 post h
/-- how many tokens t is, and the text with t behind -/
def ar_c (t : Int32) : Nat := if t = -1 then 0 else 1
def ar_x (tx : Nat → Int32) (n : Nat) (t : Int32) : Nat → Int32 := if t = -1 then tx else upd tx n t
theorem ar_br {t : Int32} {P : Int32 → Prop} : ((t = -1 → P 0) ∧ (¬ t = -1 → P 1)) = P (nI (ar_c t)) := by
  unfold ar_c
  by_cases h : t = -1
  · simp only [h, true_implies, not_true, false_implies, and_true, if_true]; rfl
  · simp only [h, false_implies, not_false_iff, true_implies, true_and, if_false]; rfl
section
variable {tc lv : Int32} {tx rk rw cl nb gv wt : Nat → Int32}
theorem ax_ap (post : SX → Prop) {n : Nat} {t : Int32} (hn : n + ar_c t ≤ 30) : wpX_append post (nI n, lv, tx, rk, rw, cl, nb, gv, wt) t = post (nI (n + ar_c t), lv, ar_x tx n t, rk, rw, cl, nb, gv, wt) := by
  unfold ar_c ar_x at *
  by_cases h : t = -1
  · simp only [h, if_true, Nat.add_zero, wpX_append, true_implies, not_true, false_implies, and_true]
  · simp only [h, if_false] at hn ⊢
    have z : ¬ 30 ≤ n := by omega
    simp (disch := omega) only [wpX_append, h, an_g30, z, vp_in_nI, nI_clamp, nI_leI, nI_ltI, nI_eq, nI_add, nI_1, pk_mul, an_m36, an_n36, an_b468, forall_eq, true_and, and_true, true_implies, false_implies, not_true, not_false_iff, implies_true, pk_un, pk_us, ap_wrN, ap_wrS]
theorem ax_tB {post : Int32 → SX → Prop} {a b c d : Int32} (h : ¬ (ar_G a ∧ ar_G b ∧ ar_G c ∧ ar_G d)) (hp : post (-1) (tc, lv, tx, rk, rw, cl, nb, gv, wt)) : wpX_tokens post (tc, lv, tx, rk, rw, cl, nb, gv, wt) a b c d := by
  have z1 : ¬ (1 : Int32) = 0 := by decide
  by_cases ga : ar_G a
  · by_cases gb : ar_G b
    · by_cases gc : ar_G c
      · by_cases gd : ar_G d
        · exact absurd ⟨ga, gb, gc, gd⟩ h
        · simp only [wpX_tokens, ax_maG _ ga, ax_maG _ gb, ax_maG _ gc, ax_ma0 _ gd, z1, false_implies, not_false_iff, true_implies, true_and, not_true, and_true]
          exact hp
      · simp only [wpX_tokens, ax_maG _ ga, ax_maG _ gb, ax_ma0 _ gc, z1, false_implies, not_false_iff, true_implies, true_and, not_true, and_true]
        exact hp
    · simp only [wpX_tokens, ax_maG _ ga, ax_ma0 _ gb, z1, false_implies, not_false_iff, true_implies, true_and, not_true, and_true]
      exact hp
  · simp only [wpX_tokens, ax_ma0 _ ga, true_implies, not_true, false_implies, and_true]
    exact hp
theorem ar_c1 (t : Int32) : ar_c t ≤ 1 := by unfold ar_c; split <;> omega
theorem ax_tG {post : Int32 → SX → Prop} {n : Nat} {a b c d : Int32} (hn : n ≤ 30) (ga : ar_G a) (gb : ar_G b) (gc : ar_G c) (gd : ar_G d)
    (h1 : n + ar_c a + ar_c b + ar_c c + ar_c d ≤ 30 → post (nI (n + ar_c a + ar_c b + ar_c c + ar_c d)) (nI (n + ar_c a + ar_c b + ar_c c + ar_c d), lv, ar_x (ar_x (ar_x (ar_x tx n a) (n + ar_c a) b) (n + ar_c a + ar_c b) c) (n + ar_c a + ar_c b + ar_c c) d, rk, rw, cl, nb, gv, wt))
    (h2 : ¬ n + ar_c a + ar_c b + ar_c c + ar_c d ≤ 30 → post (-2) (nI n, lv, tx, rk, rw, cl, nb, gv, wt)) : wpX_tokens post (nI n, lv, tx, rk, rw, cl, nb, gv, wt) a b c d := by
  have z1 : ¬ (1 : Int32) = 0 := by decide
  have c1 := ar_c1 a
  have c2 := ar_c1 b
  have c3 := ar_c1 c
  have c4 := ar_c1 d
  simp only [wpX_tokens, ax_maG _ ga, ax_maG _ gb, ax_maG _ gc, ax_maG _ gd, z1, false_implies, not_false_iff, true_implies, true_and]
  rw [ar_br (P := fun z => wX_tokens_41 post a b c d z (nI n) lv tx rk rw cl nb gv wt)]
  unfold wX_tokens_41
  rw [ar_br (P := fun z => wX_tokens_51 post a b c d z (nI (ar_c a)) (nI n) lv tx rk rw cl nb gv wt)]
  unfold wX_tokens_51
  rw [ar_br (P := fun z => wX_tokens_62 post a b c d z (nI (ar_c a) + nI (ar_c b)) (nI n) lv tx rk rw cl nb gv wt)]
  unfold wX_tokens_62
  rw [ar_br (P := fun z => wX_tokens_74 post a b c d z (nI (ar_c a) + nI (ar_c b) + nI (ar_c c)) (nI n) lv tx rk rw cl nb gv wt)]
  have e : n + (ar_c a + ar_c b + ar_c c + ar_c d) = n + ar_c a + ar_c b + ar_c c + ar_c d := by omega
  by_cases g : n + ar_c a + ar_c b + ar_c c + ar_c d ≤ 30
  · simp (disch := omega) only [wX_tokens_74, nI_add, e, an_l30, g, ax_ap, vp_in_nI, nI_clamp, nI_leI, nI_ltI, nI_eq, nI_add, nI_1, pk_mul, an_m36, an_n36, an_b468, forall_eq, true_and, and_true, true_implies, false_implies, not_true, not_false_iff, implies_true, pk_un, pk_us, ap_wrN, ap_wrS]
    exact h1 g
  · simp (disch := omega) only [wX_tokens_74, nI_add, e, an_l30, g, vp_in_nI, nI_clamp, nI_leI, nI_ltI, nI_eq, nI_add, nI_1, pk_mul, an_m36, an_n36, an_b468, forall_eq, true_and, and_true, true_implies, false_implies, not_true, not_false_iff, implies_true, pk_un, pk_us, ap_wrN, ap_wrS]
    exact h2 g
end
section
variable {ct lv er : Int32} {tx rk rw wd dt wt fi : Nat → Int32}
theorem ay_t6 {post : Int32 → SY → Prop} {f m i : Nat} {a b c d t : Int32} (hi : i < 4) (ht : t = if i = 0 then a else if i = 1 then b else if i = 2 then c else d) (h0 : ¬ ar_G t → post (-1) (ct, lv, er, tx, rk, rw, wd, dt, wt, fi))
    (h1 : ar_G t → wY_tokens_6 post a b c d ct lv er tx rk rw wd dt wt fi f (nI (m + ar_c t)) (nI (i + 1))) : wY_tokens_6 post a b c d ct lv er tx rk rw wd dt wt fi (f + 1) (nI m) (nI i) := by
  have z : ¬ 4 ≤ i := by omega
  have z1 : ¬ (1 : Int32) = 0 := by decide
  have o : ∀ P : Int32 → Prop, wpY_oneOf P (ct, lv, er, tx, rk, rw, wd, dt, wt, fi) (nI i) a b c d = P t := fun P => by
    rcases (by omega : i = 0 ∨ i = 1 ∨ i = 2 ∨ i = 3) with rfl | rfl | rfl | rfl
    · simp (disch := omega) [wpY_oneOf, an_e0, an_e1, an_e2, ht]
    · simp (disch := omega) [wpY_oneOf, an_e0, an_e1, an_e2, ht]
    · simp (disch := omega) [wpY_oneOf, an_e0, an_e1, an_e2, ht]
    · simp (disch := omega) [wpY_oneOf, an_e0, an_e1, an_e2, ht]
  simp (disch := omega) only [wY_tokens_6, an_g4, z, o, vp_in_nI, nI_clamp, nI_leI, nI_ltI, nI_eq, nI_add, nI_1, pk_mul, an_m36, an_n36, an_b468, forall_eq, true_and, and_true, true_implies, false_implies, not_true, not_false_iff, implies_true, pk_un, pk_us, ap_wrN, ap_wrS]
  by_cases g : ar_G t
  · have q := h1 g
    rcases g with e | ⟨j, hj, e⟩
    · refine br_t e ?_
      unfold wY_tokens_42
      rw [show ar_c t = 0 from if_pos e, Nat.add_zero] at q
      refine br_t e ?_
      simp (disch := omega) only [vp_in_nI, nI_clamp, nI_leI, nI_ltI, nI_eq, nI_add, nI_1, pk_mul, an_m36, an_n36, an_b468, forall_eq, true_and, and_true, true_implies, false_implies, not_true, not_false_iff, implies_true, pk_un, pk_us, ap_wrN, ap_wrS]
      exact q
    · have nt : ¬ t = -1 := by
        rw [e]
        exact ar_neg (by have := ag_tk hj; omega)
      refine br_f nt ?_
      rw [show ar_c t = 1 from if_neg nt] at q
      have i1 := fun (P : Int32 → Prop) => ay_it1 (ct := ct) (lv := lv) (er := er) (tx := tx) (rk := rk) (rw := rw) (wd := wd) (dt := dt) (wt := wt) (fi := fi) P hj
      rw [← e] at i1
      simp (disch := omega) only [i1, z1, wY_tokens_42, nt, vp_in_nI, nI_clamp, nI_leI, nI_ltI, nI_eq, nI_add, nI_1, pk_mul, an_m36, an_n36, an_b468, forall_eq, true_and, and_true, true_implies, false_implies, not_true, not_false_iff, implies_true, pk_un, pk_us, ap_wrN, ap_wrS]
      exact q
  · have nt : ¬ t = -1 := fun z => g (Or.inl z)
    refine br_f nt ?_
    simp (disch := omega) only [ay_it0 _ g, vp_in_nI, nI_clamp, nI_leI, nI_ltI, nI_eq, nI_add, nI_1, pk_mul, an_m36, an_n36, an_b468, forall_eq, true_and, and_true, true_implies, false_implies, not_true, not_false_iff, implies_true, pk_un, pk_us, ap_wrN, ap_wrS]
    exact h0 g
theorem ay_t8 {post : Int32 → SY → Prop} {f n i : Nat} {a b c d t : Int32} (hi : i < 4) (ht : t = if i = 0 then a else if i = 1 then b else if i = 2 then c else d) (hn : n + ar_c t ≤ 30)
    (h1 : wY_tokens_83 post a b c d lv er f (nI (i + 1)) (nI (n + ar_c t)) (ar_x tx n t) rk rw wd dt wt fi) : wY_tokens_83 post a b c d lv er (f + 1) (nI i) (nI n) tx rk rw wd dt wt fi := by
  have z : ¬ 4 ≤ i := by omega
  have o : ∀ P : Int32 → Prop, wpY_oneOf P (nI n, lv, er, tx, rk, rw, wd, dt, wt, fi) (nI i) a b c d = P t := fun P => by
    rcases (by omega : i = 0 ∨ i = 1 ∨ i = 2 ∨ i = 3) with rfl | rfl | rfl | rfl
    · simp (disch := omega) [wpY_oneOf, an_e0, an_e1, an_e2, ht]
    · simp (disch := omega) [wpY_oneOf, an_e0, an_e1, an_e2, ht]
    · simp (disch := omega) [wpY_oneOf, an_e0, an_e1, an_e2, ht]
    · simp (disch := omega) [wpY_oneOf, an_e0, an_e1, an_e2, ht]
  simp (disch := omega) only [wY_tokens_83, an_g4, z, o, vp_in_nI, nI_clamp, nI_leI, nI_ltI, nI_eq, nI_add, nI_1, pk_mul, an_m36, an_n36, an_b468, forall_eq, true_and, and_true, true_implies, false_implies, not_true, not_false_iff, implies_true, pk_un, pk_us, ap_wrN, ap_wrS]
  by_cases g : t = -1
  · refine br_t g ?_
    rw [show ar_c t = 0 from if_pos g, Nat.add_zero, show ar_x tx n t = tx from if_pos g] at h1
    exact h1
  · refine br_f g ?_
    rw [show ar_c t = 1 from if_neg g] at h1 hn
    rw [show ar_x tx n t = upd tx n t from if_neg g] at h1
    refine ⟨vp_in_nI (by omega) (by omega), ?_⟩
    exact h1
theorem ay_t {post : Int32 → SY → Prop} {n : Nat} {a b c d : Int32} (hn : n ≤ 30)
    (hB : ¬ (ar_G a ∧ ar_G b ∧ ar_G c ∧ ar_G d) → post (-1) (nI n, lv, er, tx, rk, rw, wd, dt, wt, fi))
    (h1 : (ar_G a ∧ ar_G b ∧ ar_G c ∧ ar_G d) → n + ar_c a + ar_c b + ar_c c + ar_c d ≤ 30 → post (nI (n + ar_c a + ar_c b + ar_c c + ar_c d)) (nI (n + ar_c a + ar_c b + ar_c c + ar_c d), lv, er, ar_x (ar_x (ar_x (ar_x tx n a) (n + ar_c a) b) (n + ar_c a + ar_c b) c) (n + ar_c a + ar_c b + ar_c c) d, rk, rw, wd, dt, wt, fi))
    (h2 : (ar_G a ∧ ar_G b ∧ ar_G c ∧ ar_G d) → ¬ n + ar_c a + ar_c b + ar_c c + ar_c d ≤ 30 → post (-2) (nI n, lv, er, tx, rk, rw, wd, dt, wt, fi)) : wpY_tokens post (nI n, lv, er, tx, rk, rw, wd, dt, wt, fi) a b c d := by
  have c1 := ar_c1 a
  have c2 := ar_c1 b
  have c3 := ar_c1 c
  have c4 := ar_c1 d
  refine ⟨5, ?_⟩
  rw [← nI_0]
  refine ay_t6 (f := 4) (t := a) (by omega) rfl (fun g => hB (fun z => g z.1)) (fun ga => ?_)
  refine ay_t6 (f := 3) (t := b) (by omega) rfl (fun g => hB (fun z => g z.2.1)) (fun gb => ?_)
  refine ay_t6 (f := 2) (t := c) (by omega) rfl (fun g => hB (fun z => g z.2.2.1)) (fun gc => ?_)
  refine ay_t6 (f := 1) (t := d) (by omega) rfl (fun g => hB (fun z => g z.2.2.2)) (fun gd => ?_)
  have al := And.intro ga (And.intro gb (And.intro gc gd))
  have z : 4 ≤ 0 + 1 + 1 + 1 + 1 := by omega
  have e : n + (0 + ar_c a + ar_c b + ar_c c + ar_c d) = n + ar_c a + ar_c b + ar_c c + ar_c d := by omega
  by_cases g : n + ar_c a + ar_c b + ar_c c + ar_c d ≤ 30
  · simp (disch := omega) only [wY_tokens_6, an_g4, z, e, an_l30, g, vp_in_nI, nI_clamp, nI_leI, nI_ltI, nI_eq, nI_add, nI_1, pk_mul, an_m36, an_n36, an_b468, forall_eq, true_and, and_true, true_implies, false_implies, not_true, not_false_iff, implies_true, pk_un, pk_us, ap_wrN, ap_wrS]
    refine ⟨5, ?_⟩
    rw [← nI_0]
    refine ay_t8 (f := 4) (t := a) (by omega) rfl (by omega) ?_
    refine ay_t8 (f := 3) (t := b) (by omega) rfl (by omega) ?_
    refine ay_t8 (f := 2) (t := c) (by omega) rfl (by omega) ?_
    refine ay_t8 (f := 1) (t := d) (by omega) rfl (by omega) ?_
    simp (disch := omega) only [wY_tokens_83, an_g4, z, vp_in_nI, nI_clamp, nI_leI, nI_ltI, nI_eq, nI_add, nI_1, pk_mul, an_m36, an_n36, an_b468, forall_eq, true_and, and_true, true_implies, false_implies, not_true, not_false_iff, implies_true, pk_un, pk_us, ap_wrN, ap_wrS]
    exact h1 al g
  · simp (disch := omega) only [wY_tokens_6, an_g4, z, e, an_l30, g, vp_in_nI, nI_clamp, nI_leI, nI_ltI, nI_eq, nI_add, nI_1, pk_mul, an_m36, an_n36, an_b468, forall_eq, true_and, and_true, true_implies, false_implies, not_true, not_false_iff, implies_true, pk_un, pk_us, ap_wrN, ap_wrS]
    exact h2 al g
end
end
section
/-! the relation of the two states; all calls but run -/
def ar_N (rk rw cl nb gv rk' rw' wd' dt' : Nat → Int32) (a q : Nat) : Prop :=
  (gv a = 1 ∧ ∃ R r c d, ap_VS R r c ∧ ap_X rk rw cl nb a R r c d ∧ ap_Y rk' rw' wd' dt' q R r c d) ∨ (gv a = 0 ∧ rk' q = -1)
def ar_V (rk rw cl nb rk' rw' wd' dt' : Nat → Int32) : Prop :=
  ∃ R r c d, ap_VS R r c ∧ ap_X rk rw cl nb 0 R r c d ∧ ap_Y rk' rw' wd' dt' 12 R r c d
def ar_R (tc : Int32) (tx rk rw cl nb gv : Nat → Int32) (ct : Int32) (tx' rk' rw' wd' dt' : Nat → Int32) : Prop :=
  (∃ n, n ≤ 30 ∧ tc = nI n ∧ ct = nI n) ∧ tx' = tx ∧ (∀ j, ∃ t, ag_tok t ∧ tx j = nI t) ∧ ar_V rk rw cl nb rk' rw' wd' dt' ∧ ∀ q, q < 6 → ar_N rk rw cl nb gv rk' rw' wd' dt' (1 + q) q
/-- the relation at the head of a turn: the same text, the same result, the same names -/
def i_Rel (_ : Nat) (u : SX) (v : SY) : Prop :=
  ar_R u.1 u.2.2.1 u.2.2.2.1 u.2.2.2.2.1 u.2.2.2.2.2.1 u.2.2.2.2.2.2.1 u.2.2.2.2.2.2.2.1 v.1 v.2.2.2.1 v.2.2.2.2.1 v.2.2.2.2.2.1 v.2.2.2.2.2.2.1 v.2.2.2.2.2.2.2.1
theorem i_up {k : Nat} {u : SX} {v : SY} (h : i_Rel k u v) : i_Rel (k + 5) u v := h
theorem ar_mx {tc lv ct lv' er : Int32} {tx rk rw cl nb gv wt tx' rk' rw' wd' dt' wt' fi : Nat → Int32} {k : Nat} (h : ar_R tc tx rk rw cl nb gv ct tx' rk' rw' wd' dt') : i_Rel k (tc, lv, tx, rk, rw, cl, nb, gv, wt) (ct, lv', er, tx', rk', rw', wd', dt', wt', fi) := h
theorem ar_tn {tx : Nat → Int32} (h : ∀ j, ∃ t, ag_tok t ∧ tx j = nI t) : ∃ tn : Nat → Nat, (∀ j, tx j = nI (tn j)) ∧ ∀ j, ag_tok (tn j) := by
  refine ⟨fun j => (tx j).toNatClampNeg, fun j => ?_, fun j => ?_⟩
  · obtain ⟨t, h1, h2⟩ := h j
    have := ag_tk h1
    dsimp only
    rw [h2, nI_clamp (by omega)]
  · obtain ⟨t, h1, h2⟩ := h j
    have := ag_tk h1
    dsimp only
    rw [h2, nI_clamp (by omega)]
    exact h1
theorem i_vc0 : wpX_init (fun u => wpY_init (fun v => i_Rel 0 u v)) := by
  have i0 : vp_in 0 46 := vp_in_nI (n := 0) (by omega) (by omega)
  have c0 : (0 : Int32).toNatClampNeg = 0 := by decide
  simp only [wpX_init, wpX_setShape, i0, c0, true_and, forall_eq]
  refine ap_le (fun n i a => wY_init_63 _ 0 0 0 n (nI i) (fun _ => 0) a (fun _ => 0) (fun _ => 0) (fun _ => 0) (fun _ => 0) (fun _ => 0)) (fun i j => if j < i then -1 else 0) 12 (by funext j; simp) (fun n => ?_) (fun n i hi ih => ?_)
  · have z : 12 ≤ 12 := Nat.le_refl 12
    simp (disch := omega) only [wY_init_63, an_g12, z, vp_in_nI, nI_clamp, nI_leI, nI_ltI, nI_eq, nI_add, nI_1, pk_mul, an_m36, an_n36, an_b468, forall_eq, true_and, and_true, true_implies, false_implies, not_true, not_false_iff, implies_true, pk_un, pk_us, ap_wrN, ap_wrS]
    have sp := fun (P : SY → Prop) (rk : Nat → Int32) => ay_sp (ct := 0) (lv := 0) (er := 0) (tx := fun _ => 0) (rk := rk) (rw := fun _ => 0) (wd := fun _ => 0) (dt := fun _ => 0) (wt := fun _ => 0) (fi := fun _ => 0) P (p := 12) (R := 0) (by omega) (by omega) 1 1
    rw [show nI 12 = 12 from rfl, nI_0] at sp
    rw [sp]
    dsimp only
    refine ar_mx ⟨⟨0, by omega, rfl, rfl⟩, rfl, fun j => ⟨0, Or.inl (by omega), rfl⟩, ?_, fun q hq => Or.inr ⟨rfl, ?_⟩⟩
    · exact ⟨0, 1, 1, fun _ => 0, ap_mk0, ⟨rfl, rfl, rfl, fun _ _ => rfl⟩, ⟨pk_us, pk_us, pk_us, fun _ _ => rfl⟩⟩
    · rw [pk_un (by omega)]
      exact if_pos (by omega)
  · have z : ¬ 12 ≤ i := by omega
    have e : upd (fun j => if j < i then (-1 : Int32) else 0) i (-1) = fun j => if j < i + 1 then -1 else 0 := by
      funext j
      unfold upd
      by_cases h : j = i
      · rw [if_pos h, if_pos (by omega)]
      · rw [if_neg h]
        dsimp only
        by_cases h2 : j < i
        · rw [if_pos h2, if_pos (by omega)]
        · rw [if_neg h2, if_neg (by omega)]
    simp (disch := omega) only [wY_init_63, an_g12, z, e, vp_in_nI, nI_clamp, nI_leI, nI_ltI, nI_eq, nI_add, nI_1, pk_mul, an_m36, an_n36, an_b468, forall_eq, true_and, and_true, true_implies, false_implies, not_true, not_false_iff, implies_true, pk_un, pk_us, ap_wrN, ap_wrS]
    exact ih
theorem ar_xT {tx : Nat → Int32} {n : Nat} {t : Int32} (g : ar_G t) (h : ∀ j, ∃ t, ag_tok t ∧ tx j = nI t) : ∀ j, ∃ s, ag_tok s ∧ ar_x tx n t j = nI s := by
  intro j
  unfold ar_x
  rcases g with e | ⟨s, hs, e⟩
  · rw [if_pos e]; exact h j
  · by_cases z : t = -1
    · rw [if_pos z]; exact h j
    · rw [if_neg z]
      by_cases y : j = n
      · rw [y, pk_us]; exact ⟨s, hs, e⟩
      · rw [pk_un y]; exact h j
theorem i_vc_tokens {k : Nat} {u : SX} {v : SY} (I : i_Rel k u v) (hk : k + 5 ≤ 2560) (v1 : Int32) (v2 : Int32) (v3 : Int32) (v4 : Int32) : wpX_tokens (fun r u' => wpY_tokens (fun r' v' => r' = r ∧ i_Rel (k + 5) u' v') v v1 v2 v3 v4) u v1 v2 v3 v4 := by
  obtain ⟨tc, lv, tx, rk, rw, cl, nb, gv, wt⟩ := u
  obtain ⟨ct, lv', er, tx', rk', rw', wd', dt', wt', fi⟩ := v
  obtain ⟨⟨n, hn, rfl, rfl⟩, e, hT, hV, hN⟩ := I
  dsimp only at e
  subst e
  by_cases g : ar_G v1 ∧ ar_G v2 ∧ ar_G v3 ∧ ar_G v4
  · refine ax_tG hn g.1 g.2.1 g.2.2.1 g.2.2.2 (fun s => ?_) (fun s => ?_)
    · exact ay_t hn (fun z => absurd g z) (fun _ _ => ⟨rfl, ar_mx ⟨⟨_, s, rfl, rfl⟩, rfl, ar_xT g.2.2.2 (ar_xT g.2.2.1 (ar_xT g.2.1 (ar_xT g.1 hT))), hV, hN⟩⟩) (fun _ z => absurd s z)
    · exact ay_t hn (fun z => absurd g z) (fun _ z => absurd z s) (fun _ _ => ⟨rfl, ar_mx ⟨⟨n, hn, rfl, rfl⟩, rfl, hT, hV, hN⟩⟩)
  · exact ax_tB g (ay_t hn (fun _ => ⟨rfl, ar_mx ⟨⟨n, hn, rfl, rfl⟩, rfl, hT, hV, hN⟩⟩) (fun z => absurd z g) (fun z => absurd z g))
theorem i_vc_untoken {k : Nat} {u : SX} {v : SY} (I : i_Rel k u v) (hk : k + 5 ≤ 2560) : wpX_untoken (fun r u' => wpY_untoken (fun r' v' => r' = r ∧ i_Rel (k + 5) u' v') v) u := by
  obtain ⟨tc, lv, tx, rk, rw, cl, nb, gv, wt⟩ := u
  obtain ⟨ct, lv', er, tx', rk', rw', wd', dt', wt', fi⟩ := v
  obtain ⟨⟨n, hn, rfl, rfl⟩, e, hT, hV, hN⟩ := I
  dsimp only at e
  subst e
  by_cases g : n = 0
  · have e0 : nI n = 0 := by rw [g]; rfl
    exact br_t e0 (br_t e0 ⟨rfl, ar_mx ⟨⟨n, hn, rfl, rfl⟩, rfl, hT, hV, hN⟩⟩)
  · have e0 : ¬ nI n = 0 := nI_ne0 (by omega) (by omega)
    have iv : vp_in (nI (n - 1)) 30 := vp_in_nI (by omega) (by omega)
    refine br_f e0 (nm_r (an_s1 (by omega)) ⟨iv, br_f e0 (nm_r (an_s1 (by omega)) ⟨iv, ⟨rfl, ar_mx ⟨⟨n - 1, by omega, rfl, rfl⟩, rfl, hT, hV, hN⟩⟩⟩)⟩)
theorem i_vc_clear {k : Nat} {u : SX} {v : SY} (I : i_Rel k u v) (hk : k + 5 ≤ 2560) : wpX_clear (fun u' => wpY_clear (fun v' => i_Rel (k + 5) u' v') v) u := by
  obtain ⟨tc, lv, tx, rk, rw, cl, nb, gv, wt⟩ := u
  obtain ⟨ct, lv', er, tx', rk', rw', wd', dt', wt', fi⟩ := v
  obtain ⟨⟨n, hn, rfl, rfl⟩, e, hT, hV, hN⟩ := I
  exact ar_mx (k := k + 5) ⟨⟨0, by omega, rfl, rfl⟩, e, hT, hV, hN⟩
theorem i_vc_reads {k : Nat} {u : SX} {v : SY} (I : i_Rel k u v) (hk : k + 5 ≤ 2560) : wpX_reads (fun r => wpY_reads (fun r' => r' = r ∧ i_Rel (k + 5) u v) v) u := by
  obtain ⟨tc, lv, tx, rk, rw, cl, nb, gv, wt⟩ := u
  obtain ⟨ct, lv', er, tx', rk', rw', wd', dt', wt', fi⟩ := v
  have I0 := I
  obtain ⟨⟨n, hn, rfl, rfl⟩, e, hT, hV, hN⟩ := I
  dsimp only at e
  subst e
  obtain ⟨tn, t1, t2⟩ := ar_tn hT
  refine ax_rd hn t1 t2 (fun ok => ?_) (fun no => ?_)
  · unfold wpY_reads
    exact ay_is hn t1 t2 (fun _ => ⟨rfl, rfl, I0⟩) (fun z => absurd ok z)
  · unfold wpY_reads
    exact ay_is hn t1 t2 (fun z => absurd z no) (fun _ => ⟨rfl, rfl, I0⟩)
theorem i_vc_rank {k : Nat} {u : SX} {v : SY} (I : i_Rel k u v) (hk : k + 5 ≤ 2560) : wpX_rank (fun r => wpY_rank (fun r' => r' = r ∧ i_Rel (k + 5) u v) v) u := by
  obtain ⟨tc, lv, tx, rk, rw, cl, nb, gv, wt⟩ := u
  obtain ⟨ct, lv', er, tx', rk', rw', wd', dt', wt', fi⟩ := v
  have I0 := I
  obtain ⟨_, _, _, ⟨R, r, c, d, V, X, Y⟩, _⟩ := I
  exact ⟨Y.1.trans X.1.symm, I0⟩
theorem i_vc_length {k : Nat} {u : SX} {v : SY} (I : i_Rel k u v) (hk : k + 5 ≤ 2560) (v1 : Int32) : wpX_length (fun r => wpY_length (fun r' => r' = r ∧ i_Rel (k + 5) u v) v v1) u v1 := by
  obtain ⟨tc, lv, tx, rk, rw, cl, nb, gv, wt⟩ := u
  obtain ⟨ct, lv', er, tx', rk', rw', wd', dt', wt', fi⟩ := v
  have I0 := I
  obtain ⟨_, _, _, ⟨R, r, c, d, V, X, Y⟩, _⟩ := I
  obtain ⟨x1, x2, x3, x4⟩ := X
  obtain ⟨y1, y2, y3, y4⟩ := Y
  dsimp only at x1 x2 x3 y1 y2 y3
  have vb := ap_vb V
  by_cases g0 : v1 < 0
  · exact br_t g0 (br_t g0 ⟨rfl, I0⟩)
  refine br_f g0 ?_
  obtain ⟨j, hj, rfl⟩ := nI_of g0
  rw [x1, nI_ltI hj (by omega)]
  have yl : ∀ P : Int32 → Prop, (j < R → (j = 0 → P (nI (ap_fl R r c))) ∧ (¬ j = 0 → P (nI c))) ∧ (¬ j < R → P (-3)) → wpY_length P (ct, lv', er, tx', rk', rw', wd', dt', wt', fi) (nI j) := by
    intro P h
    refine br_f g0 ?_
    rw [y1, nI_ltI hj (by omega), y2, y3]
    refine ⟨fun a => ?_, h.2⟩
    have q := h.1 a
    rw [an_e0 hj]
    refine ⟨q.1, fun b => ?_⟩
    have w : ap_w R c = c := if_pos (by omega)
    rw [w]
    exact q.2 b
  by_cases a : j < R
  · refine br_t a ?_
    rw [an_e0 hj]
    by_cases b : j = 0
    · refine br_t b ?_
      rw [show (0 : Int32) = nI 0 from rfl, ax_fl _ (by omega) vb.1 x1 x2 x3]
      exact yl _ (br_t a (br_t b ⟨rfl, I0⟩))
    · refine br_f b ?_
      rw [x3]
      exact yl _ (br_t a (br_f b ⟨rfl, I0⟩))
  · exact br_f a (yl _ (br_f a ⟨rfl, I0⟩))
theorem ar_sz {rk rw cl nb : Nat → Int32} {a R r c : Nat} {d : Nat → Int32} (X : ap_X rk rw cl nb a R r c d) : rw a * cl a = nI (r * c) := by rw [X.2.1, X.2.2.1, pk_mul]
theorem ar_szY {rk rw cl nb : Nat → Int32} {a R r c : Nat} {d : Nat → Int32} (V : ap_VS R r c) (Y : ap_Y rk rw cl nb a R r c d) : rw a * cl a = nI (r * c) := by rw [Y.2.1, Y.2.2.1, pk_mul, ap_flw V]
theorem ax_sz0 {tc lv : Int32} {tx rk rw cl nb gv wt : Nat → Int32} (post : Int32 → Prop) : wpX_sizeOf post (tc, lv, tx, rk, rw, cl, nb, gv, wt) 0 = post (rw 0 * cl 0) := ax_sz (h := 0) post (by omega)
theorem ay_sz12 {ct lv er : Int32} {tx rk rw wd dt wt fi : Nat → Int32} (post : Int32 → Prop) : wpY_sizeOf post (ct, lv, er, tx, rk, rw, wd, dt, wt, fi) 12 = post (rw 12 * wd 12) := ay_sz (h := 12) post (by omega)
theorem ay_at12 {ct lv er : Int32} {tx rk rw wd dt wt fi : Nat → Int32} (post : Int32 → Prop) {i : Nat} (hi : i < 36) : wpY_numberAt post (ct, lv, er, tx, rk, rw, wd, dt, wt, fi) 12 (nI i) = post (dt (12 * 36 + i)) := ay_at (h := 12) post (by omega)
theorem i_vc_size {k : Nat} {u : SX} {v : SY} (I : i_Rel k u v) (hk : k + 5 ≤ 2560) : wpX_size (fun r => wpY_size (fun r' => r' = r ∧ i_Rel (k + 5) u v) v) u := by
  obtain ⟨tc, lv, tx, rk, rw, cl, nb, gv, wt⟩ := u
  obtain ⟨ct, lv', er, tx', rk', rw', wd', dt', wt', fi⟩ := v
  have I0 := I
  obtain ⟨_, _, _, ⟨R, r, c, d, V, X, Y⟩, _⟩ := I
  have e1 := ar_sz X
  have e2 := ar_szY V Y
  dsimp only at e1 e2
  simp only [wpX_size, wpY_size, ax_sz0, ay_sz12, e1, e2]
  exact ⟨by trivial, I0⟩
theorem i_vc_at {k : Nat} {u : SX} {v : SY} (I : i_Rel k u v) (hk : k + 5 ≤ 2560) (v1 : Int32) : wpX_at (fun r => wpY_at (fun r' => r' = r ∧ i_Rel (k + 5) u v) v v1) u v1 := by
  obtain ⟨tc, lv, tx, rk, rw, cl, nb, gv, wt⟩ := u
  obtain ⟨ct, lv', er, tx', rk', rw', wd', dt', wt', fi⟩ := v
  have I0 := I
  obtain ⟨_, _, _, ⟨R, r, c, d, V, X, Y⟩, _⟩ := I
  have e1 := ar_sz X
  have e2 := ar_szY V Y
  dsimp only at e1 e2
  have v36 := ap_v36 V
  by_cases g0 : v1 < 0
  · exact br_t g0 (br_t g0 ⟨rfl, I0⟩)
  refine br_f g0 ?_
  obtain ⟨j, hj, rfl⟩ := nI_of g0
  rw [ax_sz0, e1, nI_leI (by omega) hj]
  by_cases a : r * c ≤ j
  · refine br_t a (br_f g0 ?_)
    rw [ay_sz12, e2, nI_leI (by omega) hj]
    exact br_t a ⟨rfl, I0⟩
  · refine br_f a ?_
    rw [an_b0, nI_clamp (by omega)]
    refine ⟨vp_in_nI (by omega) (by omega), br_f g0 ?_⟩
    rw [ay_sz12, e2, nI_leI (by omega) hj]
    refine br_f a ?_
    rw [ay_at12 _ (by omega)]
    have p1 := X.2.2.2 j (by omega)
    have p2 := Y.2.2.2 j (by omega)
    rw [Nat.zero_mul] at p1
    exact ⟨p2.trans p1.symm, I0⟩
def ar_dg (d : Nat → Int32) : Nat → Int32
  | 0 => 0
  | i + 1 => ar_dg d i + nI (i + 1) * d i
theorem i_vc_digest {k : Nat} {u : SX} {v : SY} (I : i_Rel k u v) (hk : k + 5 ≤ 2560) : wpX_digest (fun r => wpY_digest (fun r' => r' = r ∧ i_Rel (k + 5) u v) v) u := by
  obtain ⟨tc, lv, tx, rk, rw, cl, nb, gv, wt⟩ := u
  obtain ⟨ct, lv', er, tx', rk', rw', wd', dt', wt', fi⟩ := v
  have I0 := I
  obtain ⟨_, _, _, ⟨R, r, c, d, V, X, Y⟩, _⟩ := I
  have e1 := ar_sz X
  have e2 := ar_szY V Y
  dsimp only at e1 e2
  have v36 := ap_v36 V
  have p1 := X.2.2.2
  have p2 := Y.2.2.2
  dsimp only at p1 p2
  simp only [wpX_digest, ax_sz0, e1]
  refine ap_le (fun n i a => wX_digest_10 _ (nI (r * c)) tc lv tx rk rw cl nb gv wt n a (nI i)) (fun i => ar_dg d i) (r * c) rfl (fun n => ?_) (fun n i hi ih => ?_)
  · refine br_t (nI_le (Nat.le_refl _) (by omega)) ?_
    refine ap_le (fun n i a => wY_digest_4 _ ct lv' er tx' rk' rw' wd' dt' wt' fi n a (nI i)) (fun i => ar_dg d i) (r * c) rfl (fun n => ?_) (fun n i hi ih => ?_)
    · have z : r * c ≤ r * c := Nat.le_refl _
      simp (disch := omega) only [wY_digest_4, ay_sz12, e2, z, vp_in_nI, nI_clamp, nI_leI, nI_ltI, nI_eq, nI_add, nI_1, pk_mul, an_m36, an_n36, an_b468, forall_eq, true_and, and_true, true_implies, false_implies, not_true, not_false_iff, implies_true, pk_un, pk_us, ap_wrN, ap_wrS]
      exact I0
    · have z : ¬ r * c ≤ i := by omega
      simp (disch := omega) only [wY_digest_4, ay_sz12, ay_at12, e2, z, p2, vp_in_nI, nI_clamp, nI_leI, nI_ltI, nI_eq, nI_add, nI_1, pk_mul, an_m36, an_n36, an_b468, forall_eq, true_and, and_true, true_implies, false_implies, not_true, not_false_iff, implies_true, pk_un, pk_us, ap_wrN, ap_wrS]
      exact ih
  · have z : ¬ r * c ≤ i := by omega
    have q := p1 i hi
    rw [Nat.zero_mul] at q
    simp (disch := omega) only [wX_digest_10, z, an_b0, q, vp_in_nI, nI_clamp, nI_leI, nI_ltI, nI_eq, nI_add, nI_1, pk_mul, an_m36, an_n36, an_b468, forall_eq, true_and, and_true, true_implies, false_implies, not_true, not_false_iff, implies_true, pk_un, pk_us, ap_wrN, ap_wrS]
    exact ih
theorem ar_is {P : Int32 → Prop} {p : Int32} (h0 : (p < 0 ∨ nI 6 ≤ p) → P 0) (h1 : ∀ q, q < 6 → p = nI q → P 1) : wpX_isName P p := by
  by_cases g0 : p < 0
  · exact br_t g0 (h0 (Or.inl g0))
  · refine br_f g0 ?_
    by_cases g6 : (6 : Int32) ≤ p
    · exact br_t g6 (h0 (Or.inr g6))
    · refine br_f g6 ?_
      obtain ⟨j, hj, rfl⟩ := nI_of g0
      rw [an_g6 hj] at g6
      exact h1 j (by omega) rfl
theorem ar_isY {ct lv er : Int32} {tx rk rw wd dt wt fi : Nat → Int32} {P : Int32 → Prop} {p : Int32} (h0 : (p < 0 ∨ nI 6 ≤ p) → P 0) (h1 : ∀ q, q < 6 → p = nI q → P 1) : wpY_isName P (ct, lv, er, tx, rk, rw, wd, dt, wt, fi) p := by
  by_cases g0 : p < 0
  · exact br_t g0 (h0 (Or.inl g0))
  · refine br_f g0 ?_
    obtain ⟨j, hj, rfl⟩ := nI_of g0
    rw [an_u5 hj]
    by_cases g6 : 5 < j
    · exact br_t g6 (h0 (Or.inr (nI_le (by omega) hj)))
    · exact br_f g6 (h1 j (by omega) rfl)
theorem ar_no {p : Int32} {q : Nat} (h : p < 0 ∨ nI 6 ≤ p) (hq : q < 6) (e : p = nI q) : False := by
  subst e
  rcases h with h | h
  · exact nI_pos (by omega) h
  · rw [nI_leI (by omega) (by omega)] at h
    omega
/-- a name that stays, where other places change -/
theorem ar_Nk {rk rw cl nb gv rk' rw' wd' dt' ak aw al an gv2 bk bw bl bn : Nat → Int32} {p p' a q : Nat} (F : ap_F p rk rw cl nb ak aw al an) (F' : ap_F p' rk' rw' wd' dt' bk bw bl bn) (h : a ≠ p) (h' : q ≠ p') (hg : gv2 a = gv a) (N : ar_N rk rw cl nb gv rk' rw' wd' dt' a q) : ar_N ak aw al an gv2 bk bw bl bn a q := by
  rcases N with ⟨g, R, r, c, d, V, X, Y⟩ | ⟨g, e⟩
  · exact Or.inl ⟨hg.trans g, R, r, c, d, V, ap_FX F h (ap_v36 V) X, ap_FY F' h' (ap_v36 V) Y⟩
  · exact Or.inr ⟨hg.trans g, (F'.1 q h').1.trans e⟩
theorem i_vc_keep {k : Nat} {u : SX} {v : SY} (I : i_Rel k u v) (hk : k + 5 ≤ 2560) (v1 : Int32) : wpX_keep (fun r u' => wpY_keep (fun r' v' => r' = r ∧ i_Rel (k + 5) u' v') v v1) u v1 := by
  obtain ⟨tc, lv, tx, rk, rw, cl, nb, gv, wt⟩ := u
  obtain ⟨ct, lv', er, tx', rk', rw', wd', dt', wt', fi⟩ := v
  have I0 := I
  have z1 : ¬ (1 : Int32) = 0 := by decide
  unfold wpX_keep wpY_keep
  dsimp only
  refine ar_is (fun no => br_t rfl (ar_isY (fun _ => br_t rfl ⟨rfl, I0⟩) (fun q hq e => (ar_no no hq e).elim))) (fun q hq e => br_f z1 ?_)
  subst e
  obtain ⟨hn, e, hT, ⟨R, r, c, d, V, X, Y⟩, hN⟩ := I
  dsimp only at hn e hT X Y hN
  have v36 := ap_v36 V
  rw [an_b1, show (0 : Int32) = nI 0 from rfl]
  refine ax_cp (by omega) (by omega) (by omega) ?_
  simp (disch := omega) only [an_bt, vp_in_nI, nI_clamp, nI_leI, nI_ltI, nI_eq, nI_add, nI_1, pk_mul, an_m36, an_n36, an_b468, forall_eq, true_and, and_true, true_implies, false_implies, not_true, not_false_iff, implies_true, pk_un, pk_us, ap_wrN, ap_wrS]
  refine ar_isY (fun no => (ar_no no hq rfl).elim) (fun q' hq' e' => br_f z1 ?_)
  refine ay_cp (a := 12) (b := q) (by omega) (by omega) (by omega) ?_
  dsimp only
  refine ar_mx ⟨hn, e, hT, ?_, fun p hp => ?_⟩
  · exact ⟨R, r, c, d, V, ap_FX ap_cpF (by omega) v36 X, ap_FY ap_cpF (by omega) v36 Y⟩
  · by_cases z : p = q
    · subst z
      exact Or.inl ⟨pk_us, R, r, c, d, V, ap_cpX v36 X, ap_cpY v36 Y⟩
    · exact ar_Nk ap_cpF ap_cpF (by omega) z (pk_un (by omega)) (hN p hp)
theorem i_vc_show {k : Nat} {u : SX} {v : SY} (I : i_Rel k u v) (hk : k + 5 ≤ 2560) (v1 : Int32) : wpX_show (fun r u' => wpY_show (fun r' v' => r' = r ∧ i_Rel (k + 5) u' v') v v1) u v1 := by
  obtain ⟨tc, lv, tx, rk, rw, cl, nb, gv, wt⟩ := u
  obtain ⟨ct, lv', er, tx', rk', rw', wd', dt', wt', fi⟩ := v
  have I0 := I
  have z1 : ¬ (1 : Int32) = 0 := by decide
  unfold wpX_show wpY_show
  dsimp only
  refine ar_is (fun no => br_t rfl (ar_isY (fun _ => br_t rfl ⟨rfl, I0⟩) (fun q hq e => (ar_no no hq e).elim))) (fun q hq e => br_f z1 ?_)
  subst e
  obtain ⟨hn, e, hT, hV, hN⟩ := I
  dsimp only at hn e hT hV hN
  have hNq := hN q hq
  rw [an_b1, nI_clamp (by omega)]
  refine ⟨vp_in_nI (by omega) (by omega), ?_⟩
  rcases hNq with ⟨g, R, r, c, d, V, X, Y⟩ | ⟨g, ge⟩
  · have v36 := ap_v36 V
    rw [g]
    refine br_f z1 ?_
    refine ax_cp (b := 0) (by omega) (by omega) (by omega) ?_
    refine ar_isY (fun no => (ar_no no hq rfl).elim) (fun q' hq' e' => br_f z1 ?_)
    rw [nI_clamp (by omega)]
    refine ⟨vp_in_nI (by omega) (by omega), br_t (by rw [Y.1]; exact nI_pos' (by have := ap_vb V; omega)) ?_⟩
    refine ay_cp (b := 12) (by omega) (by omega) (by omega) ?_
    dsimp only
    refine ⟨vp_in_nI (by omega) (by omega), ?_, ar_mx ⟨hn, e, hT, ?_, fun p hp => ?_⟩⟩
    · rw [pk_un (by omega), pk_us]
      exact Y.1.trans X.1.symm
    · exact ⟨R, r, c, d, V, ap_cpX v36 X, ap_cpY v36 Y⟩
    · exact ar_Nk ap_cpF ap_cpF (by omega) (by omega) rfl (hN p hp)
  · rw [g]
    refine br_t rfl ?_
    refine ar_isY (fun no => (ar_no no hq rfl).elim) (fun q' hq' e' => br_f z1 ?_)
    rw [nI_clamp (by omega), ge]
    exact ⟨vp_in_nI (by omega) (by omega), br_f (by decide) ⟨rfl, I0⟩⟩
theorem i_vc_forget {k : Nat} {u : SX} {v : SY} (I : i_Rel k u v) (hk : k + 5 ≤ 2560) (v1 : Int32) : wpX_forget (fun r u' => wpY_forget (fun r' v' => r' = r ∧ i_Rel (k + 5) u' v') v v1) u v1 := by
  obtain ⟨tc, lv, tx, rk, rw, cl, nb, gv, wt⟩ := u
  obtain ⟨ct, lv', er, tx', rk', rw', wd', dt', wt', fi⟩ := v
  have I0 := I
  have z1 : ¬ (1 : Int32) = 0 := by decide
  unfold wpX_forget wpY_forget
  dsimp only
  refine ar_is (fun no => br_t rfl (ar_isY (fun _ => br_t rfl ⟨rfl, I0⟩) (fun q hq e => (ar_no no hq e).elim))) (fun q hq e => br_f z1 ?_)
  subst e
  obtain ⟨hn, e, hT, hV, hN⟩ := I
  dsimp only at hn e hT hV hN
  have fin : ar_R tc tx rk rw cl nb (upd gv (1 + q) 0) ct tx' (upd rk' q (-1)) rw' wd' dt' := by
    refine ⟨hn, e, hT, ?_, fun p hp => ?_⟩
    · obtain ⟨R, r, c, d, V, X, Y⟩ := hV
      exact ⟨R, r, c, d, V, X, ⟨by rw [pk_un (by omega)]; exact Y.1, Y.2⟩⟩
    · by_cases z : p = q
      · subst z
        exact Or.inr ⟨pk_us, pk_us⟩
      · rcases hN p hp with ⟨g, R, r, c, d, V, X, Y⟩ | ⟨g, ge⟩
        · exact Or.inl ⟨by rw [pk_un (by omega)]; exact g, R, r, c, d, V, X, ⟨by rw [pk_un z]; exact Y.1, Y.2⟩⟩
        · exact Or.inr ⟨by rw [pk_un (by omega)]; exact g, by rw [pk_un z]; exact ge⟩
  have iv : vp_in (nI (1 + q)) 46 := vp_in_nI (by omega) (by omega)
  have iy : vp_in (nI q) 50 := vp_in_nI (by omega) (by omega)
  rw [an_b1, nI_clamp (by omega), an_bf]
  refine ⟨iv, nm_e ⟨iv, nm_e ?_⟩⟩
  rcases hN q hq with ⟨g, R, r, c, d, V, X, Y⟩ | ⟨g, ge⟩
  · rw [g]
    refine br_f z1 ?_
    refine ar_isY (fun no => (ar_no no hq rfl).elim) (fun q' hq' e' => br_f z1 ?_)
    rw [nI_clamp (by omega)]
    refine ⟨iy, br_t (by rw [Y.1]; exact nI_pos' (by have := ap_vb V; omega)) ?_⟩
    simp (disch := omega) only [wY_forget_24, vp_in_nI, nI_clamp, nI_leI, nI_ltI, nI_eq, nI_add, nI_1, pk_mul, an_m36, an_n36, an_b468, forall_eq, true_and, and_true, true_implies, false_implies, not_true, not_false_iff, implies_true, pk_un, pk_us, ap_wrN, ap_wrS]
    exact ar_mx (k := k + 5) fin
  · rw [g]
    refine br_t rfl ?_
    refine ar_isY (fun no => (ar_no no hq rfl).elim) (fun q' hq' e' => br_f z1 ?_)
    rw [nI_clamp (by omega), ge]
    refine ⟨iy, br_f (by decide) ?_⟩
    simp (disch := omega) only [wY_forget_24, vp_in_nI, nI_clamp, nI_leI, nI_ltI, nI_eq, nI_add, nI_1, pk_mul, an_m36, an_n36, an_b468, forall_eq, true_and, and_true, true_implies, false_implies, not_true, not_false_iff, implies_true, pk_un, pk_us, ap_wrN, ap_wrS]
    exact ar_mx (k := k + 5) fin
theorem i_vc_put {k : Nat} {u : SX} {v : SY} (I : i_Rel k u v) (hk : k + 5 ≤ 2560) (v1 : Int32) (v2 : Int32) : wpX_put (fun r u' => wpY_put (fun r' v' => r' = r ∧ i_Rel (k + 5) u' v') v v1 v2) u v1 v2 := by
  obtain ⟨tc, lv, tx, rk, rw, cl, nb, gv, wt⟩ := u
  obtain ⟨ct, lv', er, tx', rk', rw', wd', dt', wt', fi⟩ := v
  have I0 := I
  obtain ⟨hn, e, hT, ⟨R, r, c, d, V, X, Y⟩, hN⟩ := I
  dsimp only at hn e hT X Y hN
  have e1 := ar_sz X
  have e2 := ar_szY V Y
  have v36 := ap_v36 V
  by_cases g0 : v1 < 0
  · exact br_t g0 (br_t g0 ⟨rfl, I0⟩)
  refine br_f g0 ?_
  obtain ⟨j, hj, rfl⟩ := nI_of g0
  rw [ax_sz0, e1, nI_ltI hj (by omega)]
  by_cases a : j < r * c
  case neg =>
    refine br_f a (br_f g0 ?_)
    rw [ay_sz12, e2, nI_ltI hj (by omega)]
    exact br_f a ⟨rfl, I0⟩
  refine br_t a ?_
  have p1 := X.2.2.2 j a
  have p2 := Y.2.2.2 j a
  have iv : vp_in (nI (0 + j)) 1656 := vp_in_nI (by omega) (by omega)
  rw [an_b0, nI_clamp (by omega)]
  refine ⟨iv, nm_e ⟨iv, nm_e (br_f g0 ?_)⟩⟩
  rw [ay_sz12, e2, nI_ltI hj (by omega)]
  refine br_t a ?_
  rw [ay_at12 _ (by omega), show (432 : Int32) = nI 432 from rfl, nI_add, nI_clamp (by omega)]
  refine ⟨vp_in_nI (by omega) (by omega), nm_e ⟨?_, ar_mx ⟨hn, e, hT, ?_, fun p hp => ?_⟩⟩⟩
  · rw [Nat.zero_mul] at p1
    exact p2.trans p1.symm
  · refine ⟨R, r, c, fun i => if i = j then v2 else d i, V, ⟨X.1, X.2.1, X.2.2.1, fun i hi => ?_⟩, ⟨Y.1, Y.2.1, Y.2.2.1, fun i hi => ?_⟩⟩
    · have q := X.2.2.2 i hi
      by_cases z : i = j
      · rw [z, Nat.zero_mul, pk_us]; exact (if_pos rfl).symm
      · rw [pk_un (by omega)]; exact q.trans (if_neg z).symm
    · have q := Y.2.2.2 i hi
      by_cases z : i = j
      · rw [z, pk_us]; exact (if_pos rfl).symm
      · rw [pk_un (by omega)]; exact q.trans (if_neg z).symm
  · refine ar_Nk (p := 0) (p' := 12) ⟨fun _ _ => ⟨rfl, rfl, rfl⟩, fun i h => pk_un (by omega)⟩ ⟨fun _ _ => ⟨rfl, rfl, rfl⟩, fun i h => pk_un (by omega)⟩ (by omega) (by omega) rfl (hN p hp)
end
section
/-! run: what stands at a place of the reading from right to left -/
abbrev ar_A : Type := Nat × Nat × Nat × (Nat → Int32)
def ar_XA (rk rw cl nb : Nat → Int32) (h : Nat) (A : ar_A) : Prop := ap_VS A.1 A.2.1 A.2.2.1 ∧ ap_X rk rw cl nb h A.1 A.2.1 A.2.2.1 A.2.2.2
def ar_YA (rk rw wd dt : Nat → Int32) (h : Nat) (A : ar_A) : Prop := ap_VS A.1 A.2.1 A.2.2.1 ∧ ap_Y rk rw wd dt h A.1 A.2.1 A.2.2.1 A.2.2.2
def ar_u {α : Type} (f : Nat → α) (k : Nat) (x : α) : Nat → α := fun j => if j = k then x else f j
theorem ar_us {α : Type} {f : Nat → α} {k : Nat} {x : α} : ar_u f k x k = x := if_pos rfl
theorem ar_un {α : Type} {f : Nat → α} {k j : Nat} {x : α} (h : j ≠ k) : ar_u f k x j = f j := if_neg h
/-- level j on X's side: 0 nothing yet, 1 an array, q + 2 an array for which the function at q waits -/
def ar_XL (tn : Nat → Nat) (n : Nat) (L : Nat → ar_A) (S : Nat → Nat) (rk rw cl nb wt : Nat → Int32) (j : Nat) : Prop :=
  (S j ≤ 1 → wt j = -1) ∧ (2 ≤ S j → wt j = nI (S j - 2) ∧ ag_wf tn n (S j - 2)) ∧ (S j ≠ 0 → ar_XA rk rw cl nb (14 + j) (L j))
def ag_wd (tn : Nat → Nat) (n q : Nat) : Nat := ag_w (ag_k tn n q) (ag_f tn q) (ag_g tn q)
def ar_YL (tn : Nat → Nat) (n : Nat) (L : Nat → ar_A) (S : Nat → Nat) (rk rw wd dt wt fi : Nat → Int32) (j : Nat) : Prop :=
  (S j ≤ 1 → wt j = -1) ∧ (2 ≤ S j → wt j = nI (ag_wd tn n (S j - 2)) ∧ ag_wf tn n (S j - 2)) ∧ (S j ≠ 0 → fi j = 1 ∧ ar_YA rk rw wd dt (14 + j * 2) (L j)) ∧ (S j = 0 → fi j = 0)
def ar_XN (N : Nat → Option ar_A) (rk rw cl nb gv : Nat → Int32) (q : Nat) : Prop := (N q = none ∧ gv (7 + q) = 0) ∨ ∃ A, N q = some A ∧ gv (7 + q) = 1 ∧ ar_XA rk rw cl nb (7 + q) A
def ar_YN (N : Nat → Option ar_A) (rk rw wd dt : Nat → Int32) (q : Nat) : Prop := (N q = none ∧ rk q = -1) ∨ ∃ A, N q = some A ∧ ar_YA rk rw wd dt q A
/-- place b now holds what place a held -/
def ap_C (a b : Nat) (rk rw cl nb rk' rw' cl' nb' : Nat → Int32) : Prop := rk' b = rk a ∧ rw' b = rw a ∧ cl' b = cl a ∧ ∀ i, i < 36 → nb' (b * 36 + i) = nb (a * 36 + i)
theorem ap_CK {a b m : Nat} {rk rw cl nb rk' rw' cl' nb' rk2 rw2 cl2 nb2 : Nat → Int32} (K : ap_K m rk' rw' cl' nb' rk2 rw2 cl2 nb2) (hb : b < m) (h13 : b ≠ 13) (C : ap_C a b rk rw cl nb rk' rw' cl' nb') : ap_C a b rk rw cl nb rk2 rw2 cl2 nb2 := by
  obtain ⟨x, y, z, w⟩ := K b hb h13
  exact ⟨x.trans C.1, y.trans C.2.1, z.trans C.2.2.1, fun i hi => (w i hi).trans (C.2.2.2 i hi)⟩
theorem ap_CF {a b q : Nat} {rk rw cl nb rk' rw' cl' nb' rk2 rw2 cl2 nb2 : Nat → Int32} (F : ap_F q rk' rw' cl' nb' rk2 rw2 cl2 nb2) (hb : b ≠ q) (C : ap_C a b rk rw cl nb rk' rw' cl' nb') : ap_C a b rk rw cl nb rk2 rw2 cl2 nb2 := by
  obtain ⟨x, y, z⟩ := F.1 b hb
  exact ⟨x.trans C.1, y.trans C.2.1, z.trans C.2.2.1, fun i hi => (F.2 _ (by omega)).trans (C.2.2.2 i hi)⟩
theorem ap_Cr (a : Nat) (rk rw cl nb : Nat → Int32) : ap_C a a rk rw cl nb rk rw cl nb := ⟨rfl, rfl, rfl, fun _ _ => rfl⟩
theorem ap_Cc {a b : Nat} {rk rw cl nb : Nat → Int32} : ap_C a b rk rw cl nb (upd rk b (rk a)) (upd rw b (rw a)) (upd cl b (cl a)) (ap_cp nb a b 36) := ⟨pk_us, pk_us, pk_us, fun _ hi => ap_cpI hi⟩
theorem ap_CX {a b R r c : Nat} {d rk rw cl nb rk' rw' cl' nb' : Nat → Int32} (C : ap_C a b rk rw cl nb rk' rw' cl' nb') (V : r * c ≤ 36) (H : ap_X rk rw cl nb a R r c d) : ap_X rk' rw' cl' nb' b R r c d :=
  ⟨C.1.trans H.1, C.2.1.trans H.2.1, C.2.2.1.trans H.2.2.1, fun i hi => (C.2.2.2 i (by omega)).trans (H.2.2.2 i hi)⟩
theorem ap_CY {a b R r c : Nat} {d rk rw cl nb rk' rw' cl' nb' : Nat → Int32} (C : ap_C a b rk rw cl nb rk' rw' cl' nb') (V : r * c ≤ 36) (H : ap_Y rk rw cl nb a R r c d) : ap_Y rk' rw' cl' nb' b R r c d :=
  ⟨C.1.trans H.1, C.2.1.trans H.2.1, C.2.2.1.trans H.2.2.1, fun i hi => (C.2.2.2 i (by omega)).trans (H.2.2.2 i hi)⟩
/-- all that X holds, at level l -/
def ar_XI (tn : Nat → Nat) (n : Nat) (L : Nat → ar_A) (S : Nat → Nat) (N : Nat → Option ar_A) (l : Nat) (rk0 rw0 cl0 nb0 gv0 rk rw cl nb gv wt : Nat → Int32) : Prop :=
  ap_K 7 rk0 rw0 cl0 nb0 rk rw cl nb ∧ (∀ j, j < 7 → gv j = gv0 j) ∧ (∀ q, q < 6 → ar_XN N rk rw cl nb gv q) ∧ ∀ j, j ≤ l → ar_XL tn n L S rk rw cl nb wt j
/-- what Y keeps of the names and of the result as they were -/
def ar_YB (rk0 rw0 wd0 dt0 rk rw wd dt : Nat → Int32) : Prop := (∀ q, q < 6 → ap_C q (6 + q) rk0 rw0 wd0 dt0 rk rw wd dt) ∧ ap_C 12 12 rk0 rw0 wd0 dt0 rk rw wd dt
def ar_YI (tn : Nat → Nat) (n : Nat) (L : Nat → ar_A) (S : Nat → Nat) (N : Nat → Option ar_A) (l : Nat) (rk0 rw0 wd0 dt0 rk rw wd dt wt fi : Nat → Int32) : Prop :=
  ar_YB rk0 rw0 wd0 dt0 rk rw wd dt ∧ (∀ q, q < 6 → ar_YN N rk rw wd dt q) ∧ ∀ j, j ≤ l → ar_YL tn n L S rk rw wd dt wt fi j
/-- what the kind of place p asks of the levels -/
def ar_PC (tn : Nat → Nat) (S : Nat → Nat) (p : Nat) : Prop := (∀ j, j < ag_dp tn p → S j ≠ 1) ∧ (4 ≤ ag_st tn p → S (ag_dp tn p) ≠ 1) ∧ (ag_st tn p < 4 → S (ag_dp tn p) ≠ 0)
/-- the level's array once the waiting function has had it, and an operand put to it -/
def ar_se (tn : Nat → Nat) (n : Nat) (L : Nat → ar_A) (S : Nat → Nat) (l : Nat) : ap_T :=
  if 2 ≤ S l then ap_one (ag_k tn n (S l - 2)) (ag_f tn (S l - 2)) (L l).1 (L l).2.1 (L l).2.2.1 (L l).2.2.2 else (0, L l)
def ar_op (tn : Nat → Nat) (n : Nat) (L : Nat → ar_A) (S : Nat → Nat) (l : Nat) (A : ar_A) : ap_T :=
  if 2 ≤ S l then ap_two A.1 A.2.1 A.2.2.1 A.2.2.2 (L l).1 (L l).2.1 (L l).2.2.1 (L l).2.2.2 (ag_k tn n (S l - 2)) (ag_f tn (S l - 2)) (ag_g tn (S l - 2)) else (0, A)
theorem ar_KXA {m j : Nat} {A : ar_A} {a1 a2 a3 a4 b1 b2 b3 b4 : Nat → Int32} (h : ap_K m a1 a2 a3 a4 b1 b2 b3 b4) (hj : j < m) (h13 : j ≠ 13) (H : ar_XA a1 a2 a3 a4 j A) : ar_XA b1 b2 b3 b4 j A := ⟨H.1, ap_KX h hj h13 (ap_v36 H.1) H.2⟩
theorem ar_KYA {m j : Nat} {A : ar_A} {a1 a2 a3 a4 b1 b2 b3 b4 : Nat → Int32} (h : ap_K m a1 a2 a3 a4 b1 b2 b3 b4) (hj : j < m) (h13 : j ≠ 13) (H : ar_YA a1 a2 a3 a4 j A) : ar_YA b1 b2 b3 b4 j A := ⟨H.1, ap_KY h hj h13 (ap_v36 H.1) H.2⟩
theorem ar_KXN {m q : Nat} {N : Nat → Option ar_A} {a1 a2 a3 a4 b1 b2 b3 b4 gv : Nat → Int32} (h : ap_K m a1 a2 a3 a4 b1 b2 b3 b4) (hm : 13 ≤ m) (hq : q < 6) (H : ar_XN N a1 a2 a3 a4 gv q) : ar_XN N b1 b2 b3 b4 gv q := by
  rcases H with H | ⟨A, e, g, X⟩
  · exact Or.inl H
  · exact Or.inr ⟨A, e, g, ar_KXA h (by omega) (by omega) X⟩
theorem ar_KYN {m q : Nat} {N : Nat → Option ar_A} {a1 a2 a3 a4 b1 b2 b3 b4 : Nat → Int32} (h : ap_K m a1 a2 a3 a4 b1 b2 b3 b4) (hm : 13 ≤ m) (hq : q < 6) (H : ar_YN N a1 a2 a3 a4 q) : ar_YN N b1 b2 b3 b4 q := by
  rcases H with ⟨e, g⟩ | ⟨A, e, Y⟩
  · exact Or.inl ⟨e, (h q (by omega) (by omega)).1.trans g⟩
  · exact Or.inr ⟨A, e, ar_KYA h (by omega) (by omega) Y⟩
theorem ar_KYB {m : Nat} {r0 w0 d0 t0 a1 a2 a3 a4 b1 b2 b3 b4 : Nat → Int32} (h : ap_K m a1 a2 a3 a4 b1 b2 b3 b4) (hm : 13 ≤ m) (H : ar_YB r0 w0 d0 t0 a1 a2 a3 a4) : ar_YB r0 w0 d0 t0 b1 b2 b3 b4 :=
  ⟨fun q hq => ap_CK h (by omega) (by omega) (H.1 q hq), ap_CK h (by omega) (by omega) H.2⟩
/-- X's levels below l stay, level l becomes the array T with status s -/
theorem ar_XLu {tn : Nat → Nat} {n l s : Nat} {L : Nat → ar_A} {S : Nat → Nat} {T : ar_A} {rk rw cl nb wt rk' rw' cl' nb' wt' : Nat → Int32} (H : ∀ j, j ≤ l → ar_XL tn n L S rk rw cl nb wt j) (K : ap_K (14 + l) rk rw cl nb rk' rw' cl' nb') (hX : ar_XA rk' rw' cl' nb' (14 + l) T) (hw : ∀ j, j ≠ l → wt' j = wt j)
    (h1 : s ≠ 0) (h2 : s ≤ 1 → wt' l = -1) (h3 : 2 ≤ s → wt' l = nI (s - 2) ∧ ag_wf tn n (s - 2)) : ∀ j, j ≤ l → ar_XL tn n (ar_u L l T) (ar_u S l s) rk' rw' cl' nb' wt' j := by
  intro j hj
  unfold ar_XL
  by_cases e : j = l
  · subst e
    rw [ar_us, ar_us]
    exact ⟨h2, h3, fun _ => hX⟩
  · rw [ar_un e, ar_un e, hw j e]
    obtain ⟨a, b, c⟩ := H j hj
    exact ⟨a, b, fun z => ar_KXA K (by omega) (by omega) (c z)⟩
theorem ar_YLu {tn : Nat → Nat} {n l s : Nat} {L : Nat → ar_A} {S : Nat → Nat} {T : ar_A} {rk rw cl nb wt fi rk' rw' cl' nb' wt' fi' : Nat → Int32} (H : ∀ j, j ≤ l → ar_YL tn n L S rk rw cl nb wt fi j) (K : ap_K (14 + l * 2) rk rw cl nb rk' rw' cl' nb') (hX : ar_YA rk' rw' cl' nb' (14 + l * 2) T) (hw : ∀ j, j ≠ l → wt' j = wt j) (hf : ∀ j, j ≠ l → fi' j = fi j) (hf1 : fi' l = 1)
    (h1 : s ≠ 0) (h2 : s ≤ 1 → wt' l = -1) (h3 : 2 ≤ s → wt' l = nI (ag_wd tn n (s - 2)) ∧ ag_wf tn n (s - 2)) : ∀ j, j ≤ l → ar_YL tn n (ar_u L l T) (ar_u S l s) rk' rw' cl' nb' wt' fi' j := by
  intro j hj
  unfold ar_YL
  by_cases e : j = l
  · subst e
    rw [ar_us, ar_us]
    exact ⟨h2, h3, fun _ => ⟨hf1, hX⟩, fun z => absurd z h1⟩
  · rw [ar_un e, ar_un e, hw j e, hf j e]
    obtain ⟨a, b, c, d⟩ := H j hj
    exact ⟨a, b, fun z => ⟨(c z).1, ar_KYA K (by omega) (by omega) (c z).2⟩, d⟩
section
variable {tc lv : Int32} {tx rk rw cl nb gv wt : Nat → Int32} {tn : Nat → Nat} {n : Nat} {L : Nat → ar_A} {S : Nat → Nat}
theorem ar_seV {l : Nat} (V : ap_VS (L l).1 (L l).2.1 (L l).2.2.1) : ap_ok (ar_se tn n L S l) := by
  unfold ar_se
  split
  · exact ap_oneV V
  · exact V
theorem ar_opV {l : Nat} {A : ar_A} (V : 2 ≤ S l → ap_VS (L l).1 (L l).2.1 (L l).2.2.1) (W : ap_VS A.1 A.2.1 A.2.2.1) : ap_ok (ar_op tn n L S l A) := by
  unfold ar_op
  split
  · rename_i h
    exact ap_twoV W (V h)
  · exact W
theorem ax_se {post : Int32 → SX → Prop} {l : Nat} (hn : n ≤ 30) (ht : ∀ j, tx j = nI (tn j)) (hk : ∀ j, ag_tok (tn j)) (l15 : l ≤ 15) (H : ar_XL tn n L S rk rw cl nb wt l) (s0 : S l ≠ 0)
    (hE : (ar_se tn n L S l).1 ≠ 0 → post (ar_se tn n L S l).1 (nI n, nI l, tx, rk, rw, cl, nb, gv, upd wt l (-1)))
    (hO : (ar_se tn n L S l).1 = 0 → ∀ rk' rw' cl' nb' wt', ap_K (14 + l) rk rw cl nb rk' rw' cl' nb' → ar_XA rk' rw' cl' nb' (14 + l) (ar_se tn n L S l).2 → (∀ j, j ≠ l → wt' j = wt j) → wt' l = -1 → post 0 (nI n, nI l, tx, rk', rw', cl', nb', gv, wt')) :
    wpX_workAlone post (nI n, nI l, tx, rk, rw, cl, nb, gv, wt) := by
  obtain ⟨a, b, c⟩ := H
  have X := c s0
  have ok := ar_seV (tn := tn) (n := n) (S := S) X.1
  by_cases g : 2 ≤ S l
  · obtain ⟨b1, b2⟩ := b g
    have e : ar_se tn n L S l = ap_one (ag_k tn n (S l - 2)) (ag_f tn (S l - 2)) (L l).1 (L l).2.1 (L l).2.2.1 (L l).2.2.2 := if_pos g
    rw [e] at hE hO ok
    exact ax_wa hn ht hk l15 b2 b1 X.1 X.2 ⟨hE, fun z rk' rw' cl' nb' K Y => hO z rk' rw' cl' nb' _ K ⟨ok, Y⟩ (fun j hj => pk_un hj) pk_us⟩
  · have e : ar_se tn n L S l = (0, L l) := if_neg g
    rw [e] at hO
    exact ax_wa0 l15 (a (by omega)) (hO rfl _ _ _ _ _ (ap_Kr _ _ _ _ _) X (fun _ _ => rfl) (a (by omega)))
theorem ax_op {post : Int32 → SX → Prop} {l : Nat} {A : ar_A} (hn : n ≤ 30) (ht : ∀ j, tx j = nI (tn j)) (hk : ∀ j, ag_tok (tn j)) (l15 : l ≤ 15) (H : ar_XL tn n L S rk rw cl nb wt l) (s1 : S l ≠ 1) (hA : ar_XA rk rw cl nb (14 + l + 1) A)
    (hE : (ar_op tn n L S l A).1 ≠ 0 → post (ar_op tn n L S l A).1 (nI n, nI l, tx, rk, rw, cl, nb, gv, upd wt l (-1)))
    (hO : (ar_op tn n L S l A).1 = 0 → ∀ rk' rw' cl' nb' wt', ap_K (14 + l) rk rw cl nb rk' rw' cl' nb' → ar_XA rk' rw' cl' nb' (14 + l) (ar_op tn n L S l A).2 → (∀ j, j ≠ l → wt' j = wt j) → wt' l = -1 → post 0 (nI n, nI l, tx, rk', rw', cl', nb', gv, wt')) :
    wpX_workWithLeft post (nI n, nI l, tx, rk, rw, cl, nb, gv, wt) := by
  obtain ⟨a, b, c⟩ := H
  by_cases g : 2 ≤ S l
  · obtain ⟨b1, b2⟩ := b g
    have X := c (by omega)
    have ok := ar_opV (tn := tn) (n := n) (S := S) (fun _ => X.1) hA.1
    have e : ar_op tn n L S l A = ap_two A.1 A.2.1 A.2.2.1 A.2.2.2 (L l).1 (L l).2.1 (L l).2.2.1 (L l).2.2.2 (ag_k tn n (S l - 2)) (ag_f tn (S l - 2)) (ag_g tn (S l - 2)) := if_pos g
    rw [e] at hE hO ok
    exact ax_wl hn ht hk l15 b2 b1 hA.1 hA.2 X.1 X.2 ⟨hE, fun z rk' rw' cl' nb' K Y => hO z rk' rw' cl' nb' _ K ⟨ok, Y⟩ (fun j hj => pk_un hj) pk_us⟩
  · have e : ar_op tn n L S l A = (0, A) := if_neg g
    rw [e] at hO
    exact ax_wl0 l15 (a (by omega)) hA.1 hA.2 (fun rk' rw' cl' nb' K Y => hO rfl rk' rw' cl' nb' _ K ⟨hA.1, Y⟩ (fun _ _ => rfl) (a (by omega)))
end
section
variable {ct lv er : Int32} {tx rk rw wd dt wt fi : Nat → Int32} {tn : Nat → Nat} {n : Nat} {L : Nat → ar_A} {S : Nat → Nat}
theorem ay_se {post : SY → Prop} {l : Nat} (l15 : l ≤ 15) (H : ar_YL tn n L S rk rw wd dt wt fi l) (s0 : S l ≠ 0)
    (hO : ∀ rk' rw' wd' dt', ap_K (14 + l * 2) rk rw wd dt rk' rw' wd' dt' → ((ar_se tn n L S l).1 = 0 → ar_YA rk' rw' wd' dt' (14 + l * 2) (ar_se tn n L S l).2) → post (ct, nI l, (ar_se tn n L S l).1, tx, rk', rw', wd', dt', upd wt l (-1), fi)) :
    wpY_settle post (ct, nI l, 0, tx, rk, rw, wd, dt, wt, fi) := by
  obtain ⟨a, b, c, d⟩ := H
  have X := (c s0).2
  have ok := ar_seV (tn := tn) (n := n) (S := S) X.1
  by_cases g : 2 ≤ S l
  · obtain ⟨b1, b2⟩ := b g
    have e : ar_se tn n L S l = ap_one (ag_k tn n (S l - 2)) (ag_f tn (S l - 2)) (L l).1 (L l).2.1 (L l).2.2.1 (L l).2.2.2 := if_pos g
    rw [e] at hO ok
    exact ay_st1 l15 (ag_wk b2) b1 X.1 X.2 (fun rk' rw' wd' dt' K Y => hO rk' rw' wd' dt' K (fun z => ⟨ok, Y z⟩))
  · have e : ar_se tn n L S l = (0, L l) := if_neg g
    rw [e] at hO
    exact ay_st0 l15 (a (by omega)) (hO _ _ _ _ (ap_Kr _ _ _ _ _) (fun _ => X))
theorem ay_op {post : SY → Prop} {l : Nat} {A : ar_A} (l15 : l ≤ 15) (H : ar_YL tn n L S rk rw wd dt wt fi l) (s1 : S l ≠ 1) (hA : ar_YA rk rw wd dt (14 + l * 2 + 1) A)
    (hO : ∀ rk' rw' wd' dt', ap_K (14 + l * 2) rk rw wd dt rk' rw' wd' dt' → ((ar_op tn n L S l A).1 = 0 → ar_YA rk' rw' wd' dt' (14 + l * 2) (ar_op tn n L S l A).2) → post (ct, nI l, (ar_op tn n L S l A).1, tx, rk', rw', wd', dt', upd wt l (-1), upd fi l 1)) :
    wpY_operand post (ct, nI l, 0, tx, rk, rw, wd, dt, wt, fi) := by
  obtain ⟨a, b, c, d⟩ := H
  by_cases g : 2 ≤ S l
  · obtain ⟨b1, b2⟩ := b g
    have X := (c (by omega))
    have ok := ar_opV (tn := tn) (n := n) (S := S) (fun _ => X.2.1) hA.1
    have e : ar_op tn n L S l A = ap_two A.1 A.2.1 A.2.2.1 A.2.2.2 (L l).1 (L l).2.1 (L l).2.2.1 (L l).2.2.2 (ag_k tn n (S l - 2)) (ag_f tn (S l - 2)) (ag_g tn (S l - 2)) := if_pos g
    rw [e] at hO ok
    exact ay_op1 l15 X.1 (ag_wk b2) b1 hA.1 hA.2 X.2.1 X.2.2 (fun rk' rw' wd' dt' K Y => hO rk' rw' wd' dt' K (fun z => ⟨ok, Y z⟩))
  · have e : ar_op tn n L S l A = (0, A) := if_neg g
    rw [e] at hO
    exact ay_op0 l15 (d (by omega)) hA.1 hA.2 (fun rk' rw' wd' dt' K Y => hO rk' rw' wd' dt' K (fun _ => ⟨hA.1, Y⟩))
end
end
section
/-! X: what is due at a token -/
section
variable {tc lv : Int32} {tx rk rw cl nb gv wt : Nat → Int32} {tn : Nat → Nat} {n : Nat}
theorem ax_tkp (post : Int32 → Prop) {p : Nat} (hn : n ≤ 30) (ht : ∀ j, tx j = nI (tn j)) (hp : p ≤ n) : wpX_tokenAt post (nI n, lv, tx, rk, rw, cl, nb, gv, wt) (nI p - 1) = post (if 1 ≤ p then nI (tn (p - 1)) else -1) := by
  by_cases h : 1 ≤ p
  · rw [if_pos h, an_s1 h]
    exact ax_tk post hn ht (by omega)
  · rw [if_neg h, show p = 0 by omega]
    exact ax_tkm post
theorem ax_sO0 (post : Int32 → Prop) {p : Nat} (hn : n ≤ 30) (ht : ∀ j, tx j = nI (tn j)) (hk : ∀ j, ag_tok (tn j)) (hp : p < n) (h1 : ¬ tn p ≤ 9) (h2 : ¬ ag_nm (tn p)) : wpX_startsOperand post (nI n, lv, tx, rk, rw, cl, nb, gv, wt) (nI p) = post 0 := by
  have t0 := ag_tk (hk p)
  simp (disch := omega) only [wpX_startsOperand, ax_tk _ hn ht, ax_D0 _ (show tn p < 1000 by omega) h1, ax_N0 _ (show tn p < 1000 by omega) h2, vp_in_nI, nI_clamp, nI_leI, nI_ltI, nI_eq, nI_add, nI_1, pk_mul, an_m36, an_n36, an_b468, forall_eq, true_and, and_true, true_implies, false_implies, not_true, not_false_iff, implies_true, pk_un, pk_us, ap_wrN, ap_wrS]
theorem ax_sOn1 (post : Int32 → Prop) {p : Nat} (hn : n ≤ 30) (ht : ∀ j, tx j = nI (tn j)) (hk : ∀ j, ag_tok (tn j)) (hp : p < n) (h1 : tn p ≤ 9) (h2 : 1 ≤ p → ¬ tn (p - 1) ≤ 9) : wpX_startsOperand post (nI n, lv, tx, rk, rw, cl, nb, gv, wt) (nI p) = post 1 := by
  have t0 := ag_tk (hk p)
  have t1 := ag_tk (hk (p - 1))
  have z1 : ¬ (1 : Int32) = 0 := by decide
  by_cases h : 1 ≤ p
  · simp (disch := omega) only [wpX_startsOperand, ax_tk _ hn ht, ax_D1 _ h1, z1, ax_tkp _ hn ht, h, if_true, ax_D0 _ (show tn (p - 1) < 1000 by omega) (h2 h), vp_in_nI, nI_clamp, nI_leI, nI_ltI, nI_eq, nI_add, nI_1, pk_mul, an_m36, an_n36, an_b468, forall_eq, true_and, and_true, true_implies, false_implies, not_true, not_false_iff, implies_true, pk_un, pk_us, ap_wrN, ap_wrS]
  · simp (disch := omega) only [wpX_startsOperand, ax_tk _ hn ht, ax_D1 _ h1, z1, ax_tkp _ hn ht, h, if_false, ax_Dm, vp_in_nI, nI_clamp, nI_leI, nI_ltI, nI_eq, nI_add, nI_1, pk_mul, an_m36, an_n36, an_b468, forall_eq, true_and, and_true, true_implies, false_implies, not_true, not_false_iff, implies_true, pk_un, pk_us, ap_wrN, ap_wrS]
theorem ax_sOn0 (post : Int32 → Prop) {p : Nat} (hn : n ≤ 30) (ht : ∀ j, tx j = nI (tn j)) (hp : p < n) (h1 : tn p ≤ 9) (h : 1 ≤ p) (h2 : tn (p - 1) ≤ 9) : wpX_startsOperand post (nI n, lv, tx, rk, rw, cl, nb, gv, wt) (nI p) = post 0 := by
  have z1 : ¬ (1 : Int32) = 0 := by decide
  simp (disch := omega) only [wpX_startsOperand, ax_tk _ hn ht, ax_D1 _ h1, z1, ax_tkp _ hn ht, h, if_true, ax_D1 _ h2, vp_in_nI, nI_clamp, nI_leI, nI_ltI, nI_eq, nI_add, nI_1, pk_mul, an_m36, an_n36, an_b468, forall_eq, true_and, and_true, true_implies, false_implies, not_true, not_false_iff, implies_true, pk_un, pk_us, ap_wrN, ap_wrS]
theorem ax_sOm1 (post : Int32 → Prop) {p : Nat} (hn : n ≤ 30) (ht : ∀ j, tx j = nI (tn j)) (hk : ∀ j, ag_tok (tn j)) (hp : p < n) (h1 : ag_nm (tn p)) (h2 : p + 1 < n → tn (p + 1) ≠ 52) : wpX_startsOperand post (nI n, lv, tx, rk, rw, cl, nb, gv, wt) (nI p) = post 1 := by
  have t0 := ag_tk (hk p)
  have t1 := ag_tk (hk (p + 1))
  have z1 : ¬ (1 : Int32) = 0 := by decide
  have d : ¬ tn p ≤ 9 := by omega
  have cond : ¬ (if p + 1 < n then nI (tn (p + 1)) else -1) = 52 := by
    by_cases c1 : p + 1 < n
    · rw [if_pos c1, an_e52 (by omega)]
      exact h2 c1
    · rw [if_neg c1]; decide
  simp (disch := omega) only [wpX_startsOperand, ax_tk _ hn ht, ax_D0 _ (show tn p < 1000 by omega) d, ax_N1 _ h1, z1, nI_1, ax_tkG _ hn ht, cond, vp_in_nI, nI_clamp, nI_leI, nI_ltI, nI_eq, nI_add, nI_1, pk_mul, an_m36, an_n36, an_b468, forall_eq, true_and, and_true, true_implies, false_implies, not_true, not_false_iff, implies_true, pk_un, pk_us, ap_wrN, ap_wrS]
theorem ax_sOm0 (post : Int32 → Prop) {p : Nat} (hn : n ≤ 30) (ht : ∀ j, tx j = nI (tn j)) (hk : ∀ j, ag_tok (tn j)) (hp : p < n) (h1 : ag_nm (tn p)) (h3 : p + 1 < n) (h2 : tn (p + 1) = 52) : wpX_startsOperand post (nI n, lv, tx, rk, rw, cl, nb, gv, wt) (nI p) = post 0 := by
  have t0 := ag_tk (hk p)
  have z1 : ¬ (1 : Int32) = 0 := by decide
  have d : ¬ tn p ≤ 9 := by omega
  simp (disch := omega) only [wpX_startsOperand, ax_tk _ hn ht, ax_D0 _ (show tn p < 1000 by omega) d, ax_N1 _ h1, z1, nI_1, h3, an_e52, eq_true h2, vp_in_nI, nI_clamp, nI_leI, nI_ltI, nI_eq, nI_add, nI_1, pk_mul, an_m36, an_n36, an_b468, forall_eq, true_and, and_true, true_implies, false_implies, not_true, not_false_iff, implies_true, pk_un, pk_us, ap_wrN, ap_wrS]
theorem ax_sF0 (post : Int32 → Prop) {p : Nat} (hn : n ≤ 30) (ht : ∀ j, tx j = nI (tn j)) (hk : ∀ j, ag_tok (tn j)) (hp : p < n) (h1 : ¬ ag_sc (tn p)) (h2 : ¬ ag_mx (tn p)) (h3 : tn p ≠ 42) : wpX_startsFunction post (nI n, lv, tx, rk, rw, cl, nb, gv, wt) (nI p) = post 0 := by
  have t0 := ag_tk (hk p)
  simp (disch := omega) only [wpX_startsFunction, ax_tk _ hn ht, ax_S0 _ (show tn p < 1000 by omega) h1, ax_M0 _ (show tn p < 1000 by omega) h2, an_e42, h3, vp_in_nI, nI_clamp, nI_leI, nI_ltI, nI_eq, nI_add, nI_1, pk_mul, an_m36, an_n36, an_b468, forall_eq, true_and, and_true, true_implies, false_implies, not_true, not_false_iff, implies_true, pk_un, pk_us, ap_wrN, ap_wrS]
theorem ax_sFs0 (post : Int32 → Prop) {p : Nat} (hn : n ≤ 30) (ht : ∀ j, tx j = nI (tn j)) (hp : p < n) (h1 : ag_sc (tn p)) (h : 1 ≤ p) (h2 : tn (p - 1) = 42 ∨ tn (p - 1) = 43) : wpX_startsFunction post (nI n, lv, tx, rk, rw, cl, nb, gv, wt) (nI p) = post 0 := by
  have z1 : ¬ (1 : Int32) = 0 := by decide
  by_cases g : tn (p - 1) = 42
  · simp (disch := omega) only [wpX_startsFunction, ax_tk _ hn ht, ax_S1 _ h1, z1, ax_tkp _ hn ht, h, if_true, an_e42, eq_true g, vp_in_nI, nI_clamp, nI_leI, nI_ltI, nI_eq, nI_add, nI_1, pk_mul, an_m36, an_n36, an_b468, forall_eq, true_and, and_true, true_implies, false_implies, not_true, not_false_iff, implies_true, pk_un, pk_us, ap_wrN, ap_wrS]
  · have g2 : tn (p - 1) = 43 := by omega
    simp (disch := omega) only [wpX_startsFunction, ax_tk _ hn ht, ax_S1 _ h1, z1, ax_tkp _ hn ht, h, if_true, an_e42, an_e43, g, eq_true g2, vp_in_nI, nI_clamp, nI_leI, nI_ltI, nI_eq, nI_add, nI_1, pk_mul, an_m36, an_n36, an_b468, forall_eq, true_and, and_true, true_implies, false_implies, not_true, not_false_iff, implies_true, pk_un, pk_us, ap_wrN, ap_wrS]
theorem ax_sF1 (post : Int32 → Prop) {p : Nat} (hn : n ≤ 30) (ht : ∀ j, tx j = nI (tn j)) (hk : ∀ j, ag_tok (tn j)) (hp : p < n) (h1 : ag_mx (tn p) ∨ tn p = 42 ∨ (ag_sc (tn p) ∧ (1 ≤ p → tn (p - 1) ≠ 42 ∧ tn (p - 1) ≠ 43))) : wpX_startsFunction post (nI n, lv, tx, rk, rw, cl, nb, gv, wt) (nI p) = post 1 := by
  have z1 : ¬ (1 : Int32) = 0 := by decide
  have t0 := ag_tk (hk p)
  have t1 := ag_tk (hk (p - 1))
  have m2 : ¬ (-1 : Int32) = 42 := by decide
  have m3 : ¬ (-1 : Int32) = 43 := by decide
  rcases h1 with m | o | ⟨s, b⟩
  · have ns : ¬ ag_sc (tn p) := by omega
    simp (disch := omega) only [wpX_startsFunction, ax_tk _ hn ht, ax_S0 _ (show tn p < 1000 by omega) ns, ax_M1 _ m, z1, vp_in_nI, nI_clamp, nI_leI, nI_ltI, nI_eq, nI_add, nI_1, pk_mul, an_m36, an_n36, an_b468, forall_eq, true_and, and_true, true_implies, false_implies, not_true, not_false_iff, implies_true, pk_un, pk_us, ap_wrN, ap_wrS]
  · have ns : ¬ ag_sc (tn p) := by omega
    have nm : ¬ ag_mx (tn p) := by omega
    simp (disch := omega) only [wpX_startsFunction, ax_tk _ hn ht, ax_S0 _ (show tn p < 1000 by omega) ns, ax_M0 _ (show tn p < 1000 by omega) nm, an_e42, eq_true o, vp_in_nI, nI_clamp, nI_leI, nI_ltI, nI_eq, nI_add, nI_1, pk_mul, an_m36, an_n36, an_b468, forall_eq, true_and, and_true, true_implies, false_implies, not_true, not_false_iff, implies_true, pk_un, pk_us, ap_wrN, ap_wrS]
  · by_cases h : 1 ≤ p
    · have b1 := (b h).1
      have b2 := (b h).2
      simp (disch := omega) only [wpX_startsFunction, ax_tk _ hn ht, ax_S1 _ s, z1, ax_tkp _ hn ht, h, if_true, an_e42, an_e43, b1, b2, vp_in_nI, nI_clamp, nI_leI, nI_ltI, nI_eq, nI_add, nI_1, pk_mul, an_m36, an_n36, an_b468, forall_eq, true_and, and_true, true_implies, false_implies, not_true, not_false_iff, implies_true, pk_un, pk_us, ap_wrN, ap_wrS]
    · simp (disch := omega) only [wpX_startsFunction, ax_tk _ hn ht, ax_S1 _ s, z1, ax_tkp _ hn ht, h, if_false, m2, m3, vp_in_nI, nI_clamp, nI_leI, nI_ltI, nI_eq, nI_add, nI_1, pk_mul, an_m36, an_n36, an_b468, forall_eq, true_and, and_true, true_implies, false_implies, not_true, not_false_iff, implies_true, pk_un, pk_us, ap_wrN, ap_wrS]
theorem ax_skip {post : Int32 → SX → Prop} {p : Nat} (hn : n ≤ 30) (ht : ∀ j, tx j = nI (tn j)) (hk : ∀ j, ag_tok (tn j)) (hp : p < n) (h50 : tn p ≠ 50) (h51 : tn p ≠ 51) (hnm : ¬ ag_nm (tn p))
    (sO : ∀ P : Int32 → Prop, wpX_startsOperand P (nI n, lv, tx, rk, rw, cl, nb, gv, wt) (nI p) = P 0) (sF : ∀ P : Int32 → Prop, wpX_startsFunction P (nI n, lv, tx, rk, rw, cl, nb, gv, wt) (nI p) = P 0) (h : post 0 (nI n, lv, tx, rk, rw, cl, nb, gv, wt)) : wpX_visit post (nI n, lv, tx, rk, rw, cl, nb, gv, wt) (nI p) := by
  have t0 := ag_tk (hk p)
  simp (disch := omega) only [wpX_visit, wX_visit_90, wX_visit_91, ax_tk _ hn ht, an_e50, an_e51, h50, h51, sO, sF, ax_N0 _ (show tn p < 1000 by omega) hnm, vp_in_nI, nI_clamp, nI_leI, nI_ltI, nI_eq, nI_add, nI_1, pk_mul, an_m36, an_n36, an_b468, forall_eq, true_and, and_true, true_implies, false_implies, not_true, not_false_iff, implies_true, pk_un, pk_us, ap_wrN, ap_wrS]
  exact h
theorem ax_vC {post : Int32 → SX → Prop} {p l : Nat} (hn : n ≤ 30) (ht : ∀ j, tx j = nI (tn j)) (hk : ∀ j, ag_tok (tn j)) (hp : p < n) (l15 : l + 1 ≤ 15) (h51 : tn p = 51) (h : post 0 (nI n, nI (l + 1), tx, rk, rw, cl, nb, gv, upd wt (l + 1) (-1))) : wpX_visit post (nI n, nI l, tx, rk, rw, cl, nb, gv, wt) (nI p) := by
  have t0 := ag_tk (hk p)
  simp (disch := omega) only [wpX_visit, ax_tk _ hn ht, an_e51, eq_true h51, vp_in_nI, nI_clamp, nI_leI, nI_ltI, nI_eq, nI_add, nI_1, pk_mul, an_m36, an_n36, an_b468, forall_eq, true_and, and_true, true_implies, false_implies, not_true, not_false_iff, implies_true, pk_un, pk_us, ap_wrN, ap_wrS]
  exact h
variable {L : Nat → ar_A} {S : Nat → Nat}
theorem ax_vF {post : Int32 → SX → Prop} {p l : Nat} (hn : n ≤ 30) (ht : ∀ j, tx j = nI (tn j)) (hk : ∀ j, ag_tok (tn j)) (l15 : l ≤ 15) (H : ar_XL tn n L S rk rw cl nb wt l) (s0 : S l ≠ 0) (hp : p < n)
    (hf : ag_mx (tn p) ∨ tn p = 42 ∨ (ag_sc (tn p) ∧ (1 ≤ p → tn (p - 1) ≠ 42 ∧ tn (p - 1) ≠ 43)))
    (hE : (ar_se tn n L S l).1 ≠ 0 → post (ar_se tn n L S l).1 (nI n, nI l, tx, rk, rw, cl, nb, gv, upd wt l (-1)))
    (hO : (ar_se tn n L S l).1 = 0 → ∀ rk' rw' cl' nb' wt', ap_K (14 + l) rk rw cl nb rk' rw' cl' nb' → ar_XA rk' rw' cl' nb' (14 + l) (ar_se tn n L S l).2 → (∀ j, j ≠ l → wt' j = wt j) → wt' l = nI p → post 0 (nI n, nI l, tx, rk', rw', cl', nb', gv, wt')) :
    wpX_visit post (nI n, nI l, tx, rk, rw, cl, nb, gv, wt) (nI p) := by
  have t0 := ag_tk (hk p)
  have z1 : ¬ (1 : Int32) = 0 := by decide
  have h50 : tn p ≠ 50 := by omega
  have h51 : tn p ≠ 51 := by omega
  have hnm : ¬ ag_nm (tn p) := by omega
  have g : wX_visit_110 post (nI p) (nI (tn p)) 1 (nI n) (nI l) tx rk rw cl nb gv wt := by
    unfold wX_visit_110
    refine ax_se hn ht hk l15 H s0 (fun e => ?_) (fun e rk' rw' cl' nb' wt' K X w1 w2 => ?_)
    · dsimp only
      exact br_f e (hE e)
    · dsimp only
      refine br_t rfl (br_f (by rw [an_e50 (by omega)]; exact h50) (br_f z1 ?_))
      rw [nI_clamp (by omega)]
      refine ⟨vp_in_nI (by omega) (by omega), nm_e ?_⟩
      exact hO e rk' rw' cl' nb' _ K X (fun j hj => (pk_un hj).trans (w1 j hj)) pk_us
  simp (disch := omega) only [wpX_visit, wX_visit_90, wX_visit_91, ax_tk _ hn ht, an_e51, h51, ax_sO0 _ hn ht hk hp (show ¬ tn p ≤ 9 by omega) hnm, ax_sF1 _ hn ht hk hp hf, ax_N0 _ (show tn p < 1000 by omega) hnm, z1, vp_in_nI, nI_clamp, nI_leI, nI_ltI, nI_eq, nI_add, nI_1, pk_mul, an_m36, an_n36, an_b468, forall_eq, true_and, and_true, true_implies, false_implies, not_true, not_false_iff, implies_true, pk_un, pk_us, ap_wrN, ap_wrS]
  exact g
theorem ax_vB {post : Int32 → SX → Prop} {p l : Nat} (hn : n ≤ 30) (ht : ∀ j, tx j = nI (tn j)) (hk : ∀ j, ag_tok (tn j)) (l15 : l ≤ 15) (H : ar_XL tn n L S rk rw cl nb wt l) (s0 : S l ≠ 0) (hp : p < n) (hf : ag_nm (tn p)) (h1 : p + 1 < n) (h2 : tn (p + 1) = 52)
    (hE : (ar_se tn n L S l).1 ≠ 0 → post (ar_se tn n L S l).1 (nI n, nI l, tx, rk, rw, cl, nb, gv, upd wt l (-1)))
    (hO : (ar_se tn n L S l).1 = 0 → ∀ rk' rw' cl' nb' wt', ap_K (14 + l) rk rw cl nb rk' rw' cl' nb' → ar_XA rk' rw' cl' nb' (14 + l) (ar_se tn n L S l).2 → (∀ j, j ≠ l → wt' j = wt j) → wt' l = -1 →
      post 0 (nI n, nI l, tx, upd rk' (tn p - 3) (rk' (14 + l)), upd rw' (tn p - 3) (rw' (14 + l)), upd cl' (tn p - 3) (cl' (14 + l)), ap_cp nb' (14 + l) (tn p - 3) 36, upd gv (tn p - 3) 1, wt')) :
    wpX_visit post (nI n, nI l, tx, rk, rw, cl, nb, gv, wt) (nI p) := by
  have t0 := ag_tk (hk p)
  have z1 : ¬ (1 : Int32) = 0 := by decide
  have h50 : tn p ≠ 50 := by omega
  have h51 : tn p ≠ 51 := by omega
  have ix : (7 : Int32) + nI (tn p) - 10 = nI (tn p - 3) := by
    rw [show (7 : Int32) = nI 7 from rfl, nI_add, show (10 : Int32) = nI 10 from rfl, pk_sub (by omega)]
    exact congrArg nI (by omega)
  have g : wX_visit_110 post (nI p) (nI (tn p)) 0 (nI n) (nI l) tx rk rw cl nb gv wt := by
    unfold wX_visit_110
    refine ax_se hn ht hk l15 H s0 (fun e => ?_) (fun e rk' rw' cl' nb' wt' K X w1 w2 => ?_)
    · dsimp only
      exact br_f e (hE e)
    · dsimp only
      refine br_t rfl (br_f (by rw [an_e50 (by omega)]; exact h50) (br_t rfl ?_))
      rw [ix, an_b14]
      refine ax_cp (by omega) (by omega) (by omega) ?_
      dsimp only
      rw [nI_clamp (by omega), an_bt]
      refine ⟨vp_in_nI (by omega) (by omega), nm_e ?_⟩
      exact hO e rk' rw' cl' nb' _ K X w1 w2
  simp (disch := omega) only [wpX_visit, wX_visit_90, wX_visit_91, ax_tk _ hn ht, an_e51, an_e52, h51, eq_true h2, ax_sOm0 _ hn ht hk hp hf h1 h2, ax_sF0 _ hn ht hk hp (show ¬ ag_sc (tn p) by omega) (show ¬ ag_mx (tn p) by omega) (show tn p ≠ 42 by omega), ax_N1 _ hf, nI_1, z1, vp_in_nI, nI_clamp, nI_leI, nI_ltI, nI_eq, nI_add, nI_1, pk_mul, an_m36, an_n36, an_b468, forall_eq, true_and, and_true, true_implies, false_implies, not_true, not_false_iff, implies_true, pk_un, pk_us, ap_wrN, ap_wrS]
  exact g
/-- an opening bracket: the level's array is the operand of the level below -/
theorem ax_vO {post : Int32 → SX → Prop} {p l : Nat} (hn : n ≤ 30) (ht : ∀ j, tx j = nI (tn j)) (hk : ∀ j, ag_tok (tn j)) (l15 : l + 1 ≤ 15) (H : ar_XL tn n L S rk rw cl nb wt (l + 1)) (H' : ar_XL tn n L S rk rw cl nb wt l) (s0 : S (l + 1) ≠ 0) (s1 : S l ≠ 1) (hp : p < n) (hf : tn p = 50)
    (hE : (ar_se tn n L S (l + 1)).1 ≠ 0 → post (ar_se tn n L S (l + 1)).1 (nI n, nI (l + 1), tx, rk, rw, cl, nb, gv, upd wt (l + 1) (-1)))
    (hE2 : (ar_se tn n L S (l + 1)).1 = 0 → (ar_op tn n L S l (ar_se tn n L S (l + 1)).2).1 ≠ 0 → ∀ rk' rw' cl' nb' wt', ap_K (14 + l) rk rw cl nb rk' rw' cl' nb' → post (ar_op tn n L S l (ar_se tn n L S (l + 1)).2).1 (nI n, nI l, tx, rk', rw', cl', nb', gv, wt'))
    (hO : (ar_se tn n L S (l + 1)).1 = 0 → (ar_op tn n L S l (ar_se tn n L S (l + 1)).2).1 = 0 → ∀ rk' rw' cl' nb' wt', ap_K (14 + l) rk rw cl nb rk' rw' cl' nb' → ar_XA rk' rw' cl' nb' (14 + l) (ar_op tn n L S l (ar_se tn n L S (l + 1)).2).2 → (∀ j, j < l → wt' j = wt j) → wt' l = -1 → post 0 (nI n, nI l, tx, rk', rw', cl', nb', gv, wt')) :
    wpX_visit post (nI n, nI (l + 1), tx, rk, rw, cl, nb, gv, wt) (nI p) := by
  have t0 := ag_tk (hk p)
  have h51 : tn p ≠ 51 := by omega
  have hnm : ¬ ag_nm (tn p) := by omega
  have g : wX_visit_110 post (nI p) (nI (tn p)) 0 (nI n) (nI (l + 1)) tx rk rw cl nb gv wt := by
    unfold wX_visit_110
    refine ax_se hn ht hk l15 H s0 (fun e => ?_) (fun e rk' rw' cl' nb' wt' K X w1 w2 => ?_)
    · dsimp only
      exact br_f e (hE e)
    · dsimp only
      refine br_t rfl (br_t (by rw [an_e50 (by omega)]; exact hf) (nm_r (nI_pred l) ?_))
      have H2 : ar_XL tn n L S rk' rw' cl' nb' wt' l := by
        obtain ⟨a, b, c⟩ := H'
        unfold ar_XL
        rw [w1 l (by omega)]
        exact ⟨a, b, fun z => ar_KXA K (by omega) (by omega) (c z)⟩
      refine ax_op hn ht hk (by omega) H2 s1 X (fun e2 => ?_) (fun e2 rk2 rw2 cl2 nb2 wt2 K2 X2 v1 v2 => ?_)
      · exact hE2 e e2 _ _ _ _ _ (ap_Km (by omega) K)
      · exact hO e e2 _ _ _ _ _ (ap_Kt (ap_Km (by omega) K) K2) X2 (fun j hj => (v1 j (by omega)).trans (w1 j (by omega))) v2
  simp (disch := omega) only [wpX_visit, wX_visit_90, wX_visit_91, ax_tk _ hn ht, an_e50, an_e51, h51, eq_true hf, ax_sO0 _ hn ht hk hp (show ¬ tn p ≤ 9 by omega) hnm, ax_sF0 _ hn ht hk hp (show ¬ ag_sc (tn p) by omega) (show ¬ ag_mx (tn p) by omega) (show tn p ≠ 42 by omega), ax_N0 _ (show tn p < 1000 by omega) hnm, vp_in_nI, nI_clamp, nI_leI, nI_ltI, nI_eq, nI_add, nI_1, pk_mul, an_m36, an_n36, an_b468, forall_eq, true_and, and_true, true_implies, false_implies, not_true, not_false_iff, implies_true, pk_un, pk_us, ap_wrN, ap_wrS]
  exact g
theorem ax_vM {post : Int32 → SX → Prop} {p l : Nat} {N : Nat → Option ar_A} (hn : n ≤ 30) (ht : ∀ j, tx j = nI (tn j)) (hk : ∀ j, ag_tok (tn j)) (l15 : l ≤ 15) (H : ar_XL tn n L S rk rw cl nb wt l) (s1 : S l ≠ 1) (hp : p < n) (hf : ag_nm (tn p)) (h2 : p + 1 < n → tn (p + 1) ≠ 52) (hN : ar_XN N rk rw cl nb gv (tn p - 10))
    (hV : N (tn p - 10) = none → post (-11) (nI n, nI l, tx, rk, rw, cl, nb, gv, wt))
    (hE : ∀ A, N (tn p - 10) = some A → (ar_op tn n L S l A).1 ≠ 0 → ∀ rk' rw' cl' nb' wt', ap_K (14 + l) rk rw cl nb rk' rw' cl' nb' → post (ar_op tn n L S l A).1 (nI n, nI l, tx, rk', rw', cl', nb', gv, wt'))
    (hO : ∀ A, N (tn p - 10) = some A → (ar_op tn n L S l A).1 = 0 → ∀ rk' rw' cl' nb' wt', ap_K (14 + l) rk rw cl nb rk' rw' cl' nb' → ar_XA rk' rw' cl' nb' (14 + l) (ar_op tn n L S l A).2 → (∀ j, j ≠ l → wt' j = wt j) → wt' l = -1 → post 0 (nI n, nI l, tx, rk', rw', cl', nb', gv, wt')) :
    wpX_visit post (nI n, nI l, tx, rk, rw, cl, nb, gv, wt) (nI p) := by
  have t0 := ag_tk (hk p)
  have z1 : ¬ (1 : Int32) = 0 := by decide
  have h51 : tn p ≠ 51 := by omega
  have ix : (7 : Int32) + nI (tn p) - 10 = nI (7 + (tn p - 10)) := by
    rw [show (7 : Int32) = nI 7 from rfl, nI_add, show (10 : Int32) = nI 10 from rfl, pk_sub (by omega)]
    exact congrArg nI (by omega)
  rcases hN with ⟨e, g⟩ | ⟨A, e, g, X⟩
  · have q := hV e
    have z11 : ¬ (-11 : Int32) = 0 := by decide
    simp (disch := omega) only [wpX_visit, wpX_loadOperand, ax_tk _ hn ht, an_e51, h51, ax_sOm1 _ hn ht hk hp hf h2, ax_N1 _ hf, z1, z11, ix, g, vp_in_nI, nI_clamp, nI_leI, nI_ltI, nI_eq, nI_add, nI_1, pk_mul, an_m36, an_n36, an_b468, forall_eq, true_and, and_true, true_implies, false_implies, not_true, not_false_iff, implies_true, pk_un, pk_us, ap_wrN, ap_wrS]
    exact q
  · have X2 := ap_cpX (q := 14 + l + 1) (ap_v36 X.1) X.2
    have K : ap_K (14 + l) rk rw cl nb (upd rk (14 + l + 1) (rk (7 + (tn p - 10)))) (upd rw (14 + l + 1) (rw (7 + (tn p - 10)))) (upd cl (14 + l + 1) (cl (7 + (tn p - 10)))) (ap_cp nb (7 + (tn p - 10)) (14 + l + 1) 36) := ap_KF (Or.inr (by omega)) ap_cpF
    have H2 : ar_XL tn n L S (upd rk (14 + l + 1) (rk (7 + (tn p - 10)))) (upd rw (14 + l + 1) (rw (7 + (tn p - 10)))) (upd cl (14 + l + 1) (cl (7 + (tn p - 10)))) (ap_cp nb (7 + (tn p - 10)) (14 + l + 1) 36) wt l := by
      obtain ⟨a, b, c⟩ := H
      exact ⟨a, b, fun z => ⟨(c z).1, ap_FX ap_cpF (by omega) (ap_v36 (c z).1) (c z).2⟩⟩
    simp (disch := omega) only [wpX_visit, wpX_loadOperand, ax_tk _ hn ht, an_e51, h51, ax_sOm1 _ hn ht hk hp hf h2, ax_N1 _ hf, z1, ix, g, an_b14, vp_in_nI, nI_clamp, nI_leI, nI_ltI, nI_eq, nI_add, nI_1, pk_mul, an_m36, an_n36, an_b468, forall_eq, true_and, and_true, true_implies, false_implies, not_true, not_false_iff, implies_true, pk_un, pk_us, ap_wrN, ap_wrS]
    refine ax_cp (by omega) (by omega) (by omega) ?_
    refine ax_op hn ht hk l15 H2 s1 ⟨X.1, X2⟩ (fun e2 => ?_) (fun e2 rk2 rw2 cl2 nb2 wt2 K2 X2 v1 v2 => ?_)
    · exact hE A e e2 _ _ _ _ _ K
    · exact hO A e e2 _ _ _ _ _ (ap_Kt K K2) X2 v1 v2
end
end
section
/-! a run of numbers as an operand, on both sides -/
def ap_wz (a g : Nat → Int32) (b e : Nat) : Nat → Int32 := fun j => if b ≤ j ∧ j < b + e then g (j - b) else a j
theorem ap_wz0 (a g : Nat → Int32) (b : Nat) : ap_wz a g b 0 = a := by
  funext j; unfold ap_wz; rw [if_neg (by omega)]
theorem ap_wzS {a g : Nat → Int32} {b e : Nat} {v : Int32} (h : v = g e) : upd (ap_wz a g b e) (b + e) v = ap_wz a g b (e + 1) := by
  funext j
  unfold ap_wz upd
  by_cases z : j = b + e
  · subst z; rw [if_pos rfl, if_pos (by omega), Nat.add_sub_cancel_left, h]
  · rw [if_neg z]
    dsimp only
    by_cases h2 : b ≤ j ∧ j < b + e
    · rw [if_pos h2, if_pos (by omega)]
    · rw [if_neg h2, if_neg (by omega)]
theorem ap_wzN {a g : Nat → Int32} {b e j : Nat} (h : j < b ∨ b + e ≤ j) : ap_wz a g b e j = a j := by
  unfold ap_wz; rw [if_neg (by omega)]
theorem ap_wzI {a g : Nat → Int32} {b e i : Nat} (h : i < e) : ap_wz a g b e (b + i) = g i := by
  unfold ap_wz; rw [if_pos (by omega), Nat.add_sub_cancel_left]
def ar_num (tn : Nat → Nat) (f i : Nat) : ar_A := (if i = f then 0 else 1, 1, i - f + 1, fun k => nI (tn (f + k)))
theorem ar_numV {tn : Nat → Nat} {f i : Nat} (h : f ≤ i) (hi : i < 30) : ap_VS (ar_num tn f i).1 (ar_num tn f i).2.1 (ar_num tn f i).2.2.1 := by
  by_cases e : i = f
  · exact Or.inl ⟨if_pos e, rfl, by show i - f + 1 = 1; omega⟩
  · exact Or.inr (Or.inl ⟨if_neg e, rfl, by show i - f + 1 ≤ 36; omega⟩)
section
variable {tc lv : Int32} {tx rk rw cl nb gv wt : Nat → Int32} {tn : Nat → Nat} {n : Nat} {L : Nat → ar_A} {S : Nat → Nat}
theorem ax_ld {post : Int32 → SX → Prop} {f i l : Nat} (hn : n ≤ 30) (ht : ∀ j, tx j = nI (tn j)) (hk : ∀ j, ag_tok (tn j)) (l15 : l ≤ 15) (hf : f ≤ i) (hi : i < n) (hd : ∀ j, f ≤ j → j ≤ i → tn j ≤ 9) (he : i + 1 < n → ¬ tn (i + 1) ≤ 9)
    (hp : ∀ rk' rw' cl' nb', ap_F (14 + l + 1) rk rw cl nb rk' rw' cl' nb' → ar_XA rk' rw' cl' nb' (14 + l + 1) (ar_num tn f i) → post 0 (nI n, nI l, tx, rk', rw', cl', nb', gv, wt)) :
    wpX_loadOperand post (nI n, nI l, tx, rk, rw, cl, nb, gv, wt) (nI f) := by
  have t0 := hd f (Nat.le_refl f) hf
  have z1 : ¬ (1 : Int32) = 0 := by decide
  have ex : ∀ rk' rw' cl' nb' : Nat → Int32, ap_F (14 + l + 1) rk rw cl nb rk' rw' cl' nb' → True := fun _ _ _ _ _ => trivial
  have fin : wX_loadOperand_111 post (nI (14 + l + 1)) (nI (i - f + 1)) (nI n) (nI l) tx rk rw cl (ap_wz nb (fun k => nI (tn (f + k))) ((14 + l + 1) * 36) (i - f + 1)) gv wt := by
    have F : ∀ a b c : Int32, ap_F (14 + l + 1) rk rw cl nb (upd rk (14 + l + 1) a) (upd rw (14 + l + 1) b) (upd cl (14 + l + 1) c) (ap_wz nb (fun k => nI (tn (f + k))) ((14 + l + 1) * 36) (i - f + 1)) :=
      fun a b c => ⟨fun _ h => ⟨pk_un h, pk_un h, pk_un h⟩, fun j h => ap_wzN (by omega)⟩
    have V := ar_numV (tn := tn) hf (show i < 30 by omega)
    by_cases e : i = f
    · have g1 : i - f + 1 = 1 := by omega
      have q := hp _ _ _ _ (F (nI 0) (nI 1) (nI (i - f + 1))) ⟨V, by rw [pk_us]; exact congrArg nI (if_pos e).symm, pk_us, pk_us, fun k hk => ap_wzI (by have : k < 1 * (i - f + 1) := hk; omega)⟩
      simp (disch := omega) only [wX_loadOperand_111, wX_loadOperand_124, an_e1, eq_true g1, ax_ss, vp_in_nI, nI_clamp, nI_leI, nI_ltI, nI_eq, nI_add, nI_1, pk_mul, an_m36, an_n36, an_b468, forall_eq, true_and, and_true, true_implies, false_implies, not_true, not_false_iff, implies_true, pk_un, pk_us, ap_wrN, ap_wrS]
      exact q
    · have g1 : ¬ i - f + 1 = 1 := by omega
      have q := hp _ _ _ _ (F (nI 1) (nI 1) (nI (i - f + 1))) ⟨V, by rw [pk_us]; exact congrArg nI (if_neg e).symm, pk_us, pk_us, fun k hk => ap_wzI (by have : k < 1 * (i - f + 1) := hk; omega)⟩
      simp (disch := omega) only [wX_loadOperand_111, wX_loadOperand_124, an_e1, g1, ax_ss, vp_in_nI, nI_clamp, nI_leI, nI_ltI, nI_eq, nI_add, nI_1, pk_mul, an_m36, an_n36, an_b468, forall_eq, true_and, and_true, true_implies, false_implies, not_true, not_false_iff, implies_true, pk_un, pk_us, ap_wrN, ap_wrS]
      exact q
  simp (disch := omega) only [wpX_loadOperand, ax_tk _ hn ht, ax_N0 _ (show tn f < 1000 by omega) (show ¬ ag_nm (tn f) by omega), an_b14, vp_in_nI, nI_clamp, nI_leI, nI_ltI, nI_eq, nI_add, nI_1, pk_mul, an_m36, an_n36, an_b468, forall_eq, true_and, and_true, true_implies, false_implies, not_true, not_false_iff, implies_true, pk_un, pk_us, ap_wrN, ap_wrS]
  refine ap_le (fun m k a => wX_loadOperand_61 post (nI (14 + l + 1)) (nI n) (nI l) m (nI k) (nI (f + k)) tx rk rw cl a gv wt) (fun k => ap_wz nb (fun k => nI (tn (f + k))) ((14 + l + 1) * 36) k) (i - f + 1) (ap_wz0 _ _ _) (fun m => ?_) (fun m k hk2 ih => ?_)
  · have e1 : f + (i - f + 1) = i + 1 := by omega
    rw [e1]
    by_cases b : i + 1 < n
    · have z : ¬ n ≤ i + 1 := by omega
      have t1 := ag_tk (hk (i + 1))
      simp (disch := omega) only [wX_loadOperand_61, z, ht, ax_D0 _ (show tn (i + 1) < 1000 by omega) (he b), vp_in_nI, nI_clamp, nI_leI, nI_ltI, nI_eq, nI_add, nI_1, pk_mul, an_m36, an_n36, an_b468, forall_eq, true_and, and_true, true_implies, false_implies, not_true, not_false_iff, implies_true, pk_un, pk_us, ap_wrN, ap_wrS]
      exact fin
    · have z : n ≤ i + 1 := by omega
      simp (disch := omega) only [wX_loadOperand_61, z, vp_in_nI, nI_clamp, nI_leI, nI_ltI, nI_eq, nI_add, nI_1, pk_mul, an_m36, an_n36, an_b468, forall_eq, true_and, and_true, true_implies, false_implies, not_true, not_false_iff, implies_true, pk_un, pk_us, ap_wrN, ap_wrS]
      exact fin
  · have z : ¬ n ≤ f + k := by omega
    have d9 := hd (f + k) (by omega) (by omega)
    have eq := ap_wzS (a := nb) (g := fun k => nI (tn (f + k))) (b := (14 + l + 1) * 36) (e := k) (v := nI (tn (f + k))) rfl
    simp (disch := omega) only [wX_loadOperand_61, z, ht, ax_D1 _ d9, z1, eq, vp_in_nI, nI_clamp, nI_leI, nI_ltI, nI_eq, nI_add, nI_1, pk_mul, an_m36, an_n36, an_b468, forall_eq, true_and, and_true, true_implies, false_implies, not_true, not_false_iff, implies_true, pk_un, pk_us, ap_wrN, ap_wrS]
    exact ih
theorem ax_vN {post : Int32 → SX → Prop} {f i l : Nat} (hn : n ≤ 30) (ht : ∀ j, tx j = nI (tn j)) (hk : ∀ j, ag_tok (tn j)) (l15 : l ≤ 15) (H : ar_XL tn n L S rk rw cl nb wt l) (s1 : S l ≠ 1) (hf : f ≤ i) (hi : i < n) (hd : ∀ j, f ≤ j → j ≤ i → tn j ≤ 9) (he : i + 1 < n → ¬ tn (i + 1) ≤ 9) (hb : 1 ≤ f → ¬ tn (f - 1) ≤ 9)
    (hE : (ar_op tn n L S l (ar_num tn f i)).1 ≠ 0 → ∀ rk' rw' cl' nb' wt', ap_K (14 + l) rk rw cl nb rk' rw' cl' nb' → post (ar_op tn n L S l (ar_num tn f i)).1 (nI n, nI l, tx, rk', rw', cl', nb', gv, wt'))
    (hO : (ar_op tn n L S l (ar_num tn f i)).1 = 0 → ∀ rk' rw' cl' nb' wt', ap_K (14 + l) rk rw cl nb rk' rw' cl' nb' → ar_XA rk' rw' cl' nb' (14 + l) (ar_op tn n L S l (ar_num tn f i)).2 → (∀ j, j ≠ l → wt' j = wt j) → wt' l = -1 → post 0 (nI n, nI l, tx, rk', rw', cl', nb', gv, wt')) :
    wpX_visit post (nI n, nI l, tx, rk, rw, cl, nb, gv, wt) (nI f) := by
  have t0 := hd f (Nat.le_refl f) hf
  have z1 : ¬ (1 : Int32) = 0 := by decide
  have h51 : tn f ≠ 51 := by omega
  simp (disch := omega) only [wpX_visit, ax_tk _ hn ht, an_e51, h51, ax_sOn1 _ hn ht hk (show f < n by omega) t0 hb, z1, vp_in_nI, nI_clamp, nI_leI, nI_ltI, nI_eq, nI_add, nI_1, pk_mul, an_m36, an_n36, an_b468, forall_eq, true_and, and_true, true_implies, false_implies, not_true, not_false_iff, implies_true, pk_un, pk_us, ap_wrN, ap_wrS]
  refine ax_ld hn ht hk l15 hf hi hd he (fun rk' rw' cl' nb' F X => ?_)
  dsimp only
  refine br_t rfl ?_
  have K : ap_K (14 + l) rk rw cl nb rk' rw' cl' nb' := ap_KF (Or.inr (by omega)) F
  have H2 : ar_XL tn n L S rk' rw' cl' nb' wt l := by
    obtain ⟨a, b, c⟩ := H
    exact ⟨a, b, fun z => ⟨(c z).1, ap_FX F (by omega) (ap_v36 (c z).1) (c z).2⟩⟩
  refine ax_op hn ht hk l15 H2 s1 X (fun e2 => ?_) (fun e2 rk2 rw2 cl2 nb2 wt2 K2 X2 v1 v2 => ?_)
  · exact hE e2 _ _ _ _ _ K
  · exact hO e2 _ _ _ _ _ (ap_Kt K K2) X2 v1 v2
end
section
variable {ct lv er : Int32} {tx rk rw wd dt wt fi : Nat → Int32} {tn : Nat → Nat} {n : Nat} {L : Nat → ar_A} {S : Nat → Nat}
theorem ay_rn {post : Int32 → SY → Prop} {f i l : Nat} (hn : n ≤ 30) (ht : ∀ j, tx j = nI (tn j)) (hk : ∀ j, ag_tok (tn j)) (l15 : l ≤ 15) (H : ar_YL tn n L S rk rw wd dt wt fi l) (s1 : S l ≠ 1) (hf : f ≤ i) (hi : i < n) (hd : ∀ j, f ≤ j → j ≤ i → tn j ≤ 9) (hb : 1 ≤ f → ¬ tn (f - 1) ≤ 9)
    (hO : ∀ rk' rw' wd' dt', ap_K (14 + l * 2) rk rw wd dt rk' rw' wd' dt' → ((ar_op tn n L S l (ar_num tn f i)).1 = 0 → ar_YA rk' rw' wd' dt' (14 + l * 2) (ar_op tn n L S l (ar_num tn f i)).2) → post (nI f) (nI n, nI l, (ar_op tn n L S l (ar_num tn f i)).1, tx, rk', rw', wd', dt', upd wt l (-1), upd fi l 1)) :
    wpY_readNumbers post (nI n, nI l, 0, tx, rk, rw, wd, dt, wt, fi) (nI i) := by
  have V := ar_numV (tn := tn) hf (show i < 30 by omega)
  have fin : wY_readNumbers_25 post (nI i) (nI f) (nI n) (nI l) 0 tx rk rw wd dt wt fi := by
    have fl56 : ∀ rk' rw' wd' : Nat → Int32, (∀ j, j ≠ 14 + l * 2 + 1 → rk' j = rk j ∧ rw' j = rw j ∧ wd' j = wd j) → rk' (14 + l * 2 + 1) = nI (ar_num tn f i).1 → rw' (14 + l * 2 + 1) = nI (i - f + 1) → wd' (14 + l * 2 + 1) = nI 1 →
        ∃ m, wY_readNumbers_56 post (nI i) (nI f) (nI (14 + l * 2 + 1)) (nI n) (nI l) 0 m (nI f) tx rk' rw' wd' dt wt fi := by
      intro rk' rw' wd' hF q1 q2 q3
      refine ap_le (fun m k a => wY_readNumbers_56 post (nI i) (nI f) (nI (14 + l * 2 + 1)) (nI n) (nI l) 0 m (nI (f + k)) tx rk' rw' wd' a wt fi) (fun k => ap_wz dt (fun k => nI (tn (f + k))) ((14 + l * 2 + 1) * 36) k) (i - f + 1) (ap_wz0 _ _ _) (fun m => ?_) (fun m k hk2 ih => ?_)
      · have e1 : f + (i - f + 1) = i + 1 := by omega
        rw [e1]
        have z : i < i + 1 := by omega
        simp (disch := omega) only [wY_readNumbers_56, z, vp_in_nI, nI_clamp, nI_leI, nI_ltI, nI_eq, nI_add, nI_1, pk_mul, an_m36, an_n36, an_b468, forall_eq, true_and, and_true, true_implies, false_implies, not_true, not_false_iff, implies_true, pk_un, pk_us, ap_wrN, ap_wrS]
        have F : ap_F (14 + l * 2 + 1) rk rw wd dt rk' rw' wd' (ap_wz dt (fun k => nI (tn (f + k))) ((14 + l * 2 + 1) * 36) (i - f + 1)) := ⟨hF, fun j h => ap_wzN (by omega)⟩
        have K : ap_K (14 + l * 2) rk rw wd dt rk' rw' wd' (ap_wz dt (fun k => nI (tn (f + k))) ((14 + l * 2 + 1) * 36) (i - f + 1)) := ap_KF (Or.inr (by omega)) F
        have H2 : ar_YL tn n L S rk' rw' wd' (ap_wz dt (fun k => nI (tn (f + k))) ((14 + l * 2 + 1) * 36) (i - f + 1)) wt fi l := by
          obtain ⟨a, b, c, d⟩ := H
          exact ⟨a, b, fun z => ⟨(c z).1, (c z).2.1, ap_FY F (by omega) (ap_v36 (c z).2.1) (c z).2.2⟩, d⟩
        have n2 : ¬ (ar_num tn f i).1 = 2 := by
          show ¬ (if i = f then 0 else 1) = 2
          split <;> omega
        have YA : ar_YA rk' rw' wd' (ap_wz dt (fun k => nI (tn (f + k))) ((14 + l * 2 + 1) * 36) (i - f + 1)) (14 + l * 2 + 1) (ar_num tn f i) := by
          refine ⟨V, q1, ?_, ?_, fun k hk => ap_wzI ?_⟩
          · rw [q2]; unfold ap_fl; rw [if_neg n2]; rfl
          · rw [q3]; unfold ap_w; rw [if_neg n2]
          · have : k < 1 * (i - f + 1) := hk
            omega
        exact ay_op l15 H2 s1 YA (fun rk2 rw2 wd2 dt2 K2 Y2 => hO rk2 rw2 wd2 dt2 (ap_Kt K K2) Y2)
      · have z : ¬ i < f + k := by omega
        have ix : (14 + l * 2 + 1) * 36 + (f + k) - f = (14 + l * 2 + 1) * 36 + k := by omega
        have eq := ap_wzS (a := dt) (g := fun k => nI (tn (f + k))) (b := (14 + l * 2 + 1) * 36) (e := k) (v := nI (tn (f + k))) rfl
        simp (disch := omega) only [wY_readNumbers_56, z, ht, pk_sub, ix, eq, vp_in_nI, nI_clamp, nI_leI, nI_ltI, nI_eq, nI_add, nI_1, pk_mul, an_m36, an_n36, an_b468, forall_eq, true_and, and_true, true_implies, false_implies, not_true, not_false_iff, implies_true, pk_un, pk_us, ap_wrN, ap_wrS]
        exact ih
    have sub : nI i - nI f + 1 = nI (i - f + 1) := by rw [pk_sub hf, nI_1]
    by_cases e : f = i
    · have sh := fun (P : SY → Prop) (a b : Int32) => ay_sp (ct := nI n) (lv := nI l) (er := 0) (tx := tx) (rk := rk) (rw := rw) (wd := wd) (dt := dt) (wt := wt) (fi := fi) P (p := 14 + l * 2 + 1) (R := 0) (by omega) (by omega) a b
      rw [nI_0] at sh
      simp (disch := omega) only [wY_readNumbers_25, wY_readNumbers_44, wpY_valuePlace, an_n2, an_b14, eq_true e, sub, sh, vp_in_nI, nI_clamp, nI_leI, nI_ltI, nI_eq, nI_add, nI_1, pk_mul, an_m36, an_n36, an_b468, forall_eq, true_and, and_true, true_implies, false_implies, not_true, not_false_iff, implies_true, pk_un, pk_us, ap_wrN, ap_wrS]
      refine fl56 _ _ _ (fun j hj => ⟨pk_un hj, pk_un hj, pk_un hj⟩) ?_ ?_ pk_us
      · rw [pk_us]
        exact congrArg nI (if_pos e.symm).symm
      · rw [pk_us, show i - f + 1 = 1 by omega]
        rfl
    · have sh := fun (P : SY → Prop) (a b : Int32) => ay_sp (ct := nI n) (lv := nI l) (er := 0) (tx := tx) (rk := rk) (rw := rw) (wd := wd) (dt := dt) (wt := wt) (fi := fi) P (p := 14 + l * 2 + 1) (R := 1) (by omega) (by omega) a b
      rw [show nI 1 = 1 from rfl] at sh
      simp (disch := omega) only [wY_readNumbers_25, wY_readNumbers_44, wpY_valuePlace, an_n2, an_b14, e, sub, sh, vp_in_nI, nI_clamp, nI_leI, nI_ltI, nI_eq, nI_add, nI_1, pk_mul, an_m36, an_n36, an_b468, forall_eq, true_and, and_true, true_implies, false_implies, not_true, not_false_iff, implies_true, pk_un, pk_us, ap_wrN, ap_wrS]
      refine fl56 _ _ _ (fun j hj => ⟨pk_un hj, pk_un hj, pk_un hj⟩) ?_ pk_us pk_us
      rw [pk_us]
      exact congrArg nI (if_neg (fun z => e z.symm)).symm
  have dn : ∀ d m, f + d ≤ i → d < m → wY_readNumbers_2 post (nI i) (nI n) (nI l) 0 tx rk rw wd dt wt fi m (nI (f + d)) := by
    intro d
    induction d with
    | zero =>
      intro m h1 h2
      obtain ⟨m, rfl⟩ : ∃ k, m = k + 1 := ⟨m - 1, by omega⟩
      rw [show f + 0 = f from rfl]
      by_cases f0 : f ≤ 0
      · simp (disch := omega) only [wY_readNumbers_2, an_l0, f0, vp_in_nI, nI_clamp, nI_leI, nI_ltI, nI_eq, nI_add, nI_1, pk_mul, an_m36, an_n36, an_b468, forall_eq, true_and, and_true, true_implies, false_implies, not_true, not_false_iff, implies_true, pk_un, pk_us, ap_wrN, ap_wrS]
        exact fin
      · have t1 := ag_tk (hk (f - 1))
        have g : 10 ≤ tn (f - 1) := by have := hb (by omega); omega
        simp (disch := omega) only [wY_readNumbers_2, an_l0, f0, an_s1, ht, an_g10, g, vp_in_nI, nI_clamp, nI_leI, nI_ltI, nI_eq, nI_add, nI_1, pk_mul, an_m36, an_n36, an_b468, forall_eq, true_and, and_true, true_implies, false_implies, not_true, not_false_iff, implies_true, pk_un, pk_us, ap_wrN, ap_wrS]
        exact fin
    | succ d ih =>
      intro m h1 h2
      obtain ⟨m, rfl⟩ : ∃ k, m = k + 1 := ⟨m - 1, by omega⟩
      have f0 : ¬ f + (d + 1) ≤ 0 := by omega
      have e1 : f + (d + 1) - 1 = f + d := by omega
      have d9 := hd (f + d) (by omega) (by omega)
      have g : ¬ 10 ≤ tn (f + d) := by omega
      have nx := ih m (by omega) (by omega)
      simp (disch := omega) only [wY_readNumbers_2, an_l0, f0, an_s1, an_m1s, e1, ht, an_g10, g, vp_in_nI, nI_clamp, nI_leI, nI_ltI, nI_eq, nI_add, nI_1, pk_mul, an_m36, an_n36, an_b468, forall_eq, true_and, and_true, true_implies, false_implies, not_true, not_false_iff, implies_true, pk_un, pk_us, ap_wrN, ap_wrS]
      exact nx
  have r := dn (i - f) (i - f + 1) (by omega) (by omega)
  rw [show f + (i - f) = i by omega] at r
  exact ⟨_, r⟩
end
end
section
/-! Y: what is due at a token; the end after an error; the copies of the names -/
section
variable {ct lv er : Int32} {tx rk rw wd dt wt fi : Nat → Int32} {tn : Nat → Nat} {n : Nat} {L : Nat → ar_A} {S : Nat → Nat}
theorem ay_end {post : Int32 → SY → Prop} {l : Nat} {rk0 rw0 wd0 dt0 : Nat → Int32} (l15 : l ≤ 15) (he : er ≠ 0) (B : ar_YB rk0 rw0 wd0 dt0 rk rw wd dt)
    (hp : ∀ rk' rw' wd' dt' wt', (∀ q, q < 6 → ap_C q q rk0 rw0 wd0 dt0 rk' rw' wd' dt') → ap_C 12 12 rk0 rw0 wd0 dt0 rk' rw' wd' dt' → post er (ct, nI l, er, tx, rk', rw', wd', dt', wt', fi)) :
    ∀ F x1, 0 < F → wY_run_64 post F x1 ct (nI l) er tx rk rw wd dt wt fi := by
  intro F x1 hF
  obtain ⟨F, rfl⟩ : ∃ k, F = k + 1 := ⟨F - 1, by omega⟩
  have g : wY_run_86 post ct (nI l) er tx rk rw wd dt wt fi := by
    unfold wY_run_86
    refine ay_stE l15 he ?_
    dsimp only
    refine pk_loop (σ := (Nat → Int32) × (Nat → Int32) × (Nat → Int32) × (Nat → Int32)) (fun m k s => wY_run_92 post m (nI k) ct (nI l) er tx s.1 s.2.1 s.2.2.1 s.2.2.2 (upd wt l (-1)) fi)
      (fun k s => (∀ q, q < k → ap_C q q rk0 rw0 wd0 dt0 s.1 s.2.1 s.2.2.1 s.2.2.2) ∧ ar_YB rk0 rw0 wd0 dt0 s.1 s.2.1 s.2.2.1 s.2.2.2) 6 0 (rk, rw, wd, dt) (by omega) ⟨fun q h => by omega, B⟩ (fun m s hI => ?_) (fun m k s hk hI ih => ?_)
    · refine br_t (by decide) ?_
      unfold wY_run_120
      exact br_f he (hp _ _ _ _ _ hI.1 hI.2.2)
    · have z : ¬ (6 : Int32) ≤ nI k := nI_ge (b := 6) hk (by omega)
      refine br_f z (br_f he ?_)
      rw [an_b6]
      refine ay_cp (by omega) (by omega) (by omega) ?_
      dsimp only
      refine nm_r (nI_1 k) ?_
      refine ih (_, _, _, _) ⟨fun q hq => ?_, fun q hq => ?_, ?_⟩
      · by_cases e : q = k
        · subst e
          have C := hI.2.1 q hk
          have D := ap_Cc (a := 6 + q) (b := q) (rk := s.1) (rw := s.2.1) (cl := s.2.2.1) (nb := s.2.2.2)
          exact ⟨D.1.trans C.1, D.2.1.trans C.2.1, D.2.2.1.trans C.2.2.1, fun i hi => (D.2.2.2 i hi).trans (C.2.2.2 i hi)⟩
        · exact ap_CF ap_cpF (by omega) (hI.1 q (by omega))
      · exact ap_CF ap_cpF (by omega) (hI.2.1 q hq)
      · exact ap_CF ap_cpF (by omega) hI.2.2
  by_cases z : x1 < 0
  · exact br_t z g
  · exact br_f z (br_f he g)
theorem ay_tkp (post : Int32 → Prop) {p : Nat} (hn : n ≤ 30) (ht : ∀ j, tx j = nI (tn j)) (hp : p ≤ n) : wpY_tokenAt post (nI n, lv, er, tx, rk, rw, wd, dt, wt, fi) (nI p - 1) = post (if 1 ≤ p then nI (tn (p - 1)) else -1) := by
  by_cases h : 1 ≤ p
  · rw [if_pos h, an_s1 h, ay_tkG _ hn ht (by omega), if_pos (by omega)]
  · rw [if_neg h, show p = 0 by omega]
    have z0 : nI 0 - 1 < 0 := by decide
    simp only [wpY_tokenAt, z0, true_implies, not_true, false_implies, and_true]
/-- the function whose last token is i begins at j -/
def ar_fn (tn : Nat → Nat) (n i j : Nat) : Prop :=
  (ag_mx (tn i) ∧ j = i) ∨ ((tn i = 40 ∨ tn i = 41) ∧ 1 ≤ i ∧ ag_sc (tn (i - 1)) ∧ j = i - 1 ∧ (2 ≤ i → tn (i - 2) ≠ 42 ∧ tn (i - 2) ≠ 43)) ∨ (ag_sc (tn i) ∧ 1 ≤ i ∧ tn (i - 1) = 42 ∧ j = i - 1) ∨
  (ag_sc (tn i) ∧ 2 ≤ i ∧ tn (i - 1) = 43 ∧ ag_sc (tn (i - 2)) ∧ j = i - 2 ∧ (3 ≤ i → tn (i - 3) ≠ 42 ∧ tn (i - 3) ≠ 43)) ∨ (ag_sc (tn i) ∧ (1 ≤ i → tn (i - 1) ≠ 42 ∧ tn (i - 1) ≠ 43) ∧ (i + 1 < n → tn (i + 1) ≠ 40 ∧ tn (i + 1) ≠ 41 ∧ tn (i + 1) ≠ 43) ∧ j = i)
theorem ar_fw {i j : Nat} (h : ar_fn tn n i j) (hi : i < n) : j ≤ i ∧ ag_wf tn n j ∧ (ag_mx (tn j) ∨ tn j = 42 ∨ (ag_sc (tn j) ∧ (1 ≤ j → tn (j - 1) ≠ 42 ∧ tn (j - 1) ≠ 43))) := by
  rcases h with ⟨m, rfl⟩ | ⟨t, i1, s, rfl, b⟩ | ⟨s, i1, b, rfl⟩ | ⟨s, i2, b, s2, rfl, b3⟩ | ⟨s, b, b2, rfl⟩
  · exact ⟨Nat.le_refl j, ⟨hi, Or.inl m⟩, Or.inl m⟩
  · refine ⟨by omega, ⟨by omega, Or.inr (Or.inr ⟨s, fun _ e => ?_⟩)⟩, Or.inr (Or.inr ⟨s, fun g => ?_⟩)⟩
    · rw [show i - 1 + 1 = i by omega] at e
      omega
    · rw [show i - 1 - 1 = i - 2 by omega]
      exact b (by omega)
  · refine ⟨by omega, ⟨by omega, Or.inr (Or.inl ⟨b, by omega, ?_⟩)⟩, Or.inr (Or.inl b)⟩
    rw [show i - 1 + 1 = i by omega]
    exact s
  · refine ⟨by omega, ⟨by omega, Or.inr (Or.inr ⟨s2, fun _ _ => ⟨by omega, ?_⟩⟩)⟩, Or.inr (Or.inr ⟨s2, fun g => ?_⟩)⟩
    · rw [show i - 2 + 2 = i by omega]
      exact s
    · rw [show i - 2 - 1 = i - 3 by omega]
      exact b3 (by omega)
  · exact ⟨Nat.le_refl j, ⟨hi, Or.inr (Or.inr ⟨s, fun g e => absurd e (b2 g).2.2⟩)⟩, Or.inr (Or.inr ⟨s, b⟩)⟩
theorem ay_vF {post : Int32 → SY → Prop} {i j l : Nat} (hn : n ≤ 30) (ht : ∀ j, tx j = nI (tn j)) (hk : ∀ j, ag_tok (tn j)) (l15 : l ≤ 15) (H : ar_YL tn n L S rk rw wd dt wt fi l) (s0 : S l ≠ 0) (hi : i < n) (hf : ar_fn tn n i j)
    (hO : ∀ rk' rw' wd' dt', ap_K (14 + l * 2) rk rw wd dt rk' rw' wd' dt' → ((ar_se tn n L S l).1 = 0 → ar_YA rk' rw' wd' dt' (14 + l * 2) (ar_se tn n L S l).2) → post (nI j) (nI n, nI l, (ar_se tn n L S l).1, tx, rk', rw', wd', dt', upd (upd wt l (-1)) l (nI (ag_wd tn n j)), fi)) :
    wpY_readToken post (nI n, nI l, 0, tx, rk, rw, wd, dt, wt, fi) (nI i) := by
  have t0 := ag_tk (hk i)
  have t1 := ag_tk (hk (i - 1))
  have fl : ¬ (tn i = 51) ∧ ¬ (tn i = 50) ∧ ¬ (tn i = 52) ∧ 10 ≤ tn i ∧ 16 ≤ tn i := by
    rcases hf with h | h | h | h | h <;> omega
  obtain ⟨f1, f2, f3, f4, f5⟩ := fl
  simp (disch := omega) only [wpY_readToken, ht, an_g10, an_g16, an_e51, an_e50, an_e52, f1, f2, f3, f4, f5, wpY_readFunction, vp_in_nI, nI_clamp, nI_leI, nI_ltI, nI_eq, nI_add, nI_1, pk_mul, an_m36, an_n36, an_b468, forall_eq, true_and, and_true, true_implies, false_implies, not_true, not_false_iff, implies_true, pk_un, pk_us, ap_wrN, ap_wrS]
  refine ay_se l15 H s0 (fun rk' rw' wd' dt' K Y => ?_)
  have q := hO rk' rw' wd' dt' K Y
  have z1 : ¬ (1 : Int32) = 0 := by decide
  have m3 : ¬ (-1 : Int32) = 43 := by decide
  have m2 : ¬ (-1 : Int32) = 42 := by decide
  rcases hf with ⟨m, rfl⟩ | ⟨t, i1, s, rfl, b⟩ | ⟨s, i1, b, rfl⟩ | ⟨s, i2, b, s2, rfl, b3⟩ | ⟨s, b, b2, rfl⟩
  · have e : ag_wd tn n j = tn j := by
      unfold ag_wd
      rw [ag_kM m, show ag_f tn j = tn j from if_neg (by omega)]
      show 10000 * 0 + tn j = tn j
      omega
    rw [e] at q
    have a1 : ¬ tn j = 40 := by omega
    have a2 : ¬ tn j = 41 := by omega
    have a3 : 30 ≤ tn j := by omega
    simp (disch := omega) only [ht, ay_tkp _ hn ht, an_e40, an_e41, an_g30, a1, a2, a3, wY_readFunction_95, wY_readFunction_111, wY_readFunction_112, wY_readFunction_136, vp_in_nI, nI_clamp, nI_leI, nI_ltI, nI_eq, nI_add, nI_1, pk_mul, an_m36, an_n36, an_b468, forall_eq, true_and, and_true, true_implies, false_implies, not_true, not_false_iff, implies_true, pk_un, pk_us, ap_wrN, ap_wrS]
    exact q
  · have ii : i - 1 + 1 = i := by omega
    have lt1 : i - 1 < n := by omega
    rcases t with t | t
    · have e : ag_wd tn n (i - 1) = 10000 + tn (i - 1) := by
        unfold ag_wd
        rw [ag_kA s (by omega) (by rw [ii]; exact t), show ag_f tn (i - 1) = tn (i - 1) from if_neg (by omega)]
        rfl
      rw [e] at q
      have v : (10000 : Int32) * (nI (tn i) - 39) + nI (tn (i - 1)) = nI (10000 + tn (i - 1)) := by
        rw [t, show (10000 : Int32) * (nI 40 - 39) = nI 10000 from by decide, nI_add]
      simp (disch := omega) only [ht, ay_tkG _ hn ht, lt1, if_true, an_e40, eq_true t, wY_readFunction_31, v, an_s1, vp_in_nI, nI_clamp, nI_leI, nI_ltI, nI_eq, nI_add, nI_1, pk_mul, an_m36, an_n36, an_b468, forall_eq, true_and, and_true, true_implies, false_implies, not_true, not_false_iff, implies_true, pk_un, pk_us, ap_wrN, ap_wrS]
      exact q
    · have e : ag_wd tn n (i - 1) = 20000 + tn (i - 1) := by
        unfold ag_wd
        rw [ag_kB s (by omega) (by rw [ii]; exact t), show ag_f tn (i - 1) = tn (i - 1) from if_neg (by omega)]
        rfl
      rw [e] at q
      have a1 : ¬ tn i = 40 := by omega
      have v : (10000 : Int32) * (nI (tn i) - 39) + nI (tn (i - 1)) = nI (20000 + tn (i - 1)) := by
        rw [t, show (10000 : Int32) * (nI 41 - 39) = nI 20000 from by decide, nI_add]
      simp (disch := omega) only [ht, ay_tkG _ hn ht, lt1, if_true, an_e40, an_e41, a1, eq_true t, wY_readFunction_31, v, an_s1, vp_in_nI, nI_clamp, nI_leI, nI_ltI, nI_eq, nI_add, nI_1, pk_mul, an_m36, an_n36, an_b468, forall_eq, true_and, and_true, true_implies, false_implies, not_true, not_false_iff, implies_true, pk_un, pk_us, ap_wrN, ap_wrS]
      exact q
  · have ii : i - 1 + 1 = i := by omega
    have lt1 : i - 1 < n := by omega
    have e : ag_wd tn n (i - 1) = 30000 + tn i := by
      unfold ag_wd
      rw [ag_kO b, show ag_f tn (i - 1) = tn (i - 1 + 1) from if_pos b, ii]
      rfl
    rw [e] at q
    have a1 : ¬ tn i = 40 := by omega
    have a2 : ¬ tn i = 41 := by omega
    have a3 : ¬ 30 ≤ tn i := by omega
    have a4 : ¬ tn (i - 1) = 43 := by omega
    simp (disch := omega) only [ht, ay_tkG _ hn ht, lt1, if_true, an_e40, an_e41, an_g30, an_e43, an_e42, a1, a2, a3, a4, eq_true b, wY_readFunction_95, wY_readFunction_111, wY_readFunction_112, wY_readFunction_136, z1, an_b30000, an_s1, vp_in_nI, nI_clamp, nI_leI, nI_ltI, nI_eq, nI_add, nI_1, pk_mul, an_m36, an_n36, an_b468, forall_eq, true_and, and_true, true_implies, false_implies, not_true, not_false_iff, implies_true, pk_un, pk_us, ap_wrN, ap_wrS]
    exact q
  · have ii : i - 2 + 1 = i - 1 := by omega
    have i3 : i - 2 + 2 = i := by omega
    have bd : (if 1 ≤ i then nI (tn (i - 1)) else (-1 : Int32)) = nI (tn (i - 1)) := if_pos (by omega)
    have e : ag_wd tn n (i - 2) = 40000 + 100 * tn (i - 2) + tn i := by
      unfold ag_wd
      rw [ag_kD s2 (by omega) (by rw [ii]; exact b), show ag_f tn (i - 2) = tn (i - 2) from if_neg (by omega), show ag_g tn (i - 2) = tn i from by unfold ag_g; rw [i3]]
      rfl
    rw [e] at q
    have a1 : ¬ tn i = 40 := by omega
    have a2 : ¬ tn i = 41 := by omega
    have a3 : ¬ 30 ≤ tn i := by omega
    have sb : nI i - 2 = nI (i - 2) := pk_sub (b := 2) i2
    have v : (40000 : Int32) + 100 * nI (tn (i - 2)) + nI (tn i) = nI (40000 + 100 * tn (i - 2) + tn i) := by
      rw [show (100 : Int32) = nI 100 from rfl, pk_mul, an_b40000, nI_add]
    simp (disch := omega) only [ht, ay_tkp _ hn ht, bd, an_e40, an_e41, an_g30, an_e43, a1, a2, a3, eq_true b, sb, v, vp_in_nI, nI_clamp, forall_eq, true_and, and_true, true_implies, false_implies, not_true, not_false_iff]
    exact q
  · have e : ag_wd tn n j = tn j := by
      unfold ag_wd
      rw [ag_k0 s b2, show ag_f tn j = tn j from if_neg (by omega)]
      show 10000 * 0 + tn j = tn j
      omega
    rw [e] at q
    have a1 : ¬ tn j = 40 := by omega
    have a2 : ¬ tn j = 41 := by omega
    have a3 : ¬ 30 ≤ tn j := by omega
    have c3 : ¬ (if 1 ≤ j then nI (tn (j - 1)) else (-1 : Int32)) = 43 := by
      by_cases g : 1 ≤ j
      · rw [if_pos g, an_e43 (by omega)]; exact (b g).2
      · rw [if_neg g]; exact m3
    have c2 : ¬ (if 1 ≤ j then nI (tn (j - 1)) else (-1 : Int32)) = 42 := by
      by_cases g : 1 ≤ j
      · rw [if_pos g, an_e42 (by omega)]; exact (b g).1
      · rw [if_neg g]; exact m2
    simp (disch := omega) only [ht, ay_tkp _ hn ht, an_e40, an_e41, an_g30, a1, a2, a3, c3, c2, wY_readFunction_95, wY_readFunction_111, wY_readFunction_112, wY_readFunction_136, vp_in_nI, nI_clamp, nI_leI, nI_ltI, nI_eq, nI_add, nI_1, pk_mul, an_m36, an_n36, an_b468, forall_eq, true_and, and_true, true_implies, false_implies, not_true, not_false_iff, implies_true, pk_un, pk_us, ap_wrN, ap_wrS]
    exact q
theorem ay_vN {post : Int32 → SY → Prop} {f i l : Nat} (hn : n ≤ 30) (ht : ∀ j, tx j = nI (tn j)) (hk : ∀ j, ag_tok (tn j)) (l15 : l ≤ 15) (H : ar_YL tn n L S rk rw wd dt wt fi l) (s1 : S l ≠ 1) (hf : f ≤ i) (hi : i < n) (hd : ∀ j, f ≤ j → j ≤ i → tn j ≤ 9) (hb : 1 ≤ f → ¬ tn (f - 1) ≤ 9)
    (hO : ∀ rk' rw' wd' dt', ap_K (14 + l * 2) rk rw wd dt rk' rw' wd' dt' → ((ar_op tn n L S l (ar_num tn f i)).1 = 0 → ar_YA rk' rw' wd' dt' (14 + l * 2) (ar_op tn n L S l (ar_num tn f i)).2) → post (nI f) (nI n, nI l, (ar_op tn n L S l (ar_num tn f i)).1, tx, rk', rw', wd', dt', upd wt l (-1), upd fi l 1)) :
    wpY_readToken post (nI n, nI l, 0, tx, rk, rw, wd, dt, wt, fi) (nI i) := by
  have d9 := hd i hf (Nat.le_refl i)
  have z : ¬ 10 ≤ tn i := by omega
  simp (disch := omega) only [wpY_readToken, ht, an_g10, z, vp_in_nI, nI_clamp, nI_leI, nI_ltI, nI_eq, nI_add, nI_1, pk_mul, an_m36, an_n36, an_b468, forall_eq, true_and, and_true, true_implies, false_implies, not_true, not_false_iff, implies_true, pk_un, pk_us, ap_wrN, ap_wrS]
  exact ay_rn hn ht hk l15 H s1 hf hi hd hb hO
theorem ay_vM {post : Int32 → SY → Prop} {i l : Nat} {N : Nat → Option ar_A} (hn : n ≤ 30) (ht : ∀ j, tx j = nI (tn j)) (hk : ∀ j, ag_tok (tn j)) (l15 : l ≤ 15) (H : ar_YL tn n L S rk rw wd dt wt fi l) (s1 : S l ≠ 1) (hi : i < n) (hf : ag_nm (tn i)) (hN : ar_YN N rk rw wd dt (tn i - 10))
    (hV : N (tn i - 10) = none → post (nI i) (nI n, nI l, (-11), tx, rk, rw, wd, dt, wt, fi))
    (hO : ∀ A, N (tn i - 10) = some A → ∀ rk' rw' wd' dt', ap_K (14 + l * 2) rk rw wd dt rk' rw' wd' dt' → ((ar_op tn n L S l A).1 = 0 → ar_YA rk' rw' wd' dt' (14 + l * 2) (ar_op tn n L S l A).2) → post (nI i) (nI n, nI l, (ar_op tn n L S l A).1, tx, rk', rw', wd', dt', upd wt l (-1), upd fi l 1)) :
    wpY_readToken post (nI n, nI l, 0, tx, rk, rw, wd, dt, wt, fi) (nI i) := by
  have a1 : 10 ≤ tn i := by omega
  have a2 : ¬ 16 ≤ tn i := by omega
  have sb : nI (tn i) - 10 = nI (tn i - 10) := pk_sub (b := 10) a1
  rcases hN with ⟨e, g⟩ | ⟨A, e, Y⟩
  · have q := hV e
    have z : ¬ (0 : Int32) ≤ -1 := by decide
    simp (disch := omega) only [wpY_readToken, ht, an_g10, an_g16, a1, a2, sb, wpY_readName, g, z, vp_in_nI, nI_clamp, nI_leI, nI_ltI, nI_eq, nI_add, nI_1, pk_mul, an_m36, an_n36, an_b468, forall_eq, true_and, and_true, true_implies, false_implies, not_true, not_false_iff, implies_true, pk_un, pk_us, ap_wrN, ap_wrS]
    exact q
  · have vb := ap_vb Y.1
    have z : 0 ≤ nI A.1 := nI_pos' (by omega)
    have g := Y.2.1
    simp (disch := omega) only [wpY_readToken, ht, an_g10, an_g16, a1, a2, sb, wpY_readName, wpY_valuePlace, an_n2, an_b14, g, z, vp_in_nI, nI_clamp, nI_leI, nI_ltI, nI_eq, nI_add, nI_1, pk_mul, an_m36, an_n36, an_b468, forall_eq, true_and, and_true, true_implies, false_implies, not_true, not_false_iff, implies_true, pk_un, pk_us, ap_wrN, ap_wrS]
    refine ay_cp (by omega) (by omega) (by omega) ?_
    have F := ap_cpF (rk := rk) (rw := rw) (cl := wd) (nb := dt) (p := tn i - 10) (q := 14 + l * 2 + 1) (x := rk (tn i - 10)) (y := rw (tn i - 10)) (z := wd (tn i - 10))
    have H2 : ar_YL tn n L S (upd rk (14 + l * 2 + 1) (rk (tn i - 10))) (upd rw (14 + l * 2 + 1) (rw (tn i - 10))) (upd wd (14 + l * 2 + 1) (wd (tn i - 10))) (ap_cp dt (tn i - 10) (14 + l * 2 + 1) 36) wt fi l := by
      obtain ⟨a, b, c, d⟩ := H
      exact ⟨a, b, fun z => ⟨(c z).1, (c z).2.1, ap_FY F (by omega) (ap_v36 (c z).2.1) (c z).2.2⟩, d⟩
    exact ay_op l15 H2 s1 ⟨Y.1, ap_cpY (ap_v36 Y.1) Y.2⟩ (fun rk2 rw2 wd2 dt2 K2 Y2 => hO A e rk2 rw2 wd2 dt2 (ap_Kt (ap_KF (Or.inr (by omega)) F) K2) Y2)
theorem ay_vC {post : Int32 → SY → Prop} {i l : Nat} (hn : n ≤ 30) (ht : ∀ j, tx j = nI (tn j)) (l15 : l + 1 ≤ 15) (hi : i < n) (hf : tn i = 51) (hp : post (nI i) (nI n, nI (l + 1), 0, tx, rk, rw, wd, dt, upd wt (l + 1) (-1), upd fi (l + 1) 0)) : wpY_readToken post (nI n, nI l, 0, tx, rk, rw, wd, dt, wt, fi) (nI i) := by
  have a1 : 10 ≤ tn i := by omega
  have a2 : 16 ≤ tn i := by omega
  simp (disch := omega) only [wpY_readToken, ht, an_g10, an_g16, an_e51, a1, a2, eq_true hf, an_bf, vp_in_nI, nI_clamp, nI_leI, nI_ltI, nI_eq, nI_add, nI_1, pk_mul, an_m36, an_n36, an_b468, forall_eq, true_and, and_true, true_implies, false_implies, not_true, not_false_iff, implies_true, pk_un, pk_us, ap_wrN, ap_wrS]
  exact hp
theorem ay_vB {post : Int32 → SY → Prop} {i l : Nat} (hn : n ≤ 30) (ht : ∀ j, tx j = nI (tn j)) (l15 : l ≤ 15) (H : ar_YL tn n L S rk rw wd dt wt fi l) (s0 : S l ≠ 0) (hi : i < n) (hf : tn i = 52) (i1 : 1 ≤ i) (hm : ag_nm (tn (i - 1)))
    (hE : (ar_se tn n L S l).1 ≠ 0 → ∀ rk' rw' wd' dt', ap_K (14 + l * 2) rk rw wd dt rk' rw' wd' dt' → post (nI (i - 1)) (nI n, nI l, (ar_se tn n L S l).1, tx, rk', rw', wd', dt', upd wt l (-1), fi))
    (hO : (ar_se tn n L S l).1 = 0 → ∀ rk' rw' wd' dt', ap_K (14 + l * 2) rk rw wd dt rk' rw' wd' dt' → ar_YA rk' rw' wd' dt' (14 + l * 2) (ar_se tn n L S l).2 →
      post (nI (i - 1)) (nI n, nI l, 0, tx, upd rk' (tn (i - 1) - 10) (rk' (14 + l * 2)), upd rw' (tn (i - 1) - 10) (rw' (14 + l * 2)), upd wd' (tn (i - 1) - 10) (wd' (14 + l * 2)), ap_cp dt' (14 + l * 2) (tn (i - 1) - 10) 36, upd wt l (-1), fi)) :
    wpY_readToken post (nI n, nI l, 0, tx, rk, rw, wd, dt, wt, fi) (nI i) := by
  have a1 : 10 ≤ tn i := by omega
  have a2 : 16 ≤ tn i := by omega
  have a3 : ¬ tn i = 51 := by omega
  have a4 : ¬ tn i = 50 := by omega
  simp (disch := omega) only [wpY_readToken, ht, an_g10, an_g16, an_e51, an_e50, an_e52, a1, a2, a3, a4, eq_true hf, vp_in_nI, nI_clamp, nI_leI, nI_ltI, nI_eq, nI_add, nI_1, pk_mul, an_m36, an_n36, an_b468, forall_eq, true_and, and_true, true_implies, false_implies, not_true, not_false_iff, implies_true, pk_un, pk_us, ap_wrN, ap_wrS]
  refine ay_se l15 H s0 (fun rk' rw' wd' dt' K Y => ?_)
  by_cases e : (ar_se tn n L S l).1 = 0
  · have q := hO e rk' rw' wd' dt' K (Y e)
    have sb : nI (tn (i - 1)) - 10 = nI (tn (i - 1) - 10) := pk_sub (b := 10) (by omega)
    simp (disch := omega) only [e, wpY_valuePlace, an_n2, an_b14, an_s1, ht, sb, vp_in_nI, nI_clamp, nI_leI, nI_ltI, nI_eq, nI_add, nI_1, pk_mul, an_m36, an_n36, an_b468, forall_eq, true_and, and_true, true_implies, false_implies, not_true, not_false_iff, implies_true, pk_un, pk_us, ap_wrN, ap_wrS]
    exact ay_cp (by omega) (by omega) (by omega) q
  · have q := hE e rk' rw' wd' dt' K
    simp (disch := omega) only [e, an_s1, vp_in_nI, nI_clamp, nI_leI, nI_ltI, nI_eq, nI_add, nI_1, pk_mul, an_m36, an_n36, an_b468, forall_eq, true_and, and_true, true_implies, false_implies, not_true, not_false_iff, implies_true, pk_un, pk_us, ap_wrN, ap_wrS]
    exact q
theorem ay_vO {post : Int32 → SY → Prop} {i l : Nat} (hn : n ≤ 30) (ht : ∀ j, tx j = nI (tn j)) (l15 : l + 1 ≤ 15) (H : ar_YL tn n L S rk rw wd dt wt fi (l + 1)) (H' : ar_YL tn n L S rk rw wd dt wt fi l) (s0 : S (l + 1) ≠ 0) (s1 : S l ≠ 1) (hi : i < n) (hf : tn i = 50)
    (hE : (ar_se tn n L S (l + 1)).1 ≠ 0 → ∀ rk' rw' wd' dt' wt' fi', ap_K (14 + l * 2) rk rw wd dt rk' rw' wd' dt' → post (nI i) (nI n, nI l, (ar_se tn n L S (l + 1)).1, tx, rk', rw', wd', dt', wt', fi'))
    (hO : (ar_se tn n L S (l + 1)).1 = 0 → ∀ rk' rw' wd' dt' wt' fi', ap_K (14 + l * 2) rk rw wd dt rk' rw' wd' dt' → ((ar_op tn n L S l (ar_se tn n L S (l + 1)).2).1 = 0 → ar_YA rk' rw' wd' dt' (14 + l * 2) (ar_op tn n L S l (ar_se tn n L S (l + 1)).2).2) → (∀ j, j < l → wt' j = wt j ∧ fi' j = fi j) → wt' l = -1 → fi' l = 1 →
      post (nI i) (nI n, nI l, (ar_op tn n L S l (ar_se tn n L S (l + 1)).2).1, tx, rk', rw', wd', dt', wt', fi')) :
    wpY_readToken post (nI n, nI (l + 1), 0, tx, rk, rw, wd, dt, wt, fi) (nI i) := by
  have a1 : 10 ≤ tn i := by omega
  have a2 : 16 ≤ tn i := by omega
  have a3 : ¬ tn i = 51 := by omega
  simp (disch := omega) only [wpY_readToken, ht, an_g10, an_g16, an_e51, an_e50, a1, a2, a3, eq_true hf, vp_in_nI, nI_clamp, nI_leI, nI_ltI, nI_eq, nI_add, nI_1, pk_mul, an_m36, an_n36, an_b468, forall_eq, true_and, and_true, true_implies, false_implies, not_true, not_false_iff, implies_true, pk_un, pk_us, ap_wrN, ap_wrS]
  refine ay_se l15 H s0 (fun rk' rw' wd' dt' K Y => ?_)
  simp (disch := omega) only [wpY_valuePlace, nI_pred, an_n2, an_b14, vp_in_nI, nI_clamp, nI_leI, nI_ltI, nI_eq, nI_add, nI_1, pk_mul, an_m36, an_n36, an_b468, forall_eq, true_and, and_true, true_implies, false_implies, not_true, not_false_iff, implies_true, pk_un, pk_us, ap_wrN, ap_wrS]
  refine ay_cp (by omega) (by omega) (by omega) ?_
  have F := ap_cpF (rk := rk') (rw := rw') (cl := wd') (nb := dt') (p := 14 + (l + 1) * 2) (q := 14 + l * 2 + 1) (x := rk' (14 + (l + 1) * 2)) (y := rw' (14 + (l + 1) * 2)) (z := wd' (14 + (l + 1) * 2))
  have K2 := ap_Kt (ap_Km (show 14 + l * 2 ≤ 14 + (l + 1) * 2 by omega) K) (ap_KF (m := 14 + l * 2) (Or.inr (by omega)) F)
  by_cases e : (ar_se tn n L S (l + 1)).1 = 0
  · rw [e]
    have A := Y e
    have H2 : ar_YL tn n L S (upd rk' (14 + l * 2 + 1) (rk' (14 + (l + 1) * 2))) (upd rw' (14 + l * 2 + 1) (rw' (14 + (l + 1) * 2))) (upd wd' (14 + l * 2 + 1) (wd' (14 + (l + 1) * 2))) (ap_cp dt' (14 + (l + 1) * 2) (14 + l * 2 + 1) 36) (upd wt (l + 1) (-1)) fi l := by
      obtain ⟨a, b, c, d⟩ := H'
      unfold ar_YL
      rw [pk_un (show l ≠ l + 1 by omega)]
      exact ⟨a, b, fun z => ⟨(c z).1, (c z).2.1, ap_FY F (by omega) (ap_v36 (c z).2.1) (ap_KY K (by omega) (by omega) (ap_v36 (c z).2.1) (c z).2.2)⟩, d⟩
    refine ay_op (by omega) H2 s1 ⟨A.1, ap_cpY (ap_v36 A.1) A.2⟩ (fun rk2 rw2 wd2 dt2 K3 Y3 => ?_)
    have q := hO e rk2 rw2 wd2 dt2 (upd (upd wt (l + 1) (-1)) l (-1)) (upd fi l 1) (ap_Kt K2 K3) Y3 (fun j hj => ⟨by rw [pk_un (by omega), pk_un (by omega)], by rw [pk_un (by omega)]⟩) pk_us pk_us
    exact q
  · refine ay_opE (by omega) e (fun rk2 rw2 wd2 dt2 K3 => ?_)
    exact hE e rk2 rw2 wd2 dt2 _ _ (ap_Kt K2 K3)
end
section
variable {tc lv : Int32} {tx rk rw cl nb gv wt : Nat → Int32}
theorem ax_cn {post : SX → Prop} {a b : Nat} (ha : a ≤ 7) (hb : b ≤ 7) (hab : a + 6 = b ∨ b + 6 = a) (hg : ∀ q, q < 6 → gv (a + q) = 0 ∨ gv (a + q) = 1)
    (hp : ∀ rk' rw' cl' nb' gv', (∀ q, q < 6 → ap_C (a + q) (b + q) rk rw cl nb rk' rw' cl' nb' ∧ gv' (b + q) = gv (a + q)) → (∀ j, (j < b ∨ b + 6 ≤ j) → ap_C j j rk rw cl nb rk' rw' cl' nb' ∧ gv' j = gv j) → post (tc, lv, tx, rk', rw', cl', nb', gv', wt)) :
    wpX_copyNames post (tc, lv, tx, rk, rw, cl, nb, gv, wt) (nI a) (nI b) := by
  unfold wpX_copyNames
  refine pk_loop (σ := (Nat → Int32) × (Nat → Int32) × (Nat → Int32) × (Nat → Int32) × (Nat → Int32)) (fun m k s => wX_copyNames_2 post (nI a) (nI b) m (nI k) tc lv tx s.1 s.2.1 s.2.2.1 s.2.2.2.1 s.2.2.2.2 wt)
    (fun k s => (∀ q, q < k → ap_C (a + q) (b + q) rk rw cl nb s.1 s.2.1 s.2.2.1 s.2.2.2.1 ∧ s.2.2.2.2 (b + q) = gv (a + q)) ∧ (∀ j, (j < b ∨ b + 6 ≤ j) → ap_C j j rk rw cl nb s.1 s.2.1 s.2.2.1 s.2.2.2.1 ∧ s.2.2.2.2 j = gv j)) 6 0 (rk, rw, cl, nb, gv) (by omega) ⟨fun q h => by omega, fun j _ => ⟨ap_Cr j _ _ _ _, rfl⟩⟩ (fun m s hI => ?_) (fun m k s hk hI ih => ?_)
  · exact br_t (by decide) (hp _ _ _ _ _ hI.1 hI.2)
  · have z : ¬ (6 : Int32) ≤ nI k := nI_ge (b := 6) hk (by omega)
    refine br_f z ?_
    rw [nI_add, nI_add]
    refine ax_cp (by omega) (by omega) (by omega) ?_
    dsimp only
    have ga := (hI.2 (a + k) (by omega)).2
    have gn : vp_nar .boolean (s.2.2.2.2 (a + k)) = s.2.2.2.2 (a + k) := by
      rw [ga]
      rcases hg k hk with g | g
      · rw [g]; exact an_bf
      · rw [g]; exact an_bt
    rw [nI_clamp (by omega), nI_clamp (by omega), gn]
    refine ⟨vp_in_nI (by omega) (by omega), vp_in_nI (by omega) (by omega), nm_e (nm_r (nI_1 k) ?_)⟩
    refine ih (_, _, _, _, _) ⟨fun q hq => ?_, fun j hj => ?_⟩
    · by_cases e : q = k
      · subst e
        have C := (hI.2 (a + q) (by omega)).1
        have D := ap_Cc (a := a + q) (b := b + q) (rk := s.1) (rw := s.2.1) (cl := s.2.2.1) (nb := s.2.2.2.1)
        exact ⟨⟨D.1.trans C.1, D.2.1.trans C.2.1, D.2.2.1.trans C.2.2.1, fun i hi => (D.2.2.2 i hi).trans (C.2.2.2 i hi)⟩, pk_us.trans ga⟩
      · have h := hI.1 q (by omega)
        exact ⟨ap_CF ap_cpF (by omega) h.1, (pk_un (by omega)).trans h.2⟩
    · have h := hI.2 j hj
      exact ⟨ap_CF ap_cpF (by omega) h.1, (pk_un (by omega)).trans h.2⟩
end
end
section
/-! the two readings side by side: steps -/
section
variable {tc lv : Int32} {tx rk rw cl nb gv wt : Nat → Int32} {tn : Nat → Nat} {n : Nat}
theorem ax_go {PX : Int32 → SX → Prop} {F i : Nat} (hi : i < 30) (h : wpX_visit (fun r u => match u with | (tc, lv, tx, rk, rw, cl, nb, gv, wt) => wX_run_38 PX F r (nI i - 1) tc lv tx rk rw cl nb gv wt) (tc, lv, tx, rk, rw, cl, nb, gv, wt) (nI i)) : wX_run_38 PX (F + 1) 0 (nI i) tc lv tx rk rw cl nb gv wt := by
  have z : ¬ nI i < 0 := nI_pos (by omega)
  have e : nI i + -1 = nI i - 1 := (Int32.sub_eq_add_neg _ _).symm
  simp only [wX_run_38, z, e, forall_eq, false_implies, not_false_iff, true_implies, true_and, not_true, and_true]
  exact h
theorem ax_end {PX : Int32 → SX → Prop} {F : Nat} {c x2 : Int32} (hF : 0 < F) (hc : c ≠ 0) (h : PX c (tc, lv, tx, rk, rw, cl, nb, gv, wt)) : wX_run_38 PX F c x2 tc lv tx rk rw cl nb gv wt := by
  obtain ⟨F, rfl⟩ : ∃ k, F = k + 1 := ⟨F - 1, by omega⟩
  have g : wX_run_58 PX c tc lv tx rk rw cl nb gv wt := br_f hc (br_f hc h)
  by_cases z : x2 < 0
  · exact br_t z g
  · exact br_f z (br_f hc g)
theorem ax_sk {PX : Int32 → SX → Prop} {j : Nat} (h : ∀ F, j + 1 < F → wX_run_38 PX F 0 (nI j) tc lv tx rk rw cl nb gv wt) : ∀ d, j + d < 30 → (∀ t, j < t → t ≤ j + d → ∀ post : Int32 → SX → Prop, post 0 (tc, lv, tx, rk, rw, cl, nb, gv, wt) → wpX_visit post (tc, lv, tx, rk, rw, cl, nb, gv, wt) (nI t)) → ∀ F, j + d + 1 < F → wX_run_38 PX F 0 (nI (j + d)) tc lv tx rk rw cl nb gv wt := by
  intro d
  induction d with
  | zero => intro _ _ F hF; exact h F hF
  | succ d ih =>
    intro hd hs F hF
    obtain ⟨F, rfl⟩ : ∃ k, F = k + 1 := ⟨F - 1, by omega⟩
    refine ax_go hd (hs (j + (d + 1)) (by omega) (by omega) _ ?_)
    dsimp only
    have q := ih (by omega) (fun t h1 h2 => hs t h1 (by omega)) F (by omega)
    have e : nI (j + (d + 1)) - 1 = nI (j + d) := nI_pred (j + d)
    rw [e]
    exact q
theorem ar_skF {i j t : Nat} (hn : n ≤ 30) (ht : ∀ j, tx j = nI (tn j)) (hk : ∀ j, ag_tok (tn j)) (hf : ar_fn tn n i j) (hi : i < n) (h1 : j < t) (h2 : t ≤ i) {post : Int32 → SX → Prop} (h : post 0 (nI n, lv, tx, rk, rw, cl, nb, gv, wt)) : wpX_visit post (nI n, lv, tx, rk, rw, cl, nb, gv, wt) (nI t) := by
  rcases hf with ⟨m, rfl⟩ | ⟨g, i1, s, rfl, b⟩ | ⟨s, i1, b, rfl⟩ | ⟨s, i2, b, s2, rfl, b3⟩ | ⟨s, b, b2, rfl⟩
  · omega
  · have e : t = i := by omega
    subst e
    exact ax_skip hn ht hk hi (by omega) (by omega) (by omega) (fun P => ax_sO0 P hn ht hk hi (by omega) (by omega)) (fun P => ax_sF0 P hn ht hk hi (by omega) (by omega) (by omega)) h
  · have e : t = i := by omega
    subst e
    exact ax_skip hn ht hk hi (by omega) (by omega) (by omega) (fun P => ax_sO0 P hn ht hk hi (by omega) (by omega)) (fun P => ax_sFs0 P hn ht hi s i1 (Or.inl b)) h
  · by_cases e : t = i
    · subst e
      exact ax_skip hn ht hk hi (by omega) (by omega) (by omega) (fun P => ax_sO0 P hn ht hk hi (by omega) (by omega)) (fun P => ax_sFs0 P hn ht hi s (by omega) (Or.inr b)) h
    · have e2 : t = i - 1 := by omega
      subst e2
      exact ax_skip hn ht hk (by omega) (by omega) (by omega) (by omega) (fun P => ax_sO0 P hn ht hk (by omega) (by omega) (by omega)) (fun P => ax_sF0 P hn ht hk (by omega) (by omega) (by omega) (by omega)) h
  · omega
theorem ar_skN {f t : Nat} (hn : n ≤ 30) (ht : ∀ j, tx j = nI (tn j)) (hk : ∀ j, ag_tok (tn j)) (hi : t < n) (h1 : f < t) (hd : tn t ≤ 9) (hd2 : tn (t - 1) ≤ 9) {post : Int32 → SX → Prop} (h : post 0 (nI n, lv, tx, rk, rw, cl, nb, gv, wt)) : wpX_visit post (nI n, lv, tx, rk, rw, cl, nb, gv, wt) (nI t) :=
  ax_skip hn ht hk hi (by omega) (by omega) (by omega) (fun P => ax_sOn0 P hn ht hi hd (by omega) hd2) (fun P => ax_sF0 P hn ht hk hi (by omega) (by omega) (by omega)) h
theorem ar_skB {t : Nat} (hn : n ≤ 30) (ht : ∀ j, tx j = nI (tn j)) (hk : ∀ j, ag_tok (tn j)) (hi : t < n) (hd : tn t = 52) {post : Int32 → SX → Prop} (h : post 0 (nI n, lv, tx, rk, rw, cl, nb, gv, wt)) : wpX_visit post (nI n, lv, tx, rk, rw, cl, nb, gv, wt) (nI t) :=
  ax_skip hn ht hk hi (by omega) (by omega) (by omega) (fun P => ax_sO0 P hn ht hk hi (by omega) (by omega)) (fun P => ax_sF0 P hn ht hk hi (by omega) (by omega) (by omega)) h
theorem ar_run (tn : Nat → Nat) : ∀ i, tn i ≤ 9 → ∃ f, f ≤ i ∧ (∀ j, f ≤ j → j ≤ i → tn j ≤ 9) ∧ (1 ≤ f → ¬ tn (f - 1) ≤ 9) := by
  intro i
  induction i with
  | zero => intro h; exact ⟨0, by omega, fun j _ h2 => by rw [show j = 0 by omega]; exact h, fun z => by omega⟩
  | succ i ih =>
    intro h
    by_cases g : tn i ≤ 9
    · obtain ⟨f, a, b, c⟩ := ih g
      refine ⟨f, by omega, fun j h1 h2 => ?_, c⟩
      by_cases e : j = i + 1
      · subst e; exact h
      · exact b j h1 (by omega)
    · exact ⟨i + 1, by omega, fun j h1 h2 => by rw [show j = i + 1 by omega]; exact h, fun _ => g⟩
end
section
variable {ct lv er : Int32} {tx rk rw wd dt wt fi : Nat → Int32}
theorem ay_go {post : Int32 → SY → Prop} {F i : Nat} (hi : i < 30) (h : wpY_readToken (fun r u => match u with | (ct, lv, er, tx, rk, rw, wd, dt, wt, fi) => wY_run_64 post F (r - 1) ct lv er tx rk rw wd dt wt fi) (ct, lv, 0, tx, rk, rw, wd, dt, wt, fi) (nI i)) : wY_run_64 post (F + 1) (nI i) ct lv 0 tx rk rw wd dt wt fi := by
  have z : ¬ nI i < 0 := nI_pos (by omega)
  simp only [wY_run_64, z, forall_eq, false_implies, not_false_iff, true_implies, true_and, not_true, and_true]
  exact h
end
/-- what is to be shown of Y from place p on -/
def ar_YC (tn : Nat → Nat) (n : Nat) (tx rk0 rw0 wd0 dt0 : Nat → Int32) (L : Nat → ar_A) (S : Nat → Nat) (N : Nat → Option ar_A) (p : Nat) (post : Int32 → SY → Prop) : Prop :=
  ∀ rk rw wd dt wt fi, ar_YI tn n L S N (ag_dp tn p) rk0 rw0 wd0 dt0 rk rw wd dt wt fi → ∀ F, p < F → wY_run_64 post F (nI p - 1) (nI n) (nI (ag_dp tn p)) 0 tx rk rw wd dt wt fi
/-- what is to be shown of Y after an error -/
def ar_YE (n : Nat) (tx rk0 rw0 wd0 dt0 : Nat → Int32) (c : Int32) (post : Int32 → SY → Prop) : Prop :=
  ∀ lv rk rw wd dt wt fi, (∀ q, q < 6 → ap_C q q rk0 rw0 wd0 dt0 rk rw wd dt) → ap_C 12 12 rk0 rw0 wd0 dt0 rk rw wd dt → post c (nI n, lv, c, tx, rk, rw, wd, dt, wt, fi)
/-- what is to be shown of X from place p on -/
def ar_XC (tn : Nat → Nat) (n : Nat) (tx rk0 rw0 cl0 nb0 gv0 yk0 yw0 yd0 yt0 : Nat → Int32) (PX : Int32 → SX → Prop) (Q : Int32 → SX → Int32 → SY → Prop) (L : Nat → ar_A) (S : Nat → Nat) (N : Nat → Option ar_A) (p : Nat) : Prop :=
  ∀ rk rw cl nb gv wt, ar_XI tn n L S N (ag_dp tn p) rk0 rw0 cl0 nb0 gv0 rk rw cl nb gv wt → (∀ r u', ar_YC tn n tx yk0 yw0 yd0 yt0 L S N p (Q r u') → PX r u') → ∀ F, p < F → wX_run_38 PX F 0 (nI p - 1) (nI n) (nI (ag_dp tn p)) tx rk rw cl nb gv wt
def ar_XE (n : Nat) (tx rk0 rw0 cl0 nb0 gv0 yk0 yw0 yd0 yt0 : Nat → Int32) (Q : Int32 → SX → Int32 → SY → Prop) : Prop :=
  ∀ (c lv : Int32) (rk rw cl nb gv wt : Nat → Int32), c ≠ 0 → ap_K 7 rk0 rw0 cl0 nb0 rk rw cl nb → (∀ j, j < 7 → gv j = gv0 j) → ar_YE n tx yk0 yw0 yd0 yt0 c (Q c (nI n, lv, tx, rk, rw, cl, nb, gv, wt))
section
variable {tx rk0 rw0 cl0 nb0 gv0 yk0 yw0 yd0 yt0 : Nat → Int32} {PX : Int32 → SX → Prop} {Q : Int32 → SX → Int32 → SY → Prop} {tn : Nat → Nat} {n : Nat} {L : Nat → ar_A} {S : Nat → Nat} {N : Nat → Option ar_A}
/-- Y after an error at a step from i + 1 -/
theorem ar_yE {post : Int32 → SY → Prop} {c : Int32} {l : Nat} {rk rw wd dt wt fi : Nat → Int32} (YE : ar_YE n tx yk0 yw0 yd0 yt0 c post) (hc : c ≠ 0) (l15 : l ≤ 15) (B : ar_YB yk0 yw0 yd0 yt0 rk rw wd dt) : ∀ F x1, 0 < F → wY_run_64 post F x1 (nI n) (nI l) c tx rk rw wd dt wt fi :=
  ay_end l15 hc B (fun rk' rw' wd' dt' wt' h1 h2 => YE (nI l) rk' rw' wd' dt' wt' fi h1 h2)
theorem ar_cN {i f : Nat} (hn : n ≤ 30) (ht : ∀ j, tx j = nI (tn j)) (hk : ∀ j, ag_tok (tn j)) (OK : ag_ok tn n) (XE : ar_XE n tx rk0 rw0 cl0 nb0 gv0 yk0 yw0 yd0 yt0 Q) (hi : i < n) (hH : ag_H tn n (i + 1)) (PC : ar_PC tn S (i + 1))
    (hf : f ≤ i) (hd : ∀ j, f ≤ j → j ≤ i → tn j ≤ 9) (hb : 1 ≤ f → ¬ tn (f - 1) ≤ 9)
    (ih : ∀ L S N, ar_PC tn S f → ar_XC tn n tx rk0 rw0 cl0 nb0 gv0 yk0 yw0 yd0 yt0 PX Q L S N f) : ar_XC tn n tx rk0 rw0 cl0 nb0 gv0 yk0 yw0 yd0 yt0 PX Q L S N (i + 1) := by
  intro rk rw cl nb gv wt XI hyp F hF
  obtain ⟨Hf, sf, s4, dd⟩ := ag_Rnum hk OK hi hf hd hb
  have l15 := ag_d15 OK hn (p := i + 1) hi
  have s1 := PC.2.1 s4
  have st4 : ag_st tn (i + 1) = 4 := (ag_F1 _ (ag_s7 tn i) _ (ag_tk (hk i)) (ag_n0 OK.1 (q := i) (by omega)) (ag_n0 OK.1 (q := i + 1) hi) (hd i hf (Nat.le_refl i))).1
  have he : i + 1 < n → ¬ tn (i + 1) ≤ 9 := fun z => (hH.2 z).1 st4
  obtain ⟨K0, G0, XN, XL⟩ := XI
  generalize hl : ag_dp tn (i + 1) = l at *
  have Hl := XL l (Nat.le_refl l)
  rw [nI_pred]
  have go : ∀ F, f + 1 < F → wX_run_38 PX F 0 (nI f) (nI n) (nI l) tx rk rw cl nb gv wt := by
    intro F hF
    obtain ⟨F, rfl⟩ : ∃ k, F = k + 1 := ⟨F - 1, by omega⟩
    refine ax_go (by omega) ?_
    refine ax_vN hn ht hk l15 Hl s1 hf hi hd he hb (fun e rk' rw' cl' nb' wt' K => ?_) (fun e rk' rw' cl' nb' wt' K X w1 w2 => ?_)
    · refine ax_end (by omega) e (hyp _ _ ?_)
      have ye := XE _ (nI l) rk' rw' cl' nb' gv wt' e (ap_Kt K0 (ap_Km (by omega) K)) G0
      intro yk yw yd yt ywt yfi YI F2 hF2
      rw [hl] at YI ⊢
      obtain ⟨YB, YN, YL⟩ := YI
      obtain ⟨F2, rfl⟩ : ∃ k, F2 = k + 1 := ⟨F2 - 1, by omega⟩
      rw [nI_pred]
      refine ay_go (by omega) (ay_vN hn ht hk l15 (YL l (Nat.le_refl l)) s1 hf hi hd hb (fun bk bw bd bt K2 _ => ?_))
      exact ar_yE ye e l15 (ar_KYB K2 (by omega) YB) F2 _ (by omega)
    · have PC2 : ar_PC tn (ar_u S l 1) f := by
        refine ⟨fun j hj => ?_, fun z => by omega, fun _ => ?_⟩
        · rw [ar_un (by omega)]
          exact PC.1 j (by omega)
        · rw [← dd, ar_us]
          omega
      have X2 : ar_XI tn n (ar_u L l (ar_op tn n L S l (ar_num tn f i)).2) (ar_u S l 1) N (ag_dp tn f) rk0 rw0 cl0 nb0 gv0 rk' rw' cl' nb' gv wt' := by
        rw [← dd]
        exact ⟨ap_Kt K0 (ap_Km (by omega) K), G0, fun q hq => ar_KXN K (by omega) hq (XN q hq), ar_XLu XL K X w1 (by omega) (fun _ => w2) (fun z => by omega)⟩
      have nx := ih _ _ N PC2 rk' rw' cl' nb' gv wt' X2 (fun r u' yc => hyp r u' ?_) F (by omega)
      · rw [← dd] at nx
        exact nx
      · intro yk yw yd yt ywt yfi YI F2 hF2
        rw [hl] at YI ⊢
        obtain ⟨YB, YN, YL⟩ := YI
        obtain ⟨F2, rfl⟩ : ∃ k, F2 = k + 1 := ⟨F2 - 1, by omega⟩
        rw [nI_pred]
        refine ay_go (by omega) (ay_vN hn ht hk l15 (YL l (Nat.le_refl l)) s1 hf hi hd hb (fun bk bw bd bt K2 Y => ?_))
        have ny := yc bk bw bd bt (upd ywt l (-1)) (upd yfi l 1) (by
          rw [← dd]
          exact ⟨ar_KYB K2 (by omega) YB, fun q hq => ar_KYN K2 (by omega) hq (YN q hq), ar_YLu YL K2 (Y e) (fun j hj => pk_un hj) (fun j hj => pk_un hj) pk_us (by omega) (fun _ => pk_us) (fun z => by omega)⟩) F2 (by omega)
        rw [← dd] at ny
        dsimp only
        rw [e]
        exact ny
  have q := ax_sk (rk := rk) (rw := rw) (cl := cl) (nb := nb) (gv := gv) (wt := wt) go (i - f) (by omega) (fun t h1 h2 post h => ar_skN (f := f) hn ht hk (by omega) h1 (hd t (by omega) (by omega)) (hd (t - 1) (by omega) (by omega)) h) F (by omega)
  rw [show f + (i - f) = i by omega] at q
  exact q
theorem ar_cM {i : Nat} (hn : n ≤ 30) (ht : ∀ j, tx j = nI (tn j)) (hk : ∀ j, ag_tok (tn j)) (OK : ag_ok tn n) (XE : ar_XE n tx rk0 rw0 cl0 nb0 gv0 yk0 yw0 yd0 yt0 Q) (hi : i < n) (hH : ag_H tn n (i + 1)) (PC : ar_PC tn S (i + 1)) (hf : ag_nm (tn i))
    (ih : ∀ L S N, ar_PC tn S i → ar_XC tn n tx rk0 rw0 cl0 nb0 gv0 yk0 yw0 yd0 yt0 PX Q L S N i) : ar_XC tn n tx rk0 rw0 cl0 nb0 gv0 yk0 yw0 yd0 yt0 PX Q L S N (i + 1) := by
  intro rk rw cl nb gv wt XI hyp F hF
  obtain ⟨Hf, sf, s4, dd, n52⟩ := ag_Rname hk OK hi hH hf
  have l15 := ag_d15 OK hn (p := i + 1) hi
  have s1 := PC.2.1 s4
  obtain ⟨K0, G0, XN, XL⟩ := XI
  generalize hl : ag_dp tn (i + 1) = l at *
  have Hl := XL l (Nat.le_refl l)
  rw [nI_pred]
  obtain ⟨F, rfl⟩ : ∃ k, F = k + 1 := ⟨F - 1, by omega⟩
  have z11 : (-11 : Int32) ≠ 0 := by decide
  refine ax_go (by omega) (ax_vM hn ht hk l15 Hl s1 hi hf n52 (XN (tn i - 10) (by omega)) (fun e => ?_) (fun A e e2 rk' rw' cl' nb' wt' K => ?_) (fun A e e2 rk' rw' cl' nb' wt' K X w1 w2 => ?_))
  · refine ax_end (by omega) z11 (hyp _ _ ?_)
    have ye := XE _ (nI l) rk rw cl nb gv wt z11 K0 G0
    intro yk yw yd yt ywt yfi YI F2 hF2
    rw [hl] at YI ⊢
    obtain ⟨YB, YN, YL⟩ := YI
    obtain ⟨F2, rfl⟩ : ∃ k, F2 = k + 1 := ⟨F2 - 1, by omega⟩
    rw [nI_pred]
    refine ay_go (by omega) (ay_vM hn ht hk l15 (YL l (Nat.le_refl l)) s1 hi hf (YN (tn i - 10) (by omega)) (fun _ => ?_) (fun A e3 => by rw [e] at e3; exact absurd e3 (by simp)))
    exact ar_yE ye z11 l15 YB F2 _ (by omega)
  · refine ax_end (by omega) e2 (hyp _ _ ?_)
    have ye := XE _ (nI l) rk' rw' cl' nb' gv wt' e2 (ap_Kt K0 (ap_Km (by omega) K)) G0
    intro yk yw yd yt ywt yfi YI F2 hF2
    rw [hl] at YI ⊢
    obtain ⟨YB, YN, YL⟩ := YI
    obtain ⟨F2, rfl⟩ : ∃ k, F2 = k + 1 := ⟨F2 - 1, by omega⟩
    rw [nI_pred]
    refine ay_go (by omega) (ay_vM hn ht hk l15 (YL l (Nat.le_refl l)) s1 hi hf (YN (tn i - 10) (by omega)) (fun e3 => by rw [e] at e3; exact absurd e3 (by simp)) (fun B e3 bk bw bd bt K2 _ => ?_))
    have eB : B = A := by rw [e] at e3; exact (Option.some.inj e3).symm
    subst eB
    exact ar_yE ye e2 l15 (ar_KYB K2 (by omega) YB) F2 _ (by omega)
  · have PC2 : ar_PC tn (ar_u S l 1) i := by
      refine ⟨fun j hj => ?_, fun z => by omega, fun _ => ?_⟩
      · rw [ar_un (by omega)]
        exact PC.1 j (by omega)
      · rw [← dd, ar_us]
        omega
    have X2 : ar_XI tn n (ar_u L l (ar_op tn n L S l A).2) (ar_u S l 1) N (ag_dp tn i) rk0 rw0 cl0 nb0 gv0 rk' rw' cl' nb' gv wt' := by
      rw [← dd]
      exact ⟨ap_Kt K0 (ap_Km (by omega) K), G0, fun q hq => ar_KXN K (by omega) hq (XN q hq), ar_XLu XL K X w1 (by omega) (fun _ => w2) (fun z => by omega)⟩
    have nx := ih _ _ N PC2 rk' rw' cl' nb' gv wt' X2 (fun r u' yc => hyp r u' ?_) F (by omega)
    · rw [← dd] at nx
      exact nx
    · intro yk yw yd yt ywt yfi YI F2 hF2
      rw [hl] at YI ⊢
      obtain ⟨YB, YN, YL⟩ := YI
      obtain ⟨F2, rfl⟩ : ∃ k, F2 = k + 1 := ⟨F2 - 1, by omega⟩
      rw [nI_pred]
      refine ay_go (by omega) (ay_vM hn ht hk l15 (YL l (Nat.le_refl l)) s1 hi hf (YN (tn i - 10) (by omega)) (fun e3 => by rw [e] at e3; exact absurd e3 (by simp)) (fun B e3 bk bw bd bt K2 Y => ?_))
      have eB : B = A := by rw [e] at e3; exact (Option.some.inj e3).symm
      subst eB
      have ny := yc bk bw bd bt (upd ywt l (-1)) (upd yfi l 1) (by
        rw [← dd]
        exact ⟨ar_KYB K2 (by omega) YB, fun q hq => ar_KYN K2 (by omega) hq (YN q hq), ar_YLu YL K2 (Y e2) (fun j hj => pk_un hj) (fun j hj => pk_un hj) pk_us (by omega) (fun _ => pk_us) (fun z => by omega)⟩) F2 (by omega)
      rw [← dd] at ny
      dsimp only
      rw [e2]
      exact ny
theorem ar_cC {i : Nat} (hn : n ≤ 30) (ht : ∀ j, tx j = nI (tn j)) (hk : ∀ j, ag_tok (tn j)) (OK : ag_ok tn n) (hi : i < n) (PC : ar_PC tn S (i + 1)) (hf : tn i = 51)
    (ih : ∀ L S N, ar_PC tn S i → ar_XC tn n tx rk0 rw0 cl0 nb0 gv0 yk0 yw0 yd0 yt0 PX Q L S N i) : ar_XC tn n tx rk0 rw0 cl0 nb0 gv0 yk0 yw0 yd0 yt0 PX Q L S N (i + 1) := by
  intro rk rw cl nb gv wt XI hyp F hF
  obtain ⟨Hf, s4i, s4, dd⟩ := ag_Rclose hk OK hi hf
  have l15 := ag_d15 OK hn (p := i) (by omega)
  have s1 := PC.2.1 s4
  have pc1 := PC.1
  obtain ⟨K0, G0, XN, XL⟩ := XI
  generalize hl : ag_dp tn (i + 1) = l at *
  rw [nI_pred]
  obtain ⟨F, rfl⟩ : ∃ k, F = k + 1 := ⟨F - 1, by omega⟩
  refine ax_go (by omega) (ax_vC hn ht hk hi (by omega) hf ?_)
  dsimp only
  have PC2 : ar_PC tn (ar_u S (l + 1) 0) i := by
    refine ⟨fun j hj => ?_, fun _ => ?_, fun z => by omega⟩
    · rw [ar_un (by omega)]
      by_cases e : j = l
      · subst e; exact s1
      · exact pc1 j (by omega)
    · rw [dd, ar_us]
      omega
  have X2 : ar_XI tn n L (ar_u S (l + 1) 0) N (ag_dp tn i) rk0 rw0 cl0 nb0 gv0 rk rw cl nb gv (upd wt (l + 1) (-1)) := by
    rw [dd]
    refine ⟨K0, G0, XN, fun j hj => ?_⟩
    unfold ar_XL
    by_cases e : j = l + 1
    · subst e
      rw [ar_us]
      exact ⟨fun _ => pk_us, fun z => by omega, fun z => absurd rfl z⟩
    · rw [ar_un e, pk_un e]
      exact XL j (by omega)
  have nx := ih L _ N PC2 rk rw cl nb gv _ X2 (fun r u' yc => hyp r u' ?_) F (by omega)
  · rw [dd] at nx
    exact nx
  · intro yk yw yd yt ywt yfi YI F2 hF2
    rw [hl] at YI ⊢
    obtain ⟨YB, YN, YL⟩ := YI
    obtain ⟨F2, rfl⟩ : ∃ k, F2 = k + 1 := ⟨F2 - 1, by omega⟩
    rw [nI_pred]
    refine ay_go (by omega) (ay_vC hn ht (by omega) hi hf ?_)
    have ny := yc yk yw yd yt (upd ywt (l + 1) (-1)) (upd yfi (l + 1) 0) (by
      rw [dd]
      refine ⟨YB, YN, fun j hj => ?_⟩
      unfold ar_YL
      by_cases e : j = l + 1
      · subst e
        rw [ar_us]
        exact ⟨fun _ => pk_us, fun z => by omega, fun z => absurd rfl z, fun _ => pk_us⟩
      · rw [ar_un e, pk_un e, pk_un e]
        exact YL j (by omega)) F2 (by omega)
    rw [dd] at ny
    exact ny
end
end
section
/-! the two readings side by side: brackets, names given, functions, the end -/
section
variable {tx rk0 rw0 cl0 nb0 gv0 yk0 yw0 yd0 yt0 : Nat → Int32} {PX : Int32 → SX → Prop} {Q : Int32 → SX → Int32 → SY → Prop} {tn : Nat → Nat} {n : Nat} {L : Nat → ar_A} {S : Nat → Nat} {N : Nat → Option ar_A}
theorem ar_cF {i j : Nat} (hn : n ≤ 30) (ht : ∀ j, tx j = nI (tn j)) (hk : ∀ j, ag_tok (tn j)) (OK : ag_ok tn n) (XE : ar_XE n tx rk0 rw0 cl0 nb0 gv0 yk0 yw0 yd0 yt0 Q) (hi : i < n) (PC : ar_PC tn S (i + 1)) (hf : ar_fn tn n i j) (st : ag_st tn (i + 1) < 4) (dd : ag_dp tn (i + 1) = ag_dp tn j)
    (ih : ∀ L S N, ar_PC tn S j → ar_XC tn n tx rk0 rw0 cl0 nb0 gv0 yk0 yw0 yd0 yt0 PX Q L S N j) : ar_XC tn n tx rk0 rw0 cl0 nb0 gv0 yk0 yw0 yd0 yt0 PX Q L S N (i + 1) := by
  intro rk rw cl nb gv wt XI hyp F hF
  obtain ⟨ji, wf, hst⟩ := ar_fw hf hi
  have l15 := ag_d15 OK hn (p := i + 1) hi
  have s0 := PC.2.2 st
  have pc1 := PC.1
  obtain ⟨K0, G0, XN, XL⟩ := XI
  generalize hl : ag_dp tn (i + 1) = l at *
  have Hl := XL l (Nat.le_refl l)
  rw [nI_pred]
  have go : ∀ F, j + 1 < F → wX_run_38 PX F 0 (nI j) (nI n) (nI l) tx rk rw cl nb gv wt := by
    intro F hF
    obtain ⟨F, rfl⟩ : ∃ k, F = k + 1 := ⟨F - 1, by omega⟩
    refine ax_go (by omega) (ax_vF hn ht hk l15 Hl s0 (by omega) hst (fun e => ?_) (fun e rk' rw' cl' nb' wt' K X w1 w2 => ?_))
    · refine ax_end (by omega) e (hyp _ _ ?_)
      have ye := XE _ (nI l) rk rw cl nb gv (upd wt l (-1)) e K0 G0
      intro yk yw yd yt ywt yfi YI F2 hF2
      rw [hl] at YI ⊢
      obtain ⟨YB, YN, YL⟩ := YI
      obtain ⟨F2, rfl⟩ : ∃ k, F2 = k + 1 := ⟨F2 - 1, by omega⟩
      rw [nI_pred]
      refine ay_go (by omega) (ay_vF hn ht hk l15 (YL l (Nat.le_refl l)) s0 hi hf (fun bk bw bd bt K2 _ => ?_))
      exact ar_yE ye e l15 (ar_KYB K2 (by omega) YB) F2 _ (by omega)
    · have PC2 : ar_PC tn (ar_u S l (j + 2)) j := by
        refine ⟨fun k hk => ?_, fun _ => ?_, fun _ => ?_⟩
        · rw [ar_un (by omega)]
          exact pc1 k (by omega)
        · rw [← dd, ar_us]
          omega
        · rw [← dd, ar_us]
          omega
      have X2 : ar_XI tn n (ar_u L l (ar_se tn n L S l).2) (ar_u S l (j + 2)) N (ag_dp tn j) rk0 rw0 cl0 nb0 gv0 rk' rw' cl' nb' gv wt' := by
        rw [← dd]
        exact ⟨ap_Kt K0 (ap_Km (by omega) K), G0, fun q hq => ar_KXN K (by omega) hq (XN q hq), ar_XLu XL K X w1 (by omega) (fun z => by omega) (fun _ => ⟨w2, wf⟩)⟩
      have nx := ih _ _ N PC2 rk' rw' cl' nb' gv wt' X2 (fun r u' yc => hyp r u' ?_) F (by omega)
      · rw [← dd] at nx
        exact nx
      · intro yk yw yd yt ywt yfi YI F2 hF2
        rw [hl] at YI ⊢
        obtain ⟨YB, YN, YL⟩ := YI
        obtain ⟨F2, rfl⟩ : ∃ k, F2 = k + 1 := ⟨F2 - 1, by omega⟩
        rw [nI_pred]
        refine ay_go (by omega) (ay_vF hn ht hk l15 (YL l (Nat.le_refl l)) s0 hi hf (fun bk bw bd bt K2 Y => ?_))
        have fl := ((YL l (Nat.le_refl l)).2.2.1 s0).1
        have ny := yc bk bw bd bt (upd (upd ywt l (-1)) l (nI (ag_wd tn n j))) yfi (by
          rw [← dd]
          exact ⟨ar_KYB K2 (by omega) YB, fun q hq => ar_KYN K2 (by omega) hq (YN q hq), ar_YLu YL K2 (Y e) (fun k hk => by rw [pk_un hk, pk_un hk]) (fun _ _ => rfl) fl (by omega) (fun z => by omega) (fun _ => ⟨pk_us, wf⟩)⟩) F2 (by omega)
        rw [← dd] at ny
        dsimp only
        rw [e]
        exact ny
  have q := ax_sk (rk := rk) (rw := rw) (cl := cl) (nb := nb) (gv := gv) (wt := wt) go (i - j) (by omega) (fun t h1 h2 post h => ar_skF hn ht hk hf hi h1 (by omega) h) F (by omega)
  rw [show j + (i - j) = i by omega] at q
  exact q
theorem ar_cB {i : Nat} (hn : n ≤ 30) (ht : ∀ j, tx j = nI (tn j)) (hk : ∀ j, ag_tok (tn j)) (OK : ag_ok tn n) (XE : ar_XE n tx rk0 rw0 cl0 nb0 gv0 yk0 yw0 yd0 yt0 Q) (hi : i < n) (PC : ar_PC tn S (i + 1)) (hf : tn i = 52)
    (ih : ∀ L S N, ar_PC tn S (i - 1) → ar_XC tn n tx rk0 rw0 cl0 nb0 gv0 yk0 yw0 yd0 yt0 PX Q L S N (i - 1)) : ar_XC tn n tx rk0 rw0 cl0 nb0 gv0 yk0 yw0 yd0 yt0 PX Q L S N (i + 1) := by
  intro rk rw cl nb gv wt XI hyp F hF
  obtain ⟨i1, nm, Hf, sf, st, dd⟩ := ag_Rbec hk OK hi hf
  have l15 := ag_d15 OK hn (p := i + 1) hi
  have s0 := PC.2.2 st
  have pc1 := PC.1
  obtain ⟨K0, G0, XN, XL⟩ := XI
  generalize hl : ag_dp tn (i + 1) = l at *
  have Hl := XL l (Nat.le_refl l)
  rw [nI_pred]
  have ii : i - 1 + 1 = i := by omega
  obtain ⟨x, hx⟩ : ∃ x, tn (i - 1) = 10 + x := ⟨tn (i - 1) - 10, by omega⟩
  have e3 : tn (i - 1) - 3 = 7 + x := by omega
  have e10 : tn (i - 1) - 10 = x := by omega
  have go : ∀ F, i - 1 + 1 < F → wX_run_38 PX F 0 (nI (i - 1)) (nI n) (nI l) tx rk rw cl nb gv wt := by
    intro F hF
    obtain ⟨F, rfl⟩ : ∃ k, F = k + 1 := ⟨F - 1, by omega⟩
    refine ax_go (by omega) (ax_vB hn ht hk l15 Hl s0 (by omega) nm (by omega) (by rw [ii]; exact hf) (fun e => ?_) (fun e rk' rw' cl' nb' wt' K X w1 w2 => ?_))
    · refine ax_end (by omega) e (hyp _ _ ?_)
      have ye := XE _ (nI l) rk rw cl nb gv (upd wt l (-1)) e K0 G0
      intro yk yw yd yt ywt yfi YI F2 hF2
      rw [hl] at YI ⊢
      obtain ⟨YB, YN, YL⟩ := YI
      obtain ⟨F2, rfl⟩ : ∃ k, F2 = k + 1 := ⟨F2 - 1, by omega⟩
      rw [nI_pred]
      refine ay_go (by omega) (ay_vB hn ht l15 (YL l (Nat.le_refl l)) s0 hi hf i1 nm (fun _ bk bw bd bt K2 => ?_) (fun z => absurd z e))
      exact ar_yE ye e l15 (ar_KYB K2 (by omega) YB) F2 _ (by omega)
    · rw [e3]
      have PC2 : ar_PC tn (ar_u S l 1) (i - 1) := by
        refine ⟨fun k hk => ?_, fun z => by omega, fun _ => ?_⟩
        · rw [ar_un (by omega)]
          exact pc1 k (by omega)
        · rw [← dd, ar_us]
          omega
      have FX := ap_cpF (rk := rk') (rw := rw') (cl := cl') (nb := nb') (p := 14 + l) (q := 7 + x) (x := rk' (14 + l)) (y := rw' (14 + l)) (z := cl' (14 + l))
      have X2 : ar_XI tn n (ar_u L l (ar_se tn n L S l).2) (ar_u S l 1) (ar_u N x (some (ar_se tn n L S l).2)) (ag_dp tn (i - 1)) rk0 rw0 cl0 nb0 gv0 (upd rk' (7 + x) (rk' (14 + l))) (upd rw' (7 + x) (rw' (14 + l))) (upd cl' (7 + x) (cl' (14 + l))) (ap_cp nb' (14 + l) (7 + x) 36) (upd gv (7 + x) 1) wt' := by
        rw [← dd]
        have XL2 := ar_XLu XL K X w1 (s := 1) (by omega) (fun _ => w2) (fun z => by omega)
        refine ⟨ap_Kt (ap_Kt K0 (ap_Km (by omega) K)) (ap_KF (Or.inr (by omega)) FX), fun j hj => by rw [pk_un (by omega)]; exact G0 j hj, fun q hq => ?_, fun j hj => ?_⟩
        · by_cases e4 : q = x
          · subst e4
            exact Or.inr ⟨_, ar_us, pk_us, X.1, ap_cpX (ap_v36 X.1) X.2⟩
          · rcases ar_KXN K (by omega) hq (XN q hq) with ⟨a, b⟩ | ⟨A, a, b, c⟩
            · exact Or.inl ⟨by rw [ar_un e4]; exact a, by rw [pk_un (by omega)]; exact b⟩
            · exact Or.inr ⟨A, by rw [ar_un e4]; exact a, by rw [pk_un (by omega)]; exact b, c.1, ap_FX FX (by omega) (ap_v36 c.1) c.2⟩
        · obtain ⟨a, b, c⟩ := XL2 j hj
          exact ⟨a, b, fun z => ⟨(c z).1, ap_FX FX (by omega) (ap_v36 (c z).1) (c z).2⟩⟩
      have nx := ih _ _ _ PC2 _ _ _ _ _ wt' X2 (fun r u' yc => hyp r u' ?_) F (by omega)
      · rw [← dd] at nx
        exact nx
      · intro yk yw yd yt ywt yfi YI F2 hF2
        rw [hl] at YI ⊢
        obtain ⟨YB, YN, YL⟩ := YI
        obtain ⟨F2, rfl⟩ : ∃ k, F2 = k + 1 := ⟨F2 - 1, by omega⟩
        rw [nI_pred]
        refine ay_go (by omega) (ay_vB hn ht l15 (YL l (Nat.le_refl l)) s0 hi hf i1 nm (fun z => absurd e z) (fun _ bk bw bd bt K2 Y => ?_))
        rw [e10]
        have fl := ((YL l (Nat.le_refl l)).2.2.1 s0).1
        have FY := ap_cpF (rk := bk) (rw := bw) (cl := bd) (nb := bt) (p := 14 + l * 2) (q := x) (x := bk (14 + l * 2)) (y := bw (14 + l * 2)) (z := bd (14 + l * 2))
        have YL2 := ar_YLu YL K2 Y (wt' := upd ywt l (-1)) (fi' := yfi) (s := 1) (fun k hk => pk_un hk) (fun _ _ => rfl) fl (by omega) (fun _ => pk_us) (fun z => by omega)
        have YB2 := ar_KYB K2 (by omega) YB
        have ny := yc (upd bk x (bk (14 + l * 2))) (upd bw x (bw (14 + l * 2))) (upd bd x (bd (14 + l * 2))) (ap_cp bt (14 + l * 2) x 36) (upd ywt l (-1)) yfi (by
          rw [← dd]
          refine ⟨⟨fun q hq => ap_CF FY (by omega) (YB2.1 q hq), ap_CF FY (by omega) YB2.2⟩, fun q hq => ?_, fun j hj => ?_⟩
          · by_cases e4 : q = x
            · subst e4
              exact Or.inr ⟨_, ar_us, Y.1, ap_cpY (ap_v36 Y.1) Y.2⟩
            · rcases ar_KYN K2 (by omega) hq (YN q hq) with ⟨a, b⟩ | ⟨A, a, c⟩
              · exact Or.inl ⟨by rw [ar_un e4]; exact a, by rw [pk_un e4]; exact b⟩
              · exact Or.inr ⟨A, by rw [ar_un e4]; exact a, c.1, ap_FY FY e4 (ap_v36 c.1) c.2⟩
          · obtain ⟨a, b, c, d⟩ := YL2 j hj
            exact ⟨a, b, fun z => ⟨(c z).1, (c z).2.1, ap_FY FY (by omega) (ap_v36 (c z).2.1) (c z).2.2⟩, d⟩) F2 (by omega)
        rw [← dd] at ny
        exact ny
  have q := ax_sk (rk := rk) (rw := rw) (cl := cl) (nb := nb) (gv := gv) (wt := wt) go 1 (by omega) (fun t h1 h2 post h => ar_skB hn ht hk (by omega) (by rw [show t = i by omega]; exact hf) h) F (by omega)
  rw [ii] at q
  exact q
theorem ar_cO {i : Nat} (hn : n ≤ 30) (ht : ∀ j, tx j = nI (tn j)) (hk : ∀ j, ag_tok (tn j)) (OK : ag_ok tn n) (XE : ar_XE n tx rk0 rw0 cl0 nb0 gv0 yk0 yw0 yd0 yt0 Q) (hi : i < n) (PC : ar_PC tn S (i + 1)) (hf : tn i = 50)
    (ih : ∀ L S N, ar_PC tn S i → ar_XC tn n tx rk0 rw0 cl0 nb0 gv0 yk0 yw0 yd0 yt0 PX Q L S N i) : ar_XC tn n tx rk0 rw0 cl0 nb0 gv0 yk0 yw0 yd0 yt0 PX Q L S N (i + 1) := by
  intro rk rw cl nb gv wt XI hyp F hF
  obtain ⟨Hf, sf, st, dd⟩ := ag_Ropen hk OK hi hf
  have l15 := ag_d15 OK hn (p := i + 1) hi
  have s0 := PC.2.2 st
  have pc1 := PC.1
  obtain ⟨K0, G0, XN, XL⟩ := XI
  rw [dd] at l15 s0 pc1 XL
  generalize hl : ag_dp tn i = l at *
  have s1 := pc1 l (by omega)
  have Hl := XL (l + 1) (Nat.le_refl _)
  have Hl' := XL l (by omega)
  rw [nI_pred, dd]
  obtain ⟨F, rfl⟩ : ∃ k, F = k + 1 := ⟨F - 1, by omega⟩
  have XL0 : ∀ j, j ≤ l → ar_XL tn n L S rk rw cl nb wt j := fun j hj => XL j (by omega)
  refine ax_go (by omega) (ax_vO hn ht hk l15 Hl Hl' s0 s1 hi hf (fun e => ?_) (fun e e2 rk' rw' cl' nb' wt' K => ?_) (fun e e2 rk' rw' cl' nb' wt' K X w1 w2 => ?_))
  · refine ax_end (by omega) e (hyp _ _ ?_)
    have ye := XE _ (nI (l + 1)) rk rw cl nb gv (upd wt (l + 1) (-1)) e K0 G0
    intro yk yw yd yt ywt yfi YI F2 hF2
    rw [dd] at YI ⊢
    obtain ⟨YB, YN, YL⟩ := YI
    obtain ⟨F2, rfl⟩ : ∃ k, F2 = k + 1 := ⟨F2 - 1, by omega⟩
    rw [nI_pred]
    refine ay_go (by omega) (ay_vO hn ht l15 (YL (l + 1) (Nat.le_refl _)) (YL l (by omega)) s0 s1 hi hf (fun _ bk bw bd bt bwt bfi K2 => ?_) (fun z => absurd z e))
    exact ar_yE ye e (by omega) (ar_KYB K2 (by omega) YB) F2 _ (by omega)
  · refine ax_end (by omega) e2 (hyp _ _ ?_)
    have ye := XE _ (nI l) rk' rw' cl' nb' gv wt' e2 (ap_Kt K0 (ap_Km (by omega) K)) G0
    intro yk yw yd yt ywt yfi YI F2 hF2
    rw [dd] at YI ⊢
    obtain ⟨YB, YN, YL⟩ := YI
    obtain ⟨F2, rfl⟩ : ∃ k, F2 = k + 1 := ⟨F2 - 1, by omega⟩
    rw [nI_pred]
    refine ay_go (by omega) (ay_vO hn ht l15 (YL (l + 1) (Nat.le_refl _)) (YL l (by omega)) s0 s1 hi hf (fun z => absurd e z) (fun _ bk bw bd bt bwt bfi K2 _ _ _ _ => ?_))
    exact ar_yE ye e2 (by omega) (ar_KYB K2 (by omega) YB) F2 _ (by omega)
  · have PC2 : ar_PC tn (ar_u S l 1) i := by
      refine ⟨fun k hk => ?_, fun z => by omega, fun _ => ?_⟩
      · rw [ar_un (by omega)]
        exact pc1 k (by omega)
      · rw [hl, ar_us]
        omega
    have w1' : ∀ j, j ≤ l → j ≠ l → wt' j = wt j := fun j h1 h2 => w1 j (by omega)
    have X2 : ar_XI tn n (ar_u L l (ar_op tn n L S l (ar_se tn n L S (l + 1)).2).2) (ar_u S l 1) N (ag_dp tn i) rk0 rw0 cl0 nb0 gv0 rk' rw' cl' nb' gv wt' := by
      rw [hl]
      refine ⟨ap_Kt K0 (ap_Km (by omega) K), G0, fun q hq => ar_KXN K (by omega) hq (XN q hq), fun j hj => ?_⟩
      unfold ar_XL
      by_cases ej : j = l
      · subst ej
        rw [ar_us, ar_us]
        exact ⟨fun _ => w2, fun z => by omega, fun _ => X⟩
      · rw [ar_un ej, ar_un ej, w1 j (by omega)]
        obtain ⟨a, b, c⟩ := XL0 j hj
        exact ⟨a, b, fun z => ar_KXA K (by omega) (by omega) (c z)⟩
    have nx := ih _ _ N PC2 rk' rw' cl' nb' gv wt' X2 (fun r u' yc => hyp r u' ?_) F (by omega)
    · rw [hl] at nx
      exact nx
    · intro yk yw yd yt ywt yfi YI F2 hF2
      rw [dd] at YI ⊢
      obtain ⟨YB, YN, YL⟩ := YI
      obtain ⟨F2, rfl⟩ : ∃ k, F2 = k + 1 := ⟨F2 - 1, by omega⟩
      rw [nI_pred]
      refine ay_go (by omega) (ay_vO hn ht l15 (YL (l + 1) (Nat.le_refl _)) (YL l (by omega)) s0 s1 hi hf (fun z => absurd e z) (fun _ bk bw bd bt bwt bfi K2 Y v1 v2 v3 => ?_))
      have ny := yc bk bw bd bt bwt bfi (by
        rw [hl]
        refine ⟨ar_KYB K2 (by omega) YB, fun q hq => ar_KYN K2 (by omega) hq (YN q hq), fun j hj => ?_⟩
        unfold ar_YL
        by_cases ej : j = l
        · subst ej
          rw [ar_us, ar_us]
          exact ⟨fun _ => v2, fun z => by omega, fun _ => ⟨v3, Y e2⟩, fun z => by omega⟩
        · rw [ar_un ej, ar_un ej, (v1 j (by omega)).1, (v1 j (by omega)).2]
          obtain ⟨a, b, c, d⟩ := YL j (by omega)
          exact ⟨a, b, fun z => ⟨(c z).1, ar_KYA K2 (by omega) (by omega) (c z).2⟩, d⟩) F2 (by omega)
      rw [hl] at ny
      dsimp only
      rw [e2]
      exact ny
/-- what is to be shown at a good end: names and result -/
def ar_OK (n : Nat) (tx : Nat → Int32) (Q : Int32 → SX → Int32 → SY → Prop) : Prop :=
  ∀ (A : ar_A) (N : Nat → Option ar_A) (lv : Int32) (rk rw cl nb gv wt : Nat → Int32) (lv' : Int32) (yk yw yd yt ywt yfi : Nat → Int32),
    ar_XA rk rw cl nb 0 A → (∀ q, q < 6 → (N q = none ∧ gv (1 + q) = 0) ∨ ∃ B, N q = some B ∧ gv (1 + q) = 1 ∧ ar_XA rk rw cl nb (1 + q) B) →
    ar_YA yk yw yd yt 12 A → (∀ q, q < 6 → ar_YN N yk yw yd yt q) → Q (rk 0) (nI n, lv, tx, rk, rw, cl, nb, gv, wt) (yk 12) (nI n, lv', 0, tx, yk, yw, yd, yt, ywt, yfi)
theorem ar_c0 (hn : n ≤ 30) (ht : ∀ j, tx j = nI (tn j)) (hk : ∀ j, ag_tok (tn j)) (XE : ar_XE n tx rk0 rw0 cl0 nb0 gv0 yk0 yw0 yd0 yt0 Q) (XO : ar_OK n tx Q) (PC : ar_PC tn S 0) : ar_XC tn n tx rk0 rw0 cl0 nb0 gv0 yk0 yw0 yd0 yt0 PX Q L S N 0 := by
  intro rk rw cl nb gv wt XI hyp F hF
  have s0 : S 0 ≠ 0 := PC.2.2 (by decide : (1 : Nat) < 4)
  have dp0 : ag_dp tn 0 = 0 := rfl
  obtain ⟨K0, G0, XN, XL⟩ := XI
  rw [dp0] at XL ⊢
  have Hl := XL 0 (Nat.le_refl 0)
  have m1 : nI 0 - 1 < 0 := by decide
  obtain ⟨F, rfl⟩ : ∃ k, F = k + 1 := ⟨F - 1, by omega⟩
  refine br_t m1 (br_t rfl ?_)
  refine ax_se hn ht hk (by omega) Hl s0 (fun e => ?_) (fun e rk' rw' cl' nb' wt' K X w1 w2 => ?_)
  · dsimp only
    refine br_f e (hyp _ _ ?_)
    have ye := XE _ (nI 0) rk rw cl nb gv (upd wt 0 (-1)) e K0 G0
    intro yk yw yd yt ywt yfi YI F2 hF2
    rw [dp0] at YI ⊢
    obtain ⟨YB, YN, YL⟩ := YI
    obtain ⟨F2, rfl⟩ : ∃ k, F2 = k + 1 := ⟨F2 - 1, by omega⟩
    refine br_t m1 ?_
    unfold wY_run_86
    refine ay_se (by omega) (YL 0 (Nat.le_refl 0)) s0 (fun bk bw bd bt K2 _ => ?_)
    have en := ar_yE (fi := yfi) (wt := upd ywt 0 (-1)) (l := 0) ye e (by omega) (ar_KYB K2 (by omega) YB) 1 (-1) (by omega)
    have en2 := (en.1 (by decide))
    unfold wY_run_86 at en2
    have z : ¬ (0 : Int32) ≤ -1 := by decide
    simp (disch := omega) only [wpY_settle, e, pk_us, show (-1 : Int32) < 0 from by decide, vp_in_nI, nI_clamp, forall_eq, true_and, and_true, true_implies, false_implies, not_true, not_false_iff] at en2
    have uu : upd (upd ywt 0 (-1)) 0 (-1) = upd ywt 0 (-1) := by
      funext j
      by_cases h : j = 0
      · rw [h, pk_us, pk_us]
      · rw [pk_un h]
    rw [uu] at en2
    exact en2
  · dsimp only
    refine br_t rfl ?_
    have XN2 : ∀ q, q < 6 → ar_XN N rk' rw' cl' nb' gv q := fun q hq => ar_KXN K (by omega) hq (XN q hq)
    refine ax_cn (a := 7) (b := 1) (by omega) (by omega) (by omega) (fun q hq => ?_) (fun ak aw al an agv c1 c2 => ?_)
    · rcases XN2 q hq with ⟨_, g⟩ | ⟨_, _, g, _⟩
      · exact Or.inl g
      · exact Or.inr g
    · dsimp only
      refine ax_cp (a := 14) (b := 0) (by omega) (by omega) (by omega) ?_
      dsimp only
      refine hyp _ _ ?_
      have X14 : ar_XA ak aw al an 14 (ar_se tn n L S 0).2 := ⟨X.1, ap_CX (c2 14 (by omega)).1 (ap_v36 X.1) X.2⟩
      intro yk yw yd yt ywt yfi YI F2 hF2
      rw [dp0] at YI ⊢
      obtain ⟨YB, YN, YL⟩ := YI
      obtain ⟨F2, rfl⟩ : ∃ k, F2 = k + 1 := ⟨F2 - 1, by omega⟩
      refine br_t m1 ?_
      unfold wY_run_86
      refine ay_se (by omega) (YL 0 (Nat.le_refl 0)) s0 (fun bk bw bd bt K2 Y => ?_)
      dsimp only
      rw [e]
      refine ⟨1, br_f (by decide) (br_t rfl (br_t rfl ?_))⟩
      refine ay_cp (a := 14) (b := 12) (by omega) (by omega) (by omega) ?_
      dsimp only
      have Y14 := Y e
      refine XO (ar_se tn n L S 0).2 N _ _ _ _ _ _ _ _ _ _ _ _ _ _ ⟨X.1, ap_cpX (ap_v36 X.1) X14.2⟩ (fun q hq => ?_) ⟨Y14.1, ap_cpY (ap_v36 Y14.1) Y14.2⟩ (fun q hq => ?_)
      · rcases XN2 q hq with ⟨a, g⟩ | ⟨B, a, g, XB⟩
        · exact Or.inl ⟨a, (c1 q hq).2.trans g⟩
        · exact Or.inr ⟨B, a, (c1 q hq).2.trans g, XB.1, ap_FX ap_cpF (by omega) (ap_v36 XB.1) (ap_CX (c1 q hq).1 (ap_v36 XB.1) XB.2)⟩
      · rcases ar_KYN K2 (by omega) hq (YN q hq) with ⟨a, g⟩ | ⟨B, a, YB'⟩
        · exact Or.inl ⟨a, by rw [pk_un (by omega)]; exact g⟩
        · exact Or.inr ⟨B, a, YB'.1, ap_FY ap_cpF (by omega) (ap_v36 YB'.1) YB'.2⟩
theorem ar_LK (hn : n ≤ 30) (ht : ∀ j, tx j = nI (tn j)) (hk : ∀ j, ag_tok (tn j)) (OK : ag_ok tn n) (XE : ar_XE n tx rk0 rw0 cl0 nb0 gv0 yk0 yw0 yd0 yt0 Q) (XO : ar_OK n tx Q) :
    ∀ m p, p ≤ m → p ≤ n → ag_H tn n p → ∀ L S N, ar_PC tn S p → ar_XC tn n tx rk0 rw0 cl0 nb0 gv0 yk0 yw0 yd0 yt0 PX Q L S N p := by
  intro m
  induction m with
  | zero =>
    intro p h1 _ _ L S N PC
    have e : p = 0 := by omega
    subst e
    exact ar_c0 hn ht hk XE XO PC
  | succ m ih =>
    intro p h1 hp hH L S N PC
    by_cases p0 : p = 0
    · subst p0
      exact ar_c0 hn ht hk XE XO PC
    obtain ⟨i, rfl⟩ : ∃ i, p = i + 1 := ⟨p - 1, by omega⟩
    have hi : i < n := by omega
    have tk := hk i
    have n42 := ag_R42 hk OK hi hH
    unfold ag_tok at tk
    by_cases a : tn i ≤ 9
    · obtain ⟨f, f1, f2, f3⟩ := ar_run tn i a
      have R := ag_Rnum hk OK hi f1 f2 f3
      exact ar_cN hn ht hk OK XE hi hH PC f1 f2 f3 (fun L S N pc => ih f (by omega) (by omega) R.1 L S N pc)
    by_cases b : ag_nm (tn i)
    · have R := ag_Rname hk OK hi hH b
      exact ar_cM hn ht hk OK XE hi hH PC b (fun L S N pc => ih i (by omega) (by omega) R.1 L S N pc)
    by_cases c : tn i = 51
    · have R := ag_Rclose hk OK hi c
      exact ar_cC hn ht hk OK hi PC c (fun L S N pc => ih i (by omega) (by omega) R.1 L S N pc)
    by_cases d : tn i = 50
    · have R := ag_Ropen hk OK hi d
      exact ar_cO hn ht hk OK XE hi PC d (fun L S N pc => ih i (by omega) (by omega) R.1 L S N pc)
    by_cases e : tn i = 52
    · have R := ag_Rbec hk OK hi e
      exact ar_cB hn ht hk OK XE hi PC e (fun L S N pc => ih (i - 1) (by omega) (by omega) R.2.2.1 L S N pc)
    by_cases f : ag_mx (tn i)
    · have R := ag_Rmx hk OK hi f
      exact ar_cF (j := i) hn ht hk OK XE hi PC (Or.inl ⟨f, rfl⟩) R.2.1 R.2.2 (fun L S N pc => ih i (by omega) (by omega) R.1 L S N pc)
    by_cases g : tn i = 40 ∨ tn i = 41
    · have R := ag_Rsl hk OK hi g
      exact ar_cF (j := i - 1) hn ht hk OK XE hi PC (Or.inr (Or.inl ⟨g, R.1, R.2.1, rfl, R.2.2.2.2.2⟩)) R.2.2.2.1 R.2.2.2.2.1 (fun L S N pc => ih (i - 1) (by omega) (by omega) R.2.2.1 L S N pc)
    have s : ag_sc (tn i) := by omega
    obtain ⟨st, R⟩ := ag_Rsc hk OK hi hH s
    rcases R with ⟨r1, r2, r3, r4⟩ | ⟨r1, r2, r3, r4, r5, r6⟩ | ⟨r1, r2, r3, r4⟩
    · exact ar_cF (j := i - 1) hn ht hk OK XE hi PC (Or.inr (Or.inr (Or.inl ⟨s, r1, r2, rfl⟩))) st r4 (fun L S N pc => ih (i - 1) (by omega) (by omega) r3 L S N pc)
    · exact ar_cF (j := i - 2) hn ht hk OK XE hi PC (Or.inr (Or.inr (Or.inr (Or.inl ⟨s, r1, r2, r3, rfl, r6⟩)))) st r5 (fun L S N pc => ih (i - 2) (by omega) (by omega) r4 L S N pc)
    · exact ar_cF (j := i) hn ht hk OK XE hi PC (Or.inr (Or.inr (Or.inr (Or.inr ⟨s, r3, r4, rfl⟩)))) st r2 (fun L S N pc => ih i (by omega) (by omega) r1 L S N pc)
end
end
section
/-! run -/
theorem ar_ND {rk rw cl nb gv yk yw yd yt : Nat → Int32} (h : ∀ q, q < 6 → ar_N rk rw cl nb gv yk yw yd yt (1 + q) q) :
    ∃ N : Nat → Option ar_A, ∀ q, q < 6 → (N q = none ∧ gv (1 + q) = 0 ∧ yk q = -1) ∨ ∃ A, N q = some A ∧ gv (1 + q) = 1 ∧ ar_XA rk rw cl nb (1 + q) A ∧ ar_YA yk yw yd yt q A := by
  have e : ∀ q, ∃ o : Option ar_A, q < 6 → (o = none ∧ gv (1 + q) = 0 ∧ yk q = -1) ∨ ∃ A, o = some A ∧ gv (1 + q) = 1 ∧ ar_XA rk rw cl nb (1 + q) A ∧ ar_YA yk yw yd yt q A := by
    intro q
    by_cases hq : q < 6
    · rcases h q hq with ⟨g, R, r, c, d, V, X, Y⟩ | ⟨g, y⟩
      · exact ⟨some (R, r, c, d), fun _ => Or.inr ⟨_, rfl, g, ⟨V, X⟩, ⟨V, Y⟩⟩⟩
      · exact ⟨none, fun _ => Or.inl ⟨rfl, g, y⟩⟩
    · exact ⟨none, fun z => absurd z hq⟩
  exact ⟨fun q => Classical.choose (e q), fun q hq => Classical.choose_spec (e q) hq⟩
theorem i_vc_run {k : Nat} {u : SX} {v : SY} (I : i_Rel k u v) (hk : k + 5 ≤ 2560) : wpX_run (fun r u' => wpY_run (fun r' v' => r' = r ∧ i_Rel (k + 5) u' v') v) u := by
  obtain ⟨tc, lv, tx, rk, rw, cl, nb, gv, wt⟩ := u
  obtain ⟨ct, lv', er, tx', yk, yw, yd, yt, ywt, yfi⟩ := v
  have I0 := I
  obtain ⟨⟨n, hn, h1, h2⟩, e, hT, hV, hN⟩ := I
  dsimp only at h1 h2 e hT hV hN
  subst h1 h2 e
  obtain ⟨tn, t1, t2⟩ := ar_tn hT
  have z1 : ¬ (1 : Int32) = 0 := by decide
  unfold wpX_run
  refine ax_rd hn t1 t2 (fun ok => br_f z1 ?_) (fun no => br_t rfl ?_)
  case refine_2 =>
    unfold wpY_run
    exact ay_is hn t1 t2 (fun z => absurd z no) (fun _ => br_t rfl ⟨rfl, I0⟩)
  obtain ⟨N, ND⟩ := ar_ND hN
  have dp0 : ag_dp tn n = 0 := ok.2.1
  have XE : ar_XE n tx' rk rw cl nb gv yk yw yd yt (fun r u' r' v' => r' = r ∧ i_Rel (k + 5) u' v') := by
    intro c lv2 ak aw al an agv awt hc K G lv3 bk bw bd bt bwt bfi C C12
    refine ⟨rfl, ar_mx ⟨⟨n, hn, rfl, rfl⟩, rfl, hT, ?_, fun q hq => ?_⟩⟩
    · obtain ⟨R, r, c, d, V, X, Y⟩ := hV
      exact ⟨R, r, c, d, V, ap_KX K (by omega) (by omega) (ap_v36 V) X, ap_CY C12 (ap_v36 V) Y⟩
    · rcases hN q hq with ⟨g, R, r, c, d, V, X, Y⟩ | ⟨g, y⟩
      · exact Or.inl ⟨(G (1 + q) (by omega)).trans g, R, r, c, d, V, ap_KX K (by omega) (by omega) (ap_v36 V) X, ap_CY (C q hq) (ap_v36 V) Y⟩
      · exact Or.inr ⟨(G (1 + q) (by omega)).trans g, (C q hq).1.trans y⟩
  have XO : ar_OK n tx' (fun r u' r' v' => r' = r ∧ i_Rel (k + 5) u' v') := by
    intro A N2 lv2 ak aw al an agv awt lv3 bk bw bd bt bwt bfi XA XN YA YN
    refine ⟨YA.2.1.trans XA.2.1.symm, ar_mx ⟨⟨n, hn, rfl, rfl⟩, rfl, hT, ⟨_, _, _, _, XA.1, XA.2, YA.2⟩, fun q hq => ?_⟩⟩
    rcases XN q hq with ⟨a, g⟩ | ⟨B, a, g, XB⟩
    · rcases YN q hq with ⟨_, y⟩ | ⟨B', a', _⟩
      · exact Or.inr ⟨g, y⟩
      · rw [a] at a'
        exact absurd a' (by simp)
    · rcases YN q hq with ⟨a', _⟩ | ⟨B', a', YB⟩
      · rw [a] at a'
        exact absurd a' (by simp)
      · have eB : B' = B := by rw [a] at a'; exact (Option.some.inj a').symm
        subst eB
        exact Or.inl ⟨g, _, _, _, _, XB.1, XB.2, YB.2⟩
  have PC : ar_PC tn (fun _ => 0) n := by
    refine ⟨fun j _ => ?_, fun _ => ?_, fun z => ?_⟩
    · exact (by decide : (0 : Nat) ≠ 1)
    · exact (by decide : (0 : Nat) ≠ 1)
    · have := ok.2.2
      omega
  have hH : ag_H tn n n := by
    refine ⟨?_, fun z => by omega⟩
    have := ok.2.2
    omega
  refine ax_cn (a := 1) (b := 7) (by omega) (by omega) (by omega) (fun q hq => ?_) (fun ak aw al an agv c1 c2 => ?_)
  · rcases hN q hq with ⟨g, _⟩ | ⟨g, _⟩
    · exact Or.inr g
    · exact Or.inl g
  dsimp only
  refine nm_e (nm_e ⟨n + 1, ?_⟩)
  have XI : ar_XI tn n (fun _ => (0, 1, 1, fun _ => 0)) (fun _ => 0) N (ag_dp tn n) rk rw cl nb gv ak aw al an agv (upd wt 0 (-1)) := by
    rw [dp0]
    refine ⟨fun j h1 h2 => ?_, fun j hj => (c2 j (by omega)).2, fun q hq => ?_, fun j hj => ?_⟩
    · exact (c2 j (by omega)).1
    · rcases ND q hq with ⟨a, g, _⟩ | ⟨A, a, g, XA, _⟩
      · exact Or.inl ⟨a, (c1 q hq).2.trans g⟩
      · exact Or.inr ⟨A, a, (c1 q hq).2.trans g, XA.1, ap_CX (c1 q hq).1 (ap_v36 XA.1) XA.2⟩
    · have j0 : j = 0 := by omega
      subst j0
      exact ⟨fun _ => pk_us, fun z => absurd z (by decide : ¬ 2 ≤ 0), fun z => absurd rfl z⟩
  have g := ar_LK (PX := fun r u' => wpY_run (fun r' v' => r' = r ∧ i_Rel (k + 5) u' v') (nI n, lv', er, tx', yk, yw, yd, yt, ywt, yfi)) hn t1 t2 ok XE XO n n (Nat.le_refl n) (Nat.le_refl n) hH _ _ N PC ak aw al an agv _ XI (fun r u' yc => ?_) (n + 1) (by omega)
  · rw [dp0] at g
    exact g
  · unfold wpY_run
    refine ay_is hn t1 t2 (fun _ => br_f z1 ?_) (fun z => absurd ok z)
    refine pk_loop (σ := (Nat → Int32) × (Nat → Int32) × (Nat → Int32) × (Nat → Int32)) (fun m j s => wY_run_12 (fun r' v' => r' = r ∧ i_Rel (k + 5) u' v') m (nI j) (nI n) lv' er tx' s.1 s.2.1 s.2.2.1 s.2.2.2 ywt yfi)
      (fun j s => (∀ q, q < j → ap_C q (6 + q) yk yw yd yt s.1 s.2.1 s.2.2.1 s.2.2.2) ∧ (∀ q, q < 6 ∨ q = 12 → ap_C q q yk yw yd yt s.1 s.2.1 s.2.2.1 s.2.2.2)) 6 0 (yk, yw, yd, yt) (by omega) ⟨fun q h => by omega, fun q _ => ap_Cr q _ _ _ _⟩ (fun m s hI => ?_) (fun m j s hj hI ih => ?_)
    · refine br_t (by decide) (nm_e (nm_e (nm_e ⟨n + 1, ?_⟩)))
      have y := yc s.1 s.2.1 s.2.2.1 s.2.2.2 (upd ywt 0 (-1)) (upd yfi 0 (vp_nar .boolean 0)) (by
        rw [dp0]
        refine ⟨⟨hI.1, hI.2 12 (by omega)⟩, fun q hq => ?_, fun j hj => ?_⟩
        · rcases ND q hq with ⟨a, _, y⟩ | ⟨A, a, _, _, YA⟩
          · exact Or.inl ⟨a, (hI.2 q (by omega)).1.trans y⟩
          · exact Or.inr ⟨A, a, YA.1, ap_CY (hI.2 q (by omega)) (ap_v36 YA.1) YA.2⟩
        · have j0 : j = 0 := by omega
          subst j0
          exact ⟨fun _ => pk_us, fun z => absurd z (by decide : ¬ 2 ≤ 0), fun z => absurd rfl z, fun _ => pk_us.trans an_bf⟩) (n + 1) (by omega)
      rw [dp0] at y
      exact y
    · have z : ¬ (6 : Int32) ≤ nI j := nI_ge (b := 6) hj (by omega)
      refine br_f z ?_
      rw [an_b6]
      refine ay_cp (by omega) (by omega) (by omega) ?_
      dsimp only
      refine nm_r (nI_1 j) ?_
      refine ih (_, _, _, _) ⟨fun q hq => ?_, fun q hq => ?_⟩
      · by_cases e : q = j
        · subst e
          have C := hI.2 q (by omega)
          have D := ap_Cc (a := q) (b := 6 + q) (rk := s.1) (rw := s.2.1) (cl := s.2.2.1) (nb := s.2.2.2)
          exact ⟨D.1.trans C.1, D.2.1.trans C.2.1, D.2.2.1.trans C.2.2.1, fun i hi => (D.2.2.2 i hi).trans (C.2.2.2 i hi)⟩
        · exact ap_CF ap_cpF (by omega) (hI.1 q (by omega))
      · exact ap_CF ap_cpF (by omega) (hI.2 q hq)
end
