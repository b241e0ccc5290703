theorem pk_us {f : Nat → Int32} {k : Nat} {x : Int32} : upd f k x k = x := if_pos rfl
theorem pk_un {f : Nat → Int32} {k j : Nat} {x : Int32} (h : j ≠ k) : upd f k x j = f j := if_neg h
theorem pk_sub {a b : Nat} (h : b ≤ a) : nI a - nI b = nI (a - b) := by
  obtain ⟨c, rfl⟩ : ∃ c, a = c + b := ⟨a - b, by omega⟩
  rw [← nI_add, Int32.add_sub_cancel, Nat.add_sub_cancel]
theorem pk_m1 (n : Nat) : nI (n + 1) + (-1) = nI n := by
  rw [← nI_1, Int32.add_assoc, show (1 : Int32) + (-1) = 0 from rfl, Int32.add_zero]
theorem pk_mul (a b : Nat) : nI a * nI b = nI (a * b) := (Int32.ofNat_mul a b).symm
theorem pk_div {a d : Nat} (ha : a < 2 ^ 31) (h0 : 0 < d) (hd : d < 2 ^ 31) : nI a / nI d = nI (a / d) := by
  apply Int32.toInt_inj.mp
  rw [lg_idiv_nonneg (by rw [nI_toInt ha]; omega) (by rw [nI_toInt hd]; omega), nI_toInt ha, nI_toInt hd, nI_toInt (Nat.lt_of_le_of_lt (Nat.div_le_self a d) ha)]
  first | rfl | exact (Int.natCast_ediv _ _).symm
theorem pk_rem {a d : Nat} (ha : a < 2 ^ 31) (h0 : 0 < d) (hd : d < 2 ^ 31) : nI a - nI a / nI d * nI d = nI (a % d) := by
  rw [pk_div ha h0 hd, pk_mul, pk_sub (Nat.div_mul_le_self a d)]
  exact congrArg nI (by have := Nat.div_add_mod' a d; omega)
theorem pk_sub_toInt {a b : Nat} (ha : a < 2 ^ 30) (hb : b < 2 ^ 30) : (nI a - nI b).toInt = (a : Int) - b := by
  rw [Int32.toInt_sub, nI_toInt (by omega), nI_toInt (by omega)]
  exact Int.bmod_eq_of_le (by omega) (by omega)
theorem pk_sneg {a b : Nat} (hb : b < 2 ^ 30) (h : a < b) : nI a - nI b < 0 := by
  rw [Int32.lt_iff_toInt_lt, pk_sub_toInt (by omega) hb, show (0 : Int32).toInt = 0 from by decide]
  omega
theorem pk_ix (x : Int32) {n : Nat} (hn : n < 2 ^ 31) : x < 0 ∨ nI n ≤ x ∨ ∃ j : Nat, j < n ∧ x = nI j := by
  by_cases h : x < 0
  · exact Or.inl h
  · obtain ⟨j, hj, rfl⟩ := nI_of h
    by_cases h2 : j < n
    · exact Or.inr (Or.inr ⟨j, h2, rfl⟩)
    · exact Or.inr (Or.inl (nI_le (by omega) hj))
theorem pk_le {x y : Int32} {A B : Prop} (a b : Nat) (f : a ≤ b → A) (g : b < a → B) (hx : x = nI a := by rfl) (hy : y = nI b := by rfl) (ha : a < 2 ^ 31 := by omega) (hb : b < 2 ^ 31 := by omega) : (x ≤ y → A) ∧ (¬ x ≤ y → B) := by
  subst hx hy
  rw [nI_leI ha hb]
  exact ⟨f, fun z => g (by omega)⟩
theorem pk_lt {x y : Int32} {A B : Prop} (a b : Nat) (f : a < b → A) (g : b ≤ a → B) (hx : x = nI a := by rfl) (hy : y = nI b := by rfl) (ha : a < 2 ^ 31 := by omega) (hb : b < 2 ^ 31 := by omega) : (x < y → A) ∧ (¬ x < y → B) := by
  subst hx hy
  rw [nI_ltI ha hb]
  exact ⟨f, fun z => g (by omega)⟩
theorem pk_eq {x y : Int32} {A B : Prop} (a b : Nat) (f : a = b → A) (g : a ≠ b → B) (hx : x = nI a := by rfl) (hy : y = nI b := by rfl) (ha : a < 2 ^ 31 := by omega) (hb : b < 2 ^ 31 := by omega) : (x = y → A) ∧ (¬ x = y → B) := by
  subst hx hy
  rw [nI_eq ha hb]
  exact ⟨f, g⟩
theorem pk_in {x : Int32} (n N : Nat) (h : n < N) (hx : x = nI n := by rfl) (hN : N < 2 ^ 31 := by omega) : vp_in x N := by
  subst hx
  exact vp_in_nI h hN
theorem pk_cl {x : Int32} (n : Nat) (hx : x = nI n := by rfl) (h : n < 2 ^ 31 := by omega) : x.toNatClampNeg = n := by
  subst hx
  exact nI_clamp h
theorem pk_lT {n : Nat} (h : n < 2 ^ 63) : (lN n).toInt = (n : Int) := lg_ofNat_toInt h
theorem pk_lLT {a b : Nat} (ha : a < 2 ^ 63) (hb : b < 2 ^ 63) : lN a < lN b ↔ a < b := by
  rw [Int64.lt_iff_toInt_lt, pk_lT ha, pk_lT hb]; omega
theorem pk_lLE {a b : Nat} (ha : a < 2 ^ 63) (hb : b < 2 ^ 63) : lN a ≤ lN b ↔ a ≤ b := by
  rw [Int64.le_iff_toInt_le, pk_lT ha, pk_lT hb]; omega
theorem pk_lEQ {a b : Nat} (ha : a < 2 ^ 63) (hb : b < 2 ^ 63) : lN a = lN b ↔ a = b := by
  rw [← Int64.toInt_inj, pk_lT ha, pk_lT hb]; omega
theorem pk_lOf {x : Int64} (h : ¬ x < 0) : ∃ k : Nat, k < 2 ^ 63 ∧ x = lN k := by
  rw [Int64.lt_iff_toInt_lt] at h
  have h0 : (0 : Int64).toInt = 0 := by decide
  have hx := Int64.toInt_lt x
  refine ⟨x.toInt.toNat, by omega, Int64.toInt_inj.mp ?_⟩
  rw [pk_lT (by omega)]
  omega
theorem pk_lDiv {a b : Nat} (ha : a < 2 ^ 63) (h0 : 0 < b) (hb : b < 2 ^ 63) : lN a / lN b = lN (a / b) := by
  apply Int64.toInt_inj.mp
  rw [lg_ldiv_nonneg (by rw [pk_lT ha]; omega) (by rw [pk_lT hb]; omega), pk_lT ha, pk_lT hb, pk_lT (Nat.lt_of_le_of_lt (Nat.div_le_self a b) ha)]
  rfl
theorem pk_lRem {a b : Nat} (ha : a < 2 ^ 63) (h0 : 0 < b) (hb : b < 2 ^ 63) : lN a - lN a / lN b * lN b = lN (a % b) := by
  rw [pk_lDiv ha h0 hb, lN_mul, lN_sub (Nat.div_mul_le_self a b)]
  exact congrArg lN (by have := Nat.div_add_mod' a b; omega)
theorem pk_loop {σ : Type} (W : Nat → Nat → σ → Prop) (I : Nat → σ → Prop) (e i0 : Nat) (s : σ) (hi : i0 ≤ e) (h0 : I i0 s) (hx : ∀ n s, I e s → W (n + 1) e s)
    (hs : ∀ n i s, i < e → I i s → (∀ s', I (i + 1) s' → W n (i + 1) s') → W (n + 1) i s) : ∃ n, W n i0 s :=
  ⟨e + 1, loop_i W I e hx hs (e + 1) i0 s hi (by omega) h0⟩
theorem pk_loopD {σ : Type} (W : Nat → Nat → σ → Prop) (I : Nat → σ → Prop) (hx : ∀ n s, I 0 s → W (n + 1) 0 s)
    (hs : ∀ n i s, I (i + 1) s → (∀ s', I i s' → W n i s') → W (n + 1) (i + 1) s) : ∀ (e : Nat) (s : σ), I e s → W (e + 1) e s := by
  intro e
  induction e with
  | zero => exact fun s h => hx 0 s h
  | succ e ih => exact fun s h => hs (e + 1) e s h (fun s' h' => ih s' h')
theorem an_e0 {a : Nat} (h : a < 2 ^ 31) : (nI a = 0) = (a = 0) := propext (nI_eq (b := 0) h (by decide))
theorem an_l0 {a : Nat} (h : a < 2 ^ 31) : (nI a ≤ 0) = (a ≤ 0) := propext (nI_leI (b := 0) h (by decide))
theorem an_g0 {a : Nat} (h : a < 2 ^ 31) : (0 ≤ nI a) = (0 ≤ a) := propext (nI_leI (a := 0) (by decide) h)
theorem an_t0 {a : Nat} (h : a < 2 ^ 31) : (nI a < 0) = (a < 0) := propext (nI_ltI (b := 0) h (by decide))
theorem an_u0 {a : Nat} (h : a < 2 ^ 31) : (0 < nI a) = (0 < a) := propext (nI_ltI (a := 0) (by decide) h)
theorem an_a0 (a : Nat) : nI a + 0 = nI (a + 0) := nI_add a 0
theorem an_b0 (a : Nat) : 0 + nI a = nI (0 + a) := nI_add 0 a
theorem an_m0 (a : Nat) : nI a * 0 = nI (a * 0) := pk_mul a 0
theorem an_n0 (a : Nat) : 0 * nI a = nI (a * 0) := by rw [Nat.mul_comm]; exact pk_mul 0 a
theorem an_k0 : (0 : Int32) = nI 0 := rfl
theorem an_e1 {a : Nat} (h : a < 2 ^ 31) : (nI a = 1) = (a = 1) := propext (nI_eq (b := 1) h (by decide))
theorem an_l1 {a : Nat} (h : a < 2 ^ 31) : (nI a ≤ 1) = (a ≤ 1) := propext (nI_leI (b := 1) h (by decide))
theorem an_g1 {a : Nat} (h : a < 2 ^ 31) : (1 ≤ nI a) = (1 ≤ a) := propext (nI_leI (a := 1) (by decide) h)
theorem an_t1 {a : Nat} (h : a < 2 ^ 31) : (nI a < 1) = (a < 1) := propext (nI_ltI (b := 1) h (by decide))
theorem an_u1 {a : Nat} (h : a < 2 ^ 31) : (1 < nI a) = (1 < a) := propext (nI_ltI (a := 1) (by decide) h)
theorem an_a1 (a : Nat) : nI a + 1 = nI (a + 1) := nI_add a 1
theorem an_b1 (a : Nat) : 1 + nI a = nI (1 + a) := nI_add 1 a
theorem an_m1 (a : Nat) : nI a * 1 = nI (a * 1) := pk_mul a 1
theorem an_n1 (a : Nat) : 1 * nI a = nI (a * 1) := by rw [Nat.mul_comm]; exact pk_mul 1 a
theorem an_k1 : (1 : Int32) = nI 1 := rfl
theorem an_e2 {a : Nat} (h : a < 2 ^ 31) : (nI a = 2) = (a = 2) := propext (nI_eq (b := 2) h (by decide))
theorem an_l2 {a : Nat} (h : a < 2 ^ 31) : (nI a ≤ 2) = (a ≤ 2) := propext (nI_leI (b := 2) h (by decide))
theorem an_g2 {a : Nat} (h : a < 2 ^ 31) : (2 ≤ nI a) = (2 ≤ a) := propext (nI_leI (a := 2) (by decide) h)
theorem an_t2 {a : Nat} (h : a < 2 ^ 31) : (nI a < 2) = (a < 2) := propext (nI_ltI (b := 2) h (by decide))
theorem an_u2 {a : Nat} (h : a < 2 ^ 31) : (2 < nI a) = (2 < a) := propext (nI_ltI (a := 2) (by decide) h)
theorem an_a2 (a : Nat) : nI a + 2 = nI (a + 2) := nI_add a 2
theorem an_b2 (a : Nat) : 2 + nI a = nI (2 + a) := nI_add 2 a
theorem an_m2 (a : Nat) : nI a * 2 = nI (a * 2) := pk_mul a 2
theorem an_n2 (a : Nat) : 2 * nI a = nI (a * 2) := by rw [Nat.mul_comm]; exact pk_mul 2 a
theorem an_k2 : (2 : Int32) = nI 2 := rfl
theorem an_e3 {a : Nat} (h : a < 2 ^ 31) : (nI a = 3) = (a = 3) := propext (nI_eq (b := 3) h (by decide))
theorem an_l3 {a : Nat} (h : a < 2 ^ 31) : (nI a ≤ 3) = (a ≤ 3) := propext (nI_leI (b := 3) h (by decide))
theorem an_g3 {a : Nat} (h : a < 2 ^ 31) : (3 ≤ nI a) = (3 ≤ a) := propext (nI_leI (a := 3) (by decide) h)
theorem an_t3 {a : Nat} (h : a < 2 ^ 31) : (nI a < 3) = (a < 3) := propext (nI_ltI (b := 3) h (by decide))
theorem an_u3 {a : Nat} (h : a < 2 ^ 31) : (3 < nI a) = (3 < a) := propext (nI_ltI (a := 3) (by decide) h)
theorem an_a3 (a : Nat) : nI a + 3 = nI (a + 3) := nI_add a 3
theorem an_b3 (a : Nat) : 3 + nI a = nI (3 + a) := nI_add 3 a
theorem an_m3 (a : Nat) : nI a * 3 = nI (a * 3) := pk_mul a 3
theorem an_n3 (a : Nat) : 3 * nI a = nI (a * 3) := by rw [Nat.mul_comm]; exact pk_mul 3 a
theorem an_k3 : (3 : Int32) = nI 3 := rfl
theorem an_e4 {a : Nat} (h : a < 2 ^ 31) : (nI a = 4) = (a = 4) := propext (nI_eq (b := 4) h (by decide))
theorem an_l4 {a : Nat} (h : a < 2 ^ 31) : (nI a ≤ 4) = (a ≤ 4) := propext (nI_leI (b := 4) h (by decide))
theorem an_g4 {a : Nat} (h : a < 2 ^ 31) : (4 ≤ nI a) = (4 ≤ a) := propext (nI_leI (a := 4) (by decide) h)
theorem an_t4 {a : Nat} (h : a < 2 ^ 31) : (nI a < 4) = (a < 4) := propext (nI_ltI (b := 4) h (by decide))
theorem an_u4 {a : Nat} (h : a < 2 ^ 31) : (4 < nI a) = (4 < a) := propext (nI_ltI (a := 4) (by decide) h)
theorem an_a4 (a : Nat) : nI a + 4 = nI (a + 4) := nI_add a 4
theorem an_b4 (a : Nat) : 4 + nI a = nI (4 + a) := nI_add 4 a
theorem an_m4 (a : Nat) : nI a * 4 = nI (a * 4) := pk_mul a 4
theorem an_n4 (a : Nat) : 4 * nI a = nI (a * 4) := by rw [Nat.mul_comm]; exact pk_mul 4 a
theorem an_k4 : (4 : Int32) = nI 4 := rfl
theorem an_e5 {a : Nat} (h : a < 2 ^ 31) : (nI a = 5) = (a = 5) := propext (nI_eq (b := 5) h (by decide))
theorem an_l5 {a : Nat} (h : a < 2 ^ 31) : (nI a ≤ 5) = (a ≤ 5) := propext (nI_leI (b := 5) h (by decide))
theorem an_g5 {a : Nat} (h : a < 2 ^ 31) : (5 ≤ nI a) = (5 ≤ a) := propext (nI_leI (a := 5) (by decide) h)
theorem an_t5 {a : Nat} (h : a < 2 ^ 31) : (nI a < 5) = (a < 5) := propext (nI_ltI (b := 5) h (by decide))
theorem an_u5 {a : Nat} (h : a < 2 ^ 31) : (5 < nI a) = (5 < a) := propext (nI_ltI (a := 5) (by decide) h)
theorem an_a5 (a : Nat) : nI a + 5 = nI (a + 5) := nI_add a 5
theorem an_b5 (a : Nat) : 5 + nI a = nI (5 + a) := nI_add 5 a
theorem an_m5 (a : Nat) : nI a * 5 = nI (a * 5) := pk_mul a 5
theorem an_n5 (a : Nat) : 5 * nI a = nI (a * 5) := by rw [Nat.mul_comm]; exact pk_mul 5 a
theorem an_k5 : (5 : Int32) = nI 5 := rfl
theorem an_e6 {a : Nat} (h : a < 2 ^ 31) : (nI a = 6) = (a = 6) := propext (nI_eq (b := 6) h (by decide))
theorem an_l6 {a : Nat} (h : a < 2 ^ 31) : (nI a ≤ 6) = (a ≤ 6) := propext (nI_leI (b := 6) h (by decide))
theorem an_g6 {a : Nat} (h : a < 2 ^ 31) : (6 ≤ nI a) = (6 ≤ a) := propext (nI_leI (a := 6) (by decide) h)
theorem an_t6 {a : Nat} (h : a < 2 ^ 31) : (nI a < 6) = (a < 6) := propext (nI_ltI (b := 6) h (by decide))
theorem an_u6 {a : Nat} (h : a < 2 ^ 31) : (6 < nI a) = (6 < a) := propext (nI_ltI (a := 6) (by decide) h)
theorem an_a6 (a : Nat) : nI a + 6 = nI (a + 6) := nI_add a 6
theorem an_b6 (a : Nat) : 6 + nI a = nI (6 + a) := nI_add 6 a
theorem an_m6 (a : Nat) : nI a * 6 = nI (a * 6) := pk_mul a 6
theorem an_n6 (a : Nat) : 6 * nI a = nI (a * 6) := by rw [Nat.mul_comm]; exact pk_mul 6 a
theorem an_k6 : (6 : Int32) = nI 6 := rfl
theorem an_e9 {a : Nat} (h : a < 2 ^ 31) : (nI a = 9) = (a = 9) := propext (nI_eq (b := 9) h (by decide))
theorem an_l9 {a : Nat} (h : a < 2 ^ 31) : (nI a ≤ 9) = (a ≤ 9) := propext (nI_leI (b := 9) h (by decide))
theorem an_g9 {a : Nat} (h : a < 2 ^ 31) : (9 ≤ nI a) = (9 ≤ a) := propext (nI_leI (a := 9) (by decide) h)
theorem an_t9 {a : Nat} (h : a < 2 ^ 31) : (nI a < 9) = (a < 9) := propext (nI_ltI (b := 9) h (by decide))
theorem an_u9 {a : Nat} (h : a < 2 ^ 31) : (9 < nI a) = (9 < a) := propext (nI_ltI (a := 9) (by decide) h)
theorem an_a9 (a : Nat) : nI a + 9 = nI (a + 9) := nI_add a 9
theorem an_b9 (a : Nat) : 9 + nI a = nI (9 + a) := nI_add 9 a
theorem an_m9 (a : Nat) : nI a * 9 = nI (a * 9) := pk_mul a 9
theorem an_n9 (a : Nat) : 9 * nI a = nI (a * 9) := by rw [Nat.mul_comm]; exact pk_mul 9 a
theorem an_k9 : (9 : Int32) = nI 9 := rfl
theorem an_e10 {a : Nat} (h : a < 2 ^ 31) : (nI a = 10) = (a = 10) := propext (nI_eq (b := 10) h (by decide))
theorem an_l10 {a : Nat} (h : a < 2 ^ 31) : (nI a ≤ 10) = (a ≤ 10) := propext (nI_leI (b := 10) h (by decide))
theorem an_g10 {a : Nat} (h : a < 2 ^ 31) : (10 ≤ nI a) = (10 ≤ a) := propext (nI_leI (a := 10) (by decide) h)
theorem an_t10 {a : Nat} (h : a < 2 ^ 31) : (nI a < 10) = (a < 10) := propext (nI_ltI (b := 10) h (by decide))
theorem an_u10 {a : Nat} (h : a < 2 ^ 31) : (10 < nI a) = (10 < a) := propext (nI_ltI (a := 10) (by decide) h)
theorem an_a10 (a : Nat) : nI a + 10 = nI (a + 10) := nI_add a 10
theorem an_b10 (a : Nat) : 10 + nI a = nI (10 + a) := nI_add 10 a
theorem an_m10 (a : Nat) : nI a * 10 = nI (a * 10) := pk_mul a 10
theorem an_n10 (a : Nat) : 10 * nI a = nI (a * 10) := by rw [Nat.mul_comm]; exact pk_mul 10 a
theorem an_k10 : (10 : Int32) = nI 10 := rfl
theorem an_e12 {a : Nat} (h : a < 2 ^ 31) : (nI a = 12) = (a = 12) := propext (nI_eq (b := 12) h (by decide))
theorem an_l12 {a : Nat} (h : a < 2 ^ 31) : (nI a ≤ 12) = (a ≤ 12) := propext (nI_leI (b := 12) h (by decide))
theorem an_g12 {a : Nat} (h : a < 2 ^ 31) : (12 ≤ nI a) = (12 ≤ a) := propext (nI_leI (a := 12) (by decide) h)
theorem an_t12 {a : Nat} (h : a < 2 ^ 31) : (nI a < 12) = (a < 12) := propext (nI_ltI (b := 12) h (by decide))
theorem an_u12 {a : Nat} (h : a < 2 ^ 31) : (12 < nI a) = (12 < a) := propext (nI_ltI (a := 12) (by decide) h)
theorem an_a12 (a : Nat) : nI a + 12 = nI (a + 12) := nI_add a 12
theorem an_b12 (a : Nat) : 12 + nI a = nI (12 + a) := nI_add 12 a
theorem an_m12 (a : Nat) : nI a * 12 = nI (a * 12) := pk_mul a 12
theorem an_n12 (a : Nat) : 12 * nI a = nI (a * 12) := by rw [Nat.mul_comm]; exact pk_mul 12 a
theorem an_k12 : (12 : Int32) = nI 12 := rfl
theorem an_e13 {a : Nat} (h : a < 2 ^ 31) : (nI a = 13) = (a = 13) := propext (nI_eq (b := 13) h (by decide))
theorem an_l13 {a : Nat} (h : a < 2 ^ 31) : (nI a ≤ 13) = (a ≤ 13) := propext (nI_leI (b := 13) h (by decide))
theorem an_g13 {a : Nat} (h : a < 2 ^ 31) : (13 ≤ nI a) = (13 ≤ a) := propext (nI_leI (a := 13) (by decide) h)
theorem an_t13 {a : Nat} (h : a < 2 ^ 31) : (nI a < 13) = (a < 13) := propext (nI_ltI (b := 13) h (by decide))
theorem an_u13 {a : Nat} (h : a < 2 ^ 31) : (13 < nI a) = (13 < a) := propext (nI_ltI (a := 13) (by decide) h)
theorem an_a13 (a : Nat) : nI a + 13 = nI (a + 13) := nI_add a 13
theorem an_b13 (a : Nat) : 13 + nI a = nI (13 + a) := nI_add 13 a
theorem an_m13 (a : Nat) : nI a * 13 = nI (a * 13) := pk_mul a 13
theorem an_n13 (a : Nat) : 13 * nI a = nI (a * 13) := by rw [Nat.mul_comm]; exact pk_mul 13 a
theorem an_k13 : (13 : Int32) = nI 13 := rfl
theorem an_e14 {a : Nat} (h : a < 2 ^ 31) : (nI a = 14) = (a = 14) := propext (nI_eq (b := 14) h (by decide))
theorem an_l14 {a : Nat} (h : a < 2 ^ 31) : (nI a ≤ 14) = (a ≤ 14) := propext (nI_leI (b := 14) h (by decide))
theorem an_g14 {a : Nat} (h : a < 2 ^ 31) : (14 ≤ nI a) = (14 ≤ a) := propext (nI_leI (a := 14) (by decide) h)
theorem an_t14 {a : Nat} (h : a < 2 ^ 31) : (nI a < 14) = (a < 14) := propext (nI_ltI (b := 14) h (by decide))
theorem an_u14 {a : Nat} (h : a < 2 ^ 31) : (14 < nI a) = (14 < a) := propext (nI_ltI (a := 14) (by decide) h)
theorem an_a14 (a : Nat) : nI a + 14 = nI (a + 14) := nI_add a 14
theorem an_b14 (a : Nat) : 14 + nI a = nI (14 + a) := nI_add 14 a
theorem an_m14 (a : Nat) : nI a * 14 = nI (a * 14) := pk_mul a 14
theorem an_n14 (a : Nat) : 14 * nI a = nI (a * 14) := by rw [Nat.mul_comm]; exact pk_mul 14 a
theorem an_k14 : (14 : Int32) = nI 14 := rfl
theorem an_e15 {a : Nat} (h : a < 2 ^ 31) : (nI a = 15) = (a = 15) := propext (nI_eq (b := 15) h (by decide))
theorem an_l15 {a : Nat} (h : a < 2 ^ 31) : (nI a ≤ 15) = (a ≤ 15) := propext (nI_leI (b := 15) h (by decide))
theorem an_g15 {a : Nat} (h : a < 2 ^ 31) : (15 ≤ nI a) = (15 ≤ a) := propext (nI_leI (a := 15) (by decide) h)
theorem an_t15 {a : Nat} (h : a < 2 ^ 31) : (nI a < 15) = (a < 15) := propext (nI_ltI (b := 15) h (by decide))
theorem an_u15 {a : Nat} (h : a < 2 ^ 31) : (15 < nI a) = (15 < a) := propext (nI_ltI (a := 15) (by decide) h)
theorem an_a15 (a : Nat) : nI a + 15 = nI (a + 15) := nI_add a 15
theorem an_b15 (a : Nat) : 15 + nI a = nI (15 + a) := nI_add 15 a
theorem an_m15 (a : Nat) : nI a * 15 = nI (a * 15) := pk_mul a 15
theorem an_n15 (a : Nat) : 15 * nI a = nI (a * 15) := by rw [Nat.mul_comm]; exact pk_mul 15 a
theorem an_k15 : (15 : Int32) = nI 15 := rfl
theorem an_e16 {a : Nat} (h : a < 2 ^ 31) : (nI a = 16) = (a = 16) := propext (nI_eq (b := 16) h (by decide))
theorem an_l16 {a : Nat} (h : a < 2 ^ 31) : (nI a ≤ 16) = (a ≤ 16) := propext (nI_leI (b := 16) h (by decide))
theorem an_g16 {a : Nat} (h : a < 2 ^ 31) : (16 ≤ nI a) = (16 ≤ a) := propext (nI_leI (a := 16) (by decide) h)
theorem an_t16 {a : Nat} (h : a < 2 ^ 31) : (nI a < 16) = (a < 16) := propext (nI_ltI (b := 16) h (by decide))
theorem an_u16 {a : Nat} (h : a < 2 ^ 31) : (16 < nI a) = (16 < a) := propext (nI_ltI (a := 16) (by decide) h)
theorem an_a16 (a : Nat) : nI a + 16 = nI (a + 16) := nI_add a 16
theorem an_b16 (a : Nat) : 16 + nI a = nI (16 + a) := nI_add 16 a
theorem an_m16 (a : Nat) : nI a * 16 = nI (a * 16) := pk_mul a 16
theorem an_n16 (a : Nat) : 16 * nI a = nI (a * 16) := by rw [Nat.mul_comm]; exact pk_mul 16 a
theorem an_k16 : (16 : Int32) = nI 16 := rfl
theorem an_e20 {a : Nat} (h : a < 2 ^ 31) : (nI a = 20) = (a = 20) := propext (nI_eq (b := 20) h (by decide))
theorem an_l20 {a : Nat} (h : a < 2 ^ 31) : (nI a ≤ 20) = (a ≤ 20) := propext (nI_leI (b := 20) h (by decide))
theorem an_g20 {a : Nat} (h : a < 2 ^ 31) : (20 ≤ nI a) = (20 ≤ a) := propext (nI_leI (a := 20) (by decide) h)
theorem an_t20 {a : Nat} (h : a < 2 ^ 31) : (nI a < 20) = (a < 20) := propext (nI_ltI (b := 20) h (by decide))
theorem an_u20 {a : Nat} (h : a < 2 ^ 31) : (20 < nI a) = (20 < a) := propext (nI_ltI (a := 20) (by decide) h)
theorem an_a20 (a : Nat) : nI a + 20 = nI (a + 20) := nI_add a 20
theorem an_b20 (a : Nat) : 20 + nI a = nI (20 + a) := nI_add 20 a
theorem an_m20 (a : Nat) : nI a * 20 = nI (a * 20) := pk_mul a 20
theorem an_n20 (a : Nat) : 20 * nI a = nI (a * 20) := by rw [Nat.mul_comm]; exact pk_mul 20 a
theorem an_k20 : (20 : Int32) = nI 20 := rfl
theorem an_e21 {a : Nat} (h : a < 2 ^ 31) : (nI a = 21) = (a = 21) := propext (nI_eq (b := 21) h (by decide))
theorem an_l21 {a : Nat} (h : a < 2 ^ 31) : (nI a ≤ 21) = (a ≤ 21) := propext (nI_leI (b := 21) h (by decide))
theorem an_g21 {a : Nat} (h : a < 2 ^ 31) : (21 ≤ nI a) = (21 ≤ a) := propext (nI_leI (a := 21) (by decide) h)
theorem an_t21 {a : Nat} (h : a < 2 ^ 31) : (nI a < 21) = (a < 21) := propext (nI_ltI (b := 21) h (by decide))
theorem an_u21 {a : Nat} (h : a < 2 ^ 31) : (21 < nI a) = (21 < a) := propext (nI_ltI (a := 21) (by decide) h)
theorem an_a21 (a : Nat) : nI a + 21 = nI (a + 21) := nI_add a 21
theorem an_b21 (a : Nat) : 21 + nI a = nI (21 + a) := nI_add 21 a
theorem an_m21 (a : Nat) : nI a * 21 = nI (a * 21) := pk_mul a 21
theorem an_n21 (a : Nat) : 21 * nI a = nI (a * 21) := by rw [Nat.mul_comm]; exact pk_mul 21 a
theorem an_k21 : (21 : Int32) = nI 21 := rfl
theorem an_e22 {a : Nat} (h : a < 2 ^ 31) : (nI a = 22) = (a = 22) := propext (nI_eq (b := 22) h (by decide))
theorem an_l22 {a : Nat} (h : a < 2 ^ 31) : (nI a ≤ 22) = (a ≤ 22) := propext (nI_leI (b := 22) h (by decide))
theorem an_g22 {a : Nat} (h : a < 2 ^ 31) : (22 ≤ nI a) = (22 ≤ a) := propext (nI_leI (a := 22) (by decide) h)
theorem an_t22 {a : Nat} (h : a < 2 ^ 31) : (nI a < 22) = (a < 22) := propext (nI_ltI (b := 22) h (by decide))
theorem an_u22 {a : Nat} (h : a < 2 ^ 31) : (22 < nI a) = (22 < a) := propext (nI_ltI (a := 22) (by decide) h)
theorem an_a22 (a : Nat) : nI a + 22 = nI (a + 22) := nI_add a 22
theorem an_b22 (a : Nat) : 22 + nI a = nI (22 + a) := nI_add 22 a
theorem an_m22 (a : Nat) : nI a * 22 = nI (a * 22) := pk_mul a 22
theorem an_n22 (a : Nat) : 22 * nI a = nI (a * 22) := by rw [Nat.mul_comm]; exact pk_mul 22 a
theorem an_k22 : (22 : Int32) = nI 22 := rfl
theorem an_e23 {a : Nat} (h : a < 2 ^ 31) : (nI a = 23) = (a = 23) := propext (nI_eq (b := 23) h (by decide))
theorem an_l23 {a : Nat} (h : a < 2 ^ 31) : (nI a ≤ 23) = (a ≤ 23) := propext (nI_leI (b := 23) h (by decide))
theorem an_g23 {a : Nat} (h : a < 2 ^ 31) : (23 ≤ nI a) = (23 ≤ a) := propext (nI_leI (a := 23) (by decide) h)
theorem an_t23 {a : Nat} (h : a < 2 ^ 31) : (nI a < 23) = (a < 23) := propext (nI_ltI (b := 23) h (by decide))
theorem an_u23 {a : Nat} (h : a < 2 ^ 31) : (23 < nI a) = (23 < a) := propext (nI_ltI (a := 23) (by decide) h)
theorem an_a23 (a : Nat) : nI a + 23 = nI (a + 23) := nI_add a 23
theorem an_b23 (a : Nat) : 23 + nI a = nI (23 + a) := nI_add 23 a
theorem an_m23 (a : Nat) : nI a * 23 = nI (a * 23) := pk_mul a 23
theorem an_n23 (a : Nat) : 23 * nI a = nI (a * 23) := by rw [Nat.mul_comm]; exact pk_mul 23 a
theorem an_k23 : (23 : Int32) = nI 23 := rfl
theorem an_e24 {a : Nat} (h : a < 2 ^ 31) : (nI a = 24) = (a = 24) := propext (nI_eq (b := 24) h (by decide))
theorem an_l24 {a : Nat} (h : a < 2 ^ 31) : (nI a ≤ 24) = (a ≤ 24) := propext (nI_leI (b := 24) h (by decide))
theorem an_g24 {a : Nat} (h : a < 2 ^ 31) : (24 ≤ nI a) = (24 ≤ a) := propext (nI_leI (a := 24) (by decide) h)
theorem an_t24 {a : Nat} (h : a < 2 ^ 31) : (nI a < 24) = (a < 24) := propext (nI_ltI (b := 24) h (by decide))
theorem an_u24 {a : Nat} (h : a < 2 ^ 31) : (24 < nI a) = (24 < a) := propext (nI_ltI (a := 24) (by decide) h)
theorem an_a24 (a : Nat) : nI a + 24 = nI (a + 24) := nI_add a 24
theorem an_b24 (a : Nat) : 24 + nI a = nI (24 + a) := nI_add 24 a
theorem an_m24 (a : Nat) : nI a * 24 = nI (a * 24) := pk_mul a 24
theorem an_n24 (a : Nat) : 24 * nI a = nI (a * 24) := by rw [Nat.mul_comm]; exact pk_mul 24 a
theorem an_k24 : (24 : Int32) = nI 24 := rfl
theorem an_e25 {a : Nat} (h : a < 2 ^ 31) : (nI a = 25) = (a = 25) := propext (nI_eq (b := 25) h (by decide))
theorem an_l25 {a : Nat} (h : a < 2 ^ 31) : (nI a ≤ 25) = (a ≤ 25) := propext (nI_leI (b := 25) h (by decide))
theorem an_g25 {a : Nat} (h : a < 2 ^ 31) : (25 ≤ nI a) = (25 ≤ a) := propext (nI_leI (a := 25) (by decide) h)
theorem an_t25 {a : Nat} (h : a < 2 ^ 31) : (nI a < 25) = (a < 25) := propext (nI_ltI (b := 25) h (by decide))
theorem an_u25 {a : Nat} (h : a < 2 ^ 31) : (25 < nI a) = (25 < a) := propext (nI_ltI (a := 25) (by decide) h)
theorem an_a25 (a : Nat) : nI a + 25 = nI (a + 25) := nI_add a 25
theorem an_b25 (a : Nat) : 25 + nI a = nI (25 + a) := nI_add 25 a
theorem an_m25 (a : Nat) : nI a * 25 = nI (a * 25) := pk_mul a 25
theorem an_n25 (a : Nat) : 25 * nI a = nI (a * 25) := by rw [Nat.mul_comm]; exact pk_mul 25 a
theorem an_k25 : (25 : Int32) = nI 25 := rfl
theorem an_e26 {a : Nat} (h : a < 2 ^ 31) : (nI a = 26) = (a = 26) := propext (nI_eq (b := 26) h (by decide))
theorem an_l26 {a : Nat} (h : a < 2 ^ 31) : (nI a ≤ 26) = (a ≤ 26) := propext (nI_leI (b := 26) h (by decide))
theorem an_g26 {a : Nat} (h : a < 2 ^ 31) : (26 ≤ nI a) = (26 ≤ a) := propext (nI_leI (a := 26) (by decide) h)
theorem an_t26 {a : Nat} (h : a < 2 ^ 31) : (nI a < 26) = (a < 26) := propext (nI_ltI (b := 26) h (by decide))
theorem an_u26 {a : Nat} (h : a < 2 ^ 31) : (26 < nI a) = (26 < a) := propext (nI_ltI (a := 26) (by decide) h)
theorem an_a26 (a : Nat) : nI a + 26 = nI (a + 26) := nI_add a 26
theorem an_b26 (a : Nat) : 26 + nI a = nI (26 + a) := nI_add 26 a
theorem an_m26 (a : Nat) : nI a * 26 = nI (a * 26) := pk_mul a 26
theorem an_n26 (a : Nat) : 26 * nI a = nI (a * 26) := by rw [Nat.mul_comm]; exact pk_mul 26 a
theorem an_k26 : (26 : Int32) = nI 26 := rfl
theorem an_e27 {a : Nat} (h : a < 2 ^ 31) : (nI a = 27) = (a = 27) := propext (nI_eq (b := 27) h (by decide))
theorem an_l27 {a : Nat} (h : a < 2 ^ 31) : (nI a ≤ 27) = (a ≤ 27) := propext (nI_leI (b := 27) h (by decide))
theorem an_g27 {a : Nat} (h : a < 2 ^ 31) : (27 ≤ nI a) = (27 ≤ a) := propext (nI_leI (a := 27) (by decide) h)
theorem an_t27 {a : Nat} (h : a < 2 ^ 31) : (nI a < 27) = (a < 27) := propext (nI_ltI (b := 27) h (by decide))
theorem an_u27 {a : Nat} (h : a < 2 ^ 31) : (27 < nI a) = (27 < a) := propext (nI_ltI (a := 27) (by decide) h)
theorem an_a27 (a : Nat) : nI a + 27 = nI (a + 27) := nI_add a 27
theorem an_b27 (a : Nat) : 27 + nI a = nI (27 + a) := nI_add 27 a
theorem an_m27 (a : Nat) : nI a * 27 = nI (a * 27) := pk_mul a 27
theorem an_n27 (a : Nat) : 27 * nI a = nI (a * 27) := by rw [Nat.mul_comm]; exact pk_mul 27 a
theorem an_k27 : (27 : Int32) = nI 27 := rfl
theorem an_e28 {a : Nat} (h : a < 2 ^ 31) : (nI a = 28) = (a = 28) := propext (nI_eq (b := 28) h (by decide))
theorem an_l28 {a : Nat} (h : a < 2 ^ 31) : (nI a ≤ 28) = (a ≤ 28) := propext (nI_leI (b := 28) h (by decide))
theorem an_g28 {a : Nat} (h : a < 2 ^ 31) : (28 ≤ nI a) = (28 ≤ a) := propext (nI_leI (a := 28) (by decide) h)
theorem an_t28 {a : Nat} (h : a < 2 ^ 31) : (nI a < 28) = (a < 28) := propext (nI_ltI (b := 28) h (by decide))
theorem an_u28 {a : Nat} (h : a < 2 ^ 31) : (28 < nI a) = (28 < a) := propext (nI_ltI (a := 28) (by decide) h)
theorem an_a28 (a : Nat) : nI a + 28 = nI (a + 28) := nI_add a 28
theorem an_b28 (a : Nat) : 28 + nI a = nI (28 + a) := nI_add 28 a
theorem an_m28 (a : Nat) : nI a * 28 = nI (a * 28) := pk_mul a 28
theorem an_n28 (a : Nat) : 28 * nI a = nI (a * 28) := by rw [Nat.mul_comm]; exact pk_mul 28 a
theorem an_k28 : (28 : Int32) = nI 28 := rfl
theorem an_e29 {a : Nat} (h : a < 2 ^ 31) : (nI a = 29) = (a = 29) := propext (nI_eq (b := 29) h (by decide))
theorem an_l29 {a : Nat} (h : a < 2 ^ 31) : (nI a ≤ 29) = (a ≤ 29) := propext (nI_leI (b := 29) h (by decide))
theorem an_g29 {a : Nat} (h : a < 2 ^ 31) : (29 ≤ nI a) = (29 ≤ a) := propext (nI_leI (a := 29) (by decide) h)
theorem an_t29 {a : Nat} (h : a < 2 ^ 31) : (nI a < 29) = (a < 29) := propext (nI_ltI (b := 29) h (by decide))
theorem an_u29 {a : Nat} (h : a < 2 ^ 31) : (29 < nI a) = (29 < a) := propext (nI_ltI (a := 29) (by decide) h)
theorem an_a29 (a : Nat) : nI a + 29 = nI (a + 29) := nI_add a 29
theorem an_b29 (a : Nat) : 29 + nI a = nI (29 + a) := nI_add 29 a
theorem an_m29 (a : Nat) : nI a * 29 = nI (a * 29) := pk_mul a 29
theorem an_n29 (a : Nat) : 29 * nI a = nI (a * 29) := by rw [Nat.mul_comm]; exact pk_mul 29 a
theorem an_k29 : (29 : Int32) = nI 29 := rfl
theorem an_e30 {a : Nat} (h : a < 2 ^ 31) : (nI a = 30) = (a = 30) := propext (nI_eq (b := 30) h (by decide))
theorem an_l30 {a : Nat} (h : a < 2 ^ 31) : (nI a ≤ 30) = (a ≤ 30) := propext (nI_leI (b := 30) h (by decide))
theorem an_g30 {a : Nat} (h : a < 2 ^ 31) : (30 ≤ nI a) = (30 ≤ a) := propext (nI_leI (a := 30) (by decide) h)
theorem an_t30 {a : Nat} (h : a < 2 ^ 31) : (nI a < 30) = (a < 30) := propext (nI_ltI (b := 30) h (by decide))
theorem an_u30 {a : Nat} (h : a < 2 ^ 31) : (30 < nI a) = (30 < a) := propext (nI_ltI (a := 30) (by decide) h)
theorem an_a30 (a : Nat) : nI a + 30 = nI (a + 30) := nI_add a 30
theorem an_b30 (a : Nat) : 30 + nI a = nI (30 + a) := nI_add 30 a
theorem an_m30 (a : Nat) : nI a * 30 = nI (a * 30) := pk_mul a 30
theorem an_n30 (a : Nat) : 30 * nI a = nI (a * 30) := by rw [Nat.mul_comm]; exact pk_mul 30 a
theorem an_k30 : (30 : Int32) = nI 30 := rfl
theorem an_e31 {a : Nat} (h : a < 2 ^ 31) : (nI a = 31) = (a = 31) := propext (nI_eq (b := 31) h (by decide))
theorem an_l31 {a : Nat} (h : a < 2 ^ 31) : (nI a ≤ 31) = (a ≤ 31) := propext (nI_leI (b := 31) h (by decide))
theorem an_g31 {a : Nat} (h : a < 2 ^ 31) : (31 ≤ nI a) = (31 ≤ a) := propext (nI_leI (a := 31) (by decide) h)
theorem an_t31 {a : Nat} (h : a < 2 ^ 31) : (nI a < 31) = (a < 31) := propext (nI_ltI (b := 31) h (by decide))
theorem an_u31 {a : Nat} (h : a < 2 ^ 31) : (31 < nI a) = (31 < a) := propext (nI_ltI (a := 31) (by decide) h)
theorem an_a31 (a : Nat) : nI a + 31 = nI (a + 31) := nI_add a 31
theorem an_b31 (a : Nat) : 31 + nI a = nI (31 + a) := nI_add 31 a
theorem an_m31 (a : Nat) : nI a * 31 = nI (a * 31) := pk_mul a 31
theorem an_n31 (a : Nat) : 31 * nI a = nI (a * 31) := by rw [Nat.mul_comm]; exact pk_mul 31 a
theorem an_k31 : (31 : Int32) = nI 31 := rfl
theorem an_e32 {a : Nat} (h : a < 2 ^ 31) : (nI a = 32) = (a = 32) := propext (nI_eq (b := 32) h (by decide))
theorem an_l32 {a : Nat} (h : a < 2 ^ 31) : (nI a ≤ 32) = (a ≤ 32) := propext (nI_leI (b := 32) h (by decide))
theorem an_g32 {a : Nat} (h : a < 2 ^ 31) : (32 ≤ nI a) = (32 ≤ a) := propext (nI_leI (a := 32) (by decide) h)
theorem an_t32 {a : Nat} (h : a < 2 ^ 31) : (nI a < 32) = (a < 32) := propext (nI_ltI (b := 32) h (by decide))
theorem an_u32 {a : Nat} (h : a < 2 ^ 31) : (32 < nI a) = (32 < a) := propext (nI_ltI (a := 32) (by decide) h)
theorem an_a32 (a : Nat) : nI a + 32 = nI (a + 32) := nI_add a 32
theorem an_b32 (a : Nat) : 32 + nI a = nI (32 + a) := nI_add 32 a
theorem an_m32 (a : Nat) : nI a * 32 = nI (a * 32) := pk_mul a 32
theorem an_n32 (a : Nat) : 32 * nI a = nI (a * 32) := by rw [Nat.mul_comm]; exact pk_mul 32 a
theorem an_k32 : (32 : Int32) = nI 32 := rfl
theorem an_e33 {a : Nat} (h : a < 2 ^ 31) : (nI a = 33) = (a = 33) := propext (nI_eq (b := 33) h (by decide))
theorem an_l33 {a : Nat} (h : a < 2 ^ 31) : (nI a ≤ 33) = (a ≤ 33) := propext (nI_leI (b := 33) h (by decide))
theorem an_g33 {a : Nat} (h : a < 2 ^ 31) : (33 ≤ nI a) = (33 ≤ a) := propext (nI_leI (a := 33) (by decide) h)
theorem an_t33 {a : Nat} (h : a < 2 ^ 31) : (nI a < 33) = (a < 33) := propext (nI_ltI (b := 33) h (by decide))
theorem an_u33 {a : Nat} (h : a < 2 ^ 31) : (33 < nI a) = (33 < a) := propext (nI_ltI (a := 33) (by decide) h)
theorem an_a33 (a : Nat) : nI a + 33 = nI (a + 33) := nI_add a 33
theorem an_b33 (a : Nat) : 33 + nI a = nI (33 + a) := nI_add 33 a
theorem an_m33 (a : Nat) : nI a * 33 = nI (a * 33) := pk_mul a 33
theorem an_n33 (a : Nat) : 33 * nI a = nI (a * 33) := by rw [Nat.mul_comm]; exact pk_mul 33 a
theorem an_k33 : (33 : Int32) = nI 33 := rfl
theorem an_e34 {a : Nat} (h : a < 2 ^ 31) : (nI a = 34) = (a = 34) := propext (nI_eq (b := 34) h (by decide))
theorem an_l34 {a : Nat} (h : a < 2 ^ 31) : (nI a ≤ 34) = (a ≤ 34) := propext (nI_leI (b := 34) h (by decide))
theorem an_g34 {a : Nat} (h : a < 2 ^ 31) : (34 ≤ nI a) = (34 ≤ a) := propext (nI_leI (a := 34) (by decide) h)
theorem an_t34 {a : Nat} (h : a < 2 ^ 31) : (nI a < 34) = (a < 34) := propext (nI_ltI (b := 34) h (by decide))
theorem an_u34 {a : Nat} (h : a < 2 ^ 31) : (34 < nI a) = (34 < a) := propext (nI_ltI (a := 34) (by decide) h)
theorem an_a34 (a : Nat) : nI a + 34 = nI (a + 34) := nI_add a 34
theorem an_b34 (a : Nat) : 34 + nI a = nI (34 + a) := nI_add 34 a
theorem an_m34 (a : Nat) : nI a * 34 = nI (a * 34) := pk_mul a 34
theorem an_n34 (a : Nat) : 34 * nI a = nI (a * 34) := by rw [Nat.mul_comm]; exact pk_mul 34 a
theorem an_k34 : (34 : Int32) = nI 34 := rfl
theorem an_e35 {a : Nat} (h : a < 2 ^ 31) : (nI a = 35) = (a = 35) := propext (nI_eq (b := 35) h (by decide))
theorem an_l35 {a : Nat} (h : a < 2 ^ 31) : (nI a ≤ 35) = (a ≤ 35) := propext (nI_leI (b := 35) h (by decide))
theorem an_g35 {a : Nat} (h : a < 2 ^ 31) : (35 ≤ nI a) = (35 ≤ a) := propext (nI_leI (a := 35) (by decide) h)
theorem an_t35 {a : Nat} (h : a < 2 ^ 31) : (nI a < 35) = (a < 35) := propext (nI_ltI (b := 35) h (by decide))
theorem an_u35 {a : Nat} (h : a < 2 ^ 31) : (35 < nI a) = (35 < a) := propext (nI_ltI (a := 35) (by decide) h)
theorem an_a35 (a : Nat) : nI a + 35 = nI (a + 35) := nI_add a 35
theorem an_b35 (a : Nat) : 35 + nI a = nI (35 + a) := nI_add 35 a
theorem an_m35 (a : Nat) : nI a * 35 = nI (a * 35) := pk_mul a 35
theorem an_n35 (a : Nat) : 35 * nI a = nI (a * 35) := by rw [Nat.mul_comm]; exact pk_mul 35 a
theorem an_k35 : (35 : Int32) = nI 35 := rfl
theorem an_e36 {a : Nat} (h : a < 2 ^ 31) : (nI a = 36) = (a = 36) := propext (nI_eq (b := 36) h (by decide))
theorem an_l36 {a : Nat} (h : a < 2 ^ 31) : (nI a ≤ 36) = (a ≤ 36) := propext (nI_leI (b := 36) h (by decide))
theorem an_g36 {a : Nat} (h : a < 2 ^ 31) : (36 ≤ nI a) = (36 ≤ a) := propext (nI_leI (a := 36) (by decide) h)
theorem an_t36 {a : Nat} (h : a < 2 ^ 31) : (nI a < 36) = (a < 36) := propext (nI_ltI (b := 36) h (by decide))
theorem an_u36 {a : Nat} (h : a < 2 ^ 31) : (36 < nI a) = (36 < a) := propext (nI_ltI (a := 36) (by decide) h)
theorem an_a36 (a : Nat) : nI a + 36 = nI (a + 36) := nI_add a 36
theorem an_b36 (a : Nat) : 36 + nI a = nI (36 + a) := nI_add 36 a
theorem an_m36 (a : Nat) : nI a * 36 = nI (a * 36) := pk_mul a 36
theorem an_n36 (a : Nat) : 36 * nI a = nI (a * 36) := by rw [Nat.mul_comm]; exact pk_mul 36 a
theorem an_k36 : (36 : Int32) = nI 36 := rfl
theorem an_e37 {a : Nat} (h : a < 2 ^ 31) : (nI a = 37) = (a = 37) := propext (nI_eq (b := 37) h (by decide))
theorem an_l37 {a : Nat} (h : a < 2 ^ 31) : (nI a ≤ 37) = (a ≤ 37) := propext (nI_leI (b := 37) h (by decide))
theorem an_g37 {a : Nat} (h : a < 2 ^ 31) : (37 ≤ nI a) = (37 ≤ a) := propext (nI_leI (a := 37) (by decide) h)
theorem an_t37 {a : Nat} (h : a < 2 ^ 31) : (nI a < 37) = (a < 37) := propext (nI_ltI (b := 37) h (by decide))
theorem an_u37 {a : Nat} (h : a < 2 ^ 31) : (37 < nI a) = (37 < a) := propext (nI_ltI (a := 37) (by decide) h)
theorem an_a37 (a : Nat) : nI a + 37 = nI (a + 37) := nI_add a 37
theorem an_b37 (a : Nat) : 37 + nI a = nI (37 + a) := nI_add 37 a
theorem an_m37 (a : Nat) : nI a * 37 = nI (a * 37) := pk_mul a 37
theorem an_n37 (a : Nat) : 37 * nI a = nI (a * 37) := by rw [Nat.mul_comm]; exact pk_mul 37 a
theorem an_k37 : (37 : Int32) = nI 37 := rfl
theorem an_e38 {a : Nat} (h : a < 2 ^ 31) : (nI a = 38) = (a = 38) := propext (nI_eq (b := 38) h (by decide))
theorem an_l38 {a : Nat} (h : a < 2 ^ 31) : (nI a ≤ 38) = (a ≤ 38) := propext (nI_leI (b := 38) h (by decide))
theorem an_g38 {a : Nat} (h : a < 2 ^ 31) : (38 ≤ nI a) = (38 ≤ a) := propext (nI_leI (a := 38) (by decide) h)
theorem an_t38 {a : Nat} (h : a < 2 ^ 31) : (nI a < 38) = (a < 38) := propext (nI_ltI (b := 38) h (by decide))
theorem an_u38 {a : Nat} (h : a < 2 ^ 31) : (38 < nI a) = (38 < a) := propext (nI_ltI (a := 38) (by decide) h)
theorem an_a38 (a : Nat) : nI a + 38 = nI (a + 38) := nI_add a 38
theorem an_b38 (a : Nat) : 38 + nI a = nI (38 + a) := nI_add 38 a
theorem an_m38 (a : Nat) : nI a * 38 = nI (a * 38) := pk_mul a 38
theorem an_n38 (a : Nat) : 38 * nI a = nI (a * 38) := by rw [Nat.mul_comm]; exact pk_mul 38 a
theorem an_k38 : (38 : Int32) = nI 38 := rfl
theorem an_e39 {a : Nat} (h : a < 2 ^ 31) : (nI a = 39) = (a = 39) := propext (nI_eq (b := 39) h (by decide))
theorem an_l39 {a : Nat} (h : a < 2 ^ 31) : (nI a ≤ 39) = (a ≤ 39) := propext (nI_leI (b := 39) h (by decide))
theorem an_g39 {a : Nat} (h : a < 2 ^ 31) : (39 ≤ nI a) = (39 ≤ a) := propext (nI_leI (a := 39) (by decide) h)
theorem an_t39 {a : Nat} (h : a < 2 ^ 31) : (nI a < 39) = (a < 39) := propext (nI_ltI (b := 39) h (by decide))
theorem an_u39 {a : Nat} (h : a < 2 ^ 31) : (39 < nI a) = (39 < a) := propext (nI_ltI (a := 39) (by decide) h)
theorem an_a39 (a : Nat) : nI a + 39 = nI (a + 39) := nI_add a 39
theorem an_b39 (a : Nat) : 39 + nI a = nI (39 + a) := nI_add 39 a
theorem an_m39 (a : Nat) : nI a * 39 = nI (a * 39) := pk_mul a 39
theorem an_n39 (a : Nat) : 39 * nI a = nI (a * 39) := by rw [Nat.mul_comm]; exact pk_mul 39 a
theorem an_k39 : (39 : Int32) = nI 39 := rfl
theorem an_e40 {a : Nat} (h : a < 2 ^ 31) : (nI a = 40) = (a = 40) := propext (nI_eq (b := 40) h (by decide))
theorem an_l40 {a : Nat} (h : a < 2 ^ 31) : (nI a ≤ 40) = (a ≤ 40) := propext (nI_leI (b := 40) h (by decide))
theorem an_g40 {a : Nat} (h : a < 2 ^ 31) : (40 ≤ nI a) = (40 ≤ a) := propext (nI_leI (a := 40) (by decide) h)
theorem an_t40 {a : Nat} (h : a < 2 ^ 31) : (nI a < 40) = (a < 40) := propext (nI_ltI (b := 40) h (by decide))
theorem an_u40 {a : Nat} (h : a < 2 ^ 31) : (40 < nI a) = (40 < a) := propext (nI_ltI (a := 40) (by decide) h)
theorem an_a40 (a : Nat) : nI a + 40 = nI (a + 40) := nI_add a 40
theorem an_b40 (a : Nat) : 40 + nI a = nI (40 + a) := nI_add 40 a
theorem an_m40 (a : Nat) : nI a * 40 = nI (a * 40) := pk_mul a 40
theorem an_n40 (a : Nat) : 40 * nI a = nI (a * 40) := by rw [Nat.mul_comm]; exact pk_mul 40 a
theorem an_k40 : (40 : Int32) = nI 40 := rfl
theorem an_e41 {a : Nat} (h : a < 2 ^ 31) : (nI a = 41) = (a = 41) := propext (nI_eq (b := 41) h (by decide))
theorem an_l41 {a : Nat} (h : a < 2 ^ 31) : (nI a ≤ 41) = (a ≤ 41) := propext (nI_leI (b := 41) h (by decide))
theorem an_g41 {a : Nat} (h : a < 2 ^ 31) : (41 ≤ nI a) = (41 ≤ a) := propext (nI_leI (a := 41) (by decide) h)
theorem an_t41 {a : Nat} (h : a < 2 ^ 31) : (nI a < 41) = (a < 41) := propext (nI_ltI (b := 41) h (by decide))
theorem an_u41 {a : Nat} (h : a < 2 ^ 31) : (41 < nI a) = (41 < a) := propext (nI_ltI (a := 41) (by decide) h)
theorem an_a41 (a : Nat) : nI a + 41 = nI (a + 41) := nI_add a 41
theorem an_b41 (a : Nat) : 41 + nI a = nI (41 + a) := nI_add 41 a
theorem an_m41 (a : Nat) : nI a * 41 = nI (a * 41) := pk_mul a 41
theorem an_n41 (a : Nat) : 41 * nI a = nI (a * 41) := by rw [Nat.mul_comm]; exact pk_mul 41 a
theorem an_k41 : (41 : Int32) = nI 41 := rfl
theorem an_e42 {a : Nat} (h : a < 2 ^ 31) : (nI a = 42) = (a = 42) := propext (nI_eq (b := 42) h (by decide))
theorem an_l42 {a : Nat} (h : a < 2 ^ 31) : (nI a ≤ 42) = (a ≤ 42) := propext (nI_leI (b := 42) h (by decide))
theorem an_g42 {a : Nat} (h : a < 2 ^ 31) : (42 ≤ nI a) = (42 ≤ a) := propext (nI_leI (a := 42) (by decide) h)
theorem an_t42 {a : Nat} (h : a < 2 ^ 31) : (nI a < 42) = (a < 42) := propext (nI_ltI (b := 42) h (by decide))
theorem an_u42 {a : Nat} (h : a < 2 ^ 31) : (42 < nI a) = (42 < a) := propext (nI_ltI (a := 42) (by decide) h)
theorem an_a42 (a : Nat) : nI a + 42 = nI (a + 42) := nI_add a 42
theorem an_b42 (a : Nat) : 42 + nI a = nI (42 + a) := nI_add 42 a
theorem an_m42 (a : Nat) : nI a * 42 = nI (a * 42) := pk_mul a 42
theorem an_n42 (a : Nat) : 42 * nI a = nI (a * 42) := by rw [Nat.mul_comm]; exact pk_mul 42 a
theorem an_k42 : (42 : Int32) = nI 42 := rfl
theorem an_e43 {a : Nat} (h : a < 2 ^ 31) : (nI a = 43) = (a = 43) := propext (nI_eq (b := 43) h (by decide))
theorem an_l43 {a : Nat} (h : a < 2 ^ 31) : (nI a ≤ 43) = (a ≤ 43) := propext (nI_leI (b := 43) h (by decide))
theorem an_g43 {a : Nat} (h : a < 2 ^ 31) : (43 ≤ nI a) = (43 ≤ a) := propext (nI_leI (a := 43) (by decide) h)
theorem an_t43 {a : Nat} (h : a < 2 ^ 31) : (nI a < 43) = (a < 43) := propext (nI_ltI (b := 43) h (by decide))
theorem an_u43 {a : Nat} (h : a < 2 ^ 31) : (43 < nI a) = (43 < a) := propext (nI_ltI (a := 43) (by decide) h)
theorem an_a43 (a : Nat) : nI a + 43 = nI (a + 43) := nI_add a 43
theorem an_b43 (a : Nat) : 43 + nI a = nI (43 + a) := nI_add 43 a
theorem an_m43 (a : Nat) : nI a * 43 = nI (a * 43) := pk_mul a 43
theorem an_n43 (a : Nat) : 43 * nI a = nI (a * 43) := by rw [Nat.mul_comm]; exact pk_mul 43 a
theorem an_k43 : (43 : Int32) = nI 43 := rfl
theorem an_e46 {a : Nat} (h : a < 2 ^ 31) : (nI a = 46) = (a = 46) := propext (nI_eq (b := 46) h (by decide))
theorem an_l46 {a : Nat} (h : a < 2 ^ 31) : (nI a ≤ 46) = (a ≤ 46) := propext (nI_leI (b := 46) h (by decide))
theorem an_g46 {a : Nat} (h : a < 2 ^ 31) : (46 ≤ nI a) = (46 ≤ a) := propext (nI_leI (a := 46) (by decide) h)
theorem an_t46 {a : Nat} (h : a < 2 ^ 31) : (nI a < 46) = (a < 46) := propext (nI_ltI (b := 46) h (by decide))
theorem an_u46 {a : Nat} (h : a < 2 ^ 31) : (46 < nI a) = (46 < a) := propext (nI_ltI (a := 46) (by decide) h)
theorem an_a46 (a : Nat) : nI a + 46 = nI (a + 46) := nI_add a 46
theorem an_b46 (a : Nat) : 46 + nI a = nI (46 + a) := nI_add 46 a
theorem an_m46 (a : Nat) : nI a * 46 = nI (a * 46) := pk_mul a 46
theorem an_n46 (a : Nat) : 46 * nI a = nI (a * 46) := by rw [Nat.mul_comm]; exact pk_mul 46 a
theorem an_k46 : (46 : Int32) = nI 46 := rfl
theorem an_e50 {a : Nat} (h : a < 2 ^ 31) : (nI a = 50) = (a = 50) := propext (nI_eq (b := 50) h (by decide))
theorem an_l50 {a : Nat} (h : a < 2 ^ 31) : (nI a ≤ 50) = (a ≤ 50) := propext (nI_leI (b := 50) h (by decide))
theorem an_g50 {a : Nat} (h : a < 2 ^ 31) : (50 ≤ nI a) = (50 ≤ a) := propext (nI_leI (a := 50) (by decide) h)
theorem an_t50 {a : Nat} (h : a < 2 ^ 31) : (nI a < 50) = (a < 50) := propext (nI_ltI (b := 50) h (by decide))
theorem an_u50 {a : Nat} (h : a < 2 ^ 31) : (50 < nI a) = (50 < a) := propext (nI_ltI (a := 50) (by decide) h)
theorem an_a50 (a : Nat) : nI a + 50 = nI (a + 50) := nI_add a 50
theorem an_b50 (a : Nat) : 50 + nI a = nI (50 + a) := nI_add 50 a
theorem an_m50 (a : Nat) : nI a * 50 = nI (a * 50) := pk_mul a 50
theorem an_n50 (a : Nat) : 50 * nI a = nI (a * 50) := by rw [Nat.mul_comm]; exact pk_mul 50 a
theorem an_k50 : (50 : Int32) = nI 50 := rfl
theorem an_e51 {a : Nat} (h : a < 2 ^ 31) : (nI a = 51) = (a = 51) := propext (nI_eq (b := 51) h (by decide))
theorem an_l51 {a : Nat} (h : a < 2 ^ 31) : (nI a ≤ 51) = (a ≤ 51) := propext (nI_leI (b := 51) h (by decide))
theorem an_g51 {a : Nat} (h : a < 2 ^ 31) : (51 ≤ nI a) = (51 ≤ a) := propext (nI_leI (a := 51) (by decide) h)
theorem an_t51 {a : Nat} (h : a < 2 ^ 31) : (nI a < 51) = (a < 51) := propext (nI_ltI (b := 51) h (by decide))
theorem an_u51 {a : Nat} (h : a < 2 ^ 31) : (51 < nI a) = (51 < a) := propext (nI_ltI (a := 51) (by decide) h)
theorem an_a51 (a : Nat) : nI a + 51 = nI (a + 51) := nI_add a 51
theorem an_b51 (a : Nat) : 51 + nI a = nI (51 + a) := nI_add 51 a
theorem an_m51 (a : Nat) : nI a * 51 = nI (a * 51) := pk_mul a 51
theorem an_n51 (a : Nat) : 51 * nI a = nI (a * 51) := by rw [Nat.mul_comm]; exact pk_mul 51 a
theorem an_k51 : (51 : Int32) = nI 51 := rfl
theorem an_e52 {a : Nat} (h : a < 2 ^ 31) : (nI a = 52) = (a = 52) := propext (nI_eq (b := 52) h (by decide))
theorem an_l52 {a : Nat} (h : a < 2 ^ 31) : (nI a ≤ 52) = (a ≤ 52) := propext (nI_leI (b := 52) h (by decide))
theorem an_g52 {a : Nat} (h : a < 2 ^ 31) : (52 ≤ nI a) = (52 ≤ a) := propext (nI_leI (a := 52) (by decide) h)
theorem an_t52 {a : Nat} (h : a < 2 ^ 31) : (nI a < 52) = (a < 52) := propext (nI_ltI (b := 52) h (by decide))
theorem an_u52 {a : Nat} (h : a < 2 ^ 31) : (52 < nI a) = (52 < a) := propext (nI_ltI (a := 52) (by decide) h)
theorem an_a52 (a : Nat) : nI a + 52 = nI (a + 52) := nI_add a 52
theorem an_b52 (a : Nat) : 52 + nI a = nI (52 + a) := nI_add 52 a
theorem an_m52 (a : Nat) : nI a * 52 = nI (a * 52) := pk_mul a 52
theorem an_n52 (a : Nat) : 52 * nI a = nI (a * 52) := by rw [Nat.mul_comm]; exact pk_mul 52 a
theorem an_k52 : (52 : Int32) = nI 52 := rfl
theorem an_e100 {a : Nat} (h : a < 2 ^ 31) : (nI a = 100) = (a = 100) := propext (nI_eq (b := 100) h (by decide))
theorem an_l100 {a : Nat} (h : a < 2 ^ 31) : (nI a ≤ 100) = (a ≤ 100) := propext (nI_leI (b := 100) h (by decide))
theorem an_g100 {a : Nat} (h : a < 2 ^ 31) : (100 ≤ nI a) = (100 ≤ a) := propext (nI_leI (a := 100) (by decide) h)
theorem an_t100 {a : Nat} (h : a < 2 ^ 31) : (nI a < 100) = (a < 100) := propext (nI_ltI (b := 100) h (by decide))
theorem an_u100 {a : Nat} (h : a < 2 ^ 31) : (100 < nI a) = (100 < a) := propext (nI_ltI (a := 100) (by decide) h)
theorem an_a100 (a : Nat) : nI a + 100 = nI (a + 100) := nI_add a 100
theorem an_b100 (a : Nat) : 100 + nI a = nI (100 + a) := nI_add 100 a
theorem an_m100 (a : Nat) : nI a * 100 = nI (a * 100) := pk_mul a 100
theorem an_n100 (a : Nat) : 100 * nI a = nI (a * 100) := by rw [Nat.mul_comm]; exact pk_mul 100 a
theorem an_k100 : (100 : Int32) = nI 100 := rfl
theorem an_e468 {a : Nat} (h : a < 2 ^ 31) : (nI a = 468) = (a = 468) := propext (nI_eq (b := 468) h (by decide))
theorem an_l468 {a : Nat} (h : a < 2 ^ 31) : (nI a ≤ 468) = (a ≤ 468) := propext (nI_leI (b := 468) h (by decide))
theorem an_g468 {a : Nat} (h : a < 2 ^ 31) : (468 ≤ nI a) = (468 ≤ a) := propext (nI_leI (a := 468) (by decide) h)
theorem an_t468 {a : Nat} (h : a < 2 ^ 31) : (nI a < 468) = (a < 468) := propext (nI_ltI (b := 468) h (by decide))
theorem an_u468 {a : Nat} (h : a < 2 ^ 31) : (468 < nI a) = (468 < a) := propext (nI_ltI (a := 468) (by decide) h)
theorem an_a468 (a : Nat) : nI a + 468 = nI (a + 468) := nI_add a 468
theorem an_b468 (a : Nat) : 468 + nI a = nI (468 + a) := nI_add 468 a
theorem an_m468 (a : Nat) : nI a * 468 = nI (a * 468) := pk_mul a 468
theorem an_n468 (a : Nat) : 468 * nI a = nI (a * 468) := by rw [Nat.mul_comm]; exact pk_mul 468 a
theorem an_k468 : (468 : Int32) = nI 468 := rfl
theorem an_e10000 {a : Nat} (h : a < 2 ^ 31) : (nI a = 10000) = (a = 10000) := propext (nI_eq (b := 10000) h (by decide))
theorem an_l10000 {a : Nat} (h : a < 2 ^ 31) : (nI a ≤ 10000) = (a ≤ 10000) := propext (nI_leI (b := 10000) h (by decide))
theorem an_g10000 {a : Nat} (h : a < 2 ^ 31) : (10000 ≤ nI a) = (10000 ≤ a) := propext (nI_leI (a := 10000) (by decide) h)
theorem an_t10000 {a : Nat} (h : a < 2 ^ 31) : (nI a < 10000) = (a < 10000) := propext (nI_ltI (b := 10000) h (by decide))
theorem an_u10000 {a : Nat} (h : a < 2 ^ 31) : (10000 < nI a) = (10000 < a) := propext (nI_ltI (a := 10000) (by decide) h)
theorem an_a10000 (a : Nat) : nI a + 10000 = nI (a + 10000) := nI_add a 10000
theorem an_b10000 (a : Nat) : 10000 + nI a = nI (10000 + a) := nI_add 10000 a
theorem an_m10000 (a : Nat) : nI a * 10000 = nI (a * 10000) := pk_mul a 10000
theorem an_n10000 (a : Nat) : 10000 * nI a = nI (a * 10000) := by rw [Nat.mul_comm]; exact pk_mul 10000 a
theorem an_k10000 : (10000 : Int32) = nI 10000 := rfl
theorem an_e30000 {a : Nat} (h : a < 2 ^ 31) : (nI a = 30000) = (a = 30000) := propext (nI_eq (b := 30000) h (by decide))
theorem an_l30000 {a : Nat} (h : a < 2 ^ 31) : (nI a ≤ 30000) = (a ≤ 30000) := propext (nI_leI (b := 30000) h (by decide))
theorem an_g30000 {a : Nat} (h : a < 2 ^ 31) : (30000 ≤ nI a) = (30000 ≤ a) := propext (nI_leI (a := 30000) (by decide) h)
theorem an_t30000 {a : Nat} (h : a < 2 ^ 31) : (nI a < 30000) = (a < 30000) := propext (nI_ltI (b := 30000) h (by decide))
theorem an_u30000 {a : Nat} (h : a < 2 ^ 31) : (30000 < nI a) = (30000 < a) := propext (nI_ltI (a := 30000) (by decide) h)
theorem an_a30000 (a : Nat) : nI a + 30000 = nI (a + 30000) := nI_add a 30000
theorem an_b30000 (a : Nat) : 30000 + nI a = nI (30000 + a) := nI_add 30000 a
theorem an_m30000 (a : Nat) : nI a * 30000 = nI (a * 30000) := pk_mul a 30000
theorem an_n30000 (a : Nat) : 30000 * nI a = nI (a * 30000) := by rw [Nat.mul_comm]; exact pk_mul 30000 a
theorem an_k30000 : (30000 : Int32) = nI 30000 := rfl
theorem an_e40000 {a : Nat} (h : a < 2 ^ 31) : (nI a = 40000) = (a = 40000) := propext (nI_eq (b := 40000) h (by decide))
theorem an_l40000 {a : Nat} (h : a < 2 ^ 31) : (nI a ≤ 40000) = (a ≤ 40000) := propext (nI_leI (b := 40000) h (by decide))
theorem an_g40000 {a : Nat} (h : a < 2 ^ 31) : (40000 ≤ nI a) = (40000 ≤ a) := propext (nI_leI (a := 40000) (by decide) h)
theorem an_t40000 {a : Nat} (h : a < 2 ^ 31) : (nI a < 40000) = (a < 40000) := propext (nI_ltI (b := 40000) h (by decide))
theorem an_u40000 {a : Nat} (h : a < 2 ^ 31) : (40000 < nI a) = (40000 < a) := propext (nI_ltI (a := 40000) (by decide) h)
theorem an_a40000 (a : Nat) : nI a + 40000 = nI (a + 40000) := nI_add a 40000
theorem an_b40000 (a : Nat) : 40000 + nI a = nI (40000 + a) := nI_add 40000 a
theorem an_m40000 (a : Nat) : nI a * 40000 = nI (a * 40000) := pk_mul a 40000
theorem an_n40000 (a : Nat) : 40000 * nI a = nI (a * 40000) := by rw [Nat.mul_comm]; exact pk_mul 40000 a
theorem an_k40000 : (40000 : Int32) = nI 40000 := rfl
