/-! ints that may be below 0 -/
theorem an_nn {x : Int32} {q : Int} (h : x.toInt = q) (h0 : 0 ≤ q) : x = nI q.toNat := by
  have b := x.toInt_lt
  apply Int32.toInt_inj.mp
  rw [nI_toInt (by omega)]; omega
theorem an_st {x : Int32} {a : Int} {w i : Nat} (hx : x.toInt = a) (h1 : -36 ≤ a) (h2 : a ≤ 36) (hw : w ≤ 6) (hi : i ≤ 1000) : (x * nI w + nI i).toInt = a * w + i := by
  have b : -216 ≤ a * (w : Int) ∧ a * (w : Int) ≤ 216 := by
    rcases (by omega : w = 0 ∨ w = 1 ∨ w = 2 ∨ w = 3 ∨ w = 4 ∨ w = 5 ∨ w = 6) with rfl | rfl | rfl | rfl | rfl | rfl | rfl <;> omega
  have e1 : (x * nI w).toInt = a * w := by
    rw [Jvm.Kit.i32_mul (by rw [hx, nI_toInt (by omega)]; omega) (by rw [hx, nI_toInt (by omega)]; omega), hx, nI_toInt (by omega)]
  rw [Jvm.Kit.i32_add (by rw [e1, nI_toInt (by omega)]; omega) (by rw [e1, nI_toInt (by omega)]; omega), e1, nI_toInt (by omega)]
theorem an_ad {x : Int32} {a : Int} {i : Nat} (hx : x.toInt = a) (h1 : -1000 ≤ a) (h2 : a ≤ 1000) (hi : i ≤ 1000) : (x + nI i).toInt = a + i := by
  rw [Jvm.Kit.i32_add (by rw [hx, nI_toInt (by omega)]; omega) (by rw [hx, nI_toInt (by omega)]; omega), hx, nI_toInt (by omega)]
theorem an_da {x : Int32} {a : Int} {i : Nat} (hx : x.toInt = a) (h1 : -1000 ≤ a) (h2 : a ≤ 1000) (hi : i ≤ 1000) : (nI i + x).toInt = i + a := by
  rw [Jvm.Kit.i32_add (by rw [hx, nI_toInt (by omega)]; omega) (by rw [hx, nI_toInt (by omega)]; omega), hx, nI_toInt (by omega)]
theorem an_sb {x : Int32} {a : Int} {i : Nat} (hx : x.toInt = a) (h1 : -1000 ≤ a) (h2 : a ≤ 1000) (hi : i ≤ 1000) : (nI i - x).toInt = i - a := by
  rw [Jvm.Kit.i32_sub (by rw [hx, nI_toInt (by omega)]; omega) (by rw [hx, nI_toInt (by omega)]; omega), hx, nI_toInt (by omega)]
theorem an_ng {x : Int32} {a : Int} (hx : x.toInt = a) (h1 : -1000 ≤ a) : (-x).toInt = -a := by
  rw [Jvm.Kit.i32_neg (by rw [hx]; omega), hx]
theorem an_lt0 {x : Int32} : (x < 0) = (x.toInt < 0) := by rw [Int32.lt_iff_toInt_lt]; rfl
theorem an_0le {x : Int32} : (0 ≤ x) = (0 ≤ x.toInt) := by rw [Int32.le_iff_toInt_le]; rfl
theorem an_ltn {x : Int32} {n : Nat} (h : n < 2 ^ 31) : (x < nI n) = (x.toInt < n) := by rw [Int32.lt_iff_toInt_lt, nI_toInt h]
theorem an_nlt {x : Int32} {n : Nat} (h : n < 2 ^ 31) : (nI n < x) = (n < x.toInt) := by rw [Int32.lt_iff_toInt_lt, nI_toInt h]
theorem an_len {x : Int32} {n : Nat} (h : n < 2 ^ 31) : (x ≤ nI n) = (x.toInt ≤ n) := by rw [Int32.le_iff_toInt_le, nI_toInt h]
theorem an_nle {x : Int32} {n : Nat} (h : n < 2 ^ 31) : (nI n ≤ x) = (n ≤ x.toInt) := by rw [Int32.le_iff_toInt_le, nI_toInt h]
theorem an_nm {n : Nat} (h : n < 2 ^ 31) : (-nI n).toInt = -(n : Int) := by
  rw [Jvm.Kit.i32_neg (by rw [nI_toInt h]; omega), nI_toInt h]
/-- the place from which a number comes in a rotated row -/
theorem an_bk {k w : Nat} (x : Int32) (h0 : 0 < w) (hw : w ≤ 1000) (hk : k ≤ 1000) {a b c : Int64} (ha : a = (nI k).toInt64 + x.toInt64) (hb : b = a - a / (nI w).toInt64 * (nI w).toInt64) (hc : c = b + (nI w).toInt64) :
    (c - c / (nI w).toInt64 * (nI w).toInt64).toInt32 = nI (((k : Int) + x.toInt) % w).toNat := by
  have w1 : (nI w).toInt64.toInt = w := by rw [Jvm.Kit.i64_of_i32, nI_toInt (by omega)]
  have x1 := x.le_toInt
  have x2 := x.toInt_lt
  have a1 : a.toInt = k + x.toInt := by
    rw [ha, lg_i2l_add, nI_toInt (by omega)]
  have b1 : b.toInt = ((k : Int) + x.toInt).tmod w := by rw [hb, Jvm.Kit.i64_rem, a1, w1]
  have t := tmod_bounds (a := (k : Int) + x.toInt) (M := w) (by omega)
  have c1 : c.toInt = ((k : Int) + x.toInt).tmod w + w := by
    rw [hc, Jvm.Kit.i64_add (by rw [b1, w1]; omega) (by rw [b1, w1]; omega), b1, w1]
  have d1 : (c - c / (nI w).toInt64 * (nI w).toInt64).toInt = ((k : Int) + x.toInt) % w := by
    rw [Jvm.Kit.i64_rem_nonneg (by rw [c1]; omega), c1, w1, Int.add_emod_right]
    have q := Int.tmod_add_mul_tdiv ((k : Int) + x.toInt) w
    have z := Int.add_mul_emod_self_left (((k : Int) + x.toInt).tmod w) w (((k : Int) + x.toInt).tdiv w)
    rw [q] at z
    exact z.symm
  have m0 := Int.emod_nonneg ((k : Int) + x.toInt) (b := w) (by omega)
  have m1 := Int.emod_lt_of_pos ((k : Int) + x.toInt) (b := w) (by omega)
  apply Int32.toInt_inj.mp
  rw [Jvm.Kit.i32_of_i64 (by rw [d1]; omega) (by rw [d1]; omega), d1, nI_toInt (by omega)]
  omega
theorem an_rt {k w : Nat} (x : Int) (h0 : 0 < w) : (k + (x % w).toNat) % w = (((k : Int) + x) % w).toNat := by
  have m0 := Int.emod_nonneg x (b := w) (by omega)
  have e : (((k + (x % w).toNat) % w : Nat) : Int) = ((k : Int) + x) % w := by
    rw [Int.natCast_emod, Int.natCast_add, Int.toNat_of_nonneg m0, Int.add_emod_emod]
  omega
/-! where a function stands, what it is -/
def ag_k (tn : Nat → Nat) (n q : Nat) : Nat :=
  if tn q = 42 then 3 else if ¬ ag_sc (tn q) then 0
  else if q + 1 < n ∧ tn (q + 1) = 40 then 1 else if q + 1 < n ∧ tn (q + 1) = 41 then 2 else if q + 1 < n ∧ tn (q + 1) = 43 then 4 else 0
def ag_f (tn : Nat → Nat) (q : Nat) : Nat := if tn q = 42 then tn (q + 1) else tn q
def ag_g (tn : Nat → Nat) (q : Nat) : Nat := tn (q + 2)
def ag_w (k f g : Nat) : Nat := if k = 4 then 40000 + 100 * f + g else 10000 * k + f
def ag_wf (tn : Nat → Nat) (n q : Nat) : Prop :=
  q < n ∧ (ag_mx (tn q) ∨ (tn q = 42 ∧ q + 1 < n ∧ ag_sc (tn (q + 1))) ∨ (ag_sc (tn q) ∧ (q + 1 < n → tn (q + 1) = 43 → q + 2 < n ∧ ag_sc (tn (q + 2)))))
