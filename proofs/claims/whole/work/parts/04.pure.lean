/-! arrays as pure pictures: rank, rows, columns (ranks 0 and 1: one row), the ravel -/
def ap_ne (f : Nat) : Int32 := if f = 22 then 1 else 0
def ap_dv (x : Int32) : Int64 := if x < 0 then -x.toInt64 else x.toInt64
def ap_rm (x y : Int32) : Int64 := y.toInt64 - y.toInt64 / ap_dv x * ap_dv x
def ap_rs (x y : Int32) : Int32 := if x = 0 then y else if ap_rm x y < 0 then (ap_rm x y + ap_dv x).toInt32 else (ap_rm x y).toInt32
def ap_sf (f : Nat) (x y : Int32) : Int32 :=
  if f = 20 then x + y else if f = 21 then x - y else if f = 22 then x * y
  else if f = 23 then (if y < x then x else y) else if f = 24 then (if x < y then x else y)
  else if f = 25 then (if x = y then 1 else 0) else if f = 26 then (if x < y then 1 else 0) else ap_rs x y
/-- the numbers l - m to l, folded from the last one -/
def ap_fr (f : Nat) (d : Nat → Int32) (l : Nat) : Nat → Int32
  | 0 => d l
  | m + 1 => ap_sf f (d (l - (m + 1))) (ap_fr f d l m)
def ap_fv (f : Nat) (d : Nat → Int32) (k : Nat) : Int32 := if k = 0 then ap_ne f else ap_fr f d (k - 1) (k - 1)
theorem ap_frc {f : Nat} {d d' : Nat → Int32} {l : Nat} (h : ∀ i, i ≤ l → d i = d' i) : ∀ m, ap_fr f d l m = ap_fr f d' l m := by
  intro m
  induction m with
  | zero => exact h l (Nat.le_refl l)
  | succ m ih => unfold ap_fr; rw [ih, h _ (Nat.sub_le _ _)]
theorem ap_fvc {f : Nat} {d d' : Nat → Int32} {k : Nat} (h : ∀ i, i < k → d i = d' i) : ap_fv f d k = ap_fv f d' k := by
  unfold ap_fv
  by_cases e : k = 0
  · rw [if_pos e, if_pos e]
  · rw [if_neg e, if_neg e]; exact ap_frc (fun i hi => h i (by omega)) _
/-- the first of the places s, s + 1, .. at which p holds, s + m if none of m -/
def ap_fp (p : Nat → Bool) : Nat → Nat → Nat
  | 0, s => s
  | m + 1, s => if p s then s else ap_fp p m (s + 1)
/-- how many of the numbers 0 .. n - 1 stand before number i -/
def ap_pl (d : Nat → Int32) (i : Nat) : Nat → Nat
  | 0 => 0
  | n + 1 => if d n < d i ∨ (d n = d i ∧ n < i) then ap_pl d i n + 1 else ap_pl d i n
abbrev ap_T : Type := Int32 × Nat × Nat × Nat × (Nat → Int32)
def ap_er (e : Int32) : ap_T := (e, 0, 1, 1, fun _ => 0)
def ap_s1 (f R r c : Nat) (d : Nat → Int32) : ap_T := (0, R, r, c, fun i => ap_sf f (ap_ne f) (d i))
def ap_fold (f R r c : Nat) (d : Nat → Int32) : ap_T := (0, if R = 2 then 1 else 0, 1, r, fun i => ap_fv f (fun k => d (i * c + k)) c)
def ap_scan (f R r c : Nat) (d : Nat → Int32) : ap_T := (0, R, r, c, fun i => ap_fv f (fun k => d (i - i % c + k)) (i % c + 1))
def ap_shape (R r c : Nat) : ap_T := (0, 1, 1, R, fun i => if i = 0 then nI (if R = 2 then r else c) else nI c)
def ap_count (R : Nat) (d : Nat → Int32) : ap_T :=
  if R = 0 then (if d 0 < 0 ∨ 36 < d 0 then ap_er (-15) else (0, 1, 1, (d 0).toNatClampNeg, fun i => nI i)) else ap_er (-13)
def ap_turn (R r c : Nat) (d : Nat → Int32) : ap_T :=
  if R = 2 then (0, 2, c, r, fun j => d (j % r * c + j / r)) else (0, R, r, c, d)
def ap_rev (R r c : Nat) (d : Nat → Int32) : ap_T := (0, R, r, c, fun i => d (i - i % c + (c - 1 - i % c)))
def ap_first (r c : Nat) (d : Nat → Int32) : ap_T := (0, 0, 1, 1, fun _ => if r * c = 0 then 0 else d 0)
def ap_ravel (r c : Nat) (d : Nat → Int32) : ap_T := (0, 1, 1, r * c, d)
def ap_rise (R c : Nat) (d : Nat → Int32) : ap_T :=
  if R = 1 then (0, 1, 1, c, fun j => nI (ap_fp (fun i => decide (ap_pl d i c = j)) c 0)) else ap_er (-13)
def ap_one (k f R r c : Nat) (d : Nat → Int32) : ap_T :=
  if 2 < k ∨ f = 35 ∨ f = 37 then ap_er (-12)
  else if k = 1 then ap_fold f R r c d else if k = 2 then ap_scan f R r c d
  else if f < 30 then ap_s1 f R r c d
  else if f = 30 then ap_shape R r c else if f = 31 then ap_count R d
  else if f = 32 then ap_turn R r c d else if f = 33 then ap_rev R r c d
  else if f = 34 then ap_first r c d else if f = 36 then ap_ravel r c d else ap_rise R c d
section
variable (R r c : Nat) (d : Nat → Int32) (S s t : Nat) (e : Nat → Int32)
def ap_s2 (f : Nat) : ap_T :=
  if ¬ (R = S ∧ r = s ∧ c = t) ∧ R ≠ 0 ∧ S ≠ 0 then (if R = S then ap_er (-14) else ap_er (-13))
  else (0, if R = 0 then S else R, if R = 0 then s else r, if R = 0 then t else c, fun i => ap_sf f (d (if R = 0 then 0 else i)) (e (if S = 0 then 0 else i)))
def ap_outer (f : Nat) : ap_T :=
  if 2 < R + S then ap_er (-13)
  else if R = 1 ∧ S = 1 then (if 6 < c ∨ 6 < t then ap_er (-16) else (0, 2, c, t, fun i => ap_sf f (d (i / (s * t))) (e (i % (s * t)))))
  else (0, if R = 0 then S else R, if R = 0 then s else r, if R = 0 then t else c, fun i => ap_sf f (d (i / (s * t))) (e (i % (s * t))))
def ap_w : Nat := if R = 2 then c else 1
def ap_fl : Nat := if R = 2 then r else c
def ap_inner (f g : Nat) : ap_T :=
  if R = 0 ∨ S = 0 then ap_er (-13)
  else if c = ap_fl S s t then (0, R + S - 2, if R = 2 ∧ S = 2 then r else 1, if R = 2 ∧ S = 2 then ap_w S t else r * ap_w S t,
    fun i => ap_fv f (fun k => ap_sf g (d (i / ap_w S t * c + k)) (e (k * ap_w S t + i % ap_w S t))) c)
  else ap_er (-14)
def ap_resh : ap_T :=
  if R = 2 then ap_er (-13) else if 2 < r * c then ap_er (-14)
  else if ∀ i, i < r * c → ¬ d i < 0 ∧ ¬ (if r * c = 1 then 36 else 6) < d i then
    (0, r * c, if r * c = 2 then (d 0).toNatClampNeg else 1, if r * c = 0 then 1 else (d (r * c - 1)).toNatClampNeg, fun i => if s * t = 0 then 0 else e (i % (s * t)))
  else ap_er (-15)
def ap_find : ap_T :=
  if R = 1 then (0, S, s, t, fun i => nI (ap_fp (fun k => decide (d k = e i)) c 0)) else ap_er (-13)
def ap_rot : ap_T :=
  if R = 0 then (0, S, s, t, fun i => e (i - i % t + (i % t + ((d 0).toInt % t).toNat) % t)) else ap_er (-13)
end
def ap_lines (a : Int) (m R r c : Nat) (d : Nat → Int32) : ap_T :=
  (0, if R = 2 then 2 else 1, if R = 2 then m else 1, if R = 2 then c else m,
    fun i => if 0 ≤ a * ap_w R c + i ∧ a * ap_w R c + i < (r * c : Nat) then d (a * ap_w R c + i).toNat else 0)
section
variable (R r c : Nat) (d : Nat → Int32) (S s t : Nat) (e : Nat → Int32)
def ap_take : ap_T :=
  if R = 0 then
    (if (d 0).toInt < -(if S = 2 then 6 else 36) ∨ (if S = 2 then 6 else 36) < (d 0).toInt then ap_er (-15)
     else ap_lines (if (d 0).toInt < 0 then ap_fl S s t + (d 0).toInt else 0) (d 0).toInt.natAbs S s t e)
  else ap_er (-13)
def ap_drop : ap_T :=
  if R = 0 then ap_lines (if (d 0).toInt < 0 then 0 else (ap_fl S s t - (ap_fl S s t - (d 0).toInt.natAbs) : Nat)) (ap_fl S s t - (d 0).toInt.natAbs) S s t e
  else ap_er (-13)
def ap_join : ap_T :=
  if (R = 2 ∧ S ≠ 2) ∨ (R ≠ 2 ∧ S = 2) then ap_er (-13) else if r ≠ s then ap_er (-14)
  else if (if R = 2 then 6 else 36) < c + t then ap_er (-16)
  else (0, if R = 2 then 2 else 1, r, c + t, fun i => if i % (c + t) < c then d (i / (c + t) * c + i % (c + t)) else e (i / (c + t) * t + (i % (c + t) - c)))
def ap_pick : ap_T :=
  if R = 2 ∨ S = 0 then ap_er (-13)
  else if ∀ i, i < c → ¬ d i < 0 ∧ d i < nI (ap_fl S s t) then
    (if S = 2 ∧ 6 < c then ap_er (-16)
     else (0, R + S - 1, if R + S - 1 = 2 then c else 1, if R + S - 1 = 2 then ap_w S t else c * ap_w S t,
       fun i => e ((d (i / ap_w S t)).toNatClampNeg * ap_w S t + i % ap_w S t)))
  else ap_er (-15)
def ap_two (k f g : Nat) : ap_T :=
  if k = 1 ∨ k = 2 ∨ f = 32 ∨ f = 38 then ap_er (-12)
  else if k = 3 then ap_outer R r c d S s t e f
  else if k = 4 then ap_inner R r c d S s t e f g
  else if f < 30 then ap_s2 R r c d S s t e f
  else if f = 30 then ap_resh R r c d s t e else if f = 31 then ap_find R c d S s t e
  else if f = 33 then ap_rot R d S s t e
  else if f = 34 then ap_take R d S s t e else if f = 35 then ap_drop R d S s t e
  else if f = 36 then ap_join R r c d S s t e else ap_pick R c d S s t e
end
/-- the shapes of arrays -/
def ap_VS (R r c : Nat) : Prop := (R = 0 ∧ r = 1 ∧ c = 1) ∨ (R = 1 ∧ r = 1 ∧ c ≤ 36) ∨ (R = 2 ∧ r ≤ 6 ∧ c ≤ 6)
theorem ap_v36 {R r c : Nat} (h : ap_VS R r c) : r * c ≤ 36 := by
  rcases h with ⟨_, rfl, rfl⟩ | ⟨_, rfl, h⟩ | ⟨_, h1, h2⟩
  · decide
  · omega
  · exact Nat.le_trans (Nat.mul_le_mul h1 h2) (by decide)
theorem ap_vb {R r c : Nat} (h : ap_VS R r c) : R ≤ 2 ∧ r ≤ 6 ∧ c ≤ 36 := by
  unfold ap_VS at h; omega
theorem ap_v1 {R r c : Nat} (h : ap_VS R r c) (h2 : R ≠ 2) : r = 1 := by
  unfold ap_VS at h; omega
theorem ap_v0 {r c : Nat} (h : ap_VS 0 r c) : r = 1 ∧ c = 1 := by
  unfold ap_VS at h; omega
/-- the numbers of the holder where results are made -/
def ap_wr (a g : Nat → Int32) (e : Nat) : Nat → Int32 := fun j => if 468 ≤ j ∧ j < 468 + e then g (j - 468) else a j
theorem ap_wr0 (a g : Nat → Int32) : ap_wr a g 0 = a := by
  funext j; unfold ap_wr; rw [if_neg (by omega)]
theorem ap_wrS (a g : Nat → Int32) (e : Nat) : upd (ap_wr a g e) (468 + e) (g e) = ap_wr a g (e + 1) := by
  funext j
  unfold ap_wr upd
  by_cases h : j = 468 + e
  · subst h; rw [if_pos rfl, if_pos (by omega), Nat.add_sub_cancel_left]
  · rw [if_neg h]
    dsimp only
    by_cases h2 : 468 ≤ j ∧ j < 468 + e
    · rw [if_pos h2, if_pos (by omega)]
    · rw [if_neg h2, if_neg (by omega)]
theorem ap_wrN {a g : Nat → Int32} {e j : Nat} (he : e ≤ 36) (h : j < 468 ∨ 504 ≤ j) : ap_wr a g e j = a j := by
  unfold ap_wr; rw [if_neg (by omega)]
theorem ap_wrI {a g : Nat → Int32} {e i : Nat} (h : i < e) : ap_wr a g e (468 + i) = g i := by
  unfold ap_wr; rw [if_pos (by omega), Nat.add_sub_cancel_left]
/-- X's holder h, Y's place h, hold the array -/
def ap_X (rk rw cl nb : Nat → Int32) (h R r c : Nat) (d : Nat → Int32) : Prop :=
  rk h = nI R ∧ rw h = nI r ∧ cl h = nI c ∧ ∀ i, i < r * c → nb (h * 36 + i) = d i
def ap_Y (rk rw wd dt : Nat → Int32) (h R r c : Nat) (d : Nat → Int32) : Prop :=
  rk h = nI R ∧ rw h = nI (ap_fl R r c) ∧ wd h = nI (ap_w R c) ∧ ∀ i, i < r * c → dt (h * 36 + i) = d i
/-- all but holder h stays -/
def ap_F (h : Nat) (rk rw cl nb rk' rw' cl' nb' : Nat → Int32) : Prop :=
  (∀ j, j ≠ h → rk' j = rk j ∧ rw' j = rw j ∧ cl' j = cl j) ∧ ∀ j, (j < h * 36 ∨ h * 36 + 36 ≤ j) → nb' j = nb j
theorem ap_Fr (h : Nat) (rk rw cl nb : Nat → Int32) : ap_F h rk rw cl nb rk rw cl nb := ⟨fun _ _ => ⟨rfl, rfl, rfl⟩, fun _ _ => rfl⟩
theorem ap_FX {h q R r c : Nat} {d rk rw cl nb rk' rw' cl' nb' : Nat → Int32} (F : ap_F q rk rw cl nb rk' rw' cl' nb') (hq : h ≠ q) (V : r * c ≤ 36) (H : ap_X rk rw cl nb h R r c d) : ap_X rk' rw' cl' nb' h R r c d := by
  obtain ⟨a, b, e, g⟩ := H
  obtain ⟨x, y, z⟩ := F.1 h hq
  exact ⟨x.trans a, y.trans b, z.trans e, fun i hi => (F.2 _ (by omega)).trans (g i hi)⟩
theorem ap_FY {h q R r c : Nat} {d rk rw cl nb rk' rw' cl' nb' : Nat → Int32} (F : ap_F q rk rw cl nb rk' rw' cl' nb') (hq : h ≠ q) (V : r * c ≤ 36) (H : ap_Y rk rw cl nb h R r c d) : ap_Y rk' rw' cl' nb' h R r c d := by
  obtain ⟨a, b, e, g⟩ := H
  obtain ⟨x, y, z⟩ := F.1 h hq
  exact ⟨x.trans a, y.trans b, z.trans e, fun i hi => (F.2 _ (by omega)).trans (g i hi)⟩
/-- writing result holder 13 -/
theorem ap_F13 {rk rw cl nb g : Nat → Int32} {x y z : Int32} {e : Nat} (he : e ≤ 36) : ap_F 13 rk rw cl nb (upd rk 13 x) (upd rw 13 y) (upd cl 13 z) (ap_wr nb g e) :=
  ⟨fun _ h => ⟨pk_un h, pk_un h, pk_un h⟩, fun _ h => ap_wrN he (by omega)⟩
theorem ap_X13 {rk rw cl nb g : Nat → Int32} {R r c : Nat} : ap_X (upd rk 13 (nI R)) (upd rw 13 (nI r)) (upd cl 13 (nI c)) (ap_wr nb g (r * c)) 13 R r c g :=
  ⟨pk_us, pk_us, pk_us, fun _ h => ap_wrI h⟩
theorem ap_Y13 {rk rw cl nb g : Nat → Int32} {R r c : Nat} : ap_Y (upd rk 13 (nI R)) (upd rw 13 (nI (ap_fl R r c))) (upd cl 13 (nI (ap_w R c))) (ap_wr nb g (r * c)) 13 R r c g :=
  ⟨pk_us, pk_us, pk_us, fun _ h => ap_wrI h⟩
