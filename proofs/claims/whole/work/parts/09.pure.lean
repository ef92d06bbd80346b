/-! THE CLASS'S METHODS AS PURE FUNCTIONS: they say what the bytecode computes, step for step (Int64, Int32 as the machine has them; arrays are functions of a place). -/
def pu_us (x : Int64) (y : Int32) : Int64 := (x.toUInt64 >>> (y.toInt64.toUInt64 &&& Int64.toUInt64 63)).toInt64
def pu_ss (x : Int64) (y : Int32) : Int64 := x >>> (y.toInt64 &&& 63)
def pu_sl (x : Int64) (y : Int32) : Int64 := x <<< (y.toInt64 &&& 63)
/-- Math.floorDiv of longs -/
def pu_fdl (x y : Int64) : Int64 := if (x ^^^ y) < 0 ∧ ¬ (x / y * y = x) then x / y - 1 else x / y
def pu_fdi (x y : Int32) : Int32 := if (x ^^^ y) < 0 ∧ ¬ (x / y * y = x) then x / y - 1 else x / y
/-- the first n places hold v -/
def wd_fl (f : Nat → Int64) (v : Int64) (n : Nat) : Nat → Int64 := fun j => if j < n then v else f j
theorem wd_fl_0 (f : Nat → Int64) (v : Int64) : wd_fl f v 0 = f := funext fun j => if_neg (Nat.not_lt_zero j)
theorem wd_fl_s (f : Nat → Int64) (v : Int64) (i : Nat) : vp_updL (wd_fl f v i) i v = wd_fl f v (i + 1) := by
  funext j
  unfold vp_updL wd_fl
  by_cases h : j = i
  · rw [if_pos h, if_pos (by omega)]
  · rw [if_neg h]
    by_cases h2 : j < i
    · rw [if_pos h2, if_pos (by omega)]
    · rw [if_neg h2, if_neg (by omega)]
/-- the first n places are g's -/
def wd_cp (f g : Nat → Int64) (n : Nat) : Nat → Int64 := fun j => if j < n then g j else f j
theorem wd_cp_0 (f g : Nat → Int64) : wd_cp f g 0 = f := funext fun j => if_neg (Nat.not_lt_zero j)
theorem wd_cp_s (f g : Nat → Int64) (i : Nat) : vp_updL (wd_cp f g i) i (g i) = wd_cp f g (i + 1) := by
  funext j
  unfold vp_updL wd_cp
  by_cases h : j = i
  · rw [if_pos h, if_pos (by omega), h]
  · rw [if_neg h]
    by_cases h2 : j < i
    · rw [if_pos h2, if_pos (by omega)]
    · rw [if_neg h2, if_neg (by omega)]
def wd_load (f : Nat → Int64) (x : Int64) : Nat → Int64 := vp_updL (vp_updL (wd_fl f 0 7) 5 (x &&& 4294967295)) 6 (pu_us x 32)
def wd_loadI (f : Nat → Int64) (x : Int64) : Nat → Int64 := vp_updL (vp_updL (wd_fl f 0 7) 0 (x &&& 4294967295)) 1 (pu_us x 32)
/-- loadLimbs: row r of N places from the place st on -/
def wd_lim (r : Nat → Int64) (N : Nat) (st : Int32) : Nat → Int64 := fun j => if 0 ≤ st + nI j ∧ st + nI j < nI N then r (st + nI j).toNatClampNeg else 0
def wd_add (f g : Nat → Int64) : Nat → (Nat → Int64) × Int64
  | 0 => (f, 0)
  | i + 1 => (vp_updL (wd_add f g i).1 i (((wd_add f g i).1 i + g i + (wd_add f g i).2) &&& 4294967295), pu_us ((wd_add f g i).1 i + g i + (wd_add f g i).2) 32)
def wd_sub (f g : Nat → Int64) : Nat → (Nat → Int64) × Int64
  | 0 => (f, 0)
  | i + 1 => (vp_updL (wd_sub f g i).1 i (((wd_sub f g i).1 i - g i + (wd_sub f g i).2) &&& 4294967295), pu_ss ((wd_sub f g i).1 i - g i + (wd_sub f g i).2) 32)
def wd_neg (f : Nat → Int64) : Nat → (Nat → Int64) × Int64
  | 0 => (f, 1)
  | i + 1 => (vp_updL (wd_neg f i).1 i (((wd_neg f i).1 i ^^^ 4294967295) + (wd_neg f i).2 &&& 4294967295), pu_us (((wd_neg f i).1 i ^^^ 4294967295) + (wd_neg f i).2) 32)
def wd_scl (f : Nat → Int64) (k : Int64) : Nat → (Nat → Int64) × Int64
  | 0 => (f, 0)
  | i + 1 => (vp_updL (wd_scl f k i).1 i (((wd_scl f k i).1 i * k + (wd_scl f k i).2) &&& 4294967295), pu_us ((wd_scl f k i).1 i * k + (wd_scl f k i).2) 32)
/-- one limb of a division: (rest, limb) to (limb, rest) -/
def wd_up (rest x : Int64) : Int64 := pu_sl rest 16 ||| pu_us x 16
def wd_lo (d rest x : Int64) : Int64 := pu_sl (wd_up rest x - wd_up rest x / d * d) 16 ||| (x &&& 65535)
def wd_dvs (f : Nat → Int64) (d : Int64) : Nat → (Nat → Int64) × Int64
  | 0 => (f, 0)
  | k + 1 => (vp_updL (wd_dvs f d k).1 (6 - k) (pu_sl (wd_up (wd_dvs f d k).2 ((wd_dvs f d k).1 (6 - k)) / d) 16 ||| wd_lo d (wd_dvs f d k).2 ((wd_dvs f d k).1 (6 - k)) / d), wd_lo d (wd_dvs f d k).2 ((wd_dvs f d k).1 (6 - k)) - wd_lo d (wd_dvs f d k).2 ((wd_dvs f d k).1 (6 - k)) / d * d)
def wd_div (f : Nat → Int64) (d : Int64) : Nat → Int64 := if d ≤ 0 ∨ 140737488355328 ≤ d then f else (wd_dvs f d 7).1
/-- a row of a product: k places from j0 on -/
def wd_mi (dg : Int64) (g : Nat → Int64) (i j0 : Nat) (p : Nat → Int64) : Nat → (Nat → Int64) × Int64
  | 0 => (p, 0)
  | k + 1 => (vp_updL (wd_mi dg g i j0 p k).1 (i + (j0 + k)) ((dg * g (j0 + k) + (wd_mi dg g i j0 p k).1 (i + (j0 + k)) + (wd_mi dg g i j0 p k).2) &&& 4294967295), pu_us (dg * g (j0 + k) + (wd_mi dg g i j0 p k).1 (i + (j0 + k)) + (wd_mi dg g i j0 p k).2) 32)
def wd_mo (f g : Nat → Int64) (dr : Nat) (p : Nat → Int64) : Nat → (Nat → Int64)
  | 0 => wd_fl p 0 14
  | i + 1 => if f i = 0 then wd_mo f g dr p i else vp_updL (wd_mi (f i) g i (dr - 1 - i) (wd_mo f g dr p i) (7 - (dr - 1 - i))).1 (i + 7) (wd_mi (f i) g i (dr - 1 - i) (wd_mo f g dr p i) (7 - (dr - 1 - i))).2
def wd_mul (f g : Nat → Int64) (dr : Nat) (p : Nat → Int64) : Nat → Int64 := wd_cp f (fun j => wd_mo f g dr p 7 (j + dr)) 7
def wd_z (f : Nat → Int64) : Int32 := if f 0 = 0 ∧ f 1 = 0 ∧ f 2 = 0 ∧ f 3 = 0 ∧ f 4 = 0 ∧ f 5 = 0 ∧ f 6 = 0 then 1 else 0
theorem wd_z_1 {f : Nat → Int64} (h : ∀ j, j < 7 → f j = 0) : wd_z f = 1 := if_pos ⟨h 0 (by omega), h 1 (by omega), h 2 (by omega), h 3 (by omega), h 4 (by omega), h 5 (by omega), h 6 (by omega)⟩
theorem wd_z_0 {f : Nat → Int64} {i : Nat} (hi : i < 7) (h : ¬ f i = 0) : wd_z f = 0 := by
  refine if_neg (fun q => h ?_)
  obtain ⟨h0, h1, h2, h3, h4, h5, h6⟩ := q
  rcases (show i = 0 ∨ i = 1 ∨ i = 2 ∨ i = 3 ∨ i = 4 ∨ i = 5 ∨ i = 6 by omega) with e | e | e | e | e | e | e <;> (rw [e]; assumption)
def wd_ng (f : Nat → Int64) : Int32 := if f 6 &&& 2147483648 = 0 then 0 else 1
def wd_ab (f g : Nat → Int64) : Nat → Int32
  | 0 => 0
  | i + 1 => if f i = g i then wd_ab f g i else if g i < f i then 1 else 0
def wd_wh (f : Nat → Int64) : Int64 := pu_sl (f 6) 32 ||| f 5
theorem wd_j0 : ∀ dr, dr < 8 → ∀ i, i < 7 → (if (0 : Int32) < nI dr - 1 - nI i then nI dr - 1 - nI i else 0) = nI (dr - 1 - i) := by decide +kernel
theorem ct_sameL {D : va_G} {cl : List vw_C} {tys : List (ClassId × FieldType)} {U : State} {cA cB : ClassId} (h : va_K D cl tys U) (i j : Nat) (hi : tys[i]? = some (cA, .long)) (hj : tys[j]? = some (cB, .long)) : cA = cB := by
  have h1 : U.vm.findClass ("[" ++ (FieldType.long).toString) = some cA := (h.2 i _ hi).2
  have h2 : U.vm.findClass ("[" ++ (FieldType.long).toString) = some cB := (h.2 j _ hj).2
  exact Option.some.inj (h1.symm.trans h2)
theorem ct_sameI {D : va_G} {cl : List vw_C} {tys : List (ClassId × FieldType)} {U : State} {cA cB : ClassId} (h : va_K D cl tys U) (i j : Nat) (hi : tys[i]? = some (cA, .int)) (hj : tys[j]? = some (cB, .int)) : cA = cB := by
  have h1 : U.vm.findClass ("[" ++ (FieldType.int).toString) = some cA := (h.2 i _ hi).2
  have h2 : U.vm.findClass ("[" ++ (FieldType.int).toString) = some cB := (h.2 j _ hj).2
  exact Option.some.inj (h1.symm.trans h2)
