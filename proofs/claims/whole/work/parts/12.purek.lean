/-! THE RECKONER'S STATE: ten arrays (limbs and product of value, term, factor, part, kept), u k the k-th; its methods as changes of that state. -/
abbrev rk_U : Type := Nat → Nat → Int64
abbrev rk_w (ad : Nat → Nat) (cL : ClassId) (u : rk_U) : va_W :=
  [(ad 0, .inr (1, [.ref (ad 1), .ref (ad 4), .ref (ad 7), .ref (ad 10), .ref (ad 13)])),
   (ad 1, .inr (0, [.ref (ad 2), .ref (ad 3)])), (ad 2, .inl (cL, 7, .inr (.inl (u 0)))), (ad 3, .inl (cL, 14, .inr (.inl (u 1)))),
   (ad 4, .inr (0, [.ref (ad 5), .ref (ad 6)])), (ad 5, .inl (cL, 7, .inr (.inl (u 2)))), (ad 6, .inl (cL, 14, .inr (.inl (u 3)))),
   (ad 7, .inr (0, [.ref (ad 8), .ref (ad 9)])), (ad 8, .inl (cL, 7, .inr (.inl (u 4)))), (ad 9, .inl (cL, 14, .inr (.inl (u 5)))),
   (ad 10, .inr (0, [.ref (ad 11), .ref (ad 12)])), (ad 11, .inl (cL, 7, .inr (.inl (u 6)))), (ad 12, .inl (cL, 14, .inr (.inl (u 7)))),
   (ad 13, .inr (0, [.ref (ad 14), .ref (ad 15)])), (ad 14, .inl (cL, 7, .inr (.inl (u 8)))), (ad 15, .inl (cL, 14, .inr (.inl (u 9))))]
def pu_abl (x : Int64) : Int64 := if 0 ≤ x then x else -x
def pu_abi (x : Int32) : Int32 := if 0 ≤ x then x else -x
/-- a value that isn't looked into (by rewriting alone: ir_eq) -/
def ir_ {α : Type} (n : Nat) (x : α) : α := match n with
  | 0 => x
  | n + 1 => ir_ n x
termination_by n
theorem ir_eq {α : Type} (x : α) : ir_ 0 x = x := by rw [ir_]
def wr_load (f : Nat → Int64) (x : Int64) : Nat → Int64 := ir_ 0 (wd_load f x)
def wr_loadI (f : Nat → Int64) (x : Int64) : Nat → Int64 := ir_ 0 (wd_loadI f x)
def wr_rat (f : Nat → Int64) (x q : Int64) : Nat → Int64 := ir_ 0 (wd_div (wd_load f x) q)
def wr_cp (f g : Nat → Int64) : Nat → Int64 := ir_ 0 (wd_cp f g 7)
def wr_lim (f r : Nat → Int64) (N : Nat) (st : Int32) : Nat → Int64 := ir_ 0 (wd_cp f (wd_lim r N st) 7)
def wr_add (f g : Nat → Int64) : Nat → Int64 := ir_ 0 (wd_add f g 7).1
def wr_sub (f g : Nat → Int64) : Nat → Int64 := ir_ 0 (wd_sub f g 7).1
def wr_as (f g : Nat → Int64) (z : Int32) : Nat → Int64 := ir_ 0 (if z = 0 then (wd_add f g 7).1 else (wd_sub f g 7).1)
def wr_neg (f : Nat → Int64) : Nat → Int64 := ir_ 0 (wd_neg f 7).1
def wr_scl (f : Nat → Int64) (k : Int64) : Nat → Int64 := ir_ 0 (wd_scl f k 7).1
def wr_dv (f : Nat → Int64) (q : Int64) : Nat → Int64 := ir_ 0 (wd_div f q)
def wr_mul (dr : Nat) (f g p : Nat → Int64) : Nat → Int64 := ir_ 0 (wd_mul f g dr p)
def wr_mo (dr : Nat) (f g p : Nat → Int64) : Nat → Int64 := ir_ 0 (wd_mo f g dr p 7)
def wr_z (f : Nat → Int64) : Int32 := ir_ 0 (wd_z f)
def wr_ng (f : Nat → Int64) : Int32 := ir_ 0 (wd_ng f)
def wr_ab (f g : Nat → Int64) : Int32 := ir_ 0 (wd_ab f g 7)
def wr_wh (f : Nat → Int64) : Int64 := ir_ 0 (wd_wh f)
def rk_load (j : Nat) (x : Int64) (u : rk_U) : rk_U := va_up u (2 * j) (wr_load (u (2 * j)) x)
def rk_loadI (j : Nat) (x : Int64) (u : rk_U) : rk_U := va_up u (2 * j) (wr_loadI (u (2 * j)) x)
def rk_ratio (j : Nat) (x q : Int64) (u : rk_U) : rk_U := va_up u (2 * j) (wr_rat (u (2 * j)) x q)
def rk_cpy (j i : Nat) (u : rk_U) : rk_U := va_up u (2 * j) (wr_cp (u (2 * j)) (u (2 * i)))
def rk_lim (j : Nat) (r : Nat → Int64) (N : Nat) (st : Int32) (u : rk_U) : rk_U := va_up u (2 * j) (wr_lim (u (2 * j)) r N st)
def rk_add (j i : Nat) (u : rk_U) : rk_U := va_up u (2 * j) (wr_add (u (2 * j)) (u (2 * i)))
def rk_sub (j i : Nat) (u : rk_U) : rk_U := va_up u (2 * j) (wr_sub (u (2 * j)) (u (2 * i)))
def rk_as (j i : Nat) (z : Int32) (u : rk_U) : rk_U := va_up u (2 * j) (wr_as (u (2 * j)) (u (2 * i)) z)
def rk_neg (j : Nat) (u : rk_U) : rk_U := va_up u (2 * j) (wr_neg (u (2 * j)))
def rk_scl (j : Nat) (k : Int64) (u : rk_U) : rk_U := va_up u (2 * j) (wr_scl (u (2 * j)) k)
def rk_dv (j : Nat) (q : Int64) (u : rk_U) : rk_U := va_up u (2 * j) (wr_dv (u (2 * j)) q)
def rk_mul (dr j i : Nat) (u : rk_U) : rk_U := va_up (va_up u (2 * j) (wr_mul dr (u (2 * j)) (u (2 * i)) (u (2 * j + 1)))) (2 * j + 1) (wr_mo dr (u (2 * j)) (u (2 * i)) (u (2 * j + 1)))
/-- n times, the i-th time by B i -/
def rk_it (B : Nat → rk_U → rk_U) : Nat → rk_U → rk_U
  | 0, u => u
  | i + 1, u => B i (rk_it B i u)
/-- where a loop ends: the first i from here on at which z isn't 0, n steps at most -/
def rk_stop (z : Nat → Int32) : Nat → Nat → Nat
  | 0, i => i
  | n + 1, i => if z i = 0 then rk_stop z n (i + 1) else i
