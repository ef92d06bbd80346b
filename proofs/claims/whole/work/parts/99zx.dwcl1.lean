/-! dew: what the class asks -/
theorem ng_ok {f : Nat → Int64} (hf : okw f 7) : wr_ng f = 0 ↔ uv f 7 < 2 ^ 223 := by
  have h6 := hf 6 (by decide)
  have l6 := uv_lt 6 (fun j hj => hf j (by omega))
  have e7 : uv f 7 = uv f 6 + un (f 6) * 2 ^ (32 * 6) := uv_s f 6
  rw [show 32 * 6 = 192 from rfl] at e7 l6
  have ea : un (f 6 &&& 2147483648) = un (f 6) &&& 2147483648 := by
    unfold un
    rw [Int64.toBitVec_and, BitVec.toNat_and]
    rfl
  have k : (f 6 &&& 2147483648 = 0) ↔ un (f 6) < 2 ^ 31 := by
    constructor
    · intro q
      have u0 : un (f 6 &&& 2147483648) = 0 := by rw [q]; decide
      rw [ea] at u0
      have tb := congrArg (fun x => x.testBit 31) u0
      simp only [Nat.testBit_and, Nat.zero_testBit] at tb
      rw [show (2147483648 : Nat).testBit 31 = true by decide, Bool.and_true, Nat.testBit_eq_decide_div_mod_eq] at tb
      have := of_decide_eq_false tb
      omega
    · intro q
      apply un_inj
      rw [ea]
      show un (f 6) &&& 2147483648 = 0
      apply Nat.eq_of_testBit_eq
      intro i
      rw [Nat.testBit_and, Nat.zero_testBit, show (2147483648 : Nat) = 2 ^ 31 from rfl, Nat.testBit_two_pow]
      by_cases c : 31 = i
      · subst c
        rw [Nat.testBit_lt_two_pow q]; rfl
      · rw [decide_eq_false c, Bool.and_false]
  have E : wr_ng f = if f 6 &&& 2147483648 = 0 then 0 else 1 := by
    unfold wr_ng
    rw [ir_eq]
    rfl
  rw [E, e7]
  have p : (2 : Nat) ^ 223 = 2147483648 * 2 ^ 192 := by decide
  rw [p]
  generalize uv f 6 = x at *
  generalize un (f 6) = y at *
  generalize (2 : Nat) ^ 192 = M at *
  by_cases c : f 6 &&& 2147483648 = 0
  · rw [if_pos c]
    have y1 := k.mp c
    have m : y * M + M ≤ 2147483648 * M := by
      have := Nat.mul_le_mul_right M (show y + 1 ≤ 2147483648 by omega)
      rw [Nat.add_mul, Nat.one_mul] at this
      exact this
    exact ⟨fun _ => by omega, fun _ => rfl⟩
  · rw [if_neg c]
    have y1 : 2147483648 ≤ y := by
      have : ¬ y < 2 ^ 31 := fun q => c (k.mpr q)
      omega
    have m : 2147483648 * M ≤ y * M := Nat.mul_le_mul_right M y1
    exact ⟨fun q => absurd q (by decide), fun q => by omega⟩
theorem em_load {x : Int64} {n : Int} (h : x.toInt = n) : (((un x * 2 ^ 160) % 2 ^ 224 : Nat) : Int) = (n * 2 ^ 160) % 2 ^ 224 := by
  have e : x.toInt = if 2 * un x < 2 ^ 64 then (un x : Int) else (un x : Int) - 2 ^ 64 := by
    show x.toBitVec.toInt = _
    rw [BitVec.toInt_eq_toNat_cond]
    rfl
  rw [h] at e
  rw [Int.natCast_emod, Int.natCast_mul]
  have e2 : ((2 ^ 224 : Nat) : Int) = 2 ^ 224 := by decide
  have e3 : ((2 ^ 160 : Nat) : Int) = 2 ^ 160 := by decide
  rw [e2, e3, e]
  split
  · rfl
  · omega
/-- is above / below less than the number kept? -/
theorem rb_ok {ab be : Int64} {u : rk_U} {S n : Int} {k : Nat} (o : okw (u 8) 7) (hS : (uv (u 8) 7 : Int) = S % 2 ^ 224) (hk : un be = k) (k31 : k < 2 ^ 31) (hn : ab.toInt = n) (S1 : -(2 ^ 170) ≤ S) (S2 : S ≤ 2 ^ 170) (n1 : -(2 ^ 40) ≤ n) (n2 : n ≤ 2 ^ 40) :
    (rk_rbz ab be u = 1 ↔ 0 < S * k - n * 2 ^ 160) ∧ (rk_rbz ab be u = 0 ↔ ¬ 0 < S * k - n * 2 ^ 160) ∧ rk_rb ab be u 8 = u 8 := by
  have c := cpw_ok (f := u (2 * 1)) o
  have a2 : rk_cpy 1 4 u 2 = wr_cp (u (2 * 1)) (u (2 * 4)) := vup_eq _ _ _
  have a8 : rk_cpy 1 4 u 8 = u 8 := vup_ne _ _ (by decide)
  have c' : okw (rk_cpy 1 4 u 2) 7 ∧ uv (rk_cpy 1 4 u 2) 7 = uv (u 8) 7 := by rw [a2]; exact c
  have E : rk_rb ab be u = rk_sub 1 3 (rk_load 3 ab (rk_scl 1 be (rk_cpy 1 4 u))) := rfl
  have E8 : rk_rb ab be u 8 = u 8 := by
    rw [E]
    exact (vup_ne _ _ (by decide)).trans ((vup_ne _ _ (by decide)).trans ((vup_ne _ _ (by decide)).trans a8))
  have s := scl_ok (k := be) c'.1 (by rw [hk]; exact k31)
  rw [c'.2, hk] at s
  have b2 : rk_scl 1 be (rk_cpy 1 4 u) 2 = wr_scl (rk_cpy 1 4 u (2 * 1)) be := vup_eq _ _ _
  have s' : okw (rk_scl 1 be (rk_cpy 1 4 u) 2) 7 ∧ uv (rk_scl 1 be (rk_cpy 1 4 u) 2) 7 = uv (u 8) 7 * k % 2 ^ 224 := by rw [b2]; exact s
  generalize rk_scl 1 be (rk_cpy 1 4 u) = y at E s'
  have l := load_ok (f := y (2 * 3)) (x := ab)
  have d6 : rk_load 3 ab y 6 = wr_load (y (2 * 3)) ab := vup_eq _ _ _
  have d2 : rk_load 3 ab y 2 = y 2 := vup_ne _ _ (by decide)
  rw [← d6] at l
  rw [← d2] at s'
  generalize rk_load 3 ab y = w at E s' l
  have sb := subw_ok s'.1 l.1
  have f2 : rk_sub 1 3 w 2 = wr_sub (w 2) (w 6) := vup_eq _ _ _
  rw [← f2, ← E] at sb
  -- as a number
  have sk : (uv (w 2) 7 : Int) = (S * (k : Int)) % 2 ^ 224 := by rw [s'.2]; exact em_mul hS
  have ln : (uv (w 6) 7 : Int) = (n * 2 ^ 160) % 2 ^ 224 := by
    have q := em_load hn
    have lt := uv_lt 7 l.1
    rw [show 32 * 7 = 224 from rfl] at lt
    rw [l.2] at lt ⊢
    rw [Nat.mod_eq_of_lt lt] at q
    exact q
  have lt6 := uv_lt 7 l.1
  rw [show 32 * 7 = 224 from rfl] at lt6
  have tot : (uv (rk_rb ab be u 2) 7 : Int) = (S * (k : Int) - n * 2 ^ 160) % 2 ^ 224 := by
    rw [sb.2, em_sub sk (by omega), ln]
    omega
  have ng := ng_ok sb.1
  have zz := zw_ok sb.1
  have lt2 := uv_lt 7 sb.1
  rw [show 32 * 7 = 224 from rfl] at lt2
  have Sk1 : -(2 ^ 201) ≤ S * (k : Int) := by
    have a := Int.mul_le_mul_of_nonneg_right S1 (show 0 ≤ (k : Int) by omega)
    have b : (2 : Int) ^ 170 * k ≤ 2 ^ 170 * 2 ^ 31 := Int.mul_le_mul_of_nonneg_left (by omega) (by decide)
    have e : (2 : Int) ^ 170 * 2 ^ 31 = 2 ^ 201 := by decide
    rw [e] at b
    rw [Int.neg_mul] at a
    omega
  have Sk2 : S * (k : Int) ≤ 2 ^ 201 := by
    have a := Int.mul_le_mul_of_nonneg_right S2 (show 0 ≤ (k : Int) by omega)
    have b : (2 : Int) ^ 170 * k ≤ 2 ^ 170 * 2 ^ 31 := Int.mul_le_mul_of_nonneg_left (by omega) (by decide)
    have e : (2 : Int) ^ 170 * 2 ^ 31 = 2 ^ 201 := by decide
    rw [e] at b
    omega
  have key : (wr_ng (rk_rb ab be u 2) = 0 ∧ wr_z (rk_rb ab be u 2) = 0) ↔ 0 < S * (k : Int) - n * 2 ^ 160 := by
    have zz' : wr_z (rk_rb ab be u 2) = 0 ↔ ¬ uv (rk_rb ab be u 2) 7 = 0 := by
      constructor
      · exact fun q r => (zz.mpr r) q
      · intro q
        by_cases t : wr_z (rk_rb ab be u 2) = 0
        · exact t
        · exact absurd (zz.mp t) q
    rw [ng, zz']
    generalize uv (rk_rb ab be u 2) 7 = x at *
    generalize S * (k : Int) = A at *
    omega
  have D : rk_rbz ab be u = if wr_ng (rk_rb ab be u 2) = 0 ∧ wr_z (rk_rb ab be u 2) = 0 then 1 else 0 := rfl
  refine ⟨?_, ?_, E8⟩
  · rw [D, ← key]
    split
    · rename_i h
      exact ⟨fun _ => h, fun _ => rfl⟩
    · rename_i h
      exact ⟨fun q => absurd q (by decide), fun q => absurd q h⟩
  · rw [D, ← key]
    split
    · rename_i h
      exact ⟨fun q => absurd q (by decide), fun q => absurd h q⟩
    · rename_i h
      exact ⟨fun _ => h, fun _ => rfl⟩
