/-! EQ_pw -/
theorem up_ex {f g : Nat → Int64} (hf : okw f 7) (h0 : uv f 5 = 0) : ∀ i, i ≤ 7 → up_s f g 5 i = uv f i * uv g 7
  | 0, _ => by show 0 = 0 * _; rw [Nat.zero_mul]
  | i + 1, h => by
    have ih := up_ex (g := g) hf h0 i (by omega)
    have E : up_s f g 5 (i + 1) = up_s f g 5 i + un (f i) * 2 ^ (32 * i) * ug g (5 - 1 - i) (7 - (5 - 1 - i)) := rfl
    have hg7 := ug_uv g (5 - 1 - i) (7 - (5 - 1 - i))
    rw [show 5 - 1 - i + (7 - (5 - 1 - i)) = 7 by omega] at hg7
    rw [E, uv_s, Nat.add_mul, ih]
    by_cases hi : i < 5
    · have z : un (f i) * 2 ^ (32 * i) = 0 := by
        have k : ∀ m n, m ≤ n → n ≤ 7 → uv f m ≤ uv f n := fun m n hm hn => by
          induction n with
          | zero => rw [show m = 0 by omega]; exact Nat.le_refl _
          | succ n ihn =>
            by_cases c : m = n + 1
            · rw [c]; exact Nat.le_refl _
            · rw [uv_s]; exact Nat.le_trans (ihn (by omega) (by omega)) (Nat.le_add_right _ _)
        have k5 := k (i + 1) 5 (by omega) (by decide)
        rw [uv_s, h0] at k5
        omega
      rw [z, Nat.zero_mul, Nat.zero_mul]
    · have e5 : 5 - 1 - i = 0 := by omega
      rw [e5] at hg7 ⊢
      have u0 : uv g 0 = 0 := rfl
      rw [u0, Nat.zero_add] at hg7
      rw [hg7]
theorem mul_one9 {f p : Nat → Int64} (hf : okw f 7) (h : uv f 7 = 2 ^ 160) : okw (wr_mul 5 f f p) 7 ∧ uv (wr_mul 5 f f p) 7 = 2 ^ 160 := by
  obtain ⟨a, b⟩ := mul_w (p := p) hf hf (dr := 5) (by decide)
  have h5 : uv f 5 = 0 := by
    have l5 := uv_lt 5 (fun j hj => hf j (by omega))
    have e7 : uv f 7 = uv f 5 + un (f 5) * 2 ^ (32 * 5) + un (f 6) * 2 ^ (32 * 6) := by rw [uv_s, uv_s]
    rw [h, show 32 * 5 = 160 from rfl, show 32 * 6 = 192 from rfl] at e7
    rw [show 32 * 5 = 160 from rfl] at l5
    generalize uv f 5 = x at *
    generalize un (f 5) = y at *
    generalize un (f 6) = z at *
    have e9 : (2 : Nat) ^ 192 = 4294967296 * 2 ^ 160 := by decide
    rw [e9] at e7
    omega
  rw [up_ex hf h5 7 (Nat.le_refl _), h, show 32 * 5 = 160 from rfl] at b
  exact ⟨a, by rw [b]⟩
theorem ce_null {D : Nat} {b : Bool} : ∀ n, ceS b 0 D n = 2 ^ 160
  | 0 => rfl
  | n + 1 => by
    have e : ceT 0 D (n + 1) = 0 := by show ceT 0 D n * 0 / _ = 0; rw [Nat.mul_zero, Nat.zero_div]
    show (if _ then ceS b 0 D n - ceT 0 D (n + 1) else ceS b 0 D n + ceT 0 D (n + 1)) = _
    rw [e, ce_null n]
    split <;> rfl
theorem it_one {w : rk_U} (o0 : okw (w 0) 7) (h : uv (w 0) 7 = 2 ^ 160) : ∀ j, okw (rk_it (fun _ => rk_mul 5 0 0) j w 0) 7 ∧ uv (rk_it (fun _ => rk_mul 5 0 0) j w 0) 7 = 2 ^ 160
  | 0 => ⟨o0, h⟩
  | j + 1 => by
    obtain ⟨a, b⟩ := it_one o0 h j
    have E : rk_it (fun _ => rk_mul 5 0 0) (j + 1) w = rk_mul 5 0 0 (rk_it (fun _ => rk_mul 5 0 0) j w) := rfl
    rw [E]
    generalize rk_it (fun _ => rk_mul 5 0 0) j w = v at *
    have m := mul_one9 (p := v (2 * 0 + 1)) a b
    have e0 : rk_mul 5 0 0 v 0 = wr_mul 5 (v 0) (v 0) (v (2 * 0 + 1)) := (vup_ne _ _ (by decide)).trans (vup_eq _ _ _)
    rw [e0]
    exact m
/-- e to the 0: one, to the last unit -/
theorem raise_one {ab be : Int64} {u : rk_U} {D : Nat} (ea : un (pu_abl ab) = 0) (ed : un (pu_sl be 5) = D) (hD : 0 < D) (hD2 : D * 400 < 2 ^ 47) : okw (rk_raise ab be u 0) 7 ∧ uv (rk_raise ab be u 0) 7 = 2 ^ 160 := by
  have l0 := load_ok (f := u (2 * 0)) (x := 1)
  have l1 := load_ok (f := rk_load 0 1 u (2 * 1)) (x := 1)
  have x0 : rk_load 1 1 (rk_load 0 1 u) 0 = wr_load (u (2 * 0)) 1 := (vup_ne _ _ (by decide)).trans (vup_eq _ _ _)
  have x2 : rk_load 1 1 (rk_load 0 1 u) 2 = wr_load (rk_load 0 1 u (2 * 1)) 1 := vup_eq _ _ _
  rw [← x0] at l0
  rw [← x2] at l1
  have E : rk_raise ab be u = rk_it (fun _ => rk_mul 5 0 0) 5 (rk_it (rk_eB ab be) (rk_stop (fun i => wr_z (rk_it (rk_eB ab be) i (rk_load 1 1 (rk_load 0 1 u)) 2)) 399 0) (rk_load 1 1 (rk_load 0 1 u))) := rfl
  rw [E]
  generalize rk_load 1 1 (rk_load 0 1 u) = v at *
  have iv := fun n hn => cw_val ea ed (by decide) hD hD2 (by omega) l0.1 l1.1 (by rw [l0.2]; rfl) (by rw [l1.2]; rfl) n hn
  have st := stop_ok (fun i => wr_z (rk_it (rk_eB ab be) i v 2)) 399 0 200 (by
    have i9 := iv 200 (by decide)
    exact (zw_ok i9.2.1).mpr (by rw [i9.2.2.1]; exact ce_zero hD (by omega))) (Nat.zero_le _) (by decide)
  generalize rk_stop (fun i => wr_z (rk_it (rk_eB ab be) i v 2)) 399 0 = k at *
  obtain ⟨-, s2, s3⟩ := st
  obtain ⟨j1, -, -, j4⟩ := iv k (by omega)
  rw [ce_null] at j4
  exact it_one j1 j4 5
/-- the class's answer: its number times m, rounded down -/
theorem fn_ok {m : Int64} {u : rk_U} (o : okw (u 0) 7) (hm : un m < 2 ^ 31) (h : uv (u 0) 7 * un m < 2 ^ 223) : un (fn_r m u) = uv (u 0) 7 * un m / 2 ^ 160 := by
  have s := scl_ok (k := m) o hm
  have e : rk_scl 0 m u 0 = wr_scl (u 0) m := vup_eq _ _ _
  have E : fn_r m u = wr_wh (rk_scl 0 m u 0) := rfl
  rw [E, e, whw_ok s.1, s.2, Nat.mod_eq_of_lt (Nat.lt_trans h (by decide))]
theorem pwQ_nn (B S : Int) (hB : 0 < B) : 0 ≤ pwQ B S 6 := by
  show 0 ≤ pwQ B S 5 * pwQ B S 5 / B
  refine Int.ediv_nonneg ?_ (Int.le_of_lt hB)
  generalize pwQ B S 5 = q
  rcases (show 0 ≤ q ∨ q ≤ 0 by omega) with h | h
  · exact Int.mul_nonneg h h
  · have := Int.mul_nonneg (show 0 ≤ -q by omega) (show 0 ≤ -q by omega)
    rw [Int.neg_mul_neg] at this
    exact this
theorem b66 {f : Nat} (h : f = 11 ∨ f = 17) : (10 : Int) ^ 66 ≤ 1000000 ^ f ∧ ∃ m : Int, (1000000 : Int) ^ f = 64000000 * m := by
  rcases h with h | h <;> subst h
  · exact ⟨by decide, 1000000 ^ 11 / 64000000, by decide⟩
  · exact ⟨by decide, 1000000 ^ 17 / 64000000, by decide⟩
theorem m_val_i {P : Nat → S2 → S2} {V : Nat → S2 → Int64} {n : Int} (h : ∀ f, (f = 11 ∨ f = 17) → ∀ z, (V f z).toInt = n) (z : S2) : (m_val P V z).toInt = n := by
  unfold m_val
  split
  · exact h 11 (Or.inl rfl) z
  · exact h 17 (Or.inr rfl) _
theorem abl_unL {y : Int64} (h : -1000000000000000000 ≤ y.toInt) (h2 : y.toInt ≤ 1000000000000000000) : un (pu_abl y) = y.toInt.natAbs := by
  have e0 : (0 : Int64).toInt = 0 := rfl
  unfold pu_abl
  by_cases q : 0 ≤ y
  · have q2 := (i64_le _ _).mp q
    rw [e0] at q2
    have := toInt_un q2
    rw [if_pos q]; omega
  · have q2 : ¬ (0 : Int) ≤ y.toInt := fun z => q ((i64_le _ _).mpr (by rw [e0]; exact z))
    have e3 : (-y).toInt = -y.toInt := by
      rw [Int64.toInt_neg]
      exact Int.bmod_eq_of_le (by omega) (by omega)
    have := toInt_un (x := -y) (by omega)
    rw [if_neg q]; omega
theorem abl_un {x : Int32} (h : -100000000 ≤ x.toInt) (h2 : x.toInt ≤ 100000000) : un (pu_abl x.toInt64) = x.toInt.natAbs := by
  have e := Int32.toInt_toInt64 x
  rw [abl_unL (by omega) (by omega), e]
theorem ng_dec {x : Int32} {y : Int64} (h : y.toInt < 0 ↔ x.toInt < 0) : decide (y < 0) = decide (¬ ng9 x = 0) := by
  unfold ng9
  have e0 : (0 : Int64).toInt = 0 := rfl
  have e1 : (0 : Int32).toInt = 0 := rfl
  by_cases c : 0 ≤ x
  · have c' := (i32_le _ _).mp c
    have c2 : ¬ y < 0 := fun w => by
      have := (i64_lt _ _).mp w
      omega
    rw [if_pos c, decide_eq_false c2]; rfl
  · have c2 : y < 0 := (i64_lt _ _).mpr (by
      have : ¬ (0 : Int32).toInt ≤ x.toInt := fun w => c ((i32_le _ _).mpr w)
      omega)
    rw [if_neg c, decide_eq_true c2]; rfl
theorem EQ_pw_ok : EQ_pw := by
  intro x u z ⟨l1, l2⟩
  have r1 := (i64_le _ _).mp l1
  have r2 := (i64_le _ _).mp l2
  rw [Int32.toInt_toInt64] at r1 r2
  have c1 : (-20000000 : Int64).toInt = -20000000 := rfl
  have c2 : (20000000 : Int64).toInt = 20000000 := rfl
  rw [c1] at r1
  rw [c2] at r2
  have x1 : ¬ x < -20000000 := fun q => by
    have := (i32_lt _ _).mp q
    have e : (-20000000 : Int32).toInt = -20000000 := rfl
    omega
  have x2 : x ≤ 20000000 := (i32_le _ _).mpr (by
    have e : (20000000 : Int32).toInt = 20000000 := rfl
    omega)
  have e9 : un (1000000000 : Int64) = 1000000000 := by decide
  by_cases hx : x = 0
  · subst hx
    have hv : vl_pw 0 z = 1000000000 := (if_neg x1).trans ((if_pos x2).trans (if_pos rfl))
    rw [hv]
    obtain ⟨o, v⟩ := raise_one (ab := (0 : Int32).toInt64) (be := 1000000) (u := u) (D := 32000000) (by decide) (by decide) (by decide) (by decide)
    apply un_inj
    rw [fn_ok o (by decide) (by rw [v, e9]; decide), v, e9]
  · have hx0 : x.toInt ≠ 0 := fun q => hx (Int32.toInt_inj.mp (by rw [q]; rfl))
    have ea := abl_un (x := x) (by omega) (by omega)
    obtain ⟨k, k1, k2, q, q0, q1, q2, o, v⟩ := raise_val (ab := x.toInt64) (be := 1000000) (u := u) (a := x.toInt.natAbs) (D := 32000000) ea (by decide) (by omega) (by decide) (by decide) (by omega)
    have hneg : decide (x.toInt64 < 0) = decide (¬ ng9 x = 0) := ng_dec (by rw [Int32.toInt_toInt64])
    rw [hneg] at q0
    have cl := cl_pw (b := decide (¬ ng9 x = 0)) (x := x.toInt.natAbs) (by omega) k1 k2 q0 q2
    -- the class's number is small enough
    have qb : q 5 ≤ 2 ^ 190 := by
      have g9 : gg (decide (¬ ng9 x = 0)) ^ x.toInt.natAbs ≤ 600000000 := by
        have eg : gg (decide (¬ ng9 x = 0)) ^ x.toInt.natAbs = (bt (decide (¬ ng9 x = 0)) ^ x.toInt.natAbs) ^ 32 := by
          unfold gg
          rw [← rp_mul, ← rp_mul, Nat.mul_comm]
        rw [eg]
        have b0 := rp_nn (bt_0 (decide (¬ ng9 x = 0))) x.toInt.natAbs
        have b1 := bt_le (decide (¬ ng9 x = 0)) x.toInt.natAbs (by omega)
        have b2 := rp_le b0 b1 32
        have d : (15/8 : Rat) ^ 32 ≤ 600000000 := by decide +kernel
        exact Rat.le_trans b2 d
      have : ((q 5 : Nat) : Rat) ≤ ((2 ^ 190 : Nat) : Rat) := by
        have d : ((2 ^ 160 : Nat) : Rat) * 600000000 + 20000000000000 ≤ ((2 ^ 190 : Nat) : Rat) := by decide +kernel
        have p : (0 : Rat) ≤ ((2 ^ 160 : Nat) : Rat) := Rat.natCast_nonneg
        have c := cl.2
        generalize ((2 ^ 190 : Nat) : Rat) = P9 at *
        generalize ((2 ^ 160 : Nat) : Rat) = P at *
        generalize gg (decide (¬ ng9 x = 0)) ^ x.toInt.natAbs = Y at *
        have m := Rat.mul_le_mul_of_nonneg_right g9 p
        grind
      exact Rat.natCast_le_natCast.mp this
    have hq9 : q 5 * 1000000000 ≤ 2 ^ 190 * 1000000000 := Nat.mul_le_mul_right _ qb
    have cu : un (fn_r 1000000000 (rk_raise x.toInt64 1000000 u)) = q 5 * 1000000000 / 2 ^ 160 := by
      rw [fn_ok o (by decide) (by rw [v, e9]; exact Nat.lt_of_le_of_lt hq9 (by decide)), v, e9]
    have hs : q 5 * 1000000000 / 2 ^ 160 < 2 ^ 63 := Nat.div_lt_of_lt_mul (Nat.lt_of_le_of_lt hq9 (by decide))
    have ci := un_toInt (x := fn_r 1000000000 (rk_raise x.toInt64 1000000 u)) (by rw [cu]; exact hs)
    rw [cu] at ci
    have hv : vl_pw x z = m_val (pw_P x) (pw_V x) z := (if_neg x1).trans ((if_pos x2).trans (if_neg hx))
    rw [hv]
    apply Int64.toInt_inj.mp
    rw [ci]
    refine (m_val_i (fun f hf z => ?_) z).symm
    obtain ⟨k', n1, n2, -, -, n5⟩ := pw_say (x := x) (f := f) (z := z) (by omega) x1 x2
    obtain ⟨bb, m, bm⟩ := b66 hf
    have ab : (ab9 x).toInt = (x.toInt.natAbs : Int) := by
      rw [ab9_eq (by omega)]
      split <;> omega
    rw [ab] at n2 n5
    rw [n5]
    have hst : 64 * 1000000 * ((x.toInt.natAbs : Int) * 1000000 ^ f / 1000000 / 64) = (x.toInt.natAbs : Int) * 1000000 ^ f := by
      rw [bm]
      generalize (x.toInt.natAbs : Int) = X
      have e : X * (64000000 * m) = 64000000 * (X * m) := by grind
      rw [e]
      generalize X * m = Y
      omega
    exact (pw_fl (b := ng9 x) (x := x.toInt.natAbs) (by omega) (by omega) k1 k2 q0 q2 bb n1 hst n2 (pwQ_nn _ _ (Int.lt_of_lt_of_le (by decide) bb))).symm
