/-! waves: the class's numbers -/
def hpn : Nat := 2295721403524109460692402599871655564227077512209
theorem lim_H (f : Nat → Int64) : okw (wr_lim f kc_H 7 0) 7 ∧ uv (wr_lim f kc_H 7 0) 7 = hpn := by
  unfold wr_lim
  rw [ir_eq]
  have e0 : ∀ j, j < 7 → wd_lim kc_H 7 0 j = kc_H j := by decide +kernel
  have e : ∀ j, j < 7 → wd_cp f (wd_lim kc_H 7 0) 7 j = kc_H j := fun j hj => by
    unfold wd_cp
    rw [if_pos hj]
    exact e0 j hj
  have o : ∀ j, j < 7 → un (kc_H j) < 2 ^ 32 := by decide +kernel
  exact ⟨fun j hj => by rw [e j hj]; exact o j hj, (uv_cong 7 e).trans (by decide +kernel)⟩
theorem asw_add {f g : Nat → Int64} (hf : okw f 7) (hg : okw g 7) : okw (wr_as f g 0) 7 ∧ uv (wr_as f g 0) 7 = (uv f 7 + uv g 7) % 2 ^ 224 := by
  have aw := addw_ok hf hg
  unfold wr_add at aw
  rw [ir_eq] at aw
  unfold wr_as
  rw [ir_eq, if_pos rfl]
  exact aw
theorem asw_sub {f g : Nat → Int64} (hf : okw f 7) (hg : okw g 7) : okw (wr_as f g 1) 7 ∧ uv (wr_as f g 1) 7 = (uv f 7 + 2 ^ 224 - uv g 7) % 2 ^ 224 := by
  have aw := subw_ok hf hg
  unfold wr_sub at aw
  rw [ir_eq] at aw
  unfold wr_as
  rw [ir_eq, if_neg (by decide)]
  exact aw
theorem sw_q_un {mi : Int64} (h : un mi ≤ 100000000) : un (sw_q mi) = un mi * 636619772 / 1000000000000000 := by
  have a : un (636619772 : Int64) = 636619772 := by decide
  have b : un (1000000000000000 : Int64) = 1000000000000000 := by decide
  have m : un (mi * 636619772) = un mi * 636619772 := by
    rw [un_mul, a, Nat.mod_eq_of_lt (by omega)]
  unfold sw_q
  rw [un_div (by rw [m]; omega) (by decide) (by decide), m, b]
theorem sw_num {X q V : Nat} (h : X ≤ 100000000) (hq : q = X * 636619772 / 1000000000000000) (hV : V = X * 2 ^ 160 / 1000000) : q ≤ 63 ∧ hpn * q ≤ V ∧ 5 * (V - hpn * q) ≤ 8 * 2 ^ 160 := by
  have e1 : hpn = 2295721403524109460692402599871655564227077512209 := rfl
  have e2 : (2 : Nat) ^ 160 = 1461501637330902918203684832716283019655932542976 := by decide
  rw [e1, e2] at *
  omega
theorem sw0_val {mi : Int64} {u : rk_U} {X q V : Nat} (hX : un mi = X) (h : X ≤ 100000000) (eq : q = X * 636619772 / 1000000000000000) (eV : V = X * 2 ^ 160 / 1000000) :
    ∃ R f : Nat, okw (rk_sw0 mi u 0) 7 ∧ uv (rk_sw0 mi u 0) 7 = R ∧ okw (rk_sw0 mi u 4) 7 ∧ uv (rk_sw0 mi u 4) 7 = f ∧ f ≤ R * R / 2 ^ 160 ∧ R * R / 2 ^ 160 ≤ f + 4 ∧ R + hpn * q = V ∧ 5 * R ≤ 8 * 2 ^ 160 ∧ q ≤ 63 := by
  have r := ratw_ok (f := u (2 * 0)) (x := mi) (d := 1000000) (by decide) (by decide)
  have hq := sw_q_un (mi := mi) (by rw [hX]; exact h)
  obtain ⟨n1, n2, n3⟩ := sw_num h eq eV
  have u6 : un (1000000 : Int64) = 1000000 := by decide
  rw [hX, u6, ← eV] at r
  rw [hX, ← eq] at hq
  clear eq eV
  unfold rk_sw0
  have A0 : rk_ratio 0 mi 1000000 u 0 = wr_rat (u (2 * 0)) mi 1000000 := vup_eq _ _ _
  rw [← A0] at r
  clear A0
  generalize rk_ratio 0 mi 1000000 u = u1 at r ⊢
  have l := lim_H (u1 (2 * 3))
  have B6 : rk_lim 3 kc_H 7 0 u1 6 = wr_lim (u1 (2 * 3)) kc_H 7 0 := vup_eq _ _ _
  have B0 : rk_lim 3 kc_H 7 0 u1 0 = u1 0 := vup_ne _ _ (by decide)
  rw [← B6] at l
  rw [← B0] at r
  clear B6 B0
  generalize rk_lim 3 kc_H 7 0 u1 = u2 at r l ⊢
  have s := scl_ok (k := sw_q mi) l.1 (by rw [hq]; omega)
  have hh : hpn * q < 2 ^ 224 := Nat.lt_of_le_of_lt (Nat.mul_le_mul_left hpn n1) (by decide)
  rw [l.2, hq, Nat.mod_eq_of_lt hh] at s
  have C6 : rk_scl 3 (sw_q mi) u2 6 = wr_scl (u2 (2 * 3)) (sw_q mi) := vup_eq _ _ _
  have C0 : rk_scl 3 (sw_q mi) u2 0 = u2 0 := vup_ne _ _ (by decide)
  rw [← C0] at r
  have s' : okw (rk_scl 3 (sw_q mi) u2 6) 7 ∧ uv (rk_scl 3 (sw_q mi) u2 6) 7 = hpn * q := by rw [C6]; exact s
  clear C6 C0 s
  generalize rk_scl 3 (sw_q mi) u2 = u3 at r s' ⊢
  have sb := subw_ok r.1 s'.1
  rw [r.2, s'.2] at sb
  have e : (V + 2 ^ 224 - hpn * q) % 2 ^ 224 = V - hpn * q := by
    rw [show V + 2 ^ 224 - hpn * q = V - hpn * q + 2 ^ 224 by omega, Nat.add_mod_right, Nat.mod_eq_of_lt]
    have : (8 : Nat) * 2 ^ 160 < 2 ^ 224 := by decide
    omega
  rw [e] at sb
  have D0 : rk_sub 0 3 u3 0 = wr_sub (u3 0) (u3 6) := vup_eq _ _ _
  rw [← D0] at sb
  clear D0
  generalize rk_sub 0 3 u3 = u4 at sb ⊢
  have c := cpw_ok (f := u4 (2 * 2)) sb.1
  have F4 : rk_cpy 2 0 u4 4 = wr_cp (u4 (2 * 2)) (u4 0) := vup_eq _ _ _
  have F0 : rk_cpy 2 0 u4 0 = u4 0 := vup_ne _ _ (by decide)
  rw [← F4, sb.2] at c
  rw [← F0] at sb
  clear F4 F0
  generalize rk_cpy 2 0 u4 = u5 at sb c ⊢
  have k : V - hpn * q ≤ 2 * 2 ^ 160 := by omega
  have m := mulF_ok (p := u5 (2 * 2 + 1)) c.1 sb.1 (by
    rw [c.2, sb.2]
    exact Nat.lt_of_le_of_lt (Nat.mul_le_mul k k) (by decide))
  rw [c.2, sb.2] at m
  have G4 : rk_mul 5 2 0 u5 4 = wr_mul 5 (u5 4) (u5 0) (u5 (2 * 2 + 1)) := (vup_ne _ _ (by decide)).trans (vup_eq _ _ _)
  have G0 : rk_mul 5 2 0 u5 0 = u5 0 := (vup_ne _ _ (by decide)).trans (vup_ne _ _ (by decide))
  rw [G4, G0]
  exact ⟨V - hpn * q, uv (wr_mul 5 (u5 4) (u5 0) (u5 (2 * 2 + 1))) 7, sb.1, sb.2, m.1, rfl, m.2.1, m.2.2, by omega, n3, n1⟩
def fT (d0 : Nat) (w : rk_U) (n : Nat) : Nat := uv (rk_it (rk_fB d0) n w 2) 7
def fS (d0 : Nat) (w : rk_U) : Nat → Int
  | 0 => (fT d0 w 0 : Int)
  | n + 1 => if n % 2 = 0 then fS d0 w n - (fT d0 w (n + 1) : Int) else fS d0 w n + (fT d0 w (n + 1) : Int)
theorem fc_K {d0 n : Nat} (h : d0 ≤ 2) (hn : n ≤ 190) : un ((nI (d0 + 2 * n)).toInt64 * (nI (d0 + 2 * n) + 1).toInt64) = (d0 + 2 * n) * (d0 + 2 * n + 1) := by
  have q := qu_q (n := d0 + 2 * n) (by omega)
  exact un_of q
theorem fc_bd {T f M K : Nat} (hK : 6 ≤ K) (hT : T ≤ 2 * 2 ^ 160) (hf : f ≤ 3 * 2 ^ 160) (hM : M ≤ T * f / 2 ^ 160) : M / K ≤ 2 * 2 ^ 160 := by
  have h1 := Nat.mul_le_mul hT hf
  have h2 : T * f / 2 ^ 160 ≤ 6 * 2 ^ 160 := by
    refine Nat.le_trans (Nat.div_le_div_right h1) ?_
    decide
  have h3 : M / K ≤ 6 * 2 ^ 160 / 6 := Nat.div_le_div (Nat.le_trans hM h2) hK (by decide)
  exact Nat.le_trans h3 (by decide)
theorem fc_bd1 {T f M : Nat} (hT : T ≤ 2 ^ 160) (hf : f ≤ 3 * 2 ^ 160) (hM : M ≤ T * f / 2 ^ 160) : M / 2 ≤ 2 * 2 ^ 160 := by
  have h1 := Nat.mul_le_mul hT hf
  have h2 : T * f / 2 ^ 160 ≤ 3 * 2 ^ 160 := by
    refine Nat.le_trans (Nat.div_le_div_right h1) ?_
    decide
  have h3 : M / 2 ≤ 3 * 2 ^ 160 / 2 := Nat.div_le_div_right (Nat.le_trans hM h2)
  exact Nat.le_trans h3 (by decide)
theorem em_sub {a t : Nat} {S : Int} (h : (a : Int) = S % 2 ^ 224) (ht : t ≤ 2 ^ 224) : (((a + 2 ^ 224 - t) % 2 ^ 224 : Nat) : Int) = (S - t) % 2 ^ 224 := by
  have e : ((a + 2 ^ 224 - t : Nat) : Int) = (a : Int) - t + 2 ^ 224 := by
    have : t ≤ a + 2 ^ 224 := by omega
    omega
  rw [Int.natCast_emod, e, h]
  have e2 : ((2 ^ 224 : Nat) : Int) = 2 ^ 224 := by decide
  rw [e2]
  omega
theorem em_add {a t : Nat} {S : Int} (h : (a : Int) = S % 2 ^ 224) : (((a + t) % 2 ^ 224 : Nat) : Int) = (S + t) % 2 ^ 224 := by
  rw [Int.natCast_emod, Int.natCast_add, h]
  have e2 : ((2 ^ 224 : Nat) : Int) = 2 ^ 224 := by decide
  rw [e2]
  omega
theorem fac_inv {d0 : Nat} {w : rk_U} {f : Nat} (hd : d0 = 1 ∨ d0 = 2) (o0 : okw (w 0) 7) (o2 : okw (w 2) 7) (o4 : okw (w 4) 7) (e : uv (w 0) 7 = uv (w 2) 7) (hf : uv (w 4) 7 = f) (hf3 : f ≤ 3 * 2 ^ 160) (hT : uv (w 2) 7 ≤ 2 * 2 ^ 160) (hT1 : d0 = 1 → uv (w 2) 7 ≤ 2 ^ 160) : ∀ n, n ≤ 190 →
    (okw (rk_it (rk_fB d0) n w 0) 7 ∧ okw (rk_it (rk_fB d0) n w 2) 7 ∧ rk_it (rk_fB d0) n w 4 = w 4 ∧ fT d0 w n ≤ 2 * 2 ^ 160 ∧ (uv (rk_it (rk_fB d0) n w 0) 7 : Int) = fS d0 w n % 2 ^ 224) ∧ (0 < n → ∃ M, M ≤ fT d0 w (n - 1) * f / 2 ^ 160 ∧ fT d0 w (n - 1) * f / 2 ^ 160 ≤ M + 4 ∧ fT d0 w n = M / ((d0 + 2 * (n - 1)) * (d0 + 2 * (n - 1) + 1)))
  | 0, _ => by
    refine ⟨⟨o0, o2, rfl, hT, ?_⟩, fun q => absurd q (by decide)⟩
    show (uv (w 0) 7 : Int) = (uv (w 2) 7 : Int) % 2 ^ 224
    rw [e]
    have l := uv_lt 7 o2
    rw [show 32 * 7 = 224 from rfl] at l
    generalize uv (w 2) 7 = x at *
    omega
  | n + 1, hn => by
    obtain ⟨⟨i1, i2, i3, i4, i5⟩, -⟩ := fac_inv hd o0 o2 o4 e hf hf3 hT hT1 n (by omega)
    have E2 : rk_it (rk_fB d0) (n + 1) w 2 = wr_dv (wr_mul 5 (rk_it (rk_fB d0) n w 2) (rk_it (rk_fB d0) n w 4) (rk_it (rk_fB d0) n w 3)) ((nI (d0 + 2 * n)).toInt64 * (nI (d0 + 2 * n) + 1).toInt64) := rfl
    have E0 : rk_it (rk_fB d0) (n + 1) w 0 = wr_as (rk_it (rk_fB d0) n w 0) (rk_it (rk_fB d0) (n + 1) w 2) (rk_fm n) := rfl
    have E4 : rk_it (rk_fB d0) (n + 1) w 4 = rk_it (rk_fB d0) n w 4 := rfl
    have ET : fT d0 w n = uv (rk_it (rk_fB d0) n w 2) 7 := rfl
    have ET1 : fT d0 w (n + 1) = uv (rk_it (rk_fB d0) (n + 1) w 2) 7 := rfl
    have o4' : okw (rk_it (rk_fB d0) n w 4) 7 := by rw [i3]; exact o4
    have f4 : uv (rk_it (rk_fB d0) n w 4) 7 = f := by rw [i3]; exact hf
    have m := mulF_ok (p := rk_it (rk_fB d0) n w 3) i2 o4' (by
      rw [f4, ← ET]
      exact Nat.lt_of_le_of_lt (Nat.mul_le_mul i4 hf3) (by decide))
    rw [f4, ← ET] at m
    have K := fc_K (d0 := d0) (n := n) (by omega) (by omega)
    have Kb : 2 ≤ (d0 + 2 * n) * (d0 + 2 * n + 1) ∧ (d0 + 2 * n) * (d0 + 2 * n + 1) ≤ 400 * 400 := by
      constructor
      · exact Nat.mul_le_mul (show 1 ≤ d0 + 2 * n by omega) (show 2 ≤ d0 + 2 * n + 1 by omega)
      · exact Nat.mul_le_mul (by omega) (by omega)
    have d := dvw_ok (d := (nI (d0 + 2 * n)).toInt64 * (nI (d0 + 2 * n) + 1).toInt64) m.1 (by rw [K]; omega) (by rw [K]; omega)
    rw [← E2, K, ← ET1] at d
    have bd : fT d0 w (n + 1) ≤ 2 * 2 ^ 160 := by
      rw [d.2]
      by_cases c : 6 ≤ (d0 + 2 * n) * (d0 + 2 * n + 1)
      · exact fc_bd c i4 hf3 m.2.1
      · have n0 : n = 0 ∧ d0 = 1 := by
          by_cases z : n = 0
          · refine ⟨z, ?_⟩
            rcases hd with hd | hd
            · exact hd
            · exfalso; subst z; subst hd; exact c (by decide)
          · exfalso
            exact c (Nat.le_trans (show 6 ≤ 3 * 4 by decide) (Nat.mul_le_mul (by omega) (by omega)))
        obtain ⟨z1, z2⟩ := n0
        subst z1; subst z2
        exact fc_bd1 (hT1 rfl) hf3 m.2.1
    rw [E0, E4]
    refine ⟨⟨?_, d.1, i3, bd, ?_⟩, fun _ => ⟨_, m.2.1, m.2.2, d.2⟩⟩
    · unfold rk_fm
      by_cases c : n % 2 = 0
      · rw [if_pos c]; exact (asw_sub i1 d.1).1
      · rw [if_neg c]; exact (asw_add i1 d.1).1
    · have ES : fS d0 w (n + 1) = if n % 2 = 0 then fS d0 w n - (fT d0 w (n + 1) : Int) else fS d0 w n + (fT d0 w (n + 1) : Int) := rfl
      rw [ES]
      unfold rk_fm
      have l := uv_lt 7 d.1
      rw [show 32 * 7 = 224 from rfl] at l
      by_cases c : n % 2 = 0
      · rw [if_pos c, if_pos c, (asw_sub i1 d.1).2, ← ET1]
        exact em_sub i5 (by rw [ET1]; omega)
      · rw [if_neg c, if_neg c, (asw_add i1 d.1).2, ← ET1]
        exact em_add i5
