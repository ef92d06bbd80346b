/-! root: the class's answer is the reference's -/
theorem pw_mono {a b k : Nat} (hk : k ≠ 0) (h : a ^ k < b ^ k) : a < b := Decidable.byContradiction (fun q => absurd (Nat.pow_le_pow_left (Nat.le_of_not_lt q) k) (by omega))
theorem un_1sl : ∀ m, m < 40 → un (pu_sl 1 (nI m)) = 2 ^ m := by decide +kernel
theorem un_or {f : Int64} {m q : Nat} (hm : m < 40) (h : un f = q * 2 ^ (m + 1)) : un (f ||| pu_sl 1 (nI m)) = un f + 2 ^ m := by
  have e : un (f ||| pu_sl 1 (nI m)) = un f ||| un (pu_sl 1 (nI m)) := by unfold un; rw [Int64.toBitVec_or, BitVec.toNat_or]
  rw [e, un_1sl m hm, h, ← Nat.shiftLeft_eq, Nat.shiftLeft_add_eq_or_of_lt (Nat.pow_lt_pow_right (by decide) (Nat.lt_succ_self m))]
theorem rkp_inv {b : Int64} {u : rk_U} (hb : un b < 2 ^ 40) : ∀ n, n ≤ 4 →
    okw (rk_it (fun _ => rk_mul 0 0 2) n (rk_pw0 b u) 0) 7 ∧ okw (rk_it (fun _ => rk_mul 0 0 2) n (rk_pw0 b u) 4) 7 ∧ uv (rk_it (fun _ => rk_mul 0 0 2) n (rk_pw0 b u) 0) 7 = un b ^ (n + 1) ∧ uv (rk_it (fun _ => rk_mul 0 0 2) n (rk_pw0 b u) 4) 7 = un b ∧ rk_it (fun _ => rk_mul 0 0 2) n (rk_pw0 b u) 8 = u 8
  | 0, _ => by
    have e : rk_it (fun _ => rk_mul 0 0 2) 0 (rk_pw0 b u) = rk_loadI 0 b (rk_loadI 2 b u) := rfl
    rw [e]
    have l2 := loadI_ok (f := u (2 * 2)) (x := b)
    have l0 := loadI_ok (f := rk_loadI 2 b u (2 * 0)) (x := b)
    have e0 : rk_loadI 0 b (rk_loadI 2 b u) 0 = wr_loadI (rk_loadI 2 b u (2 * 0)) b := vup_eq _ _ _
    have e4 : rk_loadI 0 b (rk_loadI 2 b u) 4 = wr_loadI (u (2 * 2)) b := (vup_ne _ _ (by decide)).trans (vup_eq _ _ _)
    have e8 : rk_loadI 0 b (rk_loadI 2 b u) 8 = u 8 := (vup_ne _ _ (by decide)).trans (vup_ne _ _ (by decide))
    rw [e0, e4, e8]
    exact ⟨l0.1, l2.1, by rw [l0.2, Nat.pow_one], l2.2, rfl⟩
  | n + 1, h => by
    obtain ⟨h1, h2, h3, h4, h5⟩ := rkp_inv (u := u) hb n (by omega)
    have e : rk_it (fun _ => rk_mul 0 0 2) (n + 1) (rk_pw0 b u) = rk_mul 0 0 2 (rk_it (fun _ => rk_mul 0 0 2) n (rk_pw0 b u)) := rfl
    rw [e]
    generalize rk_it (fun _ => rk_mul 0 0 2) n (rk_pw0 b u) = w at *
    have m := mulI_ok (p := w (2 * 0 + 1)) h1 h2
    have e0 : rk_mul 0 0 2 w 0 = wr_mul 0 (w 0) (w 4) (w (2 * 0 + 1)) := (vup_ne _ _ (by decide)).trans (vup_eq _ _ _)
    have e4 : rk_mul 0 0 2 w 4 = w 4 := (vup_ne _ _ (by decide)).trans (vup_ne _ _ (by decide))
    have e8 : rk_mul 0 0 2 w 8 = w 8 := (vup_ne _ _ (by decide)).trans (vup_ne _ _ (by decide))
    rw [e0, e4, e8]
    refine ⟨m.1, h2, ?_, h4, h5⟩
    rw [m.2, h3, h4, ← Nat.pow_succ]
    refine Nat.mod_eq_of_lt (Nat.lt_of_lt_of_le (Nat.pow_lt_pow_left hb (by omega)) ?_)
    rw [← Nat.pow_mul]
    exact Nat.pow_le_pow_right (by decide) (by omega)
theorem rkp_ok {b : Int64} {kn : Nat} {u : rk_U} (hb : un b < 2 ^ 40) (hk : 2 ≤ kn ∧ kn ≤ 5) (h8 : okw (u 8) 7) : rk_pw b kn u 8 = u 8 ∧ (rk_pwz b kn u = 0 ↔ uv (u 8) 7 < un b ^ kn) := by
  obtain ⟨h1, h2, h3, h4, h5⟩ := rkp_inv (u := u) hb (kn - 1) (by omega)
  rw [show kn - 1 + 1 = kn by omega] at h3
  have h1 : okw (rk_pw b kn u 0) 7 := h1
  have h3 : uv (rk_pw b kn u 0) 7 = un b ^ kn := h3
  have h5 : rk_pw b kn u 8 = u 8 := h5
  refine ⟨h5, ?_⟩
  unfold rk_pwz
  have a := ab_ok h1 (by rw [h5]; exact h8 : okw (rk_pw b kn u 8) 7)
  rw [h3, h5] at a
  rw [h5]
  by_cases q : wr_ab (rk_pw b kn u 0) (u 8) = 0
  · rw [if_pos q]
    exact ⟨fun z => absurd z (by decide), fun z => absurd (a.mp q) (by omega)⟩
  · rw [if_neg q]
    exact ⟨fun _ => Nat.lt_of_not_le (fun z => q (a.mpr z)), fun _ => rfl⟩
theorem rf_inv {kn F : Nat} {u : rk_U} (hk : 2 ≤ kn ∧ kn ≤ 5) (h8 : okw (u 8) 7) (e8 : uv (u 8) 7 = F) (hF : F < (2 ^ 40) ^ kn) : ∀ i, i ≤ 40 →
    (∃ q, un (rf_it kn u i).1 = q * 2 ^ (40 - i)) ∧ un (rf_it kn u i).1 + 2 ^ (40 - i) ≤ 2 ^ 40 ∧ un (rf_it kn u i).1 ^ kn ≤ F ∧ F < (un (rf_it kn u i).1 + 2 ^ (40 - i)) ^ kn ∧ (rf_it kn u i).2 8 = u 8
  | 0, _ => by
    show (∃ q, un 0 = q * 2 ^ 40) ∧ un 0 + 2 ^ 40 ≤ 2 ^ 40 ∧ un 0 ^ kn ≤ F ∧ F < (un 0 + 2 ^ 40) ^ kn ∧ u 8 = u 8
    rw [show un 0 = 0 from rfl, Nat.zero_pow (by omega), Nat.zero_add]
    exact ⟨⟨0, by omega⟩, Nat.le_refl _, Nat.zero_le _, hF, rfl⟩
  | i + 1, h => by
    have IH := rf_inv hk h8 e8 hF i (by omega)
    have E : rf_it kn u (i + 1) = (if rk_pwz (rf_t (rf_it kn u i).1 i) kn (rf_it kn u i).2 = 0 then (rf_it kn u i).1 else rf_t (rf_it kn u i).1 i, rk_pw (rf_t (rf_it kn u i).1 i) kn (rf_it kn u i).2) := rfl
    rw [E]
    generalize rf_it kn u i = Z at *
    obtain ⟨f, w⟩ := Z
    obtain ⟨⟨q, h1⟩, h2, h3, h4, h5⟩ := IH
    dsimp only at h1 h2 h3 h4 h5 ⊢
    have hp : 2 ^ (40 - i) = 2 * 2 ^ (39 - i) := by rw [show 40 - i = (39 - i) + 1 by omega, Nat.pow_succ]; omega
    have ht : un (rf_t f i) = un f + 2 ^ (39 - i) := un_or (m := 39 - i) (q := q) (by omega) (by rw [h1, show 39 - i + 1 = 40 - i by omega])
    have hpos : 0 < 2 ^ (39 - i) := Nat.pow_pos (by decide)
    have k := rkp_ok (b := rf_t f i) (kn := kn) (u := w) (by rw [ht]; omega) hk (by rw [h5]; exact h8)
    rw [h5, e8, ht] at k
    rw [show 40 - (i + 1) = 39 - i by omega, k.1]
    by_cases z : rk_pwz (rf_t f i) kn w = 0
    · rw [if_pos z]
      exact ⟨⟨2 * q, by rw [h1, hp]; generalize 2 ^ (39 - i) = P; grind⟩, by omega, h3, k.2.mp z, rfl⟩
    · rw [if_neg z, ht]
      refine ⟨⟨2 * q + 1, by rw [h1, hp]; generalize 2 ^ (39 - i) = P; grind⟩, by omega, Nat.le_of_not_lt (fun y => z (k.2.mpr y)), ?_, rfl⟩
      rw [show un f + 2 ^ (39 - i) + 2 ^ (39 - i) = un f + 2 ^ (40 - i) by omega]
      exact h4
theorem rf0_ok {v : Int64} {u : rk_U} (hv : un v ≤ 1000000000000) : ∀ n, n ≤ 4 → okw (rk_it (fun _ => rk_scl 4 1000000000) n (rk_loadI 4 v u) 8) 7 ∧ uv (rk_it (fun _ => rk_scl 4 1000000000) n (rk_loadI 4 v u) 8) 7 = un v * 1000000000 ^ n
  | 0, _ => by
    have l := loadI_ok (f := u (2 * 4)) (x := v)
    have e0 : rk_it (fun _ => rk_scl 4 1000000000) 0 (rk_loadI 4 v u) = va_up u 8 (wr_loadI (u (2 * 4)) v) := rfl
    rw [e0, vup_eq]
    exact ⟨l.1, by rw [l.2]; simp⟩
  | n + 1, h => by
    obtain ⟨a, b⟩ := rf0_ok (u := u) hv n (by omega)
    have e0 : rk_it (fun _ => rk_scl 4 1000000000) (n + 1) (rk_loadI 4 v u) = va_up (rk_it (fun _ => rk_scl 4 1000000000) n (rk_loadI 4 v u)) 8 (wr_scl (rk_it (fun _ => rk_scl 4 1000000000) n (rk_loadI 4 v u) 8) 1000000000) := rfl
    rw [e0, vup_eq]
    have s := scl_ok (k := 1000000000) a (by decide)
    refine ⟨s.1, ?_⟩
    rw [s.2, b, show un 1000000000 = 1000000000 from rfl, show 1000000000 ^ (n + 1) = 1000000000 ^ n * 1000000000 from Nat.pow_succ _ _, ← Nat.mul_assoc]
    refine Nat.mod_eq_of_lt ?_
    have h1 : 1000000000 ^ n ≤ 1000000000 ^ 4 := Nat.pow_le_pow_right (by decide) (by omega)
    have h2 := Nat.mul_le_mul (Nat.mul_le_mul hv h1) (Nat.le_refl 1000000000)
    exact Nat.lt_of_le_of_lt h2 (by decide)
theorem rf0_8 {v : Int64} {kn : Nat} {u : rk_U} (hv : un v ≤ 1000000000000) (hk : 2 ≤ kn ∧ kn ≤ 5) : okw (rf_0 v kn u 8) 7 ∧ uv (rf_0 v kn u 8) 7 = un v * 1000000000 ^ (kn - 1) * 1000 := by
  obtain ⟨a, b⟩ := rf0_ok (u := u) hv (kn - 1) (by omega)
  have e0 : rf_0 v kn u = va_up (rk_it (fun _ => rk_scl 4 1000000000) (kn - 1) (rk_loadI 4 v u)) 8 (wr_scl (rk_it (fun _ => rk_scl 4 1000000000) (kn - 1) (rk_loadI 4 v u) 8) 1000) := rfl
  rw [e0, vup_eq]
  have s := scl_ok (k := 1000) a (by decide)
  refine ⟨s.1, ?_⟩
  rw [s.2, b, show un 1000 = 1000 from rfl]
  refine Nat.mod_eq_of_lt ?_
  have h1 : 1000000000 ^ (kn - 1) ≤ 1000000000 ^ 4 := Nat.pow_le_pow_right (by decide) (by omega)
  have h2 := Nat.mul_le_mul (Nat.mul_le_mul hv h1) (Nat.le_refl 1000)
  exact Nat.lt_of_le_of_lt h2 (by decide)
theorem rts_inv {F : Int} {k : Nat} : ∀ n (lo hi : Int64), 0 ≤ lo.toInt → hi.toInt ≤ 1000000000001 → lo.toInt < hi.toInt → hi.toInt - lo.toInt ≤ 2 ^ n → lo.toInt ^ k ≤ F → F < hi.toInt ^ k → 0 ≤ (rts F k n lo hi).toInt ∧ (rts F k n lo hi).toInt ^ k ≤ F ∧ F < ((rts F k n lo hi).toInt + 1) ^ k
  | 0, lo, hi, h1, h2, h3, h4, h5, h6 => by
    show 0 ≤ lo.toInt ∧ lo.toInt ^ k ≤ F ∧ F < (lo.toInt + 1) ^ k
    have e : hi.toInt = lo.toInt + 1 := by have : (2 : Int) ^ 0 = 1 := rfl; omega
    rw [e] at h6
    exact ⟨h1, h5, h6⟩
  | n + 1, lo, hi, h1, h2, h3, h4, h5, h6 => by
    have E : rts F k (n + 1) lo hi = if hi - lo ≤ 1 then lo else if F < ((lo + hi) / 2).toInt ^ k then rts F k n lo ((lo + hi) / 2) else rts F k n ((lo + hi) / 2) hi := rfl
    rw [E]
    by_cases c : hi - lo ≤ 1
    · rw [if_pos c]
      have c2 := (i64_le _ _).mp c
      rw [(rm_ok h1 h2 h3).1, show (1 : Int64).toInt = 1 from rfl] at c2
      have e : hi.toInt = lo.toInt + 1 := by omega
      rw [e] at h6
      exact ⟨h1, h5, h6⟩
    · rw [if_neg c]
      obtain ⟨d1, d2, d3, d4⟩ := rm_step h1 h2 h3 h4 c
      by_cases q : F < ((lo + hi) / 2).toInt ^ k
      · rw [if_pos q]; exact rts_inv n _ _ h1 (by omega) d1 d3 h5 q
      · rw [if_neg q]; exact rts_inv n _ _ (by omega) h2 d2 d4 (Int.not_lt.mp q) h6
theorem EQ_rt_ok : EQ_rt := by
  intro v kn u hv hk
  have v0 : 0 ≤ v.toInt := (i64_le _ _).mp hv.1
  have v1 : v.toInt ≤ 1000000000000 := (i64_le _ _).mp hv.2
  have ev := toInt_un v0
  have hu : un v ≤ 1000000000000 := by omega
  obtain ⟨a, b⟩ := rf0_8 (u := u) hu hk
  have h9 : 1000000000 ^ (kn - 1) * 1000 * 1000000000000 ≤ 1000000000000 ^ kn := by
    rcases (show kn = 2 ∨ kn = 3 ∨ kn = 4 ∨ kn = 5 by omega) with e | e | e | e <;> subst e <;> decide
  have hF0 : un v * 1000000000 ^ (kn - 1) * 1000 ≤ 1000000000000 ^ kn := by
    refine Nat.le_trans ?_ h9
    have := Nat.mul_le_mul_right (1000000000 ^ (kn - 1) * 1000) hu
    rw [Nat.mul_assoc, Nat.mul_comm (1000000000 ^ (kn - 1) * 1000)]
    exact this
  have c := rf_inv hk a b (Nat.lt_of_le_of_lt hF0 (Nat.pow_lt_pow_left (by decide) (by omega))) 40 (Nat.le_refl _)
  unfold rk_root
  rw [ir_eq]
  generalize rf_it kn (rf_0 v kn u) 40 = Z at *
  obtain ⟨r, w⟩ := Z
  obtain ⟨-, c2, c3, c4, -⟩ := c
  dsimp only at c2 c3 c4 ⊢
  rw [show (2 : Nat) ^ (40 - 40) = 1 from rfl] at c2 c4
  have ekn : (nI kn).toInt = kn := nI_toInt (by omega)
  have hk2 : ¬ nI kn < 2 := fun q => by have := (i32_lt _ _).mp q; rw [ekn, show (2 : Int32).toInt = 2 from rfl] at this; omega
  have hk5 : nI kn ≤ 5 := (i32_le _ _).mpr (by rw [ekn, show (5 : Int32).toInt = 5 from rfl]; omega)
  have er : vl_rt v (nI kn) = rts (rt_F v (kn - 1)) kn 40 0 1000000000001 := by
    have e1 : (nI kn).toInt.toNat = kn := by omega
    exact (if_neg (Int64.not_lt.mpr hv.1)).trans ((if_neg (Int64.not_lt.mpr hv.2)).trans ((if_neg hk2).trans ((if_pos hk5).trans (by rw [e1]))))
  rw [er]
  have eF : rt_F v (kn - 1) = ((un v * 1000000000 ^ (kn - 1) * 1000 : Nat) : Int) := by
    unfold rt_F
    rw [← ev]; simp [Int.natCast_mul, Int.natCast_pow]
  have hlt : ((un v * 1000000000 ^ (kn - 1) * 1000 : Nat) : Int) < (1000000000001 : Int64).toInt ^ kn := by
    have h1 : un v * 1000000000 ^ (kn - 1) * 1000 < 1000000000001 ^ kn := Nat.lt_of_le_of_lt hF0 (Nat.pow_lt_pow_left (by decide) (by omega))
    have h2 : ((un v * 1000000000 ^ (kn - 1) * 1000 : Nat) : Int) < ((1000000000001 ^ kn : Nat) : Int) := Int.ofNat_lt.mpr h1
    rw [Int.natCast_pow] at h2
    exact h2
  rw [eF]
  have d := rts_inv (F := ((un v * 1000000000 ^ (kn - 1) * 1000 : Nat) : Int)) (k := kn) 40 0 1000000000001 (by decide) (by decide) (by decide) (by decide) (by rw [show (0 : Int64).toInt = 0 from rfl, Int.zero_pow (by omega)]; exact Int.natCast_nonneg _) hlt
  generalize rts ((un v * 1000000000 ^ (kn - 1) * 1000 : Nat) : Int) kn 40 0 1000000000001 = x at *
  obtain ⟨x0, x1, x2⟩ := d
  have ex := toInt_un x0
  rw [← ex] at x1 x2
  have x1 : un x ^ kn ≤ un v * 1000000000 ^ (kn - 1) * 1000 := Int.ofNat_le.mp (by rw [Int.natCast_pow]; exact x1)
  have x2 : un v * 1000000000 ^ (kn - 1) * 1000 < (un x + 1) ^ kn := Int.ofNat_lt.mp (by rw [Int.natCast_pow]; exact x2)
  have l1 := pw_mono (k := kn) (by omega) (Nat.lt_of_le_of_lt c3 x2)
  have l2 := pw_mono (k := kn) (by omega) (Nat.lt_of_le_of_lt x1 c4)
  exact un_inj (by omega)
