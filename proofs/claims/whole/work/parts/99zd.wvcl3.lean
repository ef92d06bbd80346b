/-! waves: the class's answer against the truth -/
def hpr : Rat := (hpn : Rat) / ((2 ^ 160 : Nat) : Rat)
theorem hpr_ok : nb (cc hpr) (1 / ((2 ^ 157 : Nat) : Rat)) ∧ nb (ss hpr - 1) (1 / ((2 ^ 157 : Nat) : Rat)) := by
  obtain ⟨k1, k2⟩ := cs_cut (d := hpr) (n := 70) (by decide +kernel) (by decide) (by decide +kernel)
  have h1 : nb (cR hpr 70) (1 / ((2 ^ 158 : Nat) : Rat)) := by unfold nb; decide +kernel
  have h2 : nb (cI hpr 70 - 1) (1 / ((2 ^ 158 : Nat) : Rat)) := by unfold nb; decide +kernel
  have h3 : eT hpr 70 + 1 / ((2 ^ 158 : Nat) : Rat) ≤ 1 / ((2 ^ 157 : Nat) : Rat) := by decide +kernel
  generalize (1 / ((2 ^ 158 : Nat) : Rat) : Rat) = e8 at h1 h2 h3
  generalize (1 / ((2 ^ 157 : Nat) : Rat) : Rat) = e7 at h3 ⊢
  generalize cc hpr = A at k1 ⊢
  generalize ss hpr = B at k2 ⊢
  generalize cR hpr 70 = C at k1 h1
  generalize cI hpr 70 = D at k2 h2
  generalize eT hpr 70 = T at k1 k2 h3
  obtain ⟨a1, a2⟩ := k1
  obtain ⟨b1, b2⟩ := k2
  obtain ⟨c1, c2⟩ := h1
  obtain ⟨d1, d2⟩ := h2
  refine ⟨⟨?_, ?_⟩, ⟨?_, ?_⟩⟩ <;> grind
theorem hpr_bd : 0 ≤ hpr ∧ hpr ≤ 11/7 ∧ ((2 ^ 160 : Nat) : Rat) * hpr = (hpn : Rat) ∧ t4 ≤ 1 / ((2 ^ 157 : Nat) : Rat) := by decide +kernel
theorem sw_df {U x d r q p R h V : Rat} (dd : d * 1000000 = 1) (hr : U * r = R) (hp : U * p = h) (hRV : R + h * q = V) (v1 : 1000000 * V ≤ x * U) (v2 : x * U ≤ 1000000 * V + 1000000) : 0 ≤ U * (x * d - (r + q * p)) ∧ U * (x * d - (r + q * p)) ≤ 1 := by
  have e1 : U * (x * d) * 1000000 = x * U := by
    have : U * (x * d) * 1000000 = U * x * (d * 1000000) := by grind
    rw [this, dd]; grind
  have e2 : U * (q * p) = q * h := by rw [← hp]; grind
  have e : U * (x * d - (r + q * p)) * 1000000 = x * U - 1000000 * V := by
    have : U * (x * d - (r + q * p)) = U * (x * d) - U * r - U * (q * p) := by grind
    rw [this, hr, e2, ← hRV]
    grind
  constructor <;> grind
/-- the turned angle against the true one -/
theorem sw_true {X q R V : Nat} {r : Rat} (h : X ≤ 100000000) (hV : V = X * 2 ^ 160 / 1000000) (hR : R + hpn * q = V) (h5 : 5 * R ≤ 8 * 2 ^ 160) (hq : q ≤ 63) (hr : ((2 ^ 160 : Nat) : Rat) * r = (R : Rat)) :
    nb (((2 ^ 160 : Nat) : Rat) * cc ((X : Rat) * wn_d) - ((2 ^ 160 : Nat) : Rat) * (rtc (cc r) (ss r) q).1) 3000 ∧ nb (((2 ^ 160 : Nat) : Rat) * ss ((X : Rat) * wn_d) - ((2 ^ 160 : Nat) : Rat) * (rtc (cc r) (ss r) q).2) 3000 := by
  obtain ⟨p0, p1, p2, p3⟩ := hpr_bd
  obtain ⟨pc, ps⟩ := hpr_ok
  have U0 : (0 : Rat) < ((2 ^ 160 : Nat) : Rat) := by decide +kernel
  have Rr0 : (0 : Rat) ≤ (R : Rat) := Rat.natCast_nonneg
  have hRr : 5 * (R : Rat) ≤ 8 * ((2 ^ 160 : Nat) : Rat) := by
    have : ((5 * R : Nat) : Rat) ≤ ((8 * 2 ^ 160 : Nat) : Rat) := Rat.natCast_le_natCast.mpr h5
    rw [Rat.natCast_mul, Rat.natCast_mul] at this
    have e5 : ((5 : Nat) : Rat) = 5 := by simp
    have e8 : ((8 : Nat) : Rat) = 8 := by simp
    rw [e5, e8] at this
    exact this
  have r0 : 0 ≤ r := mul_cancel_le U0 (by grind)
  have r8 : r ≤ 8/5 := mul_cancel_le U0 (by grind)
  obtain ⟨t1, t2⟩ := turn_q (r := r) (p := hpr) r0 (by grind) p0 p1 p3 pc ps q hq
  -- the rest
  obtain ⟨v1, v2⟩ := nd_le (X * 2 ^ 160) 1000000 (by decide)
  rw [← hV, Rat.natCast_mul] at v1 v2
  have e6 : ((1000000 : Nat) : Rat) = 1000000 := by simp
  rw [e6] at v1 v2
  have hRV : (R : Rat) + (hpn : Rat) * (q : Rat) = (V : Rat) := by
    rw [← hR, Rat.natCast_add, Rat.natCast_mul]
  have dd : wn_d * 1000000 = 1 := by decide +kernel
  have q0 : (0 : Rat) ≤ (q : Rat) := Rat.natCast_nonneg
  have q63 : (q : Rat) ≤ 63 := by
    have : (q : Rat) ≤ ((63 : Nat) : Rat) := Rat.natCast_le_natCast.mpr hq
    simpa using this
  have hx : (X : Rat) ≤ 100000000 := by
    have : (X : Rat) ≤ ((100000000 : Nat) : Rat) := Rat.natCast_le_natCast.mpr h
    simpa using this
  have d0 := wn_d0
  have eU1 : ((2 ^ 160 : Nat) : Rat) * (1 / ((2 ^ 157 : Nat) : Rat)) = 8 := by decide +kernel
  have tU : ((2 ^ 160 : Nat) : Rat) * t4 ≤ 1 := by decide +kernel
  have u9 : (1 : Rat) ≤ ((2 ^ 160 : Nat) : Rat) := by decide +kernel
  have yb : 0 ≤ r + (q : Rat) * hpr := by
    have := Rat.mul_nonneg q0 p0
    grind
  obtain ⟨g0, dfU⟩ := sw_df (x := (X : Rat)) dd hr p2 hRV v1 v2
  have df0 : 0 ≤ (X : Rat) * wn_d - (r + (q : Rat) * hpr) := mul_cancel_le U0 (by
    generalize (X : Rat) * wn_d - (r + (q : Rat) * hpr) = D at g0 ⊢
    grind)
  have df1 : (X : Rat) * wn_d - (r + (q : Rat) * hpr) ≤ 1 := by
    generalize (X : Rat) * wn_d - (r + (q : Rat) * hpr) = D at *
    have m := Rat.mul_le_mul_of_nonneg_right u9 df0
    grind
  have y9 : r + (q : Rat) * hpr ≤ 100 := by
    have m := Rat.mul_le_mul_of_nonneg_right hx d0
    generalize wn_d = d at *
    grind
  obtain ⟨l1, l2⟩ := cs_lip (a := r + (q : Rat) * hpr) (d := (X : Rat) * wn_d - (r + (q : Rat) * hpr)) (α := 100) ⟨by grind, y9⟩ (by decide +kernel) df0 df1
  rw [show r + (q : Rat) * hpr + ((X : Rat) * wn_d - (r + (q : Rat) * hpr)) = (X : Rat) * wn_d by
    generalize (X : Rat) * wn_d = a
    generalize r + (q : Rat) * hpr = b
    grind] at l1 l2
  generalize (X : Rat) * wn_d - (r + (q : Rat) * hpr) = D at *
  generalize cc ((X : Rat) * wn_d) = A at *
  generalize ss ((X : Rat) * wn_d) = B at *
  generalize cc (r + (q : Rat) * hpr) = C at *
  generalize ss (r + (q : Rat) * hpr) = S at *
  generalize (rtc (cc r) (ss r) q).1 = RC at *
  generalize (rtc (cc r) (ss r) q).2 = RS at *
  have s1 := nb_mul (show nb ((2 ^ 160 : Nat) : Rat) ((2 ^ 160 : Nat) : Rat) from ⟨by grind, by grind⟩) (nb_add l1 t1)
  have s2 := nb_mul (show nb ((2 ^ 160 : Nat) : Rat) ((2 ^ 160 : Nat) : Rat) from ⟨by grind, by grind⟩) (nb_add l2 t2)
  generalize (1 / ((2 ^ 157 : Nat) : Rat) : Rat) = e at *
  generalize ((2 ^ 160 : Nat) : Rat) = U at *
  generalize t4 = τ at *
  have bd : U * (8 * D + τ + 5 * (q : Rat) * e) ≤ 3000 := by
    have : U * (5 * (q : Rat) * e) = 40 * (q : Rat) := by grind
    grind
  have x1 : U * (A - C + (C - RC)) = U * A - U * RC := by grind
  have x2 : U * (B - S + (S - RS)) = U * B - U * RS := by grind
  rw [x1] at s1
  rw [x2] at s2
  exact ⟨nb_mono s1 bd, nb_mono s2 bd⟩
theorem sw_sel (c s : Rat) (q n : Nat) (hn : n < 3) : (if (q + n) % 4 < 2 then (if (q + n) % 2 = 1 then c else s) else -(if (q + n) % 2 = 1 then c else s)) = (if n = 0 then (rtc c s q).2 else if n = 1 then (rtc c s q).1 else -(rtc c s q).2) := by
  rw [rtc_4]
  have n2 : ∀ x : Rat, - -x = x := fun x => by grind
  rcases (show n = 0 ∨ n = 1 ∨ n = 2 by omega) with h | h | h <;> subst h <;> rcases (show q % 4 = 0 ∨ q % 4 = 1 ∨ q % 4 = 2 ∨ q % 4 = 3 by omega) with h | h | h | h
  · rw [if_pos (show (q + 0) % 4 < 2 by omega), if_neg (show ¬ (q + 0) % 2 = 1 by omega), if_pos rfl, if_pos h]
  · rw [if_pos (show (q + 0) % 4 < 2 by omega), if_pos (show (q + 0) % 2 = 1 by omega), if_pos rfl, if_neg (by omega), if_pos h]
  · rw [if_neg (show ¬ (q + 0) % 4 < 2 by omega), if_neg (show ¬ (q + 0) % 2 = 1 by omega), if_pos rfl, if_neg (by omega), if_neg (by omega), if_pos h]
  · rw [if_neg (show ¬ (q + 0) % 4 < 2 by omega), if_pos (show (q + 0) % 2 = 1 by omega), if_pos rfl, if_neg (by omega), if_neg (by omega), if_neg (by omega)]
  · rw [if_pos (show (q + 1) % 4 < 2 by omega), if_pos (show (q + 1) % 2 = 1 by omega), if_neg (show ¬ (1 : Nat) = 0 by decide), if_pos rfl, if_pos h]
  · rw [if_neg (show ¬ (q + 1) % 4 < 2 by omega), if_neg (show ¬ (q + 1) % 2 = 1 by omega), if_neg (show ¬ (1 : Nat) = 0 by decide), if_pos rfl, if_neg (by omega), if_pos h]
  · rw [if_neg (show ¬ (q + 1) % 4 < 2 by omega), if_pos (show (q + 1) % 2 = 1 by omega), if_neg (show ¬ (1 : Nat) = 0 by decide), if_pos rfl, if_neg (by omega), if_neg (by omega), if_pos h]
  · rw [if_pos (show (q + 1) % 4 < 2 by omega), if_neg (show ¬ (q + 1) % 2 = 1 by omega), if_neg (show ¬ (1 : Nat) = 0 by decide), if_pos rfl, if_neg (by omega), if_neg (by omega), if_neg (by omega)]
  · rw [if_neg (show ¬ (q + 2) % 4 < 2 by omega), if_neg (show ¬ (q + 2) % 2 = 1 by omega), if_neg (show ¬ (2 : Nat) = 0 by decide), if_neg (show ¬ (2 : Nat) = 1 by decide), if_pos h]
  · rw [if_neg (show ¬ (q + 2) % 4 < 2 by omega), if_pos (show (q + 2) % 2 = 1 by omega), if_neg (show ¬ (2 : Nat) = 0 by decide), if_neg (show ¬ (2 : Nat) = 1 by decide), if_neg (by omega), if_pos h]
  · rw [if_pos (show (q + 2) % 4 < 2 by omega), if_neg (show ¬ (q + 2) % 2 = 1 by omega), if_neg (show ¬ (2 : Nat) = 0 by decide), if_neg (show ¬ (2 : Nat) = 1 by decide), if_neg (by omega), if_neg (by omega), if_pos h, n2]
  · rw [if_pos (show (q + 2) % 4 < 2 by omega), if_pos (show (q + 2) % 2 = 1 by omega), if_neg (show ¬ (2 : Nat) = 0 by decide), if_neg (show ¬ (2 : Nat) = 1 by decide), if_neg (by omega), if_neg (by omega), if_neg (by omega), n2]
theorem sw_tab : ∀ q, q < 64 → ∀ n, n < 3 → (((nL q + (nI n).toInt64) &&& 3).toInt32 &&& 1 = 1 ↔ (q + n) % 2 = 1) ∧ (((nL q + (nI n).toInt64) &&& 3).toInt32 < 2 ↔ (q + n) % 4 < 2) := by decide +kernel
theorem em_neg {a : Nat} {S : Int} (h : (a : Int) = S % 2 ^ 224) (ha : a < 2 ^ 224) : (((2 ^ 224 - a) % 2 ^ 224 : Nat) : Int) = (-S) % 2 ^ 224 := by
  have e : ((2 ^ 224 - a : Nat) : Int) = 2 ^ 224 - (a : Int) := by omega
  rw [Int.natCast_emod, e, h]
  have e2 : ((2 ^ 224 : Nat) : Int) = 2 ^ 224 := by decide
  rw [e2]
  omega
def wt (n X : Nat) : Rat := if n = 0 then ss ((X : Rat) * wn_d) else if n = 1 then cc ((X : Rat) * wn_d) else -ss ((X : Rat) * wn_d)
theorem swing_val {mi : Int64} {qn : Nat} {u : rk_U} {X : Nat} (hX : un mi = X) (h : X ≤ 100000000) (hn : qn < 3) : okw (rk_swing mi (nI qn) u 0) 7 ∧ ∃ S : Int, (uv (rk_swing mi (nI qn) u 0) 7 : Int) = S % 2 ^ 224 ∧ nb ((S : Rat) - ((2 ^ 160 : Nat) : Rat) * wt qn X) 10000 := by
  obtain ⟨q, eq⟩ : ∃ q, q = X * 636619772 / 1000000000000000 := ⟨_, rfl⟩
  obtain ⟨V, eV⟩ : ∃ V, V = X * 2 ^ 160 / 1000000 := ⟨_, rfl⟩
  obtain ⟨R, f, a1, a2, a3, a4, a5, a6, a7, a8, a9⟩ := sw0_val (u := u) hX h eq eV
  have hsq : sw_q mi = nL q := un_inj (by rw [sw_q_un (by rw [hX]; exact h), hX, ← eq, un_nL (by omega)])
  have tab := sw_tab q (by omega) qn hn
  rw [← hsq] at tab
  have ht : ((sw_q mi + (nI qn).toInt64) &&& 3).toInt32 = sw_t mi (nI qn) := rfl
  rw [ht] at tab
  have U0 : (0 : Rat) < ((2 ^ 160 : Nat) : Rat) := by decide +kernel
  have hr : ((2 ^ 160 : Nat) : Rat) * ((R : Rat) / ((2 ^ 160 : Nat) : Rat)) = (R : Rat) := by
    generalize ((2 ^ 160 : Nat) : Rat) = U at *
    have : U ≠ 0 := by grind
    grind
  generalize (R : Rat) / ((2 ^ 160 : Nat) : Rat) = r at hr
  obtain ⟨b1, b2⟩ := sw_true h eV a7 a8 a9 hr
  clear eq eV
  have sel := sw_sel (cc r) (ss r) q qn hn
  have E : rk_swing mi (nI qn) u = rk_sw2 (sw_t mi (nI qn)) (rk_sw1 (sw_t mi (nI qn)) (rk_sw0 mi u)) := rfl
  rw [E]
  generalize sw_t mi (nI qn) = t at tab ⊢
  generalize rk_sw0 mi u = v at a1 a2 a3 a4 ⊢
  -- the series
  have mid : okw (rk_sw1 t v 0) 7 ∧ ∃ S : Int, (uv (rk_sw1 t v 0) 7 : Int) = S % 2 ^ 224 ∧ nb ((S : Rat) - ((2 ^ 160 : Nat) : Rat) * (if (q + qn) % 2 = 1 then cc r else ss r)) 2100 := by
    unfold rk_sw1
    by_cases c : t &&& 1 = 1
    · rw [if_pos c, if_pos (tab.1.mp c)]
      have l := load_ok (f := v (2 * 0)) (x := 1)
      have w0 : rk_load 0 1 v 0 = wr_load (v (2 * 0)) 1 := vup_eq _ _ _
      have w4 : rk_load 0 1 v 4 = v 4 := vup_ne _ _ (by decide)
      rw [← w0] at l
      rw [← w4] at a3 a4
      generalize rk_load 0 1 v = w at l a3 a4 ⊢
      have k := fac_val (d0 := 1) (o := 0) (v := w) rfl (Or.inl rfl) l.1 a3 a4 a5 a6 a8 hr (by rw [l.2, if_pos rfl]; decide)
      rw [if_pos rfl] at k
      exact k
    · rw [if_neg c, if_neg (fun z => c (tab.1.mpr z))]
      have k := fac_val (d0 := 2) (o := 1) (v := v) rfl (Or.inr rfl) a1 a3 a4 a5 a6 a8 hr (by rw [a2, if_neg (by decide)])
      rw [if_neg (by decide)] at k
      exact k
  generalize rk_sw1 t v = y at mid ⊢
  obtain ⟨m1, S, m2, m3⟩ := mid
  generalize (if (q + qn) % 2 = 1 then cc r else ss r) = Z at *
  have tgt : nb (((2 ^ 160 : Nat) : Rat) * wt qn X - ((2 ^ 160 : Nat) : Rat) * (if (q + qn) % 4 < 2 then Z else -Z)) 3000 := by
    rw [sel]
    unfold wt
    rcases (show qn = 0 ∨ qn = 1 ∨ qn = 2 by omega) with z | z | z
    · rw [if_pos z, if_pos z]; exact b2
    · rw [if_neg (by omega), if_pos z, if_neg (by omega), if_pos z]; exact b1
    · rw [if_neg (by omega), if_neg (by omega), if_neg (by omega), if_neg (by omega)]
      have k := nb_neg b2
      generalize ((2 ^ 160 : Nat) : Rat) = U at *
      generalize ss ((X : Rat) * wn_d) = A at *
      generalize (rtc (cc r) (ss r) q).2 = B at *
      have e : -(U * A - U * B) = U * -A - U * -B := by grind
      rw [e] at k
      exact k
  unfold rk_sw2
  by_cases c : t < 2
  · rw [if_pos c]
    rw [if_pos (tab.2.mp c)] at tgt
    refine ⟨m1, S, m2, ?_⟩
    obtain ⟨u1, u2⟩ := m3
    obtain ⟨v1, v2⟩ := tgt
    generalize ((2 ^ 160 : Nat) : Rat) = U at *
    constructor <;> grind
  · rw [if_neg c]
    rw [if_neg (fun z => c (tab.2.mpr z))] at tgt
    have n := negw_ok m1
    have w0 : rk_neg 0 y 0 = wr_neg (y (2 * 0)) := vup_eq _ _ _
    rw [w0]
    refine ⟨n.1, -S, ?_, ?_⟩
    · have l := uv_lt 7 m1
      rw [show 32 * 7 = 224 from rfl] at l
      have e9 : uv (wr_neg (y (2 * 0))) 7 = (2 ^ 224 - uv (y 0) 7) % 2 ^ 224 := n.2
      rw [e9]
      exact em_neg m2 l
    · rw [Rat.intCast_neg]
      obtain ⟨u1, u2⟩ := m3
      obtain ⟨v1, v2⟩ := tgt
      generalize ((2 ^ 160 : Nat) : Rat) = U at *
      constructor <;> grind
