/-- the tail, for any argument whose terms halve from n on -/
theorem eS_tailn {z : Rat} (h : 0 ≤ z) {n : Nat} (hn : 2 * z ≤ ((n + 1 : Nat) : Rat)) : ∀ k, eS z (n + k) + eT z (n + k) ≤ eS z n + eT z n
  | 0 => Rat.le_refl
  | k + 1 => by
    have a := eS_tailn h hn k
    have c := eT_s z (n + k)
    have t := eT_nn h (n + k + 1)
    have d := eT_nn h (n + k)
    have hk : ((n + 1 : Nat) : Rat) ≤ ((n + k + 1 : Nat) : Rat) := Rat.natCast_le_natCast.mpr (by omega)
    have m1 := Rat.mul_le_mul_of_nonneg_right (Rat.le_trans hn hk) t
    have hp := rn_pos (n + k)
    show eS z (n + k) + eT z (n + k + 1) + eT z (n + k + 1) ≤ _
    have b : 2 * eT z (n + k + 1) ≤ eT z (n + k) := by
      by_cases hz : z = 0
      · subst hz
        have : eT 0 (n + k + 1) = 0 := by
          show eT 0 (n + k) * 0 / _ = 0
          grind
        rw [this]; grind
      · have hz0 : 0 < z := by grind
        exact mul_cancel_le hz0 (by grind)
    grind
def t4 : Rat := 1 / ((2 ^ 400 : Nat) : Rat)
theorem t4_0 : 0 ≤ t4 := by decide +kernel
theorem et_200 : eT 200 800 ≤ t4 / 4 := by decide +kernel
theorem df_200 {α β : Rat} (ha : 0 ≤ α) (hb : 0 ≤ β) (h : α + β ≤ 200) : eS α 800 * eS β 800 - eS (α + β) 800 ≤ t4 / 4 := by
  have b := eS_mul_le ha hb 800
  have h0 : 0 ≤ α + β := by grind
  have c := eS_tailn h0 (n := 800) (by
    have : ((800 + 1 : Nat) : Rat) = 801 := by decide +kernel
    rw [this]; grind) 800
  have d := eT_nn h0 (800 + 800)
  have e := eT_mono h0 h 800
  have f := et_200
  generalize eS (α + β) (800 + 800) = X1 at *
  generalize eT (α + β) (800 + 800) = X2 at *
  generalize eS (α + β) 800 = X3 at *
  generalize eT (α + β) 800 = X4 at *
  generalize eT 200 800 = X5 at *
  generalize eS α 800 * eS β 800 = X6 at *
  grind
/-- cosine and sine, by 800 terms -/
def cc (a : Rat) : Rat := cR a 800
def ss (a : Rat) : Rat := cI a 800
theorem cs_add {a b α β : Rat} (ha : nb a α) (hb : nb b β) (h : α + β ≤ 200) : nb (cc a * cc b - ss a * ss b - cc (a + b)) t4 ∧ nb (cc a * ss b + ss a * cc b - ss (a + b)) t4 := by
  obtain ⟨k1, k2⟩ := cx_add ha hb 800
  have d := df_200 (nb_nn ha) (nb_nn hb) h
  have t := t4_0
  generalize eS α 800 * eS β 800 - eS (α + β) 800 = D at *
  have q : 2 * D ≤ t4 := by
    generalize t4 = T at *
    grind
  unfold cc ss
  exact ⟨nb_mono k1 q, nb_mono k2 q⟩
theorem ct_neg (a : Rat) : ∀ n, cr (-a) n = cr a n ∧ ci (-a) n = -ci a n
  | 0 => by
    show (1 : Rat) = 1 ∧ (0 : Rat) = -0
    constructor <;> grind
  | n + 1 => by
    obtain ⟨i1, i2⟩ := ct_neg a n
    have hp := rn_pos n
    have a1 := cr_s (-a) n
    have a2 := cr_s a n
    have b1 := ci_s (-a) n
    have b2 := ci_s a n
    rw [i2] at a1
    rw [i1] at b1
    generalize ((n + 1 : Nat) : Rat) = m at *
    exact ⟨mul_inj hp (by grind), mul_inj hp (by grind)⟩
theorem cc_neg (a : Rat) : cc (-a) = cc a := sm_cong _ (fun i _ => (ct_neg a i).1)
theorem ss_neg (a : Rat) : ss (-a) = -ss a := by
  have e : ss (-a) = sm (fun i => -ci a i) 801 := sm_cong _ (fun i _ => (ct_neg a i).2)
  rw [e, sm_neg]; rfl
theorem ct_0 : ∀ n, cr 0 (n + 1) = 0 ∧ ci 0 (n + 1) = 0 := fun n => by
  have hp := rn_pos n
  have a := cr_s 0 n
  have b := ci_s 0 n
  generalize ((n + 1 : Nat) : Rat) = m at *
  exact ⟨mul_inj hp (by grind), mul_inj hp (by grind)⟩
theorem cs_0 : cc 0 = 1 ∧ ss 0 = 0 := by
  have z : ∀ n, sm (fun _ => (0 : Rat)) n = 0 := fun n => by
    induction n with
    | zero => rfl
    | succ n ih => show sm _ n + 0 = 0; rw [ih]; grind
  constructor
  · show sm (cr 0) (800 + 1) = 1
    rw [sm_shift, sm_cong (g := fun _ => 0) 800 (fun i _ => (ct_0 i).1), z]
    show (1 : Rat) + 0 = 1; grind
  · show sm (ci 0) (800 + 1) = 0
    rw [sm_shift, sm_cong (g := fun _ => 0) 800 (fun i _ => (ct_0 i).2), z]
    show (0 : Rat) + 0 = 0; grind
theorem cs_one {a α : Rat} (ha : nb a α) (h : α ≤ 100) : nb (cc a * cc a + ss a * ss a - 1) t4 := by
  have k := (cs_add (b := -a) ha (nb_neg ha) (by grind)).1
  rw [cc_neg, ss_neg, show a + -a = 0 by grind, cs_0.1] at k
  have e : cc a * cc a - ss a * -ss a - 1 = cc a * cc a + ss a * ss a - 1 := by grind
  rw [e] at k
  exact k
theorem sq_nn (x : Rat) : 0 ≤ x * x := by
  rcases (show 0 ≤ x ∨ x ≤ 0 by grind) with h | h
  · exact Rat.mul_nonneg h h
  · have := Rat.mul_nonneg (show 0 ≤ -x by grind) (show 0 ≤ -x by grind)
    grind
theorem sq_bd {x : Rat} (h : x * x ≤ 4) : nb x 2 := by
  constructor
  · exact Decidable.byContradiction (fun q => by
      have := Rat.mul_pos (show 0 < -x - 2 by grind) (show 0 < -x - 2 by grind)
      grind)
  · exact Decidable.byContradiction (fun q => by
      have := Rat.mul_pos (show 0 < x - 2 by grind) (show 0 < x - 2 by grind)
      grind)
theorem t4_1 : t4 ≤ 1 / 1000000 := by decide +kernel
theorem cs_bd {a α : Rat} (ha : nb a α) (h : α ≤ 100) : nb (cc a) 2 ∧ nb (ss a) 2 := by
  have k := (cs_one ha h).2
  have t := t4_1
  have s1 := sq_nn (cc a)
  have s2 := sq_nn (ss a)
  exact ⟨sq_bd (by grind), sq_bd (by grind)⟩
/-- a little step -/
theorem cs_small {d : Rat} (hd : 0 ≤ d) (h1 : d ≤ 1) : nb (cc d - 1) (2 * d) ∧ nb (ss d) (2 * d) := by
  have hb : nb d d := ⟨by grind, by grind⟩
  have t2 := eS_tail (z := d) hd h1 0 799
  rw [show 0 + 1 + 799 = 800 from rfl, show 0 + 1 = 1 from rfl] at t2
  have p := eT_nn hd 800
  have e1 : eS d 1 = 1 + eT d 1 := rfl
  have e2 : eT d 1 = 1 * d / ((0 + 1 : Nat) : Rat) := rfl
  have e3 : eT d 1 = d := by
    rw [e2]
    have : ((0 + 1 : Nat) : Rat) = 1 := rfl
    rw [this]; grind
  rw [e1, e3] at t2
  have s1 := sm_bd (fun i => (ct_bd hb i).1) 1 800
  have s2 := sm_bd (fun i => (ct_bd hb i).2) 1 800
  rw [show 1 + 800 = 800 + 1 from rfl, ← eS_sm] at s1 s2
  have o1 : sm (cr d) 1 = 0 + 1 := rfl
  have o2 : sm (ci d) 1 = 0 + 0 := rfl
  have o3 : sm (eT d) 1 = 0 + 1 := rfl
  rw [o1, o3] at s1
  rw [o2, o3] at s2
  have c1 : sm (cr d) (800 + 1) = cc d := rfl
  have c2 : sm (ci d) (800 + 1) = ss d := rfl
  rw [c1] at s1
  rw [c2] at s2
  obtain ⟨u1, u2⟩ := s1
  obtain ⟨v1, v2⟩ := s2
  refine ⟨⟨?_, ?_⟩, ⟨?_, ?_⟩⟩ <;> grind
theorem cs_lip {a d α : Rat} (ha : nb a α) (h : α ≤ 100) (hd : 0 ≤ d) (h1 : d ≤ 1) : nb (cc (a + d) - cc a) (8 * d + t4) ∧ nb (ss (a + d) - ss a) (8 * d + t4) := by
  obtain ⟨k1, k2⟩ := cs_add ha (show nb d d from ⟨by grind, by grind⟩) (by grind)
  obtain ⟨b1, b2⟩ := cs_bd ha (by grind)
  obtain ⟨s1, s2⟩ := cs_small hd h1
  have m1 := nb_mul b1 s1
  have m2 := nb_mul b2 s2
  have m3 := nb_mul b1 s2
  have m4 := nb_mul b2 s1
  obtain ⟨u1, u2⟩ := k1
  obtain ⟨v1, v2⟩ := k2
  obtain ⟨p1, p2⟩ := m1
  obtain ⟨q1, q2⟩ := m2
  obtain ⟨r1, r2⟩ := m3
  obtain ⟨w1, w2⟩ := m4
  generalize cc (a + d) = X at *
  generalize ss (a + d) = Y at *
  generalize cc a = C at *
  generalize ss a = S at *
  generalize cc d = D at *
  generalize ss d = E at *
  refine ⟨⟨?_, ?_⟩, ⟨?_, ?_⟩⟩ <;> grind
/-- turned by q quarters -/
def rtc (c s : Rat) : Nat → Rat × Rat
  | 0 => (c, s)
  | q + 1 => (-(rtc c s q).2, (rtc c s q).1)
theorem turn_q {r p e : Rat} (hr0 : 0 ≤ r) (hr : r ≤ 2) (hp0 : 0 ≤ p) (hp : p ≤ 11/7) (he : t4 ≤ e) (pc : nb (cc p) e) (ps : nb (ss p - 1) e) : ∀ q : Nat, q ≤ 63 → nb (cc (r + (q : Rat) * p) - (rtc (cc r) (ss r) q).1) (5 * (q : Rat) * e) ∧ nb (ss (r + (q : Rat) * p) - (rtc (cc r) (ss r) q).2) (5 * (q : Rat) * e)
  | 0, _ => by
    have e0 : ((0 : Nat) : Rat) = 0 := rfl
    rw [e0, show r + 0 * p = r by grind]
    show nb (cc r - cc r) _ ∧ nb (ss r - ss r) _
    refine ⟨⟨?_, ?_⟩, ⟨?_, ?_⟩⟩ <;> grind
  | q + 1, h => by
    obtain ⟨i1, i2⟩ := turn_q hr0 hr hp0 hp he pc ps q (by omega)
    have eq : ((q + 1 : Nat) : Rat) = (q : Rat) + 1 := by simp
    have q60 : (q : Rat) ≤ 62 := by
      have : (q : Rat) ≤ ((62 : Nat) : Rat) := Rat.natCast_le_natCast.mpr (by omega)
      simpa using this
    have q0 : (0 : Rat) ≤ (q : Rat) := Rat.natCast_nonneg
    have qp : (q : Rat) * p ≤ 98 := by
      have m := Rat.mul_le_mul_of_nonneg_right q60 hp0
      grind
    have qp0 := Rat.mul_nonneg q0 hp0
    have hy : nb (r + (q : Rat) * p) 100 := ⟨by grind, by grind⟩
    obtain ⟨k1, k2⟩ := cs_add hy (show nb p 2 from ⟨by grind, by grind⟩) (by grind)
    obtain ⟨b1, b2⟩ := cs_bd hy (by grind)
    rw [eq, show r + ((q : Rat) + 1) * p = r + (q : Rat) * p + p by grind]
    have m1 := nb_mul b1 pc
    have m2 := nb_mul b2 ps
    have m3 := nb_mul b1 ps
    have m4 := nb_mul b2 pc
    show nb (cc (r + (q : Rat) * p + p) - -(rtc (cc r) (ss r) q).2) _ ∧ nb (ss (r + (q : Rat) * p + p) - (rtc (cc r) (ss r) q).1) _
    obtain ⟨u1, u2⟩ := k1
    obtain ⟨v1, v2⟩ := k2
    obtain ⟨p1, p2⟩ := m1
    obtain ⟨q1, q2⟩ := m2
    obtain ⟨r1, r2⟩ := m3
    obtain ⟨w1, w2⟩ := m4
    obtain ⟨x1, x2⟩ := i1
    obtain ⟨y1, y2⟩ := i2
    generalize cc (r + (q : Rat) * p + p) = X at *
    generalize ss (r + (q : Rat) * p + p) = Y at *
    generalize cc (r + (q : Rat) * p) = C at *
    generalize ss (r + (q : Rat) * p) = S at *
    generalize (rtc (cc r) (ss r) q).1 = RC at *
    generalize (rtc (cc r) (ss r) q).2 = RS at *
    refine ⟨⟨?_, ?_⟩, ⟨?_, ?_⟩⟩ <;> grind
/-- by halves: r + k p where p is near pi -/
theorem turn_h {r p e : Rat} (hr0 : 0 ≤ r) (hr : r ≤ 4) (hp0 : 0 ≤ p) (hp : p ≤ 16/5) (he : t4 ≤ e) (pc : nb (cc p + 1) e) (ps : nb (ss p) e) : ∀ q : Nat, q ≤ 31 → nb (cc (r + (q : Rat) * p) - (-1) ^ q * cc r) (5 * (q : Rat) * e) ∧ nb (ss (r + (q : Rat) * p) - (-1) ^ q * ss r) (5 * (q : Rat) * e)
  | 0, _ => by
    have e0 : ((0 : Nat) : Rat) = 0 := rfl
    rw [e0, show r + 0 * p = r by grind, Rat.pow_zero]
    refine ⟨⟨?_, ?_⟩, ⟨?_, ?_⟩⟩ <;> grind
  | q + 1, h => by
    obtain ⟨i1, i2⟩ := turn_h hr0 hr hp0 hp he pc ps q (by omega)
    have eq : ((q + 1 : Nat) : Rat) = (q : Rat) + 1 := by simp
    have q60 : (q : Rat) ≤ 30 := by
      have : (q : Rat) ≤ ((30 : Nat) : Rat) := Rat.natCast_le_natCast.mpr (by omega)
      simpa using this
    have q0 : (0 : Rat) ≤ (q : Rat) := Rat.natCast_nonneg
    have qp : (q : Rat) * p ≤ 96 := by
      have m := Rat.mul_le_mul_of_nonneg_right q60 hp0
      grind
    have qp0 := Rat.mul_nonneg q0 hp0
    have hy : nb (r + (q : Rat) * p) 100 := ⟨by grind, by grind⟩
    obtain ⟨k1, k2⟩ := cs_add hy (show nb p 4 from ⟨by grind, by grind⟩) (by grind)
    obtain ⟨b1, b2⟩ := cs_bd hy (by grind)
    rw [eq, show r + ((q : Rat) + 1) * p = r + (q : Rat) * p + p by grind, Rat.pow_succ]
    have m1 := nb_mul b1 pc
    have m2 := nb_mul b2 ps
    have m3 := nb_mul b1 ps
    have m4 := nb_mul b2 pc
    obtain ⟨u1, u2⟩ := k1
    obtain ⟨v1, v2⟩ := k2
    obtain ⟨p1, p2⟩ := m1
    obtain ⟨q1, q2⟩ := m2
    obtain ⟨r1, r2⟩ := m3
    obtain ⟨w1, w2⟩ := m4
    obtain ⟨x1, x2⟩ := i1
    obtain ⟨y1, y2⟩ := i2
    generalize cc (r + (q : Rat) * p + p) = X at *
    generalize ss (r + (q : Rat) * p + p) = Y at *
    generalize cc (r + (q : Rat) * p) = C at *
    generalize ss (r + (q : Rat) * p) = S at *
    generalize (-1 : Rat) ^ q = g at *
    refine ⟨⟨?_, ?_⟩, ⟨?_, ?_⟩⟩ <;> grind
/-- the other side of pi / 2 -/
theorem refl_p {x p e : Rat} (hx0 : 0 ≤ x) (hx : x ≤ p) (hp : p ≤ 16/5) (he : t4 ≤ e) (pc : nb (cc p + 1) e) (ps : nb (ss p) e) : nb (cc (p - x) + cc x) (20 * e) ∧ nb (ss (p - x) - ss x) (20 * e) := by
  have hX : nb x 4 := ⟨by grind, by grind⟩
  have hY : nb (p - x) 4 := ⟨by grind, by grind⟩
  obtain ⟨k1, k2⟩ := cs_add hY hX (by grind)
  rw [show p - x + x = p by grind] at k1 k2
  have o := cs_one hX (by grind)
  obtain ⟨b1, b2⟩ := cs_bd hX (by grind)
  obtain ⟨d1, d2⟩ := cs_bd hY (by grind)
  have t0 := t4_0
  have e1 : nb (cc (p - x) * cc x - ss (p - x) * ss x + 1) (2 * e) := by
    obtain ⟨u1, u2⟩ := k1
    obtain ⟨v1, v2⟩ := pc
    constructor <;> grind
  have e2 : nb (cc (p - x) * ss x + ss (p - x) * cc x) (2 * e) := by
    obtain ⟨u1, u2⟩ := k2
    obtain ⟨v1, v2⟩ := ps
    constructor <;> grind
  have m1 := nb_mul e1 b1
  have m2 := nb_mul e2 b2
  have m3 := nb_mul e1 b2
  have m4 := nb_mul e2 b1
  have n1 := nb_mul d1 o
  have n2 := nb_mul d2 o
  obtain ⟨p1, p2⟩ := m1
  obtain ⟨q1, q2⟩ := m2
  obtain ⟨r1, r2⟩ := m3
  obtain ⟨w1, w2⟩ := m4
  obtain ⟨x1, x2⟩ := n1
  obtain ⟨y1, y2⟩ := n2
  generalize cc (p - x) = C2 at *
  generalize ss (p - x) = S2 at *
  generalize cc x = C at *
  generalize ss x = S at *
  refine ⟨⟨?_, ?_⟩, ⟨?_, ?_⟩⟩ <;> grind
theorem rtc_4 (c s : Rat) : ∀ q : Nat, rtc c s q = if q % 4 = 0 then (c, s) else if q % 4 = 1 then (-s, c) else if q % 4 = 2 then (-c, -s) else (s, -c)
  | 0 => rfl
  | q + 1 => by
    show (-(rtc c s q).2, (rtc c s q).1) = _
    rw [rtc_4 c s q]
    have n2 : ∀ x : Rat, - -x = x := fun x => by grind
    rcases (show q % 4 = 0 ∨ q % 4 = 1 ∨ q % 4 = 2 ∨ q % 4 = 3 by omega) with h | h | h | h
    · rw [if_pos h, if_neg (by omega), if_pos (by omega)]
    · rw [if_neg (by omega), if_pos h, if_neg (by omega), if_neg (by omega), if_pos (by omega)]
    · rw [if_neg (by omega), if_neg (by omega), if_pos h, if_neg (by omega), if_neg (by omega), if_neg (by omega), n2]
    · rw [if_neg (by omega), if_neg (by omega), if_neg (by omega), if_pos (by omega), n2]
