/-! sine and cosine of a function, and the angle of a tangent -/
theorem dv_ct {c : Rat} {L G : Rat → Rat} (hc : 0 ≤ c) (h : dv c L G) : ∀ n, dv c (fun t => cr (L t) (n + 1)) (fun t => -(G t * ci (L t) n)) ∧ dv c (fun t => ci (L t) (n + 1)) (fun t => G t * cr (L t) n)
  | 0 => by
    constructor
    · have k := dv_smul (c := c) (0) h
      refine dv_cg k (fun t => ?_) (fun t => ?_)
      · have e : cr (L t) 1 = -(0 : Rat) * L t / ((0 + 1 : Nat) : Rat) := rfl
        rw [e]; grind
      · have e : ci (L t) 0 = 0 := rfl
        rw [e]; grind
    · refine dv_cg h (fun t => ?_) (fun t => ?_)
      · have e : ci (L t) 1 = 1 * L t / ((0 + 1 : Nat) : Rat) := rfl
        have e2 : ((0 + 1 : Nat) : Rat) = 1 := rfl
        rw [e, e2]; grind
      · have e : cr (L t) 0 = 1 := rfl
        rw [e]; grind
  | n + 1 => by
    obtain ⟨i1, i2⟩ := dv_ct hc h n
    have m1 := dv_smul (-(1 / ((n + 2 : Nat) : Rat))) (dv_mul hc i2 h)
    have m2 := dv_smul (1 / ((n + 2 : Nat) : Rat)) (dv_mul hc i1 h)
    have p := rn_pos (n + 1)
    have p' : (0 : Rat) < ((n + 2 : Nat) : Rat) := p
    have en : ((n + 2 : Nat) : Rat) = ((n + 1 : Nat) : Rat) + 1 := by
      have : ((n + 1 + 1 : Nat) : Rat) = ((n + 1 : Nat) : Rat) + 1 := by
        rw [Rat.natCast_add (n + 1) 1]; rfl
      exact this
    constructor
    · refine dv_cg m1 (fun t => ?_) (fun t => ?_)
      · have e := cr_s (L t) (n + 1)
        have e' : ((n + 2 : Nat) : Rat) * cr (L t) (n + 1 + 1) = -(L t * ci (L t) (n + 1)) := e
        generalize ((n + 2 : Nat) : Rat) = a at *
        exact mul_inj p' (by
          rw [e']
          have : a ≠ 0 := by grind
          grind)
      · have e := ci_s (L t) n
        generalize ((n + 2 : Nat) : Rat) = a at *
        generalize ((n + 1 : Nat) : Rat) = b at *
        have q : G t * cr (L t) n * L t + ci (L t) (n + 1) * G t = a * (G t * ci (L t) (n + 1)) := by grind
        exact mul_inj p' (by
          rw [q]
          have : a ≠ 0 := by grind
          grind)
    · refine dv_cg m2 (fun t => ?_) (fun t => ?_)
      · have e := ci_s (L t) (n + 1)
        have e' : ((n + 2 : Nat) : Rat) * ci (L t) (n + 1 + 1) = L t * cr (L t) (n + 1) := e
        generalize ((n + 2 : Nat) : Rat) = a at *
        exact mul_inj p' (by
          rw [e']
          have : a ≠ 0 := by grind
          grind)
      · have e := cr_s (L t) n
        generalize ((n + 2 : Nat) : Rat) = a at *
        generalize ((n + 1 : Nat) : Rat) = b at *
        have q : -(G t * ci (L t) n) * L t + cr (L t) (n + 1) * G t = a * (G t * cr (L t) (n + 1)) := by grind
        exact mul_inj p' (by
          rw [q]
          have : a ≠ 0 := by grind
          grind)
theorem cR_suc (a : Rat) (n : Nat) : cR a (n + 1) = cR a n + cr a (n + 1) := rfl
theorem cI_suc (a : Rat) (n : Nat) : cI a (n + 1) = cI a n + ci a (n + 1) := rfl
theorem cR_zero (a : Rat) : cR a 0 = 1 := by
  show (0 : Rat) + 1 = 1
  grind
theorem cI_zero (a : Rat) : cI a 0 = 0 := by
  show (0 : Rat) + 0 = 0
  grind
theorem dv_cs {c : Rat} {L G : Rat → Rat} (hc : 0 ≤ c) (h : dv c L G) : ∀ n, dv c (fun t => cR (L t) (n + 1)) (fun t => -(G t * cI (L t) n)) ∧ dv c (fun t => cI (L t) (n + 1)) (fun t => G t * cR (L t) n)
  | 0 => by
    obtain ⟨d1, d2⟩ := dv_ct hc h 0
    have c1 := dv_const (c := c) 1 (by decide +kernel)
    have c0 := dv_const (c := c) 0 (by decide +kernel)
    constructor
    · refine dv_cg (dv_add c1 d1) (fun t => ?_) (fun t => ?_)
      · rw [cR_suc, cR_zero]
      · rw [cI_zero]
        have e : ci (L t) 0 = 0 := rfl
        rw [e]; grind
    · refine dv_cg (dv_add c0 d2) (fun t => ?_) (fun t => ?_)
      · rw [cI_suc, cI_zero]
      · rw [cR_zero]
        have e : cr (L t) 0 = 1 := rfl
        rw [e]; grind
  | n + 1 => by
    obtain ⟨i1, i2⟩ := dv_cs hc h n
    obtain ⟨d1, d2⟩ := dv_ct hc h (n + 1)
    constructor
    · refine dv_cg (dv_add i1 d1) (fun t => ?_) (fun t => ?_)
      · rw [cR_suc (L t) (n + 1)]
      · rw [cI_suc]; grind
    · refine dv_cg (dv_add i2 d2) (fun t => ?_) (fun t => ?_)
      · rw [cI_suc (L t) (n + 1)]
      · rw [cR_suc]; grind
/-- 1 / (1 + t t) -/
def w2 (t : Rat) : Rat := 1 / (1 + t * t)
theorem w2_i (t : Rat) : (1 + t * t) * w2 t = 1 := by
  have := sq_nn t
  have : 1 + t * t ≠ 0 := by grind
  unfold w2
  grind
theorem w2_b (t : Rat) : 0 ≤ w2 t ∧ w2 t ≤ 1 := by
  have q := sq_nn t
  have p : 0 < 1 + t * t := by grind
  have i := w2_i t
  generalize w2 t = u at *
  exact ⟨mul_cancel_le p (by grind), mul_cancel_le p (by grind)⟩
theorem dv_w2 {c : Rat} (hc : 0 ≤ c) (h1 : c ≤ 1) : dv c w2 (fun t => -(2 * t * (w2 t * w2 t))) := by
  refine ⟨5, by grind, fun s s0 s1 => ?_⟩
  obtain ⟨b1, b2⟩ := w2_b s
  have i1 := w2_i s
  have uu := Rat.mul_nonneg b1 b1
  have uu1 := Rat.mul_le_mul_of_nonneg_right b2 b1
  have su := nb_mul (show nb (2 * s) 2 from ⟨by grind, by grind⟩) (show nb (w2 s * w2 s) 1 from ⟨by grind, by grind⟩)
  refine ⟨⟨by grind, by grind⟩, ⟨by have := su.2; grind, by have := su.1; grind⟩, fun t t0 t1 => ?_⟩
  obtain ⟨b3, b4⟩ := w2_b t
  have i2 := w2_i t
  show nb (w2 t - w2 s - -(2 * s * (w2 s * w2 s)) * (t - s)) (5 * ((t - s) * (t - s)))
  generalize w2 s = u at *
  generalize w2 t = v at *
  have e1 : v - u = -((t - s) * (t + s) * (u * v)) := by
    have a : v = v * ((1 + s * s) * u) := by rw [i1]; grind
    have b : u = u * ((1 + t * t) * v) := by rw [i2]; grind
    grind
  have e : v - u - -(2 * s * (u * u)) * (t - s) = (u * v * (-1 + 2 * s * (t + s) * u)) * ((t - s) * (t - s)) := by
    have k : (t - s) * (-((t + s) * (u * v)) + 2 * s * (u * u)) = (t - s) * ((u * v * (-1 + 2 * s * (t + s) * u)) * (t - s)) := by
      have k2 : -((t + s) * v) + 2 * s * u = (v * (-1 + 2 * s * (t + s) * u)) * (t - s) := by
        have k3 : 2 * s * (u - v) = 2 * s * ((t - s) * (t + s) * (u * v)) := by
          have : u - v = (t - s) * (t + s) * (u * v) := by grind
          rw [this]
        grind
      have : -((t + s) * (u * v)) + 2 * s * (u * u) = u * (-((t + s) * v) + 2 * s * u) := by grind
      rw [this, k2]; grind
    grind
  rw [e]
  have uv0 := Rat.mul_nonneg b1 b3
  have uv1 := nb_mul (show nb u 1 from ⟨by grind, b2⟩) (show nb v 1 from ⟨by grind, b4⟩)
  have st := nb_mul (show nb (2 * s) 2 from ⟨by grind, by grind⟩) (show nb (t + s) 2 from ⟨by grind, by grind⟩)
  have st2 := nb_mul st (show nb u 1 from ⟨by grind, b2⟩)
  have q : nb (-1 + 2 * s * (t + s) * u) 5 := by
    obtain ⟨x1, x2⟩ := st2
    constructor <;> grind
  have q2 := nb_mul uv1 q
  have sq := sq_nn (t - s)
  have q3 := nb_mul q2 (show nb ((t - s) * (t - s)) ((t - s) * (t - s)) from ⟨by grind, by grind⟩)
  exact nb_mono q3 (by grind)
/-- an angle whose rise is nearly 1 / (1 + t t) has the tangent t -/
theorem arc_main {c e : Rat} {f G b : Rat → Rat} (hc : 0 ≤ c) (h1 : c ≤ 1) (hd : dv c f G) (f0 : f 0 = 0) (hG : ∀ t, 0 ≤ t → t ≤ c → G t = w2 t * (1 - b t)) (hb : ∀ t, 0 ≤ t → t ≤ c → nb (b t) e) (e1 : e ≤ 1) (hf : ∀ t, 0 ≤ t → t ≤ c → nb (f t) 2) {x : Rat} (x0 : 0 ≤ x) (x1 : x ≤ c) : (ss (f x) - x * cc (f x)) * (ss (f x) - x * cc (f x)) ≤ 2 * (18 * (4 * e + 4 * eT 2 800)) := by
  obtain ⟨dC, dS⟩ := dv_cs hc hd 799
  have dC' : dv c (fun t => cc (f t)) (fun t => -(G t * cI (f t) 799)) := dC
  have dS' : dv c (fun t => ss (f t)) (fun t => G t * cR (f t) 799) := dS
  have dH := dv_add dS' (dv_smul (-1) (dv_mul hc (dv_id hc) dC'))
  have dP := dv_mul hc (dv_mul hc dH dH) (dv_w2 hc h1)
  have e0 := nb_nn (hb 0 (by grind) hc)
  have tl0 : 0 ≤ eT 2 800 := eT_nn (by decide +kernel) 800
  have tl1 : eT 2 800 ≤ 1/1000000 := by decide +kernel
  have bds : ∀ t, 0 ≤ t → t ≤ c → nb (cc (f t)) 2 ∧ nb (ss (f t)) 2 ∧ nb (cc (f t) - cR (f t) 799) (eT 2 800) ∧ nb (ss (f t) - cI (f t) 799) (eT 2 800) := fun t t0 t1 => by
    obtain ⟨y1, y2⟩ := cs_bd (hf t t0 t1) (by decide +kernel)
    obtain ⟨z1, z2⟩ := ct_bd (hf t t0 t1) 800
    refine ⟨y1, y2, ?_, ?_⟩
    · have : cc (f t) - cR (f t) 799 = cr (f t) 800 := by
        have E : cc (f t) = cR (f t) 799 + cr (f t) 800 := rfl
        rw [E]; grind
      rw [this]; exact z1
    · have : ss (f t) - cI (f t) 799 = ci (f t) 800 := by
        have E : ss (f t) = cI (f t) 799 + ci (f t) 800 := rfl
        rw [E]; grind
      rw [this]; exact z2
  have sm9 := dv_small dP (e := 18 * (4 * e + 4 * eT 2 800)) (fun t t0 t1 => by
    obtain ⟨y1, y2, y3, y4⟩ := bds t t0 t1
    have hb' := hb t t0 t1
    have hG' := hG t t0 t1
    obtain ⟨w0, w1⟩ := w2_b t
    have wi := w2_i t
    show nb (((G t * cR (f t) 799 + -1 * (1 * cc (f t) + t * -(G t * cI (f t) 799))) * (ss (f t) + -1 * (t * cc (f t))) + (ss (f t) + -1 * (t * cc (f t))) * (G t * cR (f t) 799 + -1 * (1 * cc (f t) + t * -(G t * cI (f t) 799)))) * w2 t + (ss (f t) + -1 * (t * cc (f t))) * (ss (f t) + -1 * (t * cc (f t))) * -(2 * t * (w2 t * w2 t))) (18 * (4 * e + 4 * eT 2 800))
    rw [hG']
    generalize cR (f t) 799 = C' at *
    generalize cI (f t) 799 = S' at *
    generalize cc (f t) = C at *
    generalize ss (f t) = S at *
    generalize b t = β at *
    generalize w2 t = w at *
    generalize eT 2 800 = τ at *
    -- the rest
    have tb : nb t 1 := ⟨by grind, by grind⟩
    have r1 := nb_mul (show nb w 1 from ⟨by grind, w1⟩) (nb_mul hb' (nb_add y1 (nb_mul tb y2)))
    have b2 : nb (1 - β) 2 := by
      obtain ⟨x1, x2⟩ := hb'
      constructor <;> grind
    have r2 := nb_mul (nb_mul (show nb w 1 from ⟨by grind, w1⟩) b2) (nb_add y3 (nb_mul tb y4))
    have hS : nb (S - t * C) 4 := by
      have k := nb_mul tb y1
      obtain ⟨x1, x2⟩ := k
      obtain ⟨x3, x4⟩ := y2
      constructor <;> grind
    have key : (w * (1 - β) * C' + -1 * (1 * C + t * -(w * (1 - β) * S'))) = t * w * (S - t * C) - (w * (β * (C + t * S)) + w * (1 - β) * (C - C' + t * (S - S'))) := by
      have k1 : C = C * ((1 + t * t) * w) := by rw [wi]; grind
      grind
    have rr : nb (w * (β * (C + t * S)) + w * (1 - β) * (C - C' + t * (S - S'))) (4 * e + 4 * τ) := by
      have k := nb_add r1 r2
      exact nb_mono k (by grind)
    generalize hR : w * (β * (C + t * S)) + w * (1 - β) * (C - C' + t * (S - S')) = R at *
    have tot : ((w * (1 - β) * C' + -1 * (1 * C + t * -(w * (1 - β) * S'))) * (S + -1 * (t * C)) + (S + -1 * (t * C)) * (w * (1 - β) * C' + -1 * (1 * C + t * -(w * (1 - β) * S')))) * w + (S + -1 * (t * C)) * (S + -1 * (t * C)) * -(2 * t * (w * w)) = -(2 * ((S - t * C) * R * w)) := by
      rw [key]; grind
    rw [tot]
    have k := nb_mul (nb_mul hS rr) (show nb w 1 from ⟨by grind, w1⟩)
    obtain ⟨k1, k2⟩ := k
    have ee : 0 ≤ 4 * e + 4 * τ := by grind
    constructor <;> grind) x0 x1
  have s0 : (ss (f 0) + -1 * (0 * cc (f 0))) * (ss (f 0) + -1 * (0 * cc (f 0))) * w2 0 = 0 := by
    rw [f0, cs_0.2]; grind
  have sm' : nb ((ss (f x) + -1 * (x * cc (f x))) * (ss (f x) + -1 * (x * cc (f x))) * w2 x - (ss (f 0) + -1 * (0 * cc (f 0))) * (ss (f 0) + -1 * (0 * cc (f 0))) * w2 0) (18 * (4 * e + 4 * eT 2 800) * x) := sm9
  rw [s0] at sm'
  have wi := w2_i x
  obtain ⟨w0, w1⟩ := w2_b x
  generalize ss (f x) = S at *
  generalize cc (f x) = C at *
  generalize w2 x = w at *
  generalize eT 2 800 = τ at *
  have xx : x * x ≤ 1 := by
    have := Rat.mul_le_mul_of_nonneg_right (show x ≤ 1 by grind) x0
    grind
  have x2 := sq_nn x
  have q : (S - x * C) * (S - x * C) = (1 + x * x) * ((S + -1 * (x * C)) * (S + -1 * (x * C)) * w) := by
    have : (S - x * C) * (S - x * C) = (S - x * C) * (S - x * C) * ((1 + x * x) * w) := by rw [wi]; grind
    rw [this]; grind
  rw [q]
  have ee : 0 ≤ 18 * (4 * e + 4 * τ) := by grind
  have m1 := Rat.mul_le_mul_of_nonneg_left (show x ≤ 1 by grind) ee
  have b1 : (S + -1 * (x * C)) * (S + -1 * (x * C)) * w ≤ 18 * (4 * e + 4 * τ) := by
    have := sm'.2
    grind
  have b0 : 0 ≤ (S + -1 * (x * C)) * (S + -1 * (x * C)) * w := Rat.mul_nonneg (sq_nn _) w0
  generalize (S + -1 * (x * C)) * (S + -1 * (x * C)) * w = Z at *
  have m2 := Rat.mul_le_mul_of_nonneg_right (show 1 + x * x ≤ 2 by grind) b0
  grind
