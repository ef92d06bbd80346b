/-! the class's angle -/
def aAn : Nat → Nat
  | 0 => 0
  | 1 => 0x3EB6EBF25901BAC55B71E7BD7DE885F96A9FEA40
  | 2 => 0x76B19C1586ED3DA2B7F222F65E1D4681B70A0AC3
  | 3 => 0xA4BC7D1934F7092419A87F2A457DAC9EE3F08689
  | _ => 0xC90FDAA22168C234C4C6628B80DC1CD129024E08
def aAr (k : Nat) : Rat := (aAn k : Rat) / ((2 ^ 160 : Nat) : Rat)
theorem lim_A (f : Nat → Int64) {n : Int64} {k : Nat} (hk : k ≤ 4) (hn : n.toInt = (k : Int)) : okw (wr_lim f kc_A 35 (n.toInt32 * 7)) 7 ∧ uv (wr_lim f kc_A 35 (n.toInt32 * 7)) 7 = aAn k := by
  have key : ∀ (k : Nat) (st : Int32), (∀ j, j < 7 → wd_lim kc_A 35 st j = kc_A (7 * k + j)) → (∀ j, j < 7 → un (kc_A (7 * k + j)) < 2 ^ 32) → uv (fun j => kc_A (7 * k + j)) 7 = aAn k → okw (wr_lim f kc_A 35 st) 7 ∧ uv (wr_lim f kc_A 35 st) 7 = aAn k := fun k st e0 o v => by
    unfold wr_lim
    rw [ir_eq]
    have e : ∀ j, j < 7 → wd_cp f (wd_lim kc_A 35 st) 7 j = kc_A (7 * k + j) := fun j hj => by
      unfold wd_cp
      rw [if_pos hj]
      exact e0 j hj
    exact ⟨fun j hj => by rw [e j hj]; exact o j hj, (uv_cong 7 e).trans v⟩
  rcases (show k = 0 ∨ k = 1 ∨ k = 2 ∨ k = 3 ∨ k = 4 by omega) with h | h | h | h | h <;> subst h
  · have : n = 0 := Int64.toInt_inj.mp (by rw [hn]; rfl)
    subst this
    exact key 0 _ (by decide +kernel) (by decide +kernel) (by decide +kernel)
  · have : n = 1 := Int64.toInt_inj.mp (by rw [hn]; rfl)
    subst this
    exact key 1 _ (by decide +kernel) (by decide +kernel) (by decide +kernel)
  · have : n = 2 := Int64.toInt_inj.mp (by rw [hn]; rfl)
    subst this
    exact key 2 _ (by decide +kernel) (by decide +kernel) (by decide +kernel)
  · have : n = 3 := Int64.toInt_inj.mp (by rw [hn]; rfl)
    subst this
    exact key 3 _ (by decide +kernel) (by decide +kernel) (by decide +kernel)
  · have : n = 4 := Int64.toInt_inj.mp (by rw [hn]; rfl)
    subst this
    exact key 4 _ (by decide +kernel) (by decide +kernel) (by decide +kernel)
/-- the unit -/
def u16 : Rat := 1 / ((2 ^ 160 : Nat) : Rat)
theorem u16_ok : 0 ≤ u16 ∧ u16 ≤ 1/1000000000000000000000 ∧ ((2 ^ 160 : Nat) : Rat) * u16 = 1 ∧ 1000000 * (30 * e90) ≤ 1/20 * u16 ∧ 100000000000 * t4 ≤ u16 := by decide +kernel
theorem aA_num : ∀ k : Nat, k < 5 → (0 ≤ aAr k ∧ aAr k ≤ 786/1000) ∧ nb (4 * cI (aAr k) 45 - (k : Rat) * cR (aAr k) 45) (59/10 * u16) ∧ 8 * eT (aAr k) 45 ≤ 1/10 * u16 ∧ nb (4 * cR (aAr k) 45 + (k : Rat) * cI (aAr k) 45) (59/10) := by
  unfold nb
  decide +kernel
theorem aA_ok {k : Nat} (hk : k ≤ 4) : (0 ≤ aAr k ∧ aAr k ≤ 786/1000) ∧ nb (4 * ss (aAr k) - (k : Rat) * cc (aAr k)) (6 * u16) ∧ nb (4 * cc (aAr k) + (k : Rat) * ss (aAr k)) 6 := by
  obtain ⟨⟨a0, a1⟩, h1, h2, h3⟩ := aA_num k (by omega)
  obtain ⟨u0, u1, -⟩ := u16_ok
  obtain ⟨k1, k2⟩ := cs_cut (d := aAr k) (n := 45) a0 (by decide) (by
    have : ((45 + 1 : Nat) : Rat) = 46 := by simp
    rw [this]; grind)
  have kr : nb (k : Rat) 4 := by
    have a : (k : Rat) ≤ ((4 : Nat) : Rat) := Rat.natCast_le_natCast.mpr hk
    have b : (0 : Rat) ≤ (k : Rat) := Rat.natCast_nonneg
    have e : ((4 : Nat) : Rat) = 4 := by simp
    rw [e] at a
    exact ⟨by grind, a⟩
  generalize cc (aAr k) = C at *
  generalize ss (aAr k) = S at *
  generalize cR (aAr k) 45 = c at *
  generalize cI (aAr k) 45 = s at *
  generalize eT (aAr k) 45 = τ at *
  have m1 := nb_mul kr k1
  have m2 := nb_mul kr k2
  obtain ⟨x1, x2⟩ := m1
  obtain ⟨x3, x4⟩ := m2
  obtain ⟨x5, x6⟩ := k1
  obtain ⟨x7, x8⟩ := k2
  obtain ⟨y1, y2⟩ := h1
  obtain ⟨y3, y4⟩ := h3
  refine ⟨⟨a0, a1⟩, ⟨?_, ?_⟩, ⟨?_, ?_⟩⟩ <;> grind
theorem fl_fin {β u Q : Rat} (h : 10 * β ≤ 3 * Q) (u0 : 0 ≤ u) : 6 * u * (5/2 * β) + 6 * (1 * (β * (3 * u))) ≤ 99/10 * (Q * u) := by
  have := Rat.mul_le_mul_of_nonneg_right h u0
  grind
/-- pure numbers: the class's flat angle against its tangent -/
theorem fl_true {l m r σ a ω : Rat} {k : Nat} {al : Rat} (hk : k ≤ 4) (l0 : 0 ≤ l) (lm : l ≤ m) (m1 : 1 ≤ m) (hσ : σ = 1 ∨ σ = -1) (hal : σ * al = 4 * l - (k : Rat) * m) (al0 : 0 ≤ al) (r0 : 0 ≤ r) (r8 : r ≤ 1/8) (hr1 : (4 * m + (k : Rat) * l) * r ≤ al) (hr2 : al ≤ (4 * m + (k : Rat) * l) * (r + u16)) (ha : a = aAr k) (hω : ω = oS (-1) r 400) :
    nb (a + σ * ω) 1 ∧ nb (m * ss (a + σ * ω) - l * cc (a + σ * ω)) (10 * u16 * m) := by
  obtain ⟨⟨a0, a1⟩, ea, da⟩ := aA_ok hk
  rw [← ha] at a0 a1 ea da
  obtain ⟨u0, u1, u2, u3, u4⟩ := u16_ok
  have t0 := t4_0
  have arc := arc_o r0 (show r ≤ 1/3 by grind)
  have ob := oS_bd (a := -1) (Or.inr rfl) r0 (show r ≤ 1/3 by grind) 400
  rw [← hω] at arc ob
  have ωb : nb ω (1/7) := nb_mono ob (by grind)
  have sωb : nb (σ * ω) (1/7) := by
    obtain ⟨x1, x2⟩ := ωb
    rcases hσ with h | h <;> rw [h] <;> constructor <;> grind
  have ψb : nb (a + σ * ω) 1 := by
    obtain ⟨x1, x2⟩ := sωb
    constructor <;> grind
  refine ⟨ψb, ?_⟩
  obtain ⟨k1, k2⟩ := cs_add (a := a) (b := σ * ω) (α := 1) (β := 1) ⟨by grind, by grind⟩ (nb_mono sωb (by decide +kernel)) (by decide +kernel)
  have cσ : cc (σ * ω) = cc ω ∧ ss (σ * ω) = σ * ss ω := by
    rcases hσ with h | h
    · rw [h, show (1 : Rat) * ω = ω by grind]; exact ⟨rfl, by grind⟩
    · rw [h, show (-1 : Rat) * ω = -ω by grind, cc_neg, ss_neg]; exact ⟨rfl, by grind⟩
  rw [cσ.1, cσ.2] at k1 k2
  obtain ⟨cb, sb⟩ := cs_bd (a := ω) (α := 1) (nb_mono ωb (by decide +kernel)) (by decide +kernel)
  have σσ : σ * σ = 1 := by rcases hσ with h | h <;> rw [h] <;> grind
  have σb : nb σ 1 := by rcases hσ with h | h <;> rw [h] <;> constructor <;> grind
  have kr0 : (0 : Rat) ≤ (k : Rat) := Rat.natCast_nonneg
  have kr4 : (k : Rat) ≤ 4 := by
    have : (k : Rat) ≤ ((4 : Nat) : Rat) := Rat.natCast_le_natCast.mpr hk
    simpa using this
  -- beta
  have bm : 10 * (4 * m + (k : Rat) * l) ≤ 3 * ((16 + (k : Rat) * (k : Rat)) * m) := by
    have kl := Rat.mul_le_mul_of_nonneg_left lm kr0
    have kk : 10 * (4 + (k : Rat)) ≤ 3 * (16 + (k : Rat) * (k : Rat)) := by
      rcases (show k = 0 ∨ k = 1 ∨ k = 2 ∨ k = 3 ∨ k = 4 by omega) with h | h | h | h | h <;> subst h <;> decide +kernel
    have m2 := Rat.mul_le_mul_of_nonneg_right kk (show 0 ≤ m by grind)
    grind
  have b0 : 0 ≤ 4 * m + (k : Rat) * l := by
    have := Rat.mul_nonneg kr0 l0
    grind
  generalize hK : (k : Rat) = K at *
  generalize hbe : 4 * m + K * l = β at *
  generalize cc (a + σ * ω) = C' at *
  generalize ss (a + σ * ω) = S' at *
  generalize cc a = ca at *
  generalize ss a = sa at *
  generalize cc ω = c at *
  generalize ss ω = s at *
  have bu' := Rat.mul_nonneg b0 u0
  -- across the rest
  have e1 : nb (β * s - al * c) (β * (3 * u16)) := by
    have x1 := nb_mul (show nb β β from ⟨by grind, by grind⟩) arc
    have x2 := nb_mul (show nb (β * r - al) (β * u16) from ⟨by grind, by grind⟩) cb
    have ue : e90 ≤ 1/1000 * u16 := by grind
    have x3 := Rat.mul_le_mul_of_nonneg_left ue b0
    obtain ⟨y1, y2⟩ := x1
    obtain ⟨y3, y4⟩ := x2
    constructor <;> grind
  have alb : al ≤ 1/7 * β := by
    have x := Rat.mul_le_mul_of_nonneg_left (show r + u16 ≤ 1/7 by grind) b0
    grind
  have d1 : nb (β * c + al * s) (5/2 * β) := by
    have x1 := nb_mul (show nb β β from ⟨by grind, by grind⟩) cb
    have x2 := nb_mul (show nb al (1/7 * β) from ⟨by grind, alb⟩) sb
    obtain ⟨y1, y2⟩ := x1
    obtain ⟨y3, y4⟩ := x2
    constructor <;> grind
  have p1 := nb_mul ea d1
  have p2 := nb_mul da (nb_mul σb e1)
  -- the identity
  have hl : (16 + K * K) * l = K * β + 4 * (σ * al) := by rw [hal, ← hbe]; grind
  have hm : (16 + K * K) * m = 4 * β - K * (σ * al) := by rw [hal, ← hbe]; grind
  have idn : (16 + K * K) * (m * (ca * (σ * s) + sa * c) - l * (ca * c - sa * (σ * s))) = (4 * sa - K * ca) * (β * c + al * s) + (4 * ca + K * sa) * (σ * (β * s - al * c)) := by
    have x1 : (16 + K * K) * (m * (ca * (σ * s) + sa * c) - l * (ca * c - sa * (σ * s))) = ((16 + K * K) * m) * (ca * (σ * s) + sa * c) - ((16 + K * K) * l) * (ca * c - sa * (σ * s)) := by grind
    rw [x1, hm, hl]
    have x2 : (4 * β - K * (σ * al)) * (ca * (σ * s) + sa * c) - (K * β + 4 * (σ * al)) * (ca * c - sa * (σ * s)) = (4 * sa - K * ca) * (β * c + (σ * σ) * (al * s)) + (4 * ca + K * sa) * (σ * (β * s) - σ * (al * c)) := by grind
    rw [x2, σσ]; grind
  have main : nb ((16 + K * K) * (m * (ca * (σ * s) + sa * c) - l * (ca * c - sa * (σ * s)))) (99/10 * ((16 + K * K) * m * u16)) := by
    rw [idn]
    exact nb_mono (nb_add p1 p2) (fl_fin bm u0)
  have kp : 0 < 16 + K * K := by
    have := Rat.mul_nonneg kr0 kr0
    grind
  have near : nb (m * (ca * (σ * s) + sa * c) - l * (ca * c - sa * (σ * s))) (99/10 * u16 * m) := by
    obtain ⟨y1, y2⟩ := main
    clear p1 p2 d1 e1 idn hl hm arc ob ea da k1 k2
    generalize m * (ca * (σ * s) + sa * c) - l * (ca * c - sa * (σ * s)) = Z at *
    generalize 16 + K * K = Q at *
    constructor
    · exact mul_cancel_le kp (by grind)
    · exact mul_cancel_le kp (by grind)
  have q1 := nb_mul (show nb m m from ⟨by grind, by grind⟩) k2
  have q2 := nb_mul (show nb l m from ⟨by grind, lm⟩) k1
  have tm := Rat.mul_le_mul_of_nonneg_left u4 (show 0 ≤ m by grind)
  have tm0 := Rat.mul_nonneg (show 0 ≤ m by grind) t0
  clear p1 p2 d1 e1 idn hl hm arc ob ea da k1 k2 main bm sωb ωb
  obtain ⟨y1, y2⟩ := near
  obtain ⟨y3, y4⟩ := q1
  obtain ⟨y5, y6⟩ := q2
  constructor <;> grind
theorem oE_27 : oE 27 + 1 ≤ 42 ∧ ((2 ^ 160 : Nat) : Rat) * (1/8) ^ (2 * 27 + 1) < 1 := by decide +kernel
