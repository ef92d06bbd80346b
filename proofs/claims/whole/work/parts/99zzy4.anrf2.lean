/-! the reference's angle -/
def har (f : Nat) : Rat := ((pie f / 2 : Int) : Rat) / (((1000000 : Int) ^ f : Int) : Rat)
def e20 : Rat := 1 / ((2 ^ 200 : Nat) : Rat)
theorem e20_ok : 0 ≤ e20 ∧ t4 ≤ e20 ∧ 1000 * e20 ≤ e90 ∧ e90 ≤ 1/1000000000000000000000000 ∧ 1000000 * (30 * e90) ≤ 1 / ((2 ^ 160 : Nat) : Rat) ∧ 1 / ((2 ^ 160 : Nat) : Rat) ≤ 1/1000000 ∧ 20 * e95 ≤ e90 := by decide +kernel
theorem har_ok {f : Nat} (h : f = 11 ∨ f = 17) : nb (cc (har f)) e20 ∧ nb (ss (har f) - 1) e20 := by
  have d0 : 0 ≤ har f := by rcases h with h | h <;> subst h <;> decide +kernel
  have d2 : 2 * har f ≤ ((90 + 1 : Nat) : Rat) := by rcases h with h | h <;> subst h <;> decide +kernel
  obtain ⟨k1, k2⟩ := cs_cut (d := har f) (n := 90) d0 (by decide) d2
  have h1 : nb (cR (har f) 90) (1 / ((2 ^ 201 : Nat) : Rat)) := by unfold nb; rcases h with h | h <;> subst h <;> decide +kernel
  have h2 : nb (cI (har f) 90 - 1) (1 / ((2 ^ 201 : Nat) : Rat)) := by unfold nb; rcases h with h | h <;> subst h <;> decide +kernel
  have h3 : eT (har f) 90 + 1 / ((2 ^ 201 : Nat) : Rat) ≤ e20 := by rcases h with h | h <;> subst h <;> decide +kernel
  generalize (1 / ((2 ^ 201 : Nat) : Rat) : Rat) = e8 at h1 h2 h3
  generalize e20 = e7 at h3 ⊢
  generalize cc (har f) = A at k1 ⊢
  generalize ss (har f) = B at k2 ⊢
  generalize cR (har f) 90 = C at k1 h1
  generalize cI (har f) 90 = D at k2 h2
  generalize eT (har f) 90 = T at k1 k2 h3
  obtain ⟨a1, a2⟩ := k1
  obtain ⟨b1, b2⟩ := k2
  obtain ⟨c1, c2⟩ := h1
  obtain ⟨d1, d2⟩ := h2
  refine ⟨⟨?_, ?_⟩, ⟨?_, ?_⟩⟩ <;> grind
theorem har_bd {f : Nat} (h : f = 11 ∨ f = 17) : 157/100 ≤ har f ∧ har f ≤ 158/100 ∧ nb (har f - hpr) (2 / ((2 ^ 160 : Nat) : Rat)) ∧ pir f ≤ 31415926536/10000000000 ∧ 314/100 ≤ pir f ∧ nb (pir f - 2 * hpr) (4 / ((2 ^ 160 : Nat) : Rat)) := by
  unfold nb
  rcases h with h | h <;> subst h <;> decide +kernel
theorem cs_near {a b d : Rat} (ha : nb a 4) (hb : nb b 4) (h : nb (b - a) d) (hd : d ≤ 1) : nb (cc b - cc a) (8 * d + t4) ∧ nb (ss b - ss a) (8 * d + t4) := by
  obtain ⟨h1, h2⟩ := h
  by_cases c : 0 ≤ b - a
  · obtain ⟨k1, k2⟩ := cs_lip (a := a) (d := b - a) ha (by decide +kernel) c (by grind)
    rw [show a + (b - a) = b by grind] at k1 k2
    exact ⟨nb_mono k1 (by grind), nb_mono k2 (by grind)⟩
  · obtain ⟨k1, k2⟩ := cs_lip (a := b) (d := a - b) hb (by decide +kernel) (by grind) (by grind)
    rw [show b + (a - b) = a by grind] at k1 k2
    have n1 := nb_neg k1
    have n2 := nb_neg k2
    rw [show -(cc a - cc b) = cc b - cc a by grind] at n1
    rw [show -(ss a - ss b) = ss b - ss a by grind] at n2
    exact ⟨nb_mono n1 (by grind), nb_mono n2 (by grind)⟩
/-- a quarter less an angle -/
theorem cs_q {h x e : Rat} (hh : nb h 2) (hx : nb x 2) (e0 : 0 ≤ e) (te : t4 ≤ e) (hc : nb (cc h) e) (hs : nb (ss h - 1) e) : nb (cc (h - x) - ss x) (6 * e) ∧ nb (ss (h - x) - cc x) (6 * e) := by
  obtain ⟨a1, a2⟩ := cs_add hh (nb_neg hx) (by decide +kernel)
  rw [cc_neg, ss_neg, show h + -x = h - x by grind] at a1 a2
  obtain ⟨b1, b2⟩ := cs_bd hx (by decide +kernel)
  have m1 := nb_mul hc b1
  have m2 := nb_mul hs b2
  have m3 := nb_mul hc b2
  have m4 := nb_mul hs b1
  generalize cc (h - x) = C at *
  generalize ss (h - x) = S at *
  generalize cc h = c at *
  generalize ss h = s at *
  generalize cc x = p at *
  generalize ss x = q at *
  obtain ⟨x1, x2⟩ := m1
  obtain ⟨x3, x4⟩ := m2
  obtain ⟨x5, x6⟩ := m3
  obtain ⟨x7, x8⟩ := m4
  obtain ⟨y1, y2⟩ := a1
  obtain ⟨y3, y4⟩ := a2
  refine ⟨⟨?_, ?_⟩, ⟨?_, ?_⟩⟩ <;> grind
/-- register 0 from register r, by 6 -/
theorem turn6 {r : Nat} {G : Nat → Int64} (hr : r ≠ 0 ∧ r ≠ 6) (o0 : ok 0 G) (orr : ok r G) (hle : vv 0 G 24 ≤ vv r G 24) : ok 0 (mr_cp 0 6 (mr_les 6 0 (mr_cp 6 r G))) ∧ vv 0 (mr_cp 0 6 (mr_les 6 0 (mr_cp 6 r G))) 24 = vv r G 24 - vv 0 G 24 ∧ ∀ s, s ≠ 0 → s ≠ 6 → ok s G → ok s (mr_cp 0 6 (mr_les 6 0 (mr_cp 6 r G))) ∧ vv s (mr_cp 0 6 (mr_les 6 0 (mr_cp 6 r G))) 24 = vv s G 24 := by
  have c1 := cp_ok (r := 6) (a := r) hr.2 orr
  have o0' := fr_ok c1.2.1 (s := 0) (by decide) o0
  have l1 := les_ok (r := 6) (a := 0) (by decide) c1.1 o0'
  have lv := l1.2.2
  rw [c1.2.2, fr_vv (s := 0) c1.2.1 (by decide)] at lv
  have c2 := cp_ok (r := 0) (a := 6) (by decide) l1.1
  refine ⟨c2.1, by rw [c2.2.2, lv hle], fun s s0 s6 os => ⟨fr_ok c2.2.1 s0 (fr_ok l1.2.1 s6 (fr_ok c1.2.1 s6 os)), by rw [fr_vv c2.2.1 s0, fr_vv l1.2.1 s6, fr_vv c1.2.1 s6]⟩⟩
/-- pure numbers: the flat angle against its tangent -/
theorem an_flat {B S l m x E φ : Rat} (hB : 0 < B) (hBe : 2000 ≤ B * e95) (m0 : 0 ≤ m) (m9 : m ≤ 1000000) (hx : m * x = l) (x0 : 0 ≤ x) (x1 : x ≤ 1) (E0 : 0 ≤ E) (E1 : E ≤ 1) (hE : nb (ss E - x * cc E) e90) (hS : nb (S - B * E) 1700) (hφ : B * φ = S) (S0 : 0 ≤ S) : 0 ≤ φ ∧ φ ≤ 101/100 ∧ nb (m * ss φ - l * cc φ) (1000000 * (3 * e90)) := by
  obtain ⟨f0, f1, f2⟩ := e95_ok
  obtain ⟨g0, g1, g2, g3, g4, g5, g6⟩ := e20_ok
  have t0 := t4_0
  have d : nb (φ - E) e95 := by
    obtain ⟨a1, a2⟩ := hS
    constructor
    · exact mul_cancel_le hB (by grind)
    · exact mul_cancel_le hB (by grind)
  have p0 : 0 ≤ φ := mul_cancel_le hB (by grind)
  have p1 : φ ≤ 101/100 := by have := d.2; grind
  refine ⟨p0, p1, ?_⟩
  obtain ⟨k1, k2⟩ := cs_near (a := E) (b := φ) ⟨by grind, by grind⟩ ⟨by grind, by grind⟩ d (by grind)
  generalize cc φ = C at *
  generalize ss φ = S' at *
  generalize cc E = c at *
  generalize ss E = s at *
  have m1 := nb_mul (show nb x 1 from ⟨by grind, x1⟩) k1
  have q : nb (S' - x * C) (3 * e90) := by
    obtain ⟨a1, a2⟩ := m1
    obtain ⟨b1, b2⟩ := k2
    obtain ⟨c1, c2⟩ := hE
    constructor <;> grind
  have r := nb_mul (show nb m 1000000 from ⟨by grind, m9⟩) q
  rw [show m * (S' - x * C) = m * S' - (m * x) * C by grind, hx] at r
  exact r
theorem pI1 {V P B : Int} (h1 : 100 * V ≤ 101 * B) (h2 : 314 * B ≤ 100 * P) (h3 : 1000000000 ≤ B) : V ≤ P / 2 := by omega
theorem pI2 {V P : Int} (h1 : 0 ≤ V) (h2 : V ≤ P / 2) : 0 ≤ P / 2 - V ∧ P / 2 - V ≤ P / 2 := by omega
theorem pI3 {V P B : Int} (h0 : 0 ≤ V) (h1 : V ≤ P / 2) (h2 : 314 * B ≤ 100 * P) (h3 : 0 < B) : V ≤ P := by omega
theorem pI4 {V P : Int} (h1 : 0 ≤ V) (h2 : V ≤ P) : 0 ≤ P - V ∧ P - V ≤ P := by omega
theorem pI5 {D P B Q : Int} (h1 : D ≤ P) (h2 : 100 * P ≤ 315 * B) (h3 : 1000000000000 * B < Q) (h4 : 0 < B) : D * 1000000000 < Q := by omega
theorem pI6 {D P B : Int} (h1 : D ≤ P) (h2 : 100 * P ≤ 315 * B) (h4 : 0 < B) : D * 1000000000 < 2 ^ 63 * B ∧ D * 1000000000 ≤ 4000000000 * B := by omega
theorem pI7 {D : Int} (h : 0 ≤ D) : 0 ≤ D * 1000000000 := by omega
/-- one pass of the reference -/
theorem ag_say {x y : Int32} {f : Nat} {g : Nat → Int64} (hf : f = 11 ∨ f = 17) (hx1 : -1000000 ≤ x.toInt) (hx2 : x.toInt ≤ 1000000) (hy1 : -1000000 ≤ y.toInt) (hy2 : y.toInt ≤ 1000000) (h00 : ¬ (x.toInt = 0 ∧ y.toInt = 0)) :
    ∃ φ1 ψ φ : Rat, (0 ≤ φ1 ∧ φ1 ≤ 101/100)
      ∧ (if y.toInt.natAbs ≤ x.toInt.natAbs then ψ = φ1 ∧ nb ((x.toInt.natAbs : Rat) * ss φ1 - (y.toInt.natAbs : Rat) * cc φ1) (1000000 * (3 * e90)) else ψ = har f - φ1 ∧ nb ((y.toInt.natAbs : Rat) * ss φ1 - (x.toInt.natAbs : Rat) * cc φ1) (1000000 * (3 * e90)))
      ∧ φ = (if 0 ≤ x.toInt then ψ else pir f - ψ)
      ∧ (((1000000 : Int) ^ f : Int) : Rat) * ((ag_V y x f g).toInt : Rat) ≤ (((1000000 : Int) ^ f : Int) : Rat) * (1000000000 * (if 0 ≤ y.toInt then φ else -φ)) ∧ (((1000000 : Int) ^ f : Int) : Rat) * (1000000000 * (if 0 ≤ y.toInt then φ else -φ)) ≤ (((1000000 : Int) ^ f : Int) : Rat) * ((ag_V y x f g).toInt : Rat) + (((1000000 : Int) ^ f : Int) : Rat) := by
  have hB := pw_pos f
  have hBr : (0 : Rat) < (((1000000 : Int) ^ f : Int) : Rat) := by
    have : ((0 : Int) : Rat) < (((1000000 : Int) ^ f : Int) : Rat) := Rat.intCast_lt_intCast.mpr hB
    simpa using this
  have hBe := b_big hf
  have f24 : f ≤ 24 := by omega
  have ip1 : y.toInt.natAbs ≤ x.toInt.natAbs → 0 < (x.toInt.natAbs : Int) := by omega
  have ip2 : ¬ y.toInt.natAbs ≤ x.toInt.natAbs → 0 < (y.toInt.natAbs : Int) := by omega
  have ip3 : (x.toInt.natAbs : Int) ≤ 1000000 := by omega
  have ip4 : (y.toInt.natAbs : Int) ≤ 1000000 := by omega
  have f20 : f ≤ 20 := by omega
  have f0 : 0 < f := by omega
  have rm := wh_room (f := f) (v := 1000000000000) f20 (by decide) (by decide)
  have ax : (ab9 x).toInt = (x.toInt.natAbs : Int) := by
    rw [ab9_eq (by omega)]; split <;> omega
  have ay : (ab9 y).toInt = (y.toInt.natAbs : Int) := by
    rw [ab9_eq (by omega)]; split <;> omega
  have ile : ab9 y ≤ ab9 x ↔ y.toInt.natAbs ≤ x.toInt.natAbs := by
    rw [i64_le, ax, ay]; exact Int.ofNat_le
  obtain ⟨o7, o4, -, -, p4⟩ := hf_ok (f := f) (g := g) f20 f0
  have p7 := pi_val (g := g) hf
  rw [p7] at p4
  obtain ⟨pb1, pb2⟩ := pie_bd hf
  obtain ⟨hb1, hb2, -, hb4, hb5, -⟩ := har_bd hf
  have hharr : (((1000000 : Int) ^ f : Int) : Rat) * har f = ((pie f / 2 : Int) : Rat) := by
    unfold har
    have : (((1000000 : Int) ^ f : Int) : Rat) ≠ 0 := by grind
    generalize (((1000000 : Int) ^ f : Int) : Rat) = B at *
    grind
  have hpirr : (((1000000 : Int) ^ f : Int) : Rat) * pir f = ((pie f : Int) : Rat) := by
    unfold pir
    have : (((1000000 : Int) ^ f : Int) : Rat) ≠ 0 := by grind
    generalize (((1000000 : Int) ^ f : Int) : Rat) = B at *
    grind
  have big : (1000000000 : Int) ≤ 1000000 ^ f := by rcases hf with h | h <;> subst h <;> decide
  -- the flat angle
  have flat : ∀ (a b : Int64), 0 ≤ a.toInt → a.toInt ≤ b.toInt → 0 < b.toInt → b.toInt ≤ 1000000 → ∃ φ1 : Rat, (0 ≤ φ1 ∧ φ1 ≤ 101/100) ∧ nb ((b.toInt : Rat) * ss φ1 - (a.toInt : Rat) * cc φ1) (1000000 * (3 * e90)) ∧ (((1000000 : Int) ^ f : Int) : Rat) * φ1 = (vv 0 (anr f a b (hfr f g)) 24 : Rat) ∧ 0 ≤ vv 0 (anr f a b (hfr f g)) 24 ∧ vv 0 (anr f a b (hfr f g)) 24 ≤ pie f / 2 := fun a b h1 h2 h3 h4 => by
    obtain ⟨-, -, n0, t, ht, t0, t1, nS⟩ := an_sum (g := hfr f g) hf h1 h2 h3 h4
    obtain ⟨φ1, hφ⟩ : ∃ φ1 : Rat, (((1000000 : Int) ^ f : Int) : Rat) * φ1 = (vv 0 (anr f a b (hfr f g)) 24 : Rat) := ⟨(vv 0 (anr f a b (hfr f g)) 24 : Rat) / (((1000000 : Int) ^ f : Int) : Rat), by
      have : (((1000000 : Int) ^ f : Int) : Rat) ≠ 0 := by grind
      generalize (((1000000 : Int) ^ f : Int) : Rat) = B at *
      grind⟩
    have br : (b.toInt : Rat) ≤ 1000000 := by
      have : (b.toInt : Rat) ≤ ((1000000 : Int) : Rat) := Rat.intCast_le_intCast.mpr h4
      simpa using this
    have b0 : (0 : Rat) ≤ (b.toInt : Rat) := by
      have : ((0 : Int) : Rat) ≤ (b.toInt : Rat) := Rat.intCast_le_intCast.mpr (Int.le_of_lt h3)
      simpa using this
    obtain ⟨eb1, eb2⟩ := euS_bd t0 t1 500
    have e5 := (eu_nn t0 t1 500).1
    have S0 : (0 : Rat) ≤ (vv 0 (anr f a b (hfr f g)) 24 : Rat) := by
      have : ((0 : Int) : Rat) ≤ (vv 0 (anr f a b (hfr f g)) 24 : Rat) := Rat.intCast_le_intCast.mpr n0
      simpa using this
    obtain ⟨q1, q2, q3⟩ := an_flat hBr hBe b0 br ht t0 t1 eb1 (by grind) (arc_e t0 t1) nS hφ S0
    refine ⟨φ1, ⟨q1, q2⟩, q3, hφ, n0, ?_⟩
    have r : ((100 * vv 0 (anr f a b (hfr f g)) 24 : Int) : Rat) ≤ ((101 * 1000000 ^ f : Int) : Rat) := by
      rw [Rat.intCast_mul, Rat.intCast_mul, ← hφ]
      have e1 : ((100 : Int) : Rat) = 100 := by simp
      have e2 : ((101 : Int) : Rat) = 101 := by simp
      rw [e1, e2]
      have m := Rat.mul_le_mul_of_nonneg_left q2 (Rat.le_of_lt hBr)
      grind
    exact pI1 (Rat.intCast_le_intCast.mp r) pb1 big
  -- register 0 and 7 behind ag_1
  have one : ∃ φ1 ψ : Rat, (0 ≤ φ1 ∧ φ1 ≤ 101/100) ∧ (if y.toInt.natAbs ≤ x.toInt.natAbs then ψ = φ1 ∧ nb ((x.toInt.natAbs : Rat) * ss φ1 - (y.toInt.natAbs : Rat) * cc φ1) (1000000 * (3 * e90)) else ψ = har f - φ1 ∧ nb ((y.toInt.natAbs : Rat) * ss φ1 - (x.toInt.natAbs : Rat) * cc φ1) (1000000 * (3 * e90)))
      ∧ ok 0 (ag_1 f (ab9 x) (ab9 y) g) ∧ ok 7 (ag_1 f (ab9 x) (ab9 y) g) ∧ vv 7 (ag_1 f (ab9 x) (ab9 y) g) 24 = pie f ∧ 0 ≤ vv 0 (ag_1 f (ab9 x) (ab9 y) g) 24 ∧ vv 0 (ag_1 f (ab9 x) (ab9 y) g) 24 ≤ pie f / 2 ∧ (((1000000 : Int) ^ f : Int) : Rat) * ψ = (vv 0 (ag_1 f (ab9 x) (ab9 y) g) 24 : Rat) := by
    by_cases c : y.toInt.natAbs ≤ x.toInt.natAbs
    · have E : ag_1 f (ab9 x) (ab9 y) g = anr f (ab9 y) (ab9 x) (hfr f g) := if_pos (ile.mpr c)
      rw [E]
      have c1 : 0 ≤ (ab9 y).toInt := by rw [ay]; exact Int.natCast_nonneg _
      have c2 : (ab9 y).toInt ≤ (ab9 x).toInt := by rw [ay, ax]; exact Int.ofNat_le.mpr c
      have c3 : 0 < (ab9 x).toInt := by rw [ax]; exact ip1 c
      have c4 : (ab9 x).toInt ≤ 1000000 := by rw [ax]; exact ip3
      obtain ⟨s1, s2, -⟩ := an_sum (g := hfr f g) hf c1 c2 c3 c4
      obtain ⟨φ1, q1, q2, q3, q4, q5⟩ := flat (ab9 y) (ab9 x) c1 c2 c3 c4
      obtain ⟨t1, t2⟩ := s2 7 (by decide) (by decide) o7
      rw [ax, ay] at q2
      refine ⟨φ1, φ1, q1, ?_, s1, t1, by rw [t2, p7], q4, q5, q3⟩
      rw [if_pos c]
      exact ⟨rfl, q2⟩
    · have E : ag_1 f (ab9 x) (ab9 y) g = mr_cp 0 6 (mr_les 6 0 (mr_cp 6 4 (anr f (ab9 x) (ab9 y) (hfr f g)))) := if_neg (fun q => c (ile.mp q))
      rw [E]
      have c1 : 0 ≤ (ab9 x).toInt := by rw [ax]; exact Int.natCast_nonneg _
      have c2 : (ab9 x).toInt ≤ (ab9 y).toInt := by rw [ay, ax]; exact Int.ofNat_le.mpr (Nat.le_of_not_le c)
      have c3 : 0 < (ab9 y).toInt := by rw [ay]; exact ip2 c
      have c4 : (ab9 y).toInt ≤ 1000000 := by rw [ay]; exact ip4
      obtain ⟨s1, s2, -⟩ := an_sum (g := hfr f g) hf c1 c2 c3 c4
      obtain ⟨φ1, q1, q2, q3, q4, q5⟩ := flat (ab9 x) (ab9 y) c1 c2 c3 c4
      obtain ⟨t1, t2⟩ := s2 7 (by decide) (by decide) o7
      obtain ⟨u1, u2⟩ := s2 4 (by decide) (by decide) o4
      rw [p4] at u2
      obtain ⟨w1, w2', w3⟩ := turn6 (r := 4) (by decide) s1 u1 (by rw [u2]; exact q5)
      obtain ⟨w4, w5⟩ := w3 7 (by decide) (by decide) t1
      rw [u2] at w2'
      rw [ax, ay] at q2
      refine ⟨φ1, har f - φ1, q1, ?_, w1, w4, by rw [w5, t2, p7], ?_, ?_, ?_⟩
      · rw [if_neg c]
        exact ⟨rfl, q2⟩
      · rw [w2']; exact (pI2 q4 q5).1
      · rw [w2']; exact (pI2 q4 q5).2
      · rw [w2', Rat.intCast_sub, ← hharr, ← q3]
        generalize (((1000000 : Int) ^ f : Int) : Rat) = B at *
        grind
  obtain ⟨φ1, ψ, n1, n2, m0, m7, w7, v0, v1, hψ⟩ := one
  generalize hG : ag_1 f (ab9 x) (ab9 y) g = G at *
  clear flat
  -- behind ag_2
  have two : ∃ φ : Rat, φ = (if 0 ≤ x.toInt then ψ else pir f - ψ) ∧ ok 0 (ag_2 x G) ∧ 0 ≤ vv 0 (ag_2 x G) 24 ∧ vv 0 (ag_2 x G) 24 ≤ pie f ∧ (((1000000 : Int) ^ f : Int) : Rat) * φ = (vv 0 (ag_2 x G) 24 : Rat) := by
    have hz : (0 : Int32).toInt = 0 := rfl
    have ix : 0 ≤ x ↔ 0 ≤ x.toInt := by rw [i32_le, hz]
    by_cases c : 0 ≤ x.toInt
    · have E : ag_2 x G = G := if_pos (ix.mpr c)
      rw [E]
      exact ⟨ψ, by rw [if_pos c], m0, v0, pI3 v0 v1 pb1 hB, hψ⟩
    · have E : ag_2 x G = mr_cp 0 6 (mr_les 6 0 (mr_cp 6 7 G)) := if_neg (fun q => c (ix.mp q))
      rw [E]
      have le : vv 0 G 24 ≤ vv 7 G 24 := by
        rw [w7]
        exact pI3 v0 v1 pb1 hB
      obtain ⟨w1, w2', -⟩ := turn6 (r := 7) (by decide) m0 m7 le
      rw [w7] at w2' le
      refine ⟨pir f - ψ, by rw [if_neg c], w1, ?_, ?_, ?_⟩
      · rw [w2']; exact (pI4 v0 le).1
      · rw [w2']; exact (pI4 v0 le).2
      · rw [w2', Rat.intCast_sub, ← hpirr, ← hψ]
        generalize (((1000000 : Int) ^ f : Int) : Rat) = B at *
        grind
  obtain ⟨φ, hφe, k0, k1, k2, hφ⟩ := two
  have e9 : (1000000000 : Int64).toInt = 1000000000 := rfl
  have EP : ag_P y x f g = mr_tim 0 1000000000 (ag_2 x G) := by rw [← hG]; rfl
  have EV : ag_V y x f g = if ng9 y = 0 then mr_be f 0 (ag_P y x f g) else -(mr_be f 0 (ag_P y x f g)) - 1 := rfl
  have t := tim_ok (r := 0) (m := 1000000000) k0 (by decide) (by decide)
  have tv := t.2.2
  rw [e9] at tv
  generalize hD : vv 0 (ag_2 x G) 24 = D at *
  have tv' := tv (pI5 k2 pb2 rm hB)
  have b := be_ok (f := f) f24 t.1 (by rw [tv']; exact (pI6 k2 pb2 hB).1)
  rw [← EP] at b tv'
  rw [tv'] at b
  have q0 : 0 ≤ D * 1000000000 / 1000000 ^ f := Int.ediv_nonneg (pI7 k1) (Int.le_of_lt hB)
  have q1 : D * 1000000000 / 1000000 ^ f ≤ 4000000000 := Int.ediv_le_of_le_mul hB (pI6 k2 pb2 hB).2
  have d := rd_le (p := D * 1000000000) hB
  rw [Rat.intCast_mul] at d
  have e : ((1000000000 : Int) : Rat) = 1000000000 := by simp
  rw [e, ← hφ] at d
  refine ⟨φ1, ψ, φ, n1, n2, hφe, ?_⟩
  have hz : (0 : Int32).toInt = 0 := rfl
  have iy : ng9 y = 0 ↔ 0 ≤ y.toInt := by
    unfold ng9
    have i := i32_le 0 y
    rw [hz] at i
    by_cases c : 0 ≤ y
    · rw [if_pos c]; exact ⟨fun _ => i.mp c, fun _ => rfl⟩
    · rw [if_neg c]; exact ⟨fun q => absurd q (by decide), fun q => absurd (i.mpr q) c⟩
  obtain ⟨d1, d2⟩ := d
  by_cases c : 0 ≤ y.toInt
  · rw [EV, if_pos (iy.mpr c), if_pos c, b]
    constructor <;> grind
  · rw [EV, if_neg (fun q => c (iy.mp q)), if_neg c, say_ng b q0 q1, Rat.intCast_sub, Rat.intCast_neg]
    have e1 : ((1 : Int) : Rat) = 1 := rfl
    rw [e1]
    constructor <;> grind
