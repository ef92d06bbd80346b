/-! a block of logarithms by natural numbers -/
def lQ (A dl be v : Nat) : Nat := Nat.sub (Nat.add (Nat.mul A v) be) (Nat.mul dl v)
theorem lQ_ok {A dl be v H : Nat} (hA : A < 2 * dl) (hv : v ≤ H) (hbe : dl * H ≤ be) : ((lQ A dl be v : Nat) : Int) = ((A : Int) - dl) * v + be ∧ (((A : Int) - dl) * v).natAbs ≤ dl * H := by
  have m1 := Nat.mul_le_mul (show ((A : Int) - dl).natAbs ≤ dl by omega) (show ((v : Int)).natAbs ≤ H by omega)
  rw [← Int.natAbs_mul] at m1
  refine ⟨?_, m1⟩
  show ((A * v + be - dl * v : Nat) : Int) = _
  have e : ((A : Int) - dl) * v = (A : Int) * v - dl * v := Int.sub_mul _ _ _
  rw [e] at m1 ⊢
  have c1 : ((A * v : Nat) : Int) = (A : Int) * v := Int.natCast_mul _ _
  have c2 : ((dl * v : Nat) : Int) = (dl : Int) * v := Int.natCast_mul _ _
  rw [← c1, ← c2] at m1 ⊢
  generalize A * v = Z1 at *
  generalize dl * v = Z2 at *
  omega
theorem lab {A d : Nat} (h : A < 2 * d) : ((A : Int) - d).natAbs ≤ d := by omega
theorem lab2 {A d : Nat} : ((A : Int) - d).natAbs = Nat.add (Nat.sub A d) (Nat.sub d A) := by
  show ((A : Int) - d).natAbs = (A - d) + (d - A)
  omega
noncomputable def lB2 (a0 a1 b0 b1 b2 b3 c0 c1 c2 c3 c4 ea0 ea1 ec0 ec1 ec2 ec3 ec4 u0 v0 z0 u1 v1 z1 u2 z2 u3 z3 z4 P h nl Q k0 κ Ec L vH wH v w A0 A1 B0 B1 B2 B3 C0 C1 C2 C3 C4 : Nat) : Bool :=
  cond (Nat.beq (Nat.mod (Nat.mul C0 (Nat.mul (Nat.add C0 (Nat.add C1 (Nat.add C2 (Nat.add C3 C4)))) (Nat.mul (Nat.add (Nat.add A0 B0) 1) (Nat.add (Nat.add (Nat.add A0 A1) (Nat.add B0 (Nat.add B1 (Nat.add B2 B3)))) 1)))) 2) 1)
    (cond (Nat.ble v vH) (cond (Nat.ble w wH)
      (Nat.ble (Nat.mul (Nat.add (Nat.add (dsN P h nl (Nat.mod (Nat.add (Nat.add (Nat.mul B0 u0) (Nat.add (Nat.mul (lQ A0 a0 ea0 v) v0) (Nat.add (Nat.mul (lQ C0 c0 ec0 w) z0) (Nat.add (Nat.mul B1 u1) (Nat.add (Nat.mul (lQ A1 a1 ea1 v) v1) (Nat.add (Nat.mul (lQ C1 c1 ec1 w) z1) (Nat.add (Nat.mul B2 u2) (Nat.add (Nat.mul (lQ C2 c2 ec2 w) z2) (Nat.add (Nat.mul B3 u3) (Nat.add (Nat.mul (lQ C3 c3 ec3 w) z3) (Nat.mul (lQ C4 c4 ec4 w) z4))))))))))) k0) Q)) (Nat.mul κ (Nat.add (Nat.mul (Nat.add (Nat.sub A0 a0) (Nat.sub a0 A0)) v) (Nat.mul (Nat.add (Nat.sub C0 c0) (Nat.sub c0 C0)) w)))) Ec) v) L) false) false) false
def lgsL (a0 a1 b0 b1 b2 b3 c0 c1 c2 c3 c4 vH wH : Nat) : List Nat := [b0, a0 * vH, c0 * wH, b1, a1 * vH, c1 * wH, b2, 0, c2 * wH, b3, 0, c3 * wH, 0, 0, c4 * wH]
def lg3L (a0 a1 b0 b1 b2 b3 c0 c1 c2 c3 c4 : Nat) : List (Nat × Nat × Nat) := [(a0, b0, c0), (a1, b1, c1), (0, b2, c2), (0, b3, c3), (0, 0, c4)]
def nZL (a0 a1 b0 b1 b2 b3 c0 c1 c2 c3 c4 ea0 ea1 ec0 ec1 ec2 ec3 ec4 u0 v0 z0 u1 v1 z1 u2 y2 z2 u3 y3 z3 u4 y4 z4 P h nl Q k0 vH wH : Nat) (ks : List (List Int)) : Prop :=
  (0 < a0 ∧ 0 < a1 ∧ 0 < b0 ∧ 0 < b1 ∧ 0 < b2 ∧ 0 < b3 ∧ 0 < c0 ∧ 0 < c1 ∧ 0 < c2 ∧ 0 < c3 ∧ 0 < c4)
  ∧ (a0 % 2 = 0 ∧ a1 % 2 = 0 ∧ b0 % 2 = 0 ∧ b1 % 2 = 0 ∧ b2 % 2 = 0 ∧ b3 % 2 = 0 ∧ c0 % 2 = 0 ∧ c1 % 2 = 0 ∧ c2 % 2 = 0 ∧ c3 % 2 = 0 ∧ c4 % 2 = 0)
  ∧ (a0 * vH ≤ ea0 ∧ a1 * vH ≤ ea1 ∧ c0 * wH ≤ ec0 ∧ c1 * wH ≤ ec1 ∧ c2 * wH ≤ ec2 ∧ c3 * wH ≤ ec3 ∧ c4 * wH ≤ ec4)
  ∧ Q = P ^ nl ∧ mdB Q (ks.map (pkI P)) [u0, v0, z0, u1, v1, z1, u2, y2, z2, u3, y3, z3, u4, y4, z4] = true
  ∧ (dtM [(b0 : Int), (ea0 : Int), (ec0 : Int), (b1 : Int), (ea1 : Int), (ec1 : Int), (b2 : Int), 0, (ec2 : Int), (b3 : Int), 0, (ec3 : Int), 0, 0, (ec4 : Int)] [u0, v0, z0, u1, v1, z1, u2, y2, z2, u3, y3, z3, u4, y4, z4] + (k0 : Int) - ofI P h nl) % (Q : Int) = 0
theorem lsum {p a b c d e f g h i j k y2 y3 u4 y4 : Nat} (hp : p = a + (b + (c + (d + (e + (f + (g + (h + (i + (j + k)))))))))) : p = a + (b + (c + (d + (e + (f + (g + (0 * y2 + (h + (i + (0 * y3 + (j + (0 * u4 + (0 * y4 + (k + 0)))))))))))))) := by
  rw [Nat.zero_mul, Nat.zero_mul, Nat.zero_mul, Nat.zero_mul]; omega
theorem lpar5 {C0 C1 C2 C3 C4 c0 c1 c2 c3 c4 : Nat} (h0 : c0 % 2 = 0) (h1 : c1 % 2 = 0) (h2 : c2 % 2 = 0) (h3 : c3 % 2 = 0) (h4 : c4 % 2 = 0) (h : (C0 + (C1 + (C2 + (C3 + C4)))) % 2 = 1) : (((C0 : Int) - c0) + (((C1 : Int) - c1) + (((C2 : Int) - c2) + (((C3 : Int) - c3) + (((C4 : Int) - c4) + 0))))) % 2 = 1 := by omega
theorem lpar6 {A0 A1 B0 B1 B2 B3 a0 a1 b0 b1 b2 b3 : Nat} (h0 : a0 % 2 = 0) (h1 : a1 % 2 = 0) (g0 : b0 % 2 = 0) (g1 : b1 % 2 = 0) (g2 : b2 % 2 = 0) (g3 : b3 % 2 = 0) (h : ((A0 + A1) + (B0 + (B1 + (B2 + B3))) + 1) % 2 = 1) : ((((A0 : Int) - a0) + (((A1 : Int) - a1) + (0 + (0 + (0 + 0))))) + (((B0 : Int) - b0) + (((B1 : Int) - b1) + (((B2 : Int) - b2) + (((B3 : Int) - b3) + (0 + 0)))))) % 2 = 0 := by omega
theorem lpar2 {A0 B0 a0 b0 : Nat} (h0 : a0 % 2 = 0) (g0 : b0 % 2 = 0) (h : ((A0 + B0) + 1) % 2 = 1) : (((A0 : Int) - a0) + ((B0 : Int) - b0)) % 2 = 0 := by omega
theorem lB2_ok {a0 a1 b0 b1 b2 b3 c0 c1 c2 c3 c4 ea0 ea1 ec0 ec1 ec2 ec3 ec4 u0 v0 z0 u1 v1 z1 u2 y2 z2 u3 y3 z3 u4 y4 z4 P h nl Q k0 κ Ec L vH wH v w A0 A1 B0 B1 B2 B3 C0 C1 C2 C3 C4 : Nat} {ks : List (List Int)}
    (hz : nZL a0 a1 b0 b1 b2 b3 c0 c1 c2 c3 c4 ea0 ea1 ec0 ec1 ec2 ec3 ec4 u0 v0 z0 u1 v1 z1 u2 y2 z2 u3 y3 z3 u4 y4 z4 P h nl Q k0 vH wH ks) (hh0 : 0 < h) (hP : P = 2 * h) (hh : dtN (lgsL a0 a1 b0 b1 b2 b3 c0 c1 c2 c3 c4 vH wH) (ks.map mxA) < h) (hn : ∀ k, k ∈ ks → k.length ≤ nl)
    (fA : A0 < 2 * a0 ∧ A1 < 2 * a1) (fB : B0 < 2 * b0 ∧ B1 < 2 * b1 ∧ B2 < 2 * b2 ∧ B3 < 2 * b3) (fC : C0 < 2 * c0 ∧ C1 < 2 * c1 ∧ C2 < 2 * c2 ∧ C3 < 2 * c3 ∧ C4 < 2 * c4)
    (hB : lB2 a0 a1 b0 b1 b2 b3 c0 c1 c2 c3 c4 ea0 ea1 ec0 ec1 ec2 ec3 ec4 u0 v0 z0 u1 v1 z1 u2 z2 u3 z3 z4 P h nl Q k0 κ Ec L vH wH v w A0 A1 B0 B1 B2 B3 C0 C1 C2 C3 C4 = true) :
    ∃ T, ((hdT T).2.2 % 2 = 1 ∧ ((hdT T).1 + (hdT T).2.1) % 2 = 0 ∧ sD T % 2 = 1 ∧ (sA T + sBb T) % 2 = 0) ∧ bh3 T (lg3L a0 a1 b0 b1 b2 b3 c0 c1 c2 c3 c4) = true ∧ bdm (msL v w T) (lgsL a0 a1 b0 b1 b2 b3 c0 c1 c2 c3 c4 vH wH) = true
      ∧ (dsm P h nl (dtI (msL v w T) (ks.map (pkI P)) + ofI P h nl).toNat + κ * ((hdT T).1.natAbs * v + (hdT T).2.2.natAbs * w) + Ec) * v ≤ L ∧ v ≤ vH ∧ w ≤ wH := by
  unfold nZL at hz
  obtain ⟨_, ⟨pa0, pa1, pb0, pb1, pb2, pb3, pc0, pc1, pc2, pc3, pc4⟩, ⟨ha0, ha1, hc0, hc1, hc2, hc3, hc4⟩, hQ, hm, hcc⟩ := hz
  unfold lB2 at hB
  cases hpar : Nat.beq (Nat.mod (Nat.mul C0 (Nat.mul (Nat.add C0 (Nat.add C1 (Nat.add C2 (Nat.add C3 C4)))) (Nat.mul (Nat.add (Nat.add A0 B0) 1) (Nat.add (Nat.add (Nat.add A0 A1) (Nat.add B0 (Nat.add B1 (Nat.add B2 B3)))) 1)))) 2) 1 with
  | false => rw [hpar] at hB; cases hB
  | true =>
    cases hv : Nat.ble v vH with
    | false => rw [hpar, hv] at hB; cases hB
    | true =>
      cases hw : Nat.ble w wH with
      | false => rw [hpar, hv, hw] at hB; cases hB
      | true =>
        rw [hpar, hv, hw] at hB
        have v9 := Nat.le_of_ble_eq_true hv
        have w9 := Nat.le_of_ble_eq_true hw
        have hL := Nat.le_of_ble_eq_true hB
        obtain ⟨ka0, ka0'⟩ := lQ_ok fA.1 v9 ha0
        obtain ⟨ka1, ka1'⟩ := lQ_ok fA.2 v9 ha1
        obtain ⟨kc0, kc0'⟩ := lQ_ok fC.1 w9 hc0
        obtain ⟨kc1, kc1'⟩ := lQ_ok fC.2.1 w9 hc1
        obtain ⟨kc2, kc2'⟩ := lQ_ok fC.2.2.1 w9 hc2
        obtain ⟨kc3, kc3'⟩ := lQ_ok fC.2.2.2.1 w9 hc3
        obtain ⟨kc4, kc4'⟩ := lQ_ok fC.2.2.2.2 w9 hc4
        generalize hx0 : lQ A0 a0 ea0 v = X0 at *
        generalize hx1 : lQ A1 a1 ea1 v = X1 at *
        generalize hy0 : lQ C0 c0 ec0 w = Y0 at *
        generalize hy1 : lQ C1 c1 ec1 w = Y1 at *
        generalize hy2 : lQ C2 c2 ec2 w = Y2 at *
        generalize hy3 : lQ C3 c3 ec3 w = Y3 at *
        generalize hy4 : lQ C4 c4 ec4 w = Y4 at *
        have bl : ∀ {a b : Nat}, a ≤ b → Nat.ble a b = true := fun h => Nat.ble_eq_true_of_le h
        refine ⟨[((A0 : Int) - a0, (B0 : Int) - b0, (C0 : Int) - c0), ((A1 : Int) - a1, (B1 : Int) - b1, (C1 : Int) - c1), (0, (B2 : Int) - b2, (C2 : Int) - c2), (0, (B3 : Int) - b3, (C3 : Int) - c3), (0, 0, (C4 : Int) - c4)], ?_, ?_, ?_, ?_, v9, w9⟩
        · have o1 := odd_mul (Nat.eq_of_beq_eq_true hpar)
          have o2 := odd_mul o1.2
          have o3 := odd_mul o2.2
          exact ⟨ipar pc0 o1.1, lpar2 pa0 pb0 o3.1, lpar5 pc0 pc1 pc2 pc3 pc4 o2.1, lpar6 pa0 pa1 pb0 pb1 pb2 pb3 o3.2⟩
        · simp only [lg3L, bh3, bl (lab fA.1), bl (lab fA.2), bl (lab fB.1), bl (lab fB.2.1), bl (lab fB.2.2.1), bl (lab fB.2.2.2), bl (lab fC.1), bl (lab fC.2.1), bl (lab fC.2.2.1), bl (lab fC.2.2.2.1), bl (lab fC.2.2.2.2), Bool.and_true]
          rfl
        · have z0' : ((0 : Int) * (v : Int)).natAbs ≤ 0 := by rw [Int.zero_mul]; exact Nat.le_refl _
          have zz : ((0 : Int)).natAbs ≤ 0 := Nat.le_refl _
          simp only [lgsL, msL, bdm, bl (lab fB.1), bl (lab fB.2.1), bl (lab fB.2.2.1), bl (lab fB.2.2.2), bl ka0', bl ka1', bl kc0', bl kc1', bl kc2', bl kc3', bl kc4', bl z0', bl zz, Bool.and_true]
        · have hms : msL v w [((A0 : Int) - a0, (B0 : Int) - b0, (C0 : Int) - c0), ((A1 : Int) - a1, (B1 : Int) - b1, (C1 : Int) - c1), (0, (B2 : Int) - b2, (C2 : Int) - c2), (0, (B3 : Int) - b3, (C3 : Int) - c3), (0, 0, (C4 : Int) - c4)] = [(B0 : Int) - b0, ((A0 : Int) - a0) * v, ((C0 : Int) - c0) * w, (B1 : Int) - b1, ((A1 : Int) - a1) * v, ((C1 : Int) - c1) * w, (B2 : Int) - b2, 0 * v, ((C2 : Int) - c2) * w, (B3 : Int) - b3, 0 * v, ((C3 : Int) - c3) * w, 0, 0 * v, ((C4 : Int) - c4) * w] := rfl
          have hbd : bdm [(B0 : Int) - b0, ((A0 : Int) - a0) * v, ((C0 : Int) - c0) * w, (B1 : Int) - b1, ((A1 : Int) - a1) * v, ((C1 : Int) - c1) * w, (B2 : Int) - b2, 0 * v, ((C2 : Int) - c2) * w, (B3 : Int) - b3, 0 * v, ((C3 : Int) - c3) * w, 0, 0 * v, ((C4 : Int) - c4) * w] (lgsL a0 a1 b0 b1 b2 b3 c0 c1 c2 c3 c4 vH wH) = true := by
            have z0' : ((0 : Int) * (v : Int)).natAbs ≤ 0 := by rw [Int.zero_mul]; exact Nat.le_refl _
            have zz : ((0 : Int)).natAbs ≤ 0 := Nat.le_refl _
            simp only [lgsL, bdm, bl (lab fB.1), bl (lab fB.2.1), bl (lab fB.2.2.1), bl (lab fB.2.2.2), bl ka0', bl ka1', bl kc0', bl kc1', bl kc2', bl kc3', bl kc4', bl z0', bl zz, Bool.and_true]
          have zv : (((0 : Nat)) : Int) = 0 * (v : Int) + 0 := by rw [Int.zero_mul]; rfl
          have ho : ofL [(B0 : Int) - b0, ((A0 : Int) - a0) * v, ((C0 : Int) - c0) * w, (B1 : Int) - b1, ((A1 : Int) - a1) * v, ((C1 : Int) - c1) * w, (B2 : Int) - b2, 0 * v, ((C2 : Int) - c2) * w, (B3 : Int) - b3, 0 * v, ((C3 : Int) - c3) * w, 0, 0 * v, ((C4 : Int) - c4) * w]
              [B0, X0, Y0, B1, X1, Y1, B2, 0, Y2, B3, 0, Y3, 0, 0, Y4]
              [(b0 : Int), (ea0 : Int), (ec0 : Int), (b1 : Int), (ea1 : Int), (ec1 : Int), (b2 : Int), 0, (ec2 : Int), (b3 : Int), 0, (ec3 : Int), 0, 0, (ec4 : Int)] :=
            ⟨by omega, ka0, kc0, by omega, ka1, kc1, by omega, zv, kc2, by omega, zv, kc3, rfl, zv, kc4, trivial⟩
          have pn := pk_nat (c0 := k0) hh0 hP hQ hbd hh hn ho hm hcc
          have es : Nat.add (Nat.mul B0 u0) (Nat.add (Nat.mul X0 v0) (Nat.add (Nat.mul Y0 z0) (Nat.add (Nat.mul B1 u1) (Nat.add (Nat.mul X1 v1) (Nat.add (Nat.mul Y1 z1) (Nat.add (Nat.mul B2 u2) (Nat.add (Nat.mul Y2 z2) (Nat.add (Nat.mul B3 u3) (Nat.add (Nat.mul Y3 z3) (Nat.mul Y4 z4)))))))))) = dtN [B0, X0, Y0, B1, X1, Y1, B2, 0, Y2, B3, 0, Y3, 0, 0, Y4] [u0, v0, z0, u1, v1, z1, u2, y2, z2, u3, y3, z3, u4, y4, z4] := lsum rfl
          rw [es, pn, dsN_eq] at hL
          rw [hms]
          have eA : (hdT [((A0 : Int) - a0, (B0 : Int) - b0, (C0 : Int) - c0), ((A1 : Int) - a1, (B1 : Int) - b1, (C1 : Int) - c1), (0, (B2 : Int) - b2, (C2 : Int) - c2), (0, (B3 : Int) - b3, (C3 : Int) - c3), (0, 0, (C4 : Int) - c4)]).1.natAbs = Nat.add (Nat.sub A0 a0) (Nat.sub a0 A0) := lab2
          have eC : (hdT [((A0 : Int) - a0, (B0 : Int) - b0, (C0 : Int) - c0), ((A1 : Int) - a1, (B1 : Int) - b1, (C1 : Int) - c1), (0, (B2 : Int) - b2, (C2 : Int) - c2), (0, (B3 : Int) - b3, (C3 : Int) - c3), (0, 0, (C4 : Int) - c4)]).2.2.natAbs = Nat.add (Nat.sub C0 c0) (Nat.sub c0 C0) := lab2
          rw [eA, eC]
          exact hL
