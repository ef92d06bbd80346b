/-! one block by natural numbers -/
def nlv (w C S q dl be v z D B E : Nat) : Nat :=
  Nat.add (Nat.mul (Nat.sub (Nat.add (Nat.add (Nat.mul D C) (Nat.mul B S)) be) (Nat.add (Nat.add (Nat.mul q C) (Nat.mul dl S)) (Nat.mul w (Nat.add D B)))) v)
    (Nat.mul (Nat.sub (Nat.add (Nat.add (Nat.mul B C) (Nat.mul E S)) be) (Nat.add (Nat.add (Nat.mul dl C) (Nat.mul q S)) (Nat.mul w (Nat.add B E)))) z)
def nl1 (w C S q dl be u v z A B D : Nat) : Nat := Nat.add (Nat.mul (Nat.add A D) u) (nlv w C S q dl be v z (Nat.add A (Nat.sub q D)) B (Nat.add D (Nat.sub q A)))
theorem lv_ok {w C S q dl be u v z A B D : Nat} (hC : C ≤ 2 * w) (hS : S ≤ 2 * w) (hq : q = 2 * dl) (hA : A < q) (hB : B < q) (hD : D < q) (hbe : 2 * ((q + dl) * w) ≤ be) :
    ∃ tP tQ tR : Nat, nl1 w C S q dl be u v z A B D = tP * u + (tQ * v + tR * z)
      ∧ (tP : Int) = (((A : Int) - dl) + ((D : Int) - dl)) + q
      ∧ (tQ : Int) = ((((A : Int) - dl) - ((D : Int) - dl)) * ((C : Int) - w) + ((B : Int) - dl) * ((S : Int) - w)) + ((be : Int) - (q + dl) * w)
      ∧ (tR : Int) = (((B : Int) - dl) * ((C : Int) - w) - (((A : Int) - dl) - ((D : Int) - dl)) * ((S : Int) - w)) + ((be : Int) - (q + dl) * w)
      ∧ (((A : Int) - dl) + ((D : Int) - dl)).natAbs ≤ q ∧ (((A : Int) - dl) - ((D : Int) - dl)).natAbs ≤ q ∧ ((B : Int) - dl).natAbs ≤ q
      ∧ ((((A : Int) - dl) - ((D : Int) - dl)) * ((C : Int) - w) + ((B : Int) - dl) * ((S : Int) - w)).natAbs ≤ (q + dl) * w
      ∧ (((B : Int) - dl) * ((C : Int) - w) - (((A : Int) - dl) - ((D : Int) - dl)) * ((S : Int) - w)).natAbs ≤ (q + dl) * w := by
  obtain ⟨k1, k2⟩ := nQ_ok (w := w) (C := C) (S := S) (q := q) (dl := dl) (be := be) (D := A + (q - D)) (B := B) hC hS (by omega) (by omega) hbe
  obtain ⟨k3, k4⟩ := nQ_ok (w := w) (C := C) (S := S) (q := dl) (dl := q) (be := be) (D := B) (B := D + (q - A)) hC hS (by omega) (by omega) (by rw [Nat.add_comm dl q]; exact hbe)
  have e1 : ((A + (q - D) : Nat) : Int) - q = ((A : Int) - dl) - ((D : Int) - dl) := by omega
  have e2 : ((D + (q - A) : Nat) : Int) - q = -(((A : Int) - dl) - ((D : Int) - dl)) := by omega
  rw [e1] at k1 k2
  rw [e2] at k3 k4
  have e3 : ((B : Int) - dl) * ((C : Int) - w) + -(((A : Int) - dl) - ((D : Int) - dl)) * ((S : Int) - w) = ((B : Int) - dl) * ((C : Int) - w) - (((A : Int) - dl) - ((D : Int) - dl)) * ((S : Int) - w) := by
    rw [Int.neg_mul]; omega
  rw [e3] at k3 k4
  rw [Nat.add_comm dl q] at k4
  rw [Int.add_comm (dl : Int) (q : Int)] at k3
  exact ⟨A + D, _, _, rfl, by omega, k1, k3, by omega, by omega, by omega, k2, k4⟩
theorem ipar {A d : Nat} (hd : d % 2 = 0) (h : A % 2 = 1) : ((A : Int) - d) % 2 = 1 := by omega
theorem ipar4 {A0 A1 A2 A3 d0 d1 d2 d3 : Nat} (h0 : d0 % 2 = 0) (h1 : d1 % 2 = 0) (h2 : d2 % 2 = 0) (h3 : d3 % 2 = 0) (h : (A0 + (A1 + (A2 + A3))) % 2 = 1) : (((A0 : Int) - d0) + (((A1 : Int) - d1) + (((A2 : Int) - d2) + (((A3 : Int) - d3) + 0)))) % 2 = 1 := by omega
theorem iab2 {A D B d : Nat} : (((A : Int) - d) - ((D : Int) - d)).natAbs + ((B : Int) - d).natAbs = (A - D + (D - A)) + (B - d + (d - B)) := by omega
theorem isum {a b c d e f g h i j k l : Nat} : (a + (b + c)) + ((d + (e + f)) + ((g + (h + i)) + (j + (k + l)))) = a + (b + (c + (d + (e + (f + (g + (h + (i + (j + (k + (l + 0))))))))))) := by omega
noncomputable def nB2 (w q0 d0 e0 u0 v0 z0 q1 d1 e1 u1 v1 z1 q2 d2 e2 u2 v2 z2 q3 d3 e3 u3 v3 z3 P h nl Q c0 κ L C S A0 B0 D0 A1 B1 D1 A2 B2 D2 A3 B3 D3 : Nat) : Bool :=
  cond (Nat.beq (Nat.mod (Nat.mul A0 (Nat.mul B0 (Nat.mul D0 (Nat.mul (Nat.add A0 (Nat.add A1 (Nat.add A2 A3))) (Nat.mul (Nat.add B0 (Nat.add B1 (Nat.add B2 B3))) (Nat.add D0 (Nat.add D1 (Nat.add D2 D3)))))))) 2) 1)
    (Nat.ble (Nat.add (dsN P h nl (Nat.mod (Nat.add (Nat.add (nl1 w C S q0 d0 e0 u0 v0 z0 A0 B0 D0) (Nat.add (nl1 w C S q1 d1 e1 u1 v1 z1 A1 B1 D1) (Nat.add (nl1 w C S q2 d2 e2 u2 v2 z2 A2 B2 D2) (nl1 w C S q3 d3 e3 u3 v3 z3 A3 B3 D3)))) c0) Q)) (Nat.mul κ (Nat.add (Nat.add (Nat.sub A0 D0) (Nat.sub D0 A0)) (Nat.add (Nat.sub B0 d0) (Nat.sub d0 B0))))) L) false
noncomputable def nB (w q0 d0 e0 u0 v0 z0 q1 d1 e1 u1 v1 z1 q2 d2 e2 u2 v2 z2 q3 d3 e3 u3 v3 z3 P h nl Q c0 κ L s1 s2 s3 C S d : Nat) : Bool :=
  nB2 w q0 d0 e0 u0 v0 z0 q1 d1 e1 u1 v1 z1 q2 d2 e2 u2 v2 z2 q3 d3 e3 u3 v3 z3 P h nl Q c0 κ L C S
    (Nat.mod d q0) (Nat.mod (Nat.div d q0) q0) (Nat.mod (Nat.div d (Nat.mul q0 q0)) q0)
    (Nat.mod (Nat.div d s1) q1) (Nat.mod (Nat.div (Nat.div d s1) q1) q1) (Nat.mod (Nat.div (Nat.div d s1) (Nat.mul q1 q1)) q1)
    (Nat.mod (Nat.div d s2) q2) (Nat.mod (Nat.div (Nat.div d s2) q2) q2) (Nat.mod (Nat.div (Nat.div d s2) (Nat.mul q2 q2)) q2)
    (Nat.mod (Nat.div d s3) q3) (Nat.mod (Nat.div (Nat.div d s3) q3) q3) (Nat.mod (Nat.div (Nat.div d s3) (Nat.mul q3 q3)) q3)
/-- what the constants of a zone must say -/
def nZ (w q0 d0 e0 u0 v0 z0 q1 d1 e1 u1 v1 z1 q2 d2 e2 u2 v2 z2 q3 d3 e3 u3 v3 z3 P h nl Q c0 : Nat) (ks : List (List Int)) : Prop :=
  (q0 = 2 * d0 ∧ q1 = 2 * d1 ∧ q2 = 2 * d2 ∧ q3 = 2 * d3) ∧ (0 < q0 ∧ 0 < q1 ∧ 0 < q2 ∧ 0 < q3) ∧ (d0 % 2 = 0 ∧ d1 % 2 = 0 ∧ d2 % 2 = 0 ∧ d3 % 2 = 0)
  ∧ (2 * ((q0 + d0) * w) ≤ e0 ∧ 2 * ((q1 + d1) * w) ≤ e1 ∧ 2 * ((q2 + d2) * w) ≤ e2 ∧ 2 * ((q3 + d3) * w) ≤ e3)
  ∧ Q = P ^ nl ∧ mdB Q (ks.map (pkI P)) [u0, v0, z0, u1, v1, z1, u2, v2, z2, u3, v3, z3] = true
  ∧ (dtM [(q0 : Int), (e0 : Int) - (q0 + d0) * w, (e0 : Int) - (q0 + d0) * w, (q1 : Int), (e1 : Int) - (q1 + d1) * w, (e1 : Int) - (q1 + d1) * w, (q2 : Int), (e2 : Int) - (q2 + d2) * w, (e2 : Int) - (q2 + d2) * w, (q3 : Int), (e3 : Int) - (q3 + d3) * w, (e3 : Int) - (q3 + d3) * w] [u0, v0, z0, u1, v1, z1, u2, v2, z2, u3, v3, z3] + (c0 : Int) - ofI P h nl) % (Q : Int) = 0
theorem nB2_ok {w q0 d0 e0 u0 v0 z0 q1 d1 e1 u1 v1 z1 q2 d2 e2 u2 v2 z2 q3 d3 e3 u3 v3 z3 P h nl Q c0 κ L C S A0 B0 D0 A1 B1 D1 A2 B2 D2 A3 B3 D3 : Nat} {ks : List (List Int)}
    (hz : nZ w q0 d0 e0 u0 v0 z0 q1 d1 e1 u1 v1 z1 q2 d2 e2 u2 v2 z2 q3 d3 e3 u3 v3 z3 P h nl Q c0 ks) (hh0 : 0 < h) (hP : P = 2 * h)
    (hh : dtN [q0, (q0 + d0) * w, (q0 + d0) * w, q1, (q1 + d1) * w, (q1 + d1) * w, q2, (q2 + d2) * w, (q2 + d2) * w, q3, (q3 + d3) * w, (q3 + d3) * w] (ks.map mxA) < h) (hn : ∀ k, k ∈ ks → k.length ≤ nl)
    (hC : C ≤ 2 * w) (hS : S ≤ 2 * w) (f0 : A0 < q0 ∧ B0 < q0 ∧ D0 < q0) (f1 : A1 < q1 ∧ B1 < q1 ∧ D1 < q1) (f2 : A2 < q2 ∧ B2 < q2 ∧ D2 < q2) (f3 : A3 < q3 ∧ B3 < q3 ∧ D3 < q3)
    (hB : nB2 w q0 d0 e0 u0 v0 z0 q1 d1 e1 u1 v1 z1 q2 d2 e2 u2 v2 z2 q3 d3 e3 u3 v3 z3 P h nl Q c0 κ L C S A0 B0 D0 A1 B1 D1 A2 B2 D2 A3 B3 D3 = true) :
    ∃ T, anB P h nl κ L (ofI P h nl) (ks.map (pkI P)) [q0, (q0 + d0) * w, (q0 + d0) * w, q1, (q1 + d1) * w, (q1 + d1) * w, q2, (q2 + d2) * w, (q2 + d2) * w, q3, (q3 + d3) * w, (q3 + d3) * w] [q0, q1, q2, q3] ((C : Int) - w) ((S : Int) - w) T = true := by
  unfold nZ at hz
  obtain ⟨⟨y0, y1, y2, y3⟩, _, ⟨p0, p1, p2, p3⟩, ⟨b0, b1, b2, b3⟩, hQ, hm, hc⟩ := hz
  obtain ⟨P0, Q0, R0, E0, a01, a02, a03, a04, a05, a06, a07, a08⟩ := lv_ok (u := u0) (v := v0) (z := z0) hC hS y0 f0.1 f0.2.1 f0.2.2 b0
  obtain ⟨P1, Q1, R1, E1, a11, a12, a13, a14, a15, a16, a17, a18⟩ := lv_ok (u := u1) (v := v1) (z := z1) hC hS y1 f1.1 f1.2.1 f1.2.2 b1
  obtain ⟨P2, Q2, R2, E2, a21, a22, a23, a24, a25, a26, a27, a28⟩ := lv_ok (u := u2) (v := v2) (z := z2) hC hS y2 f2.1 f2.2.1 f2.2.2 b2
  obtain ⟨P3, Q3, R3, E3, a31, a32, a33, a34, a35, a36, a37, a38⟩ := lv_ok (u := u3) (v := v3) (z := z3) hC hS y3 f3.1 f3.2.1 f3.2.2 b3
  unfold nB2 at hB
  rw [E0, E1, E2, E3] at hB
  refine ⟨[((A0 : Int) - d0, (B0 : Int) - d0, (D0 : Int) - d0), ((A1 : Int) - d1, (B1 : Int) - d1, (D1 : Int) - d1), ((A2 : Int) - d2, (B2 : Int) - d2, (D2 : Int) - d2), ((A3 : Int) - d3, (B3 : Int) - d3, (D3 : Int) - d3)], ?_⟩
  have hms : msA ((C : Int) - w) ((S : Int) - w) [((A0 : Int) - d0, (B0 : Int) - d0, (D0 : Int) - d0), ((A1 : Int) - d1, (B1 : Int) - d1, (D1 : Int) - d1), ((A2 : Int) - d2, (B2 : Int) - d2, (D2 : Int) - d2), ((A3 : Int) - d3, (B3 : Int) - d3, (D3 : Int) - d3)]
      = [((A0 : Int) - d0) + ((D0 : Int) - d0), (((A0 : Int) - d0) - ((D0 : Int) - d0)) * ((C : Int) - w) + ((B0 : Int) - d0) * ((S : Int) - w), ((B0 : Int) - d0) * ((C : Int) - w) - (((A0 : Int) - d0) - ((D0 : Int) - d0)) * ((S : Int) - w),
        ((A1 : Int) - d1) + ((D1 : Int) - d1), (((A1 : Int) - d1) - ((D1 : Int) - d1)) * ((C : Int) - w) + ((B1 : Int) - d1) * ((S : Int) - w), ((B1 : Int) - d1) * ((C : Int) - w) - (((A1 : Int) - d1) - ((D1 : Int) - d1)) * ((S : Int) - w),
        ((A2 : Int) - d2) + ((D2 : Int) - d2), (((A2 : Int) - d2) - ((D2 : Int) - d2)) * ((C : Int) - w) + ((B2 : Int) - d2) * ((S : Int) - w), ((B2 : Int) - d2) * ((C : Int) - w) - (((A2 : Int) - d2) - ((D2 : Int) - d2)) * ((S : Int) - w),
        ((A3 : Int) - d3) + ((D3 : Int) - d3), (((A3 : Int) - d3) - ((D3 : Int) - d3)) * ((C : Int) - w) + ((B3 : Int) - d3) * ((S : Int) - w), ((B3 : Int) - d3) * ((C : Int) - w) - (((A3 : Int) - d3) - ((D3 : Int) - d3)) * ((S : Int) - w)] := rfl
  have bl : ∀ {a b : Nat}, a ≤ b → Nat.ble a b = true := fun h => Nat.ble_eq_true_of_le h
  have hbd : bdm [((A0 : Int) - d0) + ((D0 : Int) - d0), (((A0 : Int) - d0) - ((D0 : Int) - d0)) * ((C : Int) - w) + ((B0 : Int) - d0) * ((S : Int) - w), ((B0 : Int) - d0) * ((C : Int) - w) - (((A0 : Int) - d0) - ((D0 : Int) - d0)) * ((S : Int) - w),
        ((A1 : Int) - d1) + ((D1 : Int) - d1), (((A1 : Int) - d1) - ((D1 : Int) - d1)) * ((C : Int) - w) + ((B1 : Int) - d1) * ((S : Int) - w), ((B1 : Int) - d1) * ((C : Int) - w) - (((A1 : Int) - d1) - ((D1 : Int) - d1)) * ((S : Int) - w),
        ((A2 : Int) - d2) + ((D2 : Int) - d2), (((A2 : Int) - d2) - ((D2 : Int) - d2)) * ((C : Int) - w) + ((B2 : Int) - d2) * ((S : Int) - w), ((B2 : Int) - d2) * ((C : Int) - w) - (((A2 : Int) - d2) - ((D2 : Int) - d2)) * ((S : Int) - w),
        ((A3 : Int) - d3) + ((D3 : Int) - d3), (((A3 : Int) - d3) - ((D3 : Int) - d3)) * ((C : Int) - w) + ((B3 : Int) - d3) * ((S : Int) - w), ((B3 : Int) - d3) * ((C : Int) - w) - (((A3 : Int) - d3) - ((D3 : Int) - d3)) * ((S : Int) - w)]
      [q0, (q0 + d0) * w, (q0 + d0) * w, q1, (q1 + d1) * w, (q1 + d1) * w, q2, (q2 + d2) * w, (q2 + d2) * w, q3, (q3 + d3) * w, (q3 + d3) * w] = true := by
    simp only [bdm, bl a04, bl a07, bl a08, bl a14, bl a17, bl a18, bl a24, bl a27, bl a28, bl a34, bl a37, bl a38, Bool.and_true]
  have ho : ofL [((A0 : Int) - d0) + ((D0 : Int) - d0), (((A0 : Int) - d0) - ((D0 : Int) - d0)) * ((C : Int) - w) + ((B0 : Int) - d0) * ((S : Int) - w), ((B0 : Int) - d0) * ((C : Int) - w) - (((A0 : Int) - d0) - ((D0 : Int) - d0)) * ((S : Int) - w),
        ((A1 : Int) - d1) + ((D1 : Int) - d1), (((A1 : Int) - d1) - ((D1 : Int) - d1)) * ((C : Int) - w) + ((B1 : Int) - d1) * ((S : Int) - w), ((B1 : Int) - d1) * ((C : Int) - w) - (((A1 : Int) - d1) - ((D1 : Int) - d1)) * ((S : Int) - w),
        ((A2 : Int) - d2) + ((D2 : Int) - d2), (((A2 : Int) - d2) - ((D2 : Int) - d2)) * ((C : Int) - w) + ((B2 : Int) - d2) * ((S : Int) - w), ((B2 : Int) - d2) * ((C : Int) - w) - (((A2 : Int) - d2) - ((D2 : Int) - d2)) * ((S : Int) - w),
        ((A3 : Int) - d3) + ((D3 : Int) - d3), (((A3 : Int) - d3) - ((D3 : Int) - d3)) * ((C : Int) - w) + ((B3 : Int) - d3) * ((S : Int) - w), ((B3 : Int) - d3) * ((C : Int) - w) - (((A3 : Int) - d3) - ((D3 : Int) - d3)) * ((S : Int) - w)]
      [P0, Q0, R0, P1, Q1, R1, P2, Q2, R2, P3, Q3, R3]
      [(q0 : Int), (e0 : Int) - (q0 + d0) * w, (e0 : Int) - (q0 + d0) * w, (q1 : Int), (e1 : Int) - (q1 + d1) * w, (e1 : Int) - (q1 + d1) * w, (q2 : Int), (e2 : Int) - (q2 + d2) * w, (e2 : Int) - (q2 + d2) * w, (q3 : Int), (e3 : Int) - (q3 + d3) * w, (e3 : Int) - (q3 + d3) * w] :=
    ⟨a01, a02, a03, a11, a12, a13, a21, a22, a23, a31, a32, a33, trivial⟩
  have pn := pk_nat (c0 := c0) hh0 hP hQ hbd hh hn ho hm hc
  have es : Nat.add (P0 * u0 + (Q0 * v0 + R0 * z0)) (Nat.add (P1 * u1 + (Q1 * v1 + R1 * z1)) (Nat.add (P2 * u2 + (Q2 * v2 + R2 * z2)) (P3 * u3 + (Q3 * v3 + R3 * z3)))) = dtN [P0, Q0, R0, P1, Q1, R1, P2, Q2, R2, P3, Q3, R3] [u0, v0, z0, u1, v1, z1, u2, v2, z2, u3, v3, z3] := by
    show (P0 * u0 + (Q0 * v0 + R0 * z0)) + ((P1 * u1 + (Q1 * v1 + R1 * z1)) + ((P2 * u2 + (Q2 * v2 + R2 * z2)) + (P3 * u3 + (Q3 * v3 + R3 * z3)))) = P0 * u0 + (Q0 * v0 + (R0 * z0 + (P1 * u1 + (Q1 * v1 + (R1 * z1 + (P2 * u2 + (Q2 * v2 + (R2 * z2 + (P3 * u3 + (Q3 * v3 + (R3 * z3 + 0)))))))))))
    exact isum
  rw [es, pn, dsN_eq] at hB
  generalize hX : (dtI _ _ + ofI P h nl).toNat = X at hB
  cases hpar : Nat.beq (Nat.mod (Nat.mul A0 (Nat.mul B0 (Nat.mul D0 (Nat.mul (Nat.add A0 (Nat.add A1 (Nat.add A2 A3))) (Nat.mul (Nat.add B0 (Nat.add B1 (Nat.add B2 B3))) (Nat.add D0 (Nat.add D1 (Nat.add D2 D3)))))))) 2) 1 with
  | false =>
    rw [hpar] at hB
    cases hB
  | true =>
    rw [hpar] at hB
    have hB' : Nat.ble (Nat.add (dsm P h nl X) (Nat.mul κ (Nat.add (Nat.add (Nat.sub A0 D0) (Nat.sub D0 A0)) (Nat.add (Nat.sub B0 d0) (Nat.sub d0 B0))))) L = true := hB
    have o1 := odd_mul (Nat.eq_of_beq_eq_true hpar)
    have o2 := odd_mul o1.2
    have o3 := odd_mul o2.2
    have o4 := odd_mul o3.2
    have o5 := odd_mul o4.2
    have s4 : (A0 + (A1 + (A2 + A3))) % 2 = 1 := o4.1
    have s5 : (B0 + (B1 + (B2 + B3))) % 2 = 1 := o5.1
    have s6 : (D0 + (D1 + (D2 + D3))) % 2 = 1 := o5.2
    unfold anB
    rw [hms, hX, hbd]
    rw [Bool.and_eq_true, Bool.and_eq_true, Bool.and_eq_true]
    refine ⟨?_, ?_, rfl, ?_⟩
    · have o1' := o1.1
      have o2' := o2.1
      have o3' := o3.1
      unfold oddT
      simp only [hdT, sA, sBb, sD, Bool.and_eq_true]
      exact ⟨⟨decide_eq_true (ipar p0 o1'), decide_eq_true (ipar p0 o2'), decide_eq_true (ipar p0 o3')⟩, decide_eq_true (ipar4 p0 p1 p2 p3 s4), decide_eq_true (ipar4 p0 p1 p2 p3 s5), decide_eq_true (ipar4 p0 p1 p2 p3 s6)⟩
    · simp only [bd3, bl a04, bl a05, bl a06, bl a14, bl a15, bl a16, bl a24, bl a25, bl a26, bl a34, bl a35, bl a36, Bool.and_true]
    · have en : Nat.add (((A0 : Int) - d0) - ((D0 : Int) - d0)).natAbs ((B0 : Int) - d0).natAbs = Nat.add (Nat.add (Nat.sub A0 D0) (Nat.sub D0 A0)) (Nat.add (Nat.sub B0 d0) (Nat.sub d0 B0)) := by
        show (((A0 : Int) - d0) - ((D0 : Int) - d0)).natAbs + ((B0 : Int) - d0).natAbs = (A0 - D0 + (D0 - A0)) + (B0 - d0 + (d0 - B0))
        exact iab2
      show Nat.ble (Nat.add (dsm P h nl X) (Nat.mul κ (Nat.add (((A0 : Int) - d0) - ((D0 : Int) - d0)).natAbs ((B0 : Int) - d0).natAbs))) L = true
      rw [en]
      exact hB'
