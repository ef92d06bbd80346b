/-! the whole reading of a word -/
noncomputable def nBg (w q0 d0 e0 u0 v0 z0 q1 d1 e1 u1 v1 z1 q2 d2 e2 u2 v2 z2 q3 d3 e3 u3 v3 z3 P h nl Q c0 κ L Z i2 x0 b0 y0 bb0 rR kR0 kQ0 C S Cm Sm A1 B1 D1 A2 B2 D2 A3 B3 D3 mQ mR : Nat) : Bool :=
  nB2 w q0 d0 e0 u0 v0 z0 q1 d1 e1 u1 v1 z1 q2 d2 e2 u2 v2 z2 q3 d3 e3 u3 v3 z3 P h nl Q c0 κ L C S
    (nA0 Z (Nat.sub Z i2) q0 x0 Cm Sm mQ mR b0) (nB0 Z q0 y0 Cm Sm mQ mR bb0) (nD0 Z i2 q0 x0 Cm Sm mQ mR b0) A1 B1 D1 A2 B2 D2 A3 B3 D3
noncomputable def nBh (w q0 d0 e0 u0 v0 z0 q1 d1 e1 u1 v1 z1 q2 d2 e2 u2 v2 z2 q3 d3 e3 u3 v3 z3 P h nl Q c0 κ L Z i2 x0 b0 y0 bb0 rR kR0 kQ0 C S Cm Sm A1 B1 D1 A2 B2 D2 A3 B3 D3 P2 Q2 : Nat) : Bool :=
  nBg w q0 d0 e0 u0 v0 z0 q1 d1 e1 u1 v1 z1 q2 d2 e2 u2 v2 z2 q3 d3 e3 u3 v3 z3 P h nl Q c0 κ L Z i2 x0 b0 y0 bb0 rR kR0 kQ0 C S Cm Sm A1 B1 D1 A2 B2 D2 A3 B3 D3
    (Nat.add (Nat.add (Nat.mul 500000000000000000 (Nat.add (Nat.mul i2 P2) Q2)) (Nat.mul 1000000000 (nQt w C S d1 q1 e1 B1 (Nat.add D1 (Nat.sub q1 A1))))) kQ0)
    (Nat.add (Nat.mul rR (Nat.add (Nat.mul i2 (Nat.add A1 D1)) (nQt w C S q1 d1 e1 (Nat.add A1 (Nat.sub q1 D1)) B1))) kR0)
noncomputable def nBi (w q0 d0 e0 u0 v0 z0 q1 d1 e1 u1 v1 z1 q2 d2 e2 u2 v2 z2 q3 d3 e3 u3 v3 z3 P h nl Q c0 κ L Z i2 x0 b0 y0 bb0 rR kR0 kQ0 i3 x1 b1 y1 bb1 C S Cm Sm A2 B2 D2 A3 B3 D3 P2 Q2 mP mQ mR u v a b c : Nat) : Bool :=
  nBh w q0 d0 e0 u0 v0 z0 q1 d1 e1 u1 v1 z1 q2 d2 e2 u2 v2 z2 q3 d3 e3 u3 v3 z3 P h nl Q c0 κ L Z i2 x0 b0 y0 bb0 rR kR0 kQ0 C S Cm Sm
    (nA1 Z i3 q1 x1 mP u (Nat.mul (Nat.sub Z 2) v) b1 a) (nB1 Z q1 y1 Cm Sm mQ mR bb1 b) (nA1 Z i3 q1 x1 mP (Nat.mul (Nat.sub Z 1) u) (Nat.mul 2 v) b1 c) A2 B2 D2 A3 B3 D3 P2 Q2
noncomputable def nBj (w q0 d0 e0 u0 v0 z0 q1 d1 e1 u1 v1 z1 q2 d2 e2 u2 v2 z2 q3 d3 e3 u3 v3 z3 P h nl Q c0 κ L Z i2 x0 b0 y0 bb0 rR kR0 kQ0 i3 x1 b1 y1 bb1 C S Cm Sm A2 B2 D2 A3 B3 D3 P2 Q2 a b c mP mQ mR : Nat) : Bool :=
  nBi w q0 d0 e0 u0 v0 z0 q1 d1 e1 u1 v1 z1 q2 d2 e2 u2 v2 z2 q3 d3 e3 u3 v3 z3 P h nl Q c0 κ L Z i2 x0 b0 y0 bb0 rR kR0 kQ0 i3 x1 b1 y1 bb1 C S Cm Sm A2 B2 D2 A3 B3 D3 P2 Q2 mP mQ mR (Nat.mul Cm mQ) (Nat.mul Sm mR) a b c
noncomputable def nBk (w q0 d0 e0 u0 v0 z0 q1 d1 e1 u1 v1 z1 q2 d2 e2 u2 v2 z2 q3 d3 e3 u3 v3 z3 P h nl Q c0 κ L Z i2 x0 b0 y0 bb0 rR kR0 kQ0 i3 x1 b1 y1 bb1 kq kp kr kQ kP kR C S Cm Sm A2 B2 D2 A3 B3 D3 P2 Q2 R2 P3 Q3 R3 a b c : Nat) : Bool :=
  nBj w q0 d0 e0 u0 v0 z0 q1 d1 e1 u1 v1 z1 q2 d2 e2 u2 v2 z2 q3 d3 e3 u3 v3 z3 P h nl Q c0 κ L Z i2 x0 b0 y0 bb0 rR kR0 kQ0 i3 x1 b1 y1 bb1 C S Cm Sm A2 B2 D2 A3 B3 D3 P2 Q2 a b c
    (Nat.add (Nat.add (Nat.mul 24000000000000000000 Q3) (Nat.mul 8000000000 R2)) (Nat.add (Nat.mul kp P3) kP))
    (Nat.add (Nat.add (Nat.mul 27000000000000000000 Q3) (Nat.mul 14000000000 R2)) (Nat.add (Nat.mul kq P3) kQ))
    (Nat.add (Nat.add (Nat.mul (Nat.mul 1000000000 i2) P2) (Nat.mul kr Q2)) (Nat.add (Nat.mul 6000000000000000000 R3) kR))
noncomputable def nBl (w q0 d0 e0 u0 v0 z0 q1 d1 e1 u1 v1 z1 q2 d2 e2 u2 v2 z2 q3 d3 e3 u3 v3 z3 P h nl Q c0 κ L Z i2 x0 b0 y0 bb0 rR kR0 kQ0 i3 x1 b1 y1 bb1 kq kp kr kQ kP kR C S A2 B2 D2 A3 B3 D3 a b c : Nat) : Bool :=
  nBk w q0 d0 e0 u0 v0 z0 q1 d1 e1 u1 v1 z1 q2 d2 e2 u2 v2 z2 q3 d3 e3 u3 v3 z3 P h nl Q c0 κ L Z i2 x0 b0 y0 bb0 rR kR0 kQ0 i3 x1 b1 y1 bb1 kq kp kr kQ kP kR C S (Nat.add C (Nat.sub Z w)) (Nat.add S (Nat.sub Z w)) A2 B2 D2 A3 B3 D3
    (Nat.add A2 D2) (nQt w C S q2 d2 e2 (Nat.add A2 (Nat.sub q2 D2)) B2) (nQt w C S d2 q2 e2 B2 (Nat.add D2 (Nat.sub q2 A2)))
    (Nat.add A3 D3) (nQt w C S q3 d3 e3 (Nat.add A3 (Nat.sub q3 D3)) B3) (nQt w C S d3 q3 e3 B3 (Nat.add D3 (Nat.sub q3 A3))) a b c
noncomputable def nBm (w q0 d0 e0 u0 v0 z0 q1 d1 e1 u1 v1 z1 q2 d2 e2 u2 v2 z2 q3 d3 e3 u3 v3 z3 P h nl Q c0 κ L Z i2 x0 b0 y0 bb0 rR kR0 kQ0 i3 x1 b1 y1 bb1 kq kp kr kQ kP kR s2 s1 g C S d : Nat) : Bool :=
  nBl w q0 d0 e0 u0 v0 z0 q1 d1 e1 u1 v1 z1 q2 d2 e2 u2 v2 z2 q3 d3 e3 u3 v3 z3 P h nl Q c0 κ L Z i2 x0 b0 y0 bb0 rR kR0 kQ0 i3 x1 b1 y1 bb1 kq kp kr kQ kP kR C S
    (Nat.mod (Nat.div d s2) q2) (Nat.mod (Nat.div (Nat.div d s2) q2) q2) (Nat.mod (Nat.div (Nat.div d s2) (Nat.mul q2 q2)) q2)
    (Nat.mod d q3) (Nat.mod (Nat.div d q3) q3) (Nat.mod (Nat.div d (Nat.mul q3 q3)) q3)
    (Nat.mod (Nat.div d s1) g) (Nat.mod (Nat.div (Nat.div d s1) g) g) (Nat.mod (Nat.div (Nat.div d s1) (Nat.mul g g)) g)
theorem nBm_ok {w q0 d0 e0 u0 v0 z0 q1 d1 e1 u1 v1 z1 q2 d2 e2 u2 v2 z2 q3 d3 e3 u3 v3 z3 P h nl Q c0 κ L Z i2 x0 b0 y0 bb0 rR kR0 kQ0 i3 x1 b1 y1 bb1 kq kp kr kQ kP kR s2 s1 g : Nat} (x0' : 0 < q0) (x1' : 0 < q1) (x2' : 0 < q2) (x3' : 0 < q3) :
    nF (nBm w q0 d0 e0 u0 v0 z0 q1 d1 e1 u1 v1 z1 q2 d2 e2 u2 v2 z2 q3 d3 e3 u3 v3 z3 P h nl Q c0 κ L Z i2 x0 b0 y0 bb0 rR kR0 kQ0 i3 x1 b1 y1 bb1 kq kp kr kQ kP kR s2 s1 g) w q0 d0 e0 u0 v0 z0 q1 d1 e1 u1 v1 z1 q2 d2 e2 u2 v2 z2 q3 d3 e3 u3 v3 z3 P h nl Q c0 κ L := fun C S d hf => by
  unfold nBm nBl nBk nBj nBi nBh nBg at hf
  exact ⟨_, _, _, _, _, _, _, _, _, _, _, _, ⟨Nat.mod_lt _ x0', Nat.mod_lt _ x0', Nat.mod_lt _ x0'⟩, ⟨Nat.mod_lt _ x1', Nat.mod_lt _ x1', Nat.mod_lt _ x1'⟩, ⟨Nat.mod_lt _ x2', Nat.mod_lt _ x2', Nat.mod_lt _ x2'⟩, ⟨Nat.mod_lt _ x3', Nat.mod_lt _ x3', Nat.mod_lt _ x3'⟩, hf⟩
