/-! ranges of whole numbers -/
theorem nB_ok {w q0 d0 e0 u0 v0 z0 q1 d1 e1 u1 v1 z1 q2 d2 e2 u2 v2 z2 q3 d3 e3 u3 v3 z3 P h nl Q c0 κ L s1 s2 s3 : Nat} (x0' : 0 < q0) (x1' : 0 < q1) (x2' : 0 < q2) (x3' : 0 < q3) :
    nF (nB w q0 d0 e0 u0 v0 z0 q1 d1 e1 u1 v1 z1 q2 d2 e2 u2 v2 z2 q3 d3 e3 u3 v3 z3 P h nl Q c0 κ L s1 s2 s3) w q0 d0 e0 u0 v0 z0 q1 d1 e1 u1 v1 z1 q2 d2 e2 u2 v2 z2 q3 d3 e3 u3 v3 z3 P h nl Q c0 κ L := fun C S d hf => by
  unfold nB at hf
  exact ⟨_, _, _, _, _, _, _, _, _, _, _, _, ⟨Nat.mod_lt _ x0', Nat.mod_lt _ x0', Nat.mod_lt _ x0'⟩, ⟨Nat.mod_lt _ x1', Nat.mod_lt _ x1', Nat.mod_lt _ x1'⟩, ⟨Nat.mod_lt _ x2', Nat.mod_lt _ x2', Nat.mod_lt _ x2'⟩, ⟨Nat.mod_lt _ x3', Nat.mod_lt _ x3', Nat.mod_lt _ x3'⟩, hf⟩
/-- 2^-133 -/
def etA : Rat := 1 / ((2 ^ 133 : Nat) : Rat)
def anR (lo hi : Nat) : Prop := ∀ (N : Nat) (x y : Int), lo ≤ N → N < hi → x * x + y * y ≤ 2000000000000 → ¬ (x % 2 = 0 ∧ y % 2 = 0) → ¬ nb ((x : Rat) * ss ((N : Rat) / 1000000000) - (y : Rat) * cc ((N : Rat) / 1000000000)) etA
theorem anR_cat {lo mi hi : Nat} (h1 : anR lo mi) (h2 : anR mi hi) : anR lo hi := fun N x y a b => by
  by_cases q : N < mi
  · exact h1 N x y a q
  · exact h2 N x y (by omega) b
/-- cosine and sine by few terms -/
theorem cut_cs {θ A e t : Rat} {n : Nat} {X Y : Rat} (h0 : 0 ≤ θ) (hn : n ≤ 800) (h2 : 2 * θ ≤ ((n + 1 : Nat) : Rat)) (hA : 0 ≤ A) (hX : nb (X - A * cR θ n) e) (hY : nb (Y - A * cI θ n) e) (ht : A * eT θ n ≤ t) : nb (X - A * cc θ) (e + t) ∧ nb (Y - A * ss θ) (e + t) := by
  obtain ⟨k1, k2⟩ := cs_cut h0 hn h2
  generalize cc θ = c at *
  generalize ss θ = s at *
  generalize cR θ n = c' at *
  generalize cI θ n = s' at *
  generalize eT θ n = τ at *
  have m1 := nb_mul (show nb A A from ⟨by grind, by grind⟩) k1
  have m2 := nb_mul (show nb A A from ⟨by grind, by grind⟩) k2
  obtain ⟨a1, a2⟩ := m1
  obtain ⟨b1, b2⟩ := m2
  obtain ⟨c1, c2⟩ := hX
  obtain ⟨d1, d2⟩ := hY
  refine ⟨⟨?_, ?_⟩, ⟨?_, ?_⟩⟩ <;> grind
theorem an_rng {w q0 d0 e0 u0 v0 z0 q1 d1 e1 u1 v1 z1 q2 d2 e2 u2 v2 z2 q3 d3 e3 u3 v3 z3 P h nl Q c0 κ L e M K wv W a G H k1 k2 k3 k4 : Nat} {ks : List (List Int)} {E : Rat}
    (hz : nZ w q0 d0 e0 u0 v0 z0 q1 d1 e1 u1 v1 z1 q2 d2 e2 u2 v2 z2 q3 d3 e3 u3 v3 z3 P h nl Q c0 ks)
    (az : anZ P h nl e κ L M K wv W ks [q0, (q0 + d0) * w, (q0 + d0) * w, q1, (q1 + d1) * w, (q1 + d1) * w, q2, (q2 + d2) * w, (q2 + d2) * w, q3, (q3 + d3) * w, (q3 + d3) * w] [q0, q1, q2, q3] E etA)
    (ha : 0 < a) (hk : k1 = w * H + a * w ∧ k2 = w * G ∧ k3 = a * w ∧ k4 = w * G + w * H)
    (hWa : 16 * ((2 ^ W : Nat) : Rat) ≤ ((a : Int) : Rat)) (hWt : ((2 ^ W : Nat) : Rat) * t4 ≤ 1/4) (hW9 : 2 * 2 ^ W + 600000 ≤ w)
    (hΔ1 : 2 * ((2 * M + 1 : Nat) : Rat) / 1000000000 ≤ 1)
    (hG : nb (((G : Int) : Rat) - ((a : Int) : Rat) * cc (2 * ((2 * M + 1 : Nat) : Rat) / 1000000000)) 1 ∧ nb (((H : Int) : Rat) - ((a : Int) : Rat) * ss (2 * ((2 * M + 1 : Nat) : Rat) / 1000000000)) 1) (hGH : 1000000000 * 1000000000 * ((G : Int) * G + H * H) ≤ 1000000001 * 1000000001 * ((a : Int) * a))
    {f : Nat → Nat → Nat → Bool} (hf9 : nF f w q0 d0 e0 u0 v0 z0 q1 d1 e1 u1 v1 z1 q2 d2 e2 u2 v2 z2 q3 d3 e3 u3 v3 z3 P h nl Q c0 κ L)
    {l : List Nat} {C S N0 m lo hi : Nat} (hl : l.length = m) (hm5 : m ≤ 100000) (hlE : 5 * (m : Rat) ≤ E) (hm : 2 * (N0 : Rat) / 1000000000 + (m : Rat) * (2 * ((2 * M + 1 : Nat) : Rat) / 1000000000) ≤ 10)
    (h0 : nb ((((C : Int) - w : Int) : Rat) - ((2 ^ W : Nat) : Rat) * cc (2 * (N0 : Rat) / 1000000000)) 3 ∧ nb ((((S : Int) - w : Int) : Rat) - ((2 ^ W : Nat) : Rat) * ss (2 * (N0 : Rat) / 1000000000)) 3)
    (hL : nRw f a G H k1 k2 k3 k4 l C S = true) (hlo : lo + M = N0) (hhi : hi ≤ lo + m * (2 * M + 1)) : anR lo hi := fun N x y hN1 hN2 hr hxy => by
  subst hl
  obtain ⟨hk1, hk2, hk3, hk4⟩ := hk
  have hB : 0 < 2 * M + 1 := by omega
  have hdm := Nat.div_add_mod (N - lo) (2 * M + 1)
  have hml := Nat.mod_lt (N - lo) hB
  have hi9 : (N - lo) / (2 * M + 1) < l.length := by
    refine (Nat.div_lt_iff_lt_mul hB).mpr ?_
    omega
  generalize hj : (N - lo) / (2 * M + 1) = j at *
  generalize hr' : (N - lo) % (2 * M + 1) = r at *
  have eN : (N : Int) = N0 + (2 * M + 1 : Nat) * j + ((r : Int) - M) := by
    have e1 : ((2 * M + 1 : Nat) : Int) * (j : Int) = (((2 * M + 1) * j : Nat) : Int) := (Int.natCast_mul _ _).symm
    rw [e1]
    generalize (2 * M + 1) * j = X at *
    omega
  have eNr : (N : Rat) = (N0 : Rat) + ((2 * M + 1 : Nat) : Rat) * (j : Rat) + (((r : Int) - M : Int) : Rat) := by
    have e := congrArg (fun z : Int => (z : Rat)) eN
    simp only [Rat.intCast_add, Rat.intCast_mul] at e
    exact e
  have th0 : (0 : Rat) ≤ 2 * (N0 : Rat) / 1000000000 := by
    have : (0 : Rat) ≤ (N0 : Rat) := Rat.natCast_nonneg
    grind
  have hG' : nb (((G : Int) : Rat) - cc (2 * ((2 * M + 1 : Nat) : Rat) / 1000000000) * ((a : Int) : Rat)) 1 := by rw [Rat.mul_comm (cc _)]; exact hG.1
  have hH' : nb (((H : Int) : Rat) - ss (2 * ((2 * M + 1 : Nat) : Rat) / 1000000000) * ((a : Int) : Rat)) 1 := by rw [Rat.mul_comm (ss _)]; exact hG.2
  refine an_row (i := j) (n := (r : Int) - M) hz az ha hk1 hk2 hk3 hk4 hWa hWt hW9 rfl hΔ1 hG' hH' hGH hm5 hlE th0 hm h0 hf9 hL hi9 (by omega) ?_ hr hxy
  rw [eNr]
  grind
