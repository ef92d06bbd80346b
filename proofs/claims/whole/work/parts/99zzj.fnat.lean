/-! the same check by natural numbers -/
noncomputable def dsN (P h n : Nat) : Nat → Nat := Nat.rec (motive := fun _ => Nat → Nat) (fun _ => 0) (fun _ ih X => Nat.add (Nat.add (Nat.sub (Nat.mod X P) h) (Nat.sub h (Nat.mod X P))) (ih (Nat.div X P))) n
theorem dsN_eq (P h : Nat) : ∀ n X, dsN P h n X = dsm P h n X
  | 0, _ => rfl
  | n + 1, X => by
    have ih := dsN_eq P h n (X / P)
    show (X % P - h) + (h - X % P) + dsN P h n (X / P) = (X % P - h) + (h - X % P) + dsm P h n (X / P)
    rw [ih]
/-- mt = ms + of, one by one -/
def ofL : List Int → List Nat → List Int → Prop
  | [], [], [] => True
  | m :: ms, t :: ts, o :: os => (t : Int) = m + o ∧ ofL ms ts os
  | _, _, _ => False
def mdB (Q : Nat) : List Int → List Nat → Bool
  | [], [] => true
  | p :: ps, t :: ts => decide (p % (Q : Int) = (t : Int)) && mdB Q ps ts
  | _, _ => false
def dtM : List Int → List Nat → Int
  | m :: ms, k :: ks => m * k + dtM ms ks
  | _, _ => 0
theorem dt_mod {Q : Nat} : ∀ {ms : List Int} {ts : List Nat} {os ps : List Int} {pt : List Nat}, ofL ms ts os → mdB Q ps pt = true → ∃ k : Int, ((dtN ts pt : Nat) : Int) = dtI ms ps + dtM os pt + Q * k
  | [], [], [], _, _, _, _ => ⟨0, by
    show (((0 : Nat)) : Int) = 0 + 0 + (Q : Int) * 0
    omega⟩
  | m :: ms, t :: ts, o :: os, [], [], _, _ => ⟨0, by
    show (((0 : Nat)) : Int) = 0 + 0 + (Q : Int) * 0
    omega⟩
  | m :: ms, t :: ts, o :: os, p :: ps, q :: pt, h, g => by
    have g' : (decide (p % (Q : Int) = (q : Int)) && mdB Q ps pt) = true := g
    rw [Bool.and_eq_true, decide_eq_true_eq] at g'
    obtain ⟨k, hk⟩ := dt_mod h.2 g'.2
    have e := Int.mul_ediv_add_emod p (Q : Int)
    rw [g'.1] at e
    refine ⟨k - m * (p / (Q : Int)), ?_⟩
    show (((t * q + dtN ts pt : Nat)) : Int) = m * p + dtI ms ps + (o * q + dtM os pt) + Q * (k - m * (p / (Q : Int)))
    rw [Int.natCast_add, Int.natCast_mul, hk, h.1]
    generalize p / (Q : Int) = z at *
    rw [← e]
    grind
  | _ :: _, _ :: _, _ :: _, [], _ :: _, _, g => by cases g
  | _ :: _, _ :: _, _ :: _, _ :: _, [], _, g => by cases g
  | [], _ :: _, _, _, _, h, _ => by cases h
  | [], [], _ :: _, _, _, h, _ => by cases h
  | _ :: _, [], _, _, _, h, _ => by cases h
  | _ :: _, _ :: _, [], _, _, h, _ => by cases h
theorem pk_rng {P h : Nat} (h0 : 0 < h) (hP : P = 2 * h) : ∀ (n : Nat) (l : List Int), l.length ≤ n → (∀ a, a ∈ l → a.natAbs < h) → 0 ≤ pkI P l + ofI P h n ∧ pkI P l + ofI P h n < ((P ^ n : Nat) : Int)
  | 0, [], _, _ => by
    show (0 : Int) ≤ 0 + 0 ∧ (0 : Int) + 0 < ((P ^ 0 : Nat) : Int)
    rw [Nat.pow_zero]; omega
  | 0, a :: l, hl, _ => by
    have : l.length + 1 ≤ 0 := hl
    omega
  | n + 1, [], _, _ => by
    obtain ⟨k1, k2⟩ := pk_rng h0 hP n [] (Nat.zero_le _) (fun a ha => absurd ha (List.not_mem_nil))
    have k1' : 0 ≤ 0 + ofI P h n := k1
    have k2' : 0 + ofI P h n < ((P ^ n : Nat) : Int) := k2
    have m1 := Int.mul_nonneg (show (0 : Int) ≤ (P : Int) by omega) (show 0 ≤ ofI P h n by omega)
    have m2 := Int.mul_le_mul_of_nonneg_left (show ofI P h n ≤ ((P ^ n : Nat) : Int) - 1 by omega) (show (0 : Int) ≤ (P : Int) by omega)
    show (0 : Int) ≤ 0 + ((h : Int) + P * ofI P h n) ∧ (0 : Int) + ((h : Int) + P * ofI P h n) < ((P ^ (n + 1) : Nat) : Int)
    rw [Nat.pow_succ, Nat.mul_comm, Int.natCast_mul]
    rw [Int.mul_sub] at m2
    omega
  | n + 1, a :: l, hl, hb => by
    obtain ⟨k1, k2⟩ := pk_rng h0 hP n l (by have : l.length + 1 ≤ n + 1 := hl; omega) (fun x hx => hb x (List.mem_cons_of_mem _ hx))
    have ha := hb a (List.mem_cons_self)
    have m1 := Int.mul_nonneg (show (0 : Int) ≤ (P : Int) by omega) k1
    have m2 := Int.mul_le_mul_of_nonneg_left (show pkI P l + ofI P h n ≤ ((P ^ n : Nat) : Int) - 1 by omega) (show (0 : Int) ≤ (P : Int) by omega)
    show (0 : Int) ≤ a + P * pkI P l + ((h : Int) + P * ofI P h n) ∧ a + P * pkI P l + ((h : Int) + P * ofI P h n) < ((P ^ (n + 1) : Nat) : Int)
    rw [Nat.pow_succ, Nat.mul_comm, Int.natCast_mul]
    rw [Int.mul_sub] at m2
    rw [Int.mul_add] at m1 m2
    omega
/-- the packed sum by natural numbers -/
theorem pk_nat {P h nl Q c0 : Nat} {ms os : List Int} {ts : List Nat} {ks : List (List Int)} {pt gs : List Nat} (h0 : 0 < h) (hP : P = 2 * h) (hQ : Q = P ^ nl) (hb : bdm ms gs = true) (hh : dtN gs (ks.map mxA) < h) (hn : ∀ k, k ∈ ks → k.length ≤ nl) (ho : ofL ms ts os) (hm : mdB Q (ks.map (pkI P)) pt = true) (hc : (dtM os pt + (c0 : Int) - ofI P h nl) % (Q : Int) = 0) :
    Nat.mod (Nat.add (dtN ts pt) c0) Q = (dtI ms (ks.map (pkI P)) + ofI P h nl).toNat := by
  have b1 : ∀ a, a ∈ sltI ms ks → a.natAbs < h := fun a ha => Nat.lt_of_le_of_lt (slt_bd hb a ha) hh
  obtain ⟨r1, r2⟩ := pk_rng h0 hP nl (sltI ms ks) (slt_len hn) b1
  rw [pkI_slt] at r1 r2
  obtain ⟨k, hk⟩ := dt_mod ho hm
  have e := Int.mul_ediv_add_emod (dtM os pt + (c0 : Int) - ofI P h nl) (Q : Int)
  rw [hc] at e
  rw [← hQ] at r2
  have key : ((dtN ts pt + c0 : Nat) : Int) = (dtI ms (ks.map (pkI P)) + ofI P h nl) + Q * (k + (dtM os pt + (c0 : Int) - ofI P h nl) / (Q : Int)) := by
    rw [Int.natCast_add, hk, Int.mul_add]
    generalize (Q : Int) * ((dtM os pt + (c0 : Int) - ofI P h nl) / (Q : Int)) = z at *
    omega
  have k2 : ((dtN ts pt + c0 : Nat) : Int) % (Q : Int) = dtI ms (ks.map (pkI P)) + ofI P h nl := by
    rw [key, Int.add_mul_emod_self_left]
    exact Int.emod_eq_of_lt r1 r2
  show (dtN ts pt + c0) % Q = _
  have k3 : (((dtN ts pt + c0) % Q : Nat) : Int) = dtI ms (ks.map (pkI P)) + ofI P h nl := by rw [Int.natCast_emod]; exact k2
  rw [← k3]; rfl
/-! the turned numbers with offsets -/
theorem nQ_ok {w C S q dl be D B : Nat} (hC : C ≤ 2 * w) (hS : S ≤ 2 * w) (hD : D ≤ 2 * q) (hB : B ≤ 2 * dl) (hbe : 2 * ((q + dl) * w) ≤ be) :
    ((Nat.sub (Nat.add (Nat.add (Nat.mul D C) (Nat.mul B S)) be) (Nat.add (Nat.add (Nat.mul q C) (Nat.mul dl S)) (Nat.mul w (Nat.add D B))) : Nat) : Int) = (((D : Int) - q) * ((C : Int) - w) + ((B : Int) - dl) * ((S : Int) - w)) + ((be : Int) - (q + dl) * w) ∧ (((D : Int) - q) * ((C : Int) - w) + ((B : Int) - dl) * ((S : Int) - w)).natAbs ≤ (q + dl) * w := by
  have hb : (((D : Int) - q) * ((C : Int) - w) + ((B : Int) - dl) * ((S : Int) - w)).natAbs ≤ (q + dl) * w := by
    have a1 : ((D : Int) - q).natAbs ≤ q := by omega
    have a2 : ((C : Int) - w).natAbs ≤ w := by omega
    have a3 : ((B : Int) - dl).natAbs ≤ dl := by omega
    have a4 : ((S : Int) - w).natAbs ≤ w := by omega
    have m1 := Nat.mul_le_mul a1 a2
    have m2 := Nat.mul_le_mul a3 a4
    rw [← Int.natAbs_mul] at m1 m2
    rw [Nat.add_mul]
    omega
  refine ⟨?_, hb⟩
  have e1 : ((D : Int) - q) * ((C : Int) - w) = (D : Int) * C - q * C - w * D + q * w := by grind
  have e2 : ((B : Int) - dl) * ((S : Int) - w) = (B : Int) * S - dl * S - w * B + dl * w := by grind
  rw [Nat.add_mul] at hb hbe
  rw [e1, e2] at hb
  rw [e1, e2, Int.add_mul]
  show (((D * C + B * S + be) - (q * C + dl * S + w * (D + B)) : Nat) : Int) = _
  rw [Nat.mul_add]
  have c1 : ((D * C : Nat) : Int) = (D : Int) * C := Int.natCast_mul _ _
  have c2 : ((B * S : Nat) : Int) = (B : Int) * S := Int.natCast_mul _ _
  have c3 : ((q * C : Nat) : Int) = (q : Int) * C := Int.natCast_mul _ _
  have c4 : ((dl * S : Nat) : Int) = (dl : Int) * S := Int.natCast_mul _ _
  have c5 : ((w * D : Nat) : Int) = (w : Int) * D := Int.natCast_mul _ _
  have c6 : ((w * B : Nat) : Int) = (w : Int) * B := Int.natCast_mul _ _
  have c7 : ((q * w : Nat) : Int) = (q : Int) * w := Int.natCast_mul _ _
  have c8 : ((dl * w : Nat) : Int) = (dl : Int) * w := Int.natCast_mul _ _
  rw [← c1, ← c2, ← c3, ← c4, ← c5, ← c6, ← c7, ← c8] at hb ⊢
  generalize D * C = Z1 at *
  generalize B * S = Z2 at *
  generalize q * C = Z3 at *
  generalize dl * S = Z4 at *
  generalize w * D = Z5 at *
  generalize w * B = Z6 at *
  generalize q * w = Z7 at *
  generalize dl * w = Z8 at *
  omega
theorem odd_mul {a b : Nat} (h : Nat.mul a b % 2 = 1) : a % 2 = 1 ∧ b % 2 = 1 := by
  have h' : (a * b) % 2 = 1 := h
  rw [Nat.mul_mod] at h'
  have h1 : a % 2 = 0 ∨ a % 2 = 1 := by omega
  have h2 : b % 2 = 0 ∨ b % 2 = 1 := by omega
  rcases h1 with h1 | h1 <;> rcases h2 with h2 | h2 <;> rw [h1, h2] at h' <;> first | exact ⟨h1, h2⟩ | exact absurd h' (by decide)
