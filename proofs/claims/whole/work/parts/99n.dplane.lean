/-- a little further on: the sum changes little -/
theorem eS_lip {b : Bool} {w d : Rat} (hw : 0 ≤ w) (hd : 0 ≤ d) (h1 : w + d ≤ 5/8) : nb (eS (sg b (w + d)) 800 - eS (sg b w) 800) (4 * d + 1 / ((2 ^ 300 : Nat) : Rat)) := by
  have k := sg_near (b := b) hw hd (show w + d ≤ 1 by grind) 799
  have tm := eT_mono (u := w + d) (v := 1) (by grind) (by grind) 800
  have t8 := et_800
  obtain ⟨y0, y1⟩ := eS_bd (b := b) hw (show w ≤ 5/8 by grind)
  have hd1 : nb (eS (sg b d) 800 - 1) (2 * d) := by
    have t2 := eS_tail (z := d) hd (by grind) 0 799
    rw [show 0 + 1 + 799 = 800 from rfl, show 0 + 1 = 1 from rfl] at t2
    have p := eT_nn hd 800
    have m := eS_mono hd 800 0
    rw [Nat.zero_add] at m
    have e0 : eS d 0 = 1 := rfl
    have e1 : eS d 1 = 1 + eT d 1 := rfl
    have e2 : eT d 1 = 1 * d / ((0 + 1 : Nat) : Rat) := rfl
    have e3 : eT d 1 = d := by
      rw [e2]
      have : ((0 + 1 : Nat) : Rat) = 1 := rfl
      rw [this]; grind
    rw [e1, e3] at t2
    rw [e0] at m
    cases b with
    | false =>
      show nb (eS d 800 - 1) (2 * d)
      constructor <;> grind
    | true =>
      have a := eS_ab hd 0 800
      rw [Nat.zero_add] at a
      have e9 : eS (-d) 0 = 1 := rfl
      rw [e0, e9] at a
      show nb (eS (-d) 800 - 1) (2 * d)
      constructor <;> grind
  have m := nb_mul (show nb (eS (sg b w) 800) 2 from ⟨by grind, by grind⟩) hd1
  have k9 := nb_neg k
  have s := nb_add m k9
  generalize (1 / ((2 ^ 300 : Nat) : Rat) : Rat) = τ at *
  have e : eS (sg b w) 800 * (eS (sg b d) 800 - 1) + -(eS (sg b w) (799 + 1) * eS (sg b d) (799 + 1) - eS (sg b (w + d)) (799 + 1)) = eS (sg b (w + d)) 800 - eS (sg b w) 800 := by
    show eS (sg b w) 800 * (eS (sg b d) 800 - 1) + -(eS (sg b w) 800 * eS (sg b d) 800 - eS (sg b (w + d)) 800) = _
    grind
  rw [e] at s
  have e9 : eT (w + d) (799 + 1) = eT (w + d) 800 := rfl
  rw [e9] at s
  exact nb_mono s (by grind)
/-- the reference's first square, for an exponent that is a little too small -/
theorem sq_dn {b : Bool} {w z d : Rat} (hw : 0 ≤ w) (hz : z = w + w + d) (hd : 0 ≤ d) (hd9 : d ≤ 1 / ((2 ^ 210 : Nat) : Rat)) (h1 : z ≤ 5/8) : nb (eS (sg b w) 800 * eS (sg b w) 800 - eS (sg b z) 800) (1 / ((2 ^ 200 : Nat) : Rat)) := by
  subst hz
  have k := sg_near (b := b) hw hw (show w + w ≤ 1 by grind) 799
  have tm := eT_mono (u := w + w) (v := 1) (by grind) (by grind) 800
  have t8 := et_800
  have l := nb_neg (eS_lip (b := b) (w := w + w) (d := d) (by grind) hd (by grind))
  have s := nb_add k l
  have e : eS (sg b w) (799 + 1) * eS (sg b w) (799 + 1) - eS (sg b (w + w)) (799 + 1) + -(eS (sg b (w + w + d)) 800 - eS (sg b (w + w)) 800) = eS (sg b w) 800 * eS (sg b w) 800 - eS (sg b (w + w + d)) 800 := by
    show eS (sg b w) 800 * eS (sg b w) 800 - eS (sg b (w + w)) 800 + -(eS (sg b (w + w + d)) 800 - eS (sg b (w + w)) 800) = _
    grind
  rw [e] at s
  have e9 : eT (w + w) (799 + 1) = eT (w + w) 800 := rfl
  rw [e9] at s
  refine nb_mono s ?_
  have d9 : 1 / ((2 ^ 300 : Nat) : Rat) + (4 * (1 / ((2 ^ 210 : Nat) : Rat)) + 1 / ((2 ^ 300 : Nat) : Rat)) ≤ 1 / ((2 ^ 200 : Nat) : Rat) := by decide +kernel
  generalize (1 / ((2 ^ 300 : Nat) : Rat) : Rat) = τ at *
  generalize (1 / ((2 ^ 200 : Nat) : Rat) : Rat) = τ2 at *
  generalize (1 / ((2 ^ 210 : Nat) : Rat) : Rat) = τ1 at *
  grind
/-! damp's numbers, in a loop for the kernel -/
def ceL (ng : Bool) (a D : Nat) : Nat → Nat → Nat → Nat → Nat
  | 0, _, T, S => bif Nat.beq T 0 then S else 0
  | n + 1, k, T, S => ceL ng a D n (Nat.succ k) (Nat.div (Nat.mul T a) (Nat.mul D (Nat.succ k))) (bif (ng && Nat.beq (Nat.mod (Nat.succ k) 2) 1) then Nat.sub S (Nat.div (Nat.mul T a) (Nat.mul D (Nat.succ k))) else Nat.add S (Nat.div (Nat.mul T a) (Nat.mul D (Nat.succ k))))
theorem ceL_ok {ng : Bool} {a D : Nat} : ∀ n k, ceL ng a D n k (ceT a D k) (ceS ng a D k) = bif Nat.beq (ceT a D (k + n)) 0 then ceS ng a D (k + n) else 0
  | 0, _ => rfl
  | n + 1, k => by
    have ih := ceL_ok (ng := ng) (a := a) (D := D) n (k + 1)
    rw [show k + (n + 1) = k + 1 + n by omega, ← ih]
    have e : ceS ng a D (k + 1) = bif (ng && Nat.beq (Nat.mod (Nat.succ k) 2) 1) then Nat.sub (ceS ng a D k) (ceT a D (k + 1)) else Nat.add (ceS ng a D k) (ceT a D (k + 1)) := by
      show (if ng = true ∧ (k + 1) % 2 = 1 then ceS ng a D k - ceT a D (k + 1) else ceS ng a D k + ceT a D (k + 1)) = _
      by_cases c : ng = true ∧ (k + 1) % 2 = 1
      · have c2 : (ng && Nat.beq (Nat.mod (Nat.succ k) 2) 1) = true := by
          rw [Bool.and_eq_true]
          exact ⟨c.1, Nat.beq_eq.mpr c.2⟩
        rw [if_pos c, c2]; rfl
      · have c2 : (ng && Nat.beq (Nat.mod (Nat.succ k) 2) 1) = false := by
          refine Bool.eq_false_iff.mpr (fun q => c ?_)
          rw [Bool.and_eq_true] at q
          exact ⟨q.1, Nat.eq_of_beq_eq_true q.2⟩
        rw [if_neg c, c2]; rfl
    rw [e]
    rfl
def dp_a (t : Nat) : Nat := Nat.mul 141 t
def dp_D (b : Bool) (t : Nat) : Nat := Nat.mul 256 (bif b then Nat.sub 24304 t else Nat.add 24304 t)
def dp_s (b : Bool) (t : Nat) : Nat := Nat.div (Nat.mul (sqc (2 ^ 160) (ceL b (dp_a t) (dp_D b t) 32 0 (2 ^ 160) (2 ^ 160)) 5) 61094) (1000 * 2 ^ 70)
/-- the row 1 .. L -/
def nrow (w : Nat) : Nat → Nat → Nat → Nat → Nat
  | 0, _, _, acc => acc
  | n + 1, r, sh, acc => nrow w n (Nat.succ r) (Nat.add sh w) (Nat.add acc (Nat.mul r (Nat.pow 2 sh)))
theorem nrow_ok {w : Nat} : ∀ (n j : Nat), nrow w n (j + 1) (w * j) (pk w (fun i => i + 1) j) = pk w (fun i => i + 1) (j + n)
  | 0, _ => rfl
  | n + 1, j => by
    have ih := nrow_ok (w := w) n (j + 1)
    show nrow w n (j + 1 + 1) (w * j + w) (pk w (fun i => i + 1) j + (j + 1) * 2 ^ (w * j)) = _
    rw [show j + (n + 1) = j + 1 + n by omega, ← ih, pk_snoc]
    rfl
theorem nrow_eq {w L : Nat} : nrow w L 1 0 0 = pk w (fun i => i + 1) L := by
  have h := nrow_ok (w := w) L 0
  rw [Nat.zero_add L] at h
  exact h
def dp_row : Nat := nrow 128 10000 1 0 0
def dp_one : Nat := (2 ^ (128 * 10000) - 1) / (2 ^ 128 - 1)
def dp_chk (b : Bool) (R one t : Nat) : Bool := Nat.ble 1 (dp_s b t) && (Nat.ble (dp_s b t) (2 ^ 104) && lchk 90 57 R one (dp_s b t))
def dp_all (b : Bool) (R one : Nat) : Nat → Nat → Bool
  | 0, _ => true
  | n + 1, t => dp_chk b R one t && dp_all b R one n (Nat.succ t)
theorem dp_all_ok {b : Bool} {R one : Nat} : ∀ n t, dp_all b R one n t = true → ∀ i, t ≤ i → i < t + n → dp_chk b R one i = true
  | 0, _, _, i, h1, h2 => absurd h2 (by omega)
  | n + 1, t, h, i, h1, h2 => by
    have h' : (dp_chk b R one t && dp_all b R one n (Nat.succ t)) = true := h
    rw [Bool.and_eq_true] at h'
    by_cases c : i = t
    · rw [c]; exact h'.1
    · exact dp_all_ok n (t + 1) h'.2 i (by omega) (by omega)
