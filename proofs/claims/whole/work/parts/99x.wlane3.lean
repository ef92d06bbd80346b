theorem pk_sb {w : Nat} (n : Nat) (f g : Nat → Nat) (h : ∀ j, j < n → g j ≤ f j) : pk w f n - pk w g n = pk w (fun j => f j - g j) n := by
  have k := pk_add (w := w) n (fun j => f j - g j) g
  have e : pk w (fun j => f j - g j + g j) n = pk w f n := pk_cong (fun j hj => Nat.sub_add_cancel (h j hj))
  rw [e] at k
  omega
/-- the tail of cosine's and sine's sums -/
theorem cs_cut {d : Rat} {n : Nat} (hd : 0 ≤ d) (hn : n ≤ 800) (h2 : 2 * d ≤ ((n + 1 : Nat) : Rat)) : nb (cc d - cR d n) (eT d n) ∧ nb (ss d - cI d n) (eT d n) := by
  have hb : nb d d := ⟨by grind, by grind⟩
  have tl := eS_tailn hd h2 (800 - n)
  have p := eT_nn hd (n + (800 - n))
  have e8 : n + (800 - n) = 800 := by omega
  rw [e8] at tl p
  have key : ∀ (f : Nat → Rat), (∀ i, nb (f i) (eT d i)) → nb (sm f 801 - sm f (n + 1)) (eT d n) := fun f hf => by
    have s := sm_bd hf (n + 1) (800 - n)
    rw [show n + 1 + (800 - n) = 800 + 1 by omega, ← eS_sm, ← eS_sm] at s
    refine nb_mono s ?_
    generalize eS d 800 = X at *
    generalize eT d 800 = Y at *
    grind
  exact ⟨key (cr d) (fun i => (ct_bd hb i).1), key (ci d) (fun i => (ct_bd hb i).2)⟩
/-- one lane: a c + b s + k 2^F, with o added to a and b -/
def wl (o K : Nat) (a b : Int) (c s : Nat) : Nat := (a + o).toNat * c + (b + o).toNat * s + (K - o * (c + s))
theorem wl_eq {o K c s : Nat} {a b : Int} (ha : 0 ≤ a + o) (hb : 0 ≤ b + o) (hK : o * (c + s) ≤ K) : ((wl o K a b c s : Nat) : Int) = a * c + b * s + K := by
  unfold wl
  have e1 : ((a + (o : Int)).toNat : Int) = a + o := Int.toNat_of_nonneg ha
  have e2 : ((b + (o : Int)).toNat : Int) = b + o := Int.toNat_of_nonneg hb
  have e3 : ((K - o * (c + s) : Nat) : Int) = (K : Int) - (o : Int) * ((c : Int) + (s : Int)) := by
    rw [Int.ofNat_sub hK]; simp
  rw [Int.natCast_add, Int.natCast_add, Int.natCast_mul, Int.natCast_mul, e1, e2, e3]
  grind
def wchk (F f o R1 R2 K one : Nat) (a b : Int) : Bool := xchk F f one (Nat.add (Nat.add (Nat.mul (a + o).toNat R1) (Nat.mul (b + o).toNat R2)) K)
theorem wchk_pk {w L o K : Nat} {a b : Int} {c s : Nat → Nat} : Nat.add (Nat.add (Nat.mul (a + (o : Int)).toNat (pk w c L)) (Nat.mul (b + (o : Int)).toNat (pk w s L))) (pk w (fun j => K - o * (c j + s j)) L) = pk w (fun j => wl o K a b (c j) (s j)) L := by
  show (a + (o : Int)).toNat * pk w c L + (b + (o : Int)).toNat * pk w s L + pk w (fun j => K - o * (c j + s j)) L = _
  rw [pk_ml, pk_ml, pk_add, pk_add]
  rfl
def wK (F o Q R1 R2 one : Nat) : Nat := Nat.sub (Nat.mul (Nat.mul Q (2 ^ F)) one) (Nat.mul o (Nat.add R1 R2))
theorem wK_eq {w F o Q L : Nat} {c s : Nat → Nat} (h : ∀ j, j < L → o * (c j + s j) ≤ Q * 2 ^ F) : wK F o Q (pk w c L) (pk w s L) (pk w (fun _ => 1) L) = pk w (fun j => Q * 2 ^ F - o * (c j + s j)) L := by
  show Q * 2 ^ F * pk w (fun _ => 1) L - o * (pk w c L + pk w s L) = _
  rw [pk_ml, pk_add, pk_ml, pk_sb L _ _ (fun j hj => by rw [Nat.mul_one]; exact h j hj)]
  exact pk_cong (fun j _ => by rw [Nat.mul_one])
/-- a head's lanes -/
theorem wave_lane {w F f L o Q A : Nat} {a b : Int} {c s : Nat → Nat} {α β W E e t : Rat} {cj sj : Nat → Rat} (hf : 0 < f) (hF : f ≤ F) (hw : F + 1 < w)
    (ho : (W * 2 + E : Rat) ≤ (o : Rat)) (hα : nb α 2) (hβ : nb β 2) (hW : 0 ≤ W) (ha : nb ((a : Rat) - W * α) E) (hb : nb ((b : Rat) - W * β) E)
    (hcj : ∀ j, j < L → nb (cj j) 2 ∧ nb ((c j : Rat) - cj j * (A : Rat)) e) (hsj : ∀ j, j < L → nb (sj j) 2 ∧ nb ((s j : Rat) - sj j * (A : Rat)) e)
    (hcs : ∀ j, j < L → c j ≤ 3 * A ∧ s j ≤ 3 * A) (hQ : o * (6 * A) ≤ Q * 2 ^ F) (hroom : 12 * o * A + Q * 2 ^ F + 2 ^ (f - 1) < 2 ^ w)
    (herr : 6 * (A : Rat) * E + 4 * W * e + t * ((2 ^ F : Nat) : Rat) < ((2 ^ (f - 1) : Nat) : Rat)) {V : Nat → Rat} (hV : ∀ j, j < L → V j * ((2 ^ F : Nat) : Rat) = W * (A : Rat) * (α * cj j + β * sj j))
    (h : wchk F f o (pk w c L) (pk w s L) (wK F o Q (pk w c L) (pk w s L) (pk w (fun _ => 1) L)) (pk w (fun _ => 1) L) a b = true) :
    ∀ j, j < L → ∀ k : Int, -(Q : Int) ≤ k → ¬ nb (V j - (k : Rat)) t := by
  intro j hj k hk hn
  have oc : ∀ j, j < L → o * (c j + s j) ≤ Q * 2 ^ F := fun j hj => by
    obtain ⟨p1, p2⟩ := hcs j hj
    exact Nat.le_trans (Nat.mul_le_mul_left o (show c j + s j ≤ 6 * A by omega)) hQ
  have aw := nb_mul (show nb W W from ⟨by grind, by grind⟩) hα
  have bw := nb_mul (show nb W W from ⟨by grind, by grind⟩) hβ
  have e0 := nb_nn ha
  have rng : ∀ (x : Int) (ξ : Rat), nb ((x : Rat) - W * ξ) E → nb (W * ξ) (W * 2) → 0 ≤ x + o ∧ (x + o).toNat ≤ 2 * o := fun x ξ h1 h2 => by
    obtain ⟨u1, u2⟩ := h1
    obtain ⟨v1, v2⟩ := h2
    have r1 : ((-(o : Int) : Int) : Rat) ≤ (x : Rat) := by
      rw [Rat.intCast_neg]
      have : (((o : Nat) : Int) : Rat) = (o : Rat) := rfl
      rw [this]; grind
    have r2 : (x : Rat) ≤ (((o : Nat) : Int) : Rat) := by
      have : (((o : Nat) : Int) : Rat) = (o : Rat) := rfl
      rw [this]; grind
    have i1 := Rat.intCast_le_intCast.mp r1
    have i2 := Rat.intCast_le_intCast.mp r2
    omega
  obtain ⟨a1, a2⟩ := rng a α ha aw
  obtain ⟨b1, b2⟩ := rng b β hb bw
  unfold wchk at h
  rw [wK_eq oc, wchk_pk] at h
  have room : ∀ j, j < L → wl o (Q * 2 ^ F) a b (c j) (s j) + 2 ^ (f - 1) < 2 ^ w := fun j hj => by
    obtain ⟨p1, p2⟩ := hcs j hj
    unfold wl
    have m1 := Nat.mul_le_mul a2 p1
    have m2 := Nat.mul_le_mul b2 p2
    have e1 : 2 * o * (3 * A) = 6 * (o * A) := by grind
    have e2 : 12 * o * A = 12 * (o * A) := by grind
    rw [e1] at m1 m2
    rw [e2] at hroom
    have : Q * 2 ^ F - o * (c j + s j) ≤ Q * 2 ^ F := Nat.sub_le _ _
    omega
  obtain ⟨K, hK⟩ := Int.eq_ofNat_of_zero_le (show 0 ≤ k + (Q : Int) by omega)
  have no := xchk_ok (v := fun j => wl o (Q * 2 ^ F) a b (c j) (s j)) hf hF hw room h j hj K
  have eq := wl_eq (K := Q * 2 ^ F) a1 b1 (oc j hj)
  obtain ⟨c2, c3⟩ := hcj j hj
  obtain ⟨s2, s3⟩ := hsj j hj
  obtain ⟨q1, q2⟩ := hcs j hj
  have hVj := hV j hj
  have er : (((wl o (Q * 2 ^ F) a b (c j) (s j) : Nat) : Int) : Rat) = ((a * c j + b * s j + ((Q * 2 ^ F : Nat) : Int) : Int) : Rat) := by rw [eq]
  rw [Rat.intCast_add, Rat.intCast_add, Rat.intCast_mul, Rat.intCast_mul] at er
  have z1 : (((wl o (Q * 2 ^ F) a b (c j) (s j) : Nat) : Int) : Rat) = (wl o (Q * 2 ^ F) a b (c j) (s j) : Rat) := rfl
  have z2 : (((c j : Nat) : Int) : Rat) = (c j : Rat) := rfl
  have z3 : (((s j : Nat) : Int) : Rat) = (s j : Rat) := rfl
  have z4 : (((Q * 2 ^ F : Nat) : Int) : Rat) = (Q : Rat) * ((2 ^ F : Nat) : Rat) := by
    show ((Q * 2 ^ F : Nat) : Rat) = _
    rw [Rat.natCast_mul]
  rw [z1, z2, z3, z4] at er
  have hkr : (K : Rat) = (k : Rat) + (Q : Rat) := by
    have : ((k + (Q : Int) : Int) : Rat) = (((K : Nat) : Int) : Rat) := by rw [hK]
    rw [Rat.intCast_add] at this
    exact this.symm
  have c0 : (0 : Rat) ≤ (c j : Rat) := Rat.natCast_nonneg
  have s0 : (0 : Rat) ≤ (s j : Rat) := Rat.natCast_nonneg
  have cA : (c j : Rat) ≤ 3 * (A : Rat) := by
    have : ((c j : Nat) : Rat) ≤ ((3 * A : Nat) : Rat) := Rat.natCast_le_natCast.mpr q1
    rw [Rat.natCast_mul] at this
    simpa using this
  have sA : (s j : Rat) ≤ 3 * (A : Rat) := by
    have : ((s j : Nat) : Rat) ≤ ((3 * A : Nat) : Rat) := Rat.natCast_le_natCast.mpr q2
    rw [Rat.natCast_mul] at this
    simpa using this
  have m1 := nb_mul ha (show nb (c j : Rat) (3 * (A : Rat)) from ⟨by grind, cA⟩)
  have m2 := nb_mul hb (show nb (s j : Rat) (3 * (A : Rat)) from ⟨by grind, sA⟩)
  have m3 := nb_mul aw c3
  have m4 := nb_mul bw s3
  have pF : (0 : Rat) ≤ ((2 ^ F : Nat) : Rat) := Rat.natCast_nonneg
  have m5 := nb_mul hn (show nb ((2 ^ F : Nat) : Rat) ((2 ^ F : Nat) : Rat) from ⟨by grind, by grind⟩)
  obtain ⟨u1, u2⟩ := nb_add (nb_add (nb_add m1 m2) (nb_add m3 m4)) m5
  have x : ((a : Rat) - W * α) * (c j : Rat) + ((b : Rat) - W * β) * (s j : Rat) + (W * α * ((c j : Rat) - cj j * (A : Rat)) + W * β * ((s j : Rat) - sj j * (A : Rat))) + (V j - (k : Rat)) * ((2 ^ F : Nat) : Rat) = (a : Rat) * (c j : Rat) + (b : Rat) * (s j : Rat) - (k : Rat) * ((2 ^ F : Nat) : Rat) := by grind
  rw [x] at u1 u2
  apply no
  generalize hPF : 2 ^ F = PF at *
  generalize hpf : 2 ^ (f - 1) = pf at *
  generalize hwl : wl o (Q * PF) a b (c j) (s j) = Y at *
  constructor
  · have : ((K * PF : Nat) : Rat) ≤ ((Y + pf : Nat) : Rat) := by
      rw [Rat.natCast_mul, Rat.natCast_add, hkr]; grind
    exact Rat.natCast_le_natCast.mp this
  · have : ((Y : Nat) : Rat) < ((K * PF + pf : Nat) : Rat) := by
      rw [Rat.natCast_add, Rat.natCast_mul, hkr]; grind
    exact Rat.natCast_lt_natCast.mp this
