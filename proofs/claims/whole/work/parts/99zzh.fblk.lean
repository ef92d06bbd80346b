/-! a block of angles: one form, many n -/
def msA (C S : Int) : List (Int × Int × Int) → List Int
  | [] => []
  | (a, b, d) :: l => (a + d) :: ((a - d) * C + b * S) :: (b * C - (a - d) * S) :: msA C S l
def phA (U V f g n : Rat) (j : Nat) : Nat → List Rat
  | 0 => []
  | k + 1 => (U * n ^ j) :: (V * (n ^ j * f)) :: (V * (n ^ j * g)) :: phA U V f g n (j + 1) k
def rlA (U V m : Rat) (cl sl : List Rat) (j : Nat) : Nat → List (List Rat)
  | 0 => []
  | k + 1 => smL U (njL m [1] j) :: smL V (njL m cl j) :: smL V (njL m sl j) :: rlA U V m cl sl (j + 1) k
def epA (e V m τ : Rat) (j : Nat) : Nat → List Rat
  | 0 => []
  | k + 1 => e :: (V * (m ^ j * τ) + e) :: (V * (m ^ j * τ) + e) :: epA e V m τ (j + 1) k
theorem phA_dt (U V f g n : Rat) (C S : Int) : ∀ (T : List (Int × Int × Int)) (j : Nat), dtR (msA C S T) (phA U V f g n j T.length) = n ^ j * gX U (V * ((C : Rat) * f - (S : Rat) * g)) (V * ((S : Rat) * f + (C : Rat) * g)) n T
  | [], j => by show (0 : Rat) = n ^ j * 0; grind
  | (a, b, d) :: l, j => by
    have ih := phA_dt U V f g n C S l (j + 1)
    show ((a + d : Int) : Rat) * (U * n ^ j) + ((((a - d) * C + b * S : Int) : Rat) * (V * (n ^ j * f)) + (((b * C - (a - d) * S : Int) : Rat) * (V * (n ^ j * g)) + dtR (msA C S l) (phA U V f g n (j + 1) l.length))) = n ^ j * (((a + d : Int) : Rat) * U + ((a - d : Int) : Rat) * (V * ((C : Rat) * f - (S : Rat) * g)) + (b : Rat) * (V * ((S : Rat) * f + (C : Rat) * g)) + n * gX U (V * ((C : Rat) * f - (S : Rat) * g)) (V * ((S : Rat) * f + (C : Rat) * g)) n l)
    rw [ih, Rat.intCast_add ((a - d) * C), Rat.intCast_sub (b * C), Rat.intCast_mul, Rat.intCast_mul, Rat.intCast_mul, Rat.intCast_mul, Rat.pow_succ]
    generalize gX U (V * ((C : Rat) * f - (S : Rat) * g)) (V * ((S : Rat) * f + (C : Rat) * g)) n l = G
    generalize ((a - d : Int) : Rat) = D
    generalize ((a + d : Int) : Rat) = A
    generalize (b : Rat) = B
    generalize (C : Rat) = C
    generalize (S : Rat) = S
    generalize n ^ j = N
    grind
/-- whole numbers near a list's, one by one -/
def nrB : List Rat → List Int → Bool
  | [], [] => true
  | x :: xs, k :: ks => (decide (-1 ≤ x - (k : Rat)) && decide (x - (k : Rat) ≤ 1)) && nrB xs ks
  | _, _ => false
def nrK : List (List Rat) → List (List Int) → Bool
  | [], [] => true
  | x :: xs, k :: ks => nrB x k && nrK xs ks
  | _, _ => false
theorem nrB_ok {s : Rat} (hs : s * s < 1) : ∀ (l : List Rat) (k : List Int) (p q : Rat), p * p + q * q - 2 * s * p * q = 1 - s * s → nrB l k = true → nb (chV s l p q - chV s (cst k) p q) (k.length : Rat)
  | [], [], _, _, _, _ => by
    show nb (0 - 0) ((0 : Nat) : Rat)
    have e : ((0 : Nat) : Rat) = 0 := rfl
    rw [e]
    constructor <;> grind
  | [], _ :: _, _, _, _, h => by cases h
  | _ :: _, [], _, _, _, h => by cases h
  | x :: xs, k :: ks, p, q, hp, h => by
    have h' : ((decide (-1 ≤ x - (k : Rat)) && decide (x - (k : Rat) ≤ 1)) && nrB xs ks) = true := h
    simp only [Bool.and_eq_true, decide_eq_true_eq] at h'
    obtain ⟨⟨h1, h2⟩, h3⟩ := h'
    have ih := nrB_ok hs xs ks q (2 * s * q - p) (by grind) h3
    have k1 := nb_mul (show nb (x - (k : Rat)) 1 from ⟨h1, h2⟩) (ch_one hs hp)
    show nb (x * p + chV s xs q (2 * s * q - p) - ((k : Rat) * p + chV s (cst ks) q (2 * s * q - p))) ((ks.length + 1 : Nat) : Rat)
    have e : ((ks.length + 1 : Nat) : Rat) = (ks.length : Rat) + 1 := by simp
    rw [e]
    obtain ⟨a1, a2⟩ := ih
    obtain ⟨b1, b2⟩ := k1
    constructor <;> grind
theorem chE_nj (X m s : Rat) (l : List Rat) (j : Nat) : chE (smL X (njL m l j)) s = X * ((m * s) ^ j * chE l s) := by
  have e : chE (smL X (njL m l j)) s = X * chE (njL m l j) s := chV_sm s X (njL m l j) 1 s
  rw [e, njL_ok]
theorem nb_pow {n m : Rat} (h : nb n m) : ∀ j : Nat, nb (n ^ j) (m ^ j)
  | 0 => by
    show nb (n ^ 0) (m ^ 0)
    rw [Rat.pow_zero, Rat.pow_zero]
    constructor <;> grind
  | j + 1 => by
    rw [Rat.pow_succ, Rat.pow_succ]
    exact nb_mul (nb_pow h j) h
theorem phA_nr {U V m s n f g τ e : Rat} {cl sl : List Rat} (hs : s * s < 1) (hn : n = m * s) (hnm : nb n m) (hV : 0 ≤ V) (hf : nb (f - chE cl s) τ) (hg : nb (g - chE sl s) τ) : ∀ (k j : Nat) (ks : List (List Int)), nrK (rlA U V m cl sl j k) ks = true → (∀ x, x ∈ ks → (x.length : Rat) ≤ e) → nrL (phA U V f g n j k) (ks.map (fun k => chE (cst k) s)) (epA e V m τ j k)
  | 0, j, [], _, _ => trivial
  | 0, j, _ :: _, h, _ => by cases h
  | k + 1, j, [], h, _ => by cases h
  | k + 1, j, [_], h, _ => by
    have h' : (nrB (smL U (njL m [1] j)) _ && false) = true := h
    rw [Bool.and_false] at h'; cases h'
  | k + 1, j, [_, _], h, _ => by
    have h' : (nrB (smL U (njL m [1] j)) _ && (nrB (smL V (njL m cl j)) _ && false)) = true := h
    rw [Bool.and_false, Bool.and_false] at h'; cases h'
  | k + 1, j, k1 :: k2 :: k3 :: ks, h, hl => by
    have h' : (nrB (smL U (njL m [1] j)) k1 && (nrB (smL V (njL m cl j)) k2 && (nrB (smL V (njL m sl j)) k3 && nrK (rlA U V m cl sl (j + 1) k) ks))) = true := h
    simp only [Bool.and_eq_true] at h'
    obtain ⟨h1, h2, h3, h4⟩ := h'
    have ih := phA_nr hs hn hnm hV hf hg k (j + 1) ks h4 (fun x hx => hl x (List.mem_cons_of_mem _ (List.mem_cons_of_mem _ (List.mem_cons_of_mem _ hx))))
    have l1 := hl k1 (List.mem_cons_self)
    have l2 := hl k2 (List.mem_cons_of_mem _ (List.mem_cons_self))
    have l3 := hl k3 (List.mem_cons_of_mem _ (List.mem_cons_of_mem _ (List.mem_cons_self)))
    have q1 : nb (chE (smL U (njL m [1] j)) s - chE (cst k1) s) e := nb_mono (nrB_ok hs _ _ 1 s (by grind) h1) l1
    have q2 : nb (chE (smL V (njL m cl j)) s - chE (cst k2) s) e := nb_mono (nrB_ok hs _ _ 1 s (by grind) h2) l2
    have q3 : nb (chE (smL V (njL m sl j)) s - chE (cst k3) s) e := nb_mono (nrB_ok hs _ _ 1 s (by grind) h3) l3
    rw [chE_nj, ← hn] at q1 q2 q3
    have e1 : chE [1] s = 1 := by show 1 * 1 + (0 : Rat) = 1; grind
    rw [e1, show U * (n ^ j * 1) = U * n ^ j by grind] at q1
    have p := nb_pow hnm j
    have r2 := nb_mul (show nb V V from ⟨by grind, by grind⟩) (nb_mul p hf)
    have r3 := nb_mul (show nb V V from ⟨by grind, by grind⟩) (nb_mul p hg)
    refine ⟨q1, ?_, ?_, ih⟩
    · show nb (V * (n ^ j * f) - chE (cst k2) s) (V * (m ^ j * τ) + e)
      generalize chE (cst k2) s = Z at *
      generalize chE cl s = Y at *
      have a := nb_add r2 q2
      rw [show V * (n ^ j * (f - Y)) + (V * (n ^ j * Y) - Z) = V * (n ^ j * f) - Z by grind] at a
      exact a
    · show nb (V * (n ^ j * g) - chE (cst k3) s) (V * (m ^ j * τ) + e)
      generalize chE (cst k3) s = Z at *
      generalize chE sl s = Y at *
      have a := nb_add r3 q3
      rw [show V * (n ^ j * (g - Y)) + (V * (n ^ j * Y) - Z) = V * (n ^ j * g) - Z by grind] at a
      exact a
theorem cs_cutI {d α : Rat} {n : Nat} (hd : nb d α) (hn : n ≤ 800) (h2 : 2 * α ≤ ((n + 1 : Nat) : Rat)) : nb (cc d - cR d n) (eT α n) ∧ nb (ss d - cI d n) (eT α n) := by
  obtain ⟨d1, d2⟩ := hd
  by_cases q : 0 ≤ d
  · obtain ⟨k1, k2⟩ := cs_cut (d := d) (n := n) q hn (by grind)
    have m := eT_mono q d2 n
    exact ⟨nb_mono k1 m, nb_mono k2 m⟩
  · obtain ⟨k1, k2⟩ := cs_cut (d := -d) (n := n) (by grind) hn (by grind)
    have m := eT_mono (show 0 ≤ -d by grind) (show -d ≤ α by grind) n
    rw [cc_neg] at k1
    rw [ss_neg] at k2
    have e1 : cR (-d) n = cR d n := sm_cong _ (fun i _ => (ct_neg d i).1)
    have e2 : cI (-d) n = -cI d n := by
      have : cI (-d) n = sm (fun i => -ci d i) (n + 1) := sm_cong _ (fun i _ => (ct_neg d i).2)
      rw [this, sm_neg]; rfl
    rw [e1] at k1
    rw [e2] at k2
    refine ⟨nb_mono k1 m, nb_mono ?_ m⟩
    obtain ⟨a1, a2⟩ := k2
    constructor <;> grind
