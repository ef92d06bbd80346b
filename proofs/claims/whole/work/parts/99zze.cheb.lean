/-! sums of Chebyshev's polynomials -/
def chV (s : Rat) : List Rat → Rat → Rat → Rat
  | [], _, _ => 0
  | a :: l, p, q => a * p + chV s l q (2 * s * q - p)
def chE (l : List Rat) (s : Rat) : Rat := chV s l 1 s
def rab (x : Rat) : Rat := if 0 ≤ x then x else -x
theorem rab_nb (x : Rat) : nb x (rab x) := by
  unfold rab
  split
  · constructor <;> grind
  · constructor <;> grind
theorem rab_nn (x : Rat) : 0 ≤ rab x := nb_nn (rab_nb x)
theorem rab_le {x e : Rat} (h : nb x e) : rab x ≤ e := by
  obtain ⟨h1, h2⟩ := h
  unfold rab
  split <;> grind
def abL : List Rat → Rat
  | [] => 0
  | a :: l => rab a + abL l
theorem ch_one {s p q : Rat} (hs : s * s < 1) (h : p * p + q * q - 2 * s * p * q = 1 - s * s) : nb p 1 := by
  refine ab_le (by grind) ?_
  refine Decidable.byContradiction (fun z => ?_)
  have z1 : 0 < p * p - 1 := by grind
  have m := Rat.mul_pos (show 0 < 1 - s * s by grind) z1
  have k := sq_nn (q - s * p)
  grind
theorem chV_bd {s : Rat} (hs : s * s < 1) : ∀ (l : List Rat) (p q : Rat), p * p + q * q - 2 * s * p * q = 1 - s * s → nb (chV s l p q) (abL l)
  | [], _, _, _ => by
    show nb 0 0
    constructor <;> grind
  | a :: l, p, q, h => by
    have ih := chV_bd hs l q (2 * s * q - p) (by grind)
    have k := nb_mul (rab_nb a) (ch_one hs h)
    show nb (a * p + chV s l q (2 * s * q - p)) (rab a + abL l)
    have e := nb_add k ih
    rw [show rab a * 1 = rab a by grind] at e
    exact e
theorem chE_bd {s : Rat} (hs : s * s < 1) (l : List Rat) : nb (chE l s) (abL l) := chV_bd hs l 1 s (by grind)
def adL : List Rat → List Rat → List Rat
  | [], m => m
  | a :: l, [] => a :: l
  | a :: l, b :: m => (a + b) :: adL l m
def smL (c : Rat) : List Rat → List Rat
  | [] => []
  | a :: l => (c * a) :: smL c l
theorem chV_ad (s : Rat) : ∀ (l m : List Rat) (p q : Rat), chV s (adL l m) p q = chV s l p q + chV s m p q
  | [], m, p, q => by show chV s m p q = 0 + chV s m p q; grind
  | a :: l, [], p, q => by show chV s (a :: l) p q = chV s (a :: l) p q + 0; grind
  | a :: l, b :: m, p, q => by
    have ih := chV_ad s l m q (2 * s * q - p)
    show (a + b) * p + chV s (adL l m) q (2 * s * q - p) = a * p + chV s l q (2 * s * q - p) + (b * p + chV s m q (2 * s * q - p))
    rw [ih]; grind
theorem chV_sm (s c : Rat) : ∀ (l : List Rat) (p q : Rat), chV s (smL c l) p q = c * chV s l p q
  | [], p, q => by show (0 : Rat) = c * 0; grind
  | a :: l, p, q => by
    have ih := chV_sm s c l q (2 * s * q - p)
    show (c * a) * p + chV s (smL c l) q (2 * s * q - p) = c * (a * p + chV s l q (2 * s * q - p))
    rw [ih]; grind
theorem chV_ml (s : Rat) : ∀ (l : List Rat) (p q : Rat), 2 * (s * chV s l p q) = chV s l (2 * s * p - q) p + chV s l q (2 * s * q - p)
  | [], p, q => by show 2 * (s * 0) = (0 : Rat) + 0; grind
  | a :: l, p, q => by
    have ih := chV_ml s l q (2 * s * q - p)
    show 2 * (s * (a * p + chV s l q (2 * s * q - p))) = a * (2 * s * p - q) + chV s l p (2 * s * p - (2 * s * p - q)) + (a * q + chV s l (2 * s * q - p) (2 * s * (2 * s * q - p) - q))
    rw [show 2 * s * p - (2 * s * p - q) = q by grind]
    rw [show 2 * s * q - (2 * s * q - p) = p by grind] at ih
    generalize chV s l q (2 * s * q - p) = X at *
    grind
/-- s times a sum -/
def muS : List Rat → List Rat
  | [] => []
  | a :: t => smL (1/2) (adL [0, a] (adL t (0 :: a :: t)))
theorem muS_ok (s : Rat) : ∀ l, chE (muS l) s = s * chE l s
  | [] => by show (0 : Rat) = s * 0; grind
  | a :: t => by
    have k := chV_ml s (a :: t) 1 s
    have e1 : chV s (a :: t) (2 * s * 1 - s) 1 = a * s + chE t s := by
      show a * (2 * s * 1 - s) + chV s t 1 (2 * s * 1 - (2 * s * 1 - s)) = a * s + chV s t 1 s
      rw [show 2 * s * 1 - (2 * s * 1 - s) = s by grind, show 2 * s * 1 - s = s by grind]
    have e2 : chE (0 :: a :: t) s = chV s (a :: t) s (2 * s * s - 1) := by
      show 0 * 1 + chV s (a :: t) s (2 * s * s - 1) = chV s (a :: t) s (2 * s * s - 1)
      grind
    have e3 : chE [0, a] s = a * s := by
      show 0 * 1 + (a * s + 0) = a * s
      grind
    have e4 : chE (muS (a :: t)) s = 1/2 * (chE [0, a] s + (chE t s + chE (0 :: a :: t) s)) := by
      show chV s (smL (1/2) (adL [0, a] (adL t (0 :: a :: t)))) 1 s = _
      rw [chV_sm, chV_ad, chV_ad]; rfl
    rw [e4, e3, e2]
    rw [e1] at k
    have e5 : chV s (a :: t) 1 s = chE (a :: t) s := rfl
    rw [e5] at k
    grind
/-- a polynomial by its numbers, the lowest first -/
def plE : List Rat → Rat → Rat
  | [], _ => 0
  | a :: l, s => a + s * plE l s
def plC : List Rat → List Rat
  | [] => []
  | a :: l => adL [a] (muS (plC l))
theorem plC_ok (s : Rat) : ∀ l, chE (plC l) s = plE l s
  | [] => rfl
  | a :: l => by
    show chV s (adL [a] (muS (plC l))) 1 s = a + s * plE l s
    rw [chV_ad]
    have e : chV s (muS (plC l)) 1 s = s * plE l s := by
      have := muS_ok s (plC l)
      rw [plC_ok s l] at this
      exact this
    rw [e]
    show a * 1 + 0 + s * plE l s = a + s * plE l s
    grind
/-- n to the j times a sum, n = m s -/
def njL (m : Rat) (l : List Rat) : Nat → List Rat
  | 0 => l
  | j + 1 => smL m (muS (njL m l j))
theorem njL_ok (m s : Rat) (l : List Rat) : ∀ j, chE (njL m l j) s = (m * s) ^ j * chE l s
  | 0 => by show chE l s = (m * s) ^ 0 * chE l s; grind
  | j + 1 => by
    have ih := njL_ok m s l j
    have e : chE (njL m l (j + 1)) s = m * chE (muS (njL m l j)) s := by
      show chV s (smL m (muS (njL m l j))) 1 s = _
      rw [chV_sm]; rfl
    rw [e, muS_ok, ih]
    grind
/-- a function's first numbers as a list -/
def lsF (f : Nat → Rat) : Nat → List Rat
  | 0 => []
  | n + 1 => f 0 :: lsF (fun i => f (i + 1)) n
theorem lsF_ok (s : Rat) : ∀ (n : Nat) (f : Nat → Rat), plE (lsF f n) s = sm (fun i => f i * s ^ i) n
  | 0, _ => rfl
  | n + 1, f => by
    have ih := lsF_ok s n (fun i => f (i + 1))
    rw [sm_shift]
    show f 0 + s * plE (lsF (fun i => f (i + 1)) n) s = _
    rw [ih, ← sm_mul]
    have : sm (fun i => s * (f (i + 1) * s ^ i)) n = sm (fun i => f (i + 1) * s ^ (i + 1)) n := sm_cong _ (fun i _ => by grind)
    rw [this]
    grind
theorem ct_hom (c s : Rat) : ∀ n, cr (c * s) n = cr c n * s ^ n ∧ ci (c * s) n = ci c n * s ^ n
  | 0 => by
    show (1 : Rat) = 1 * s ^ 0 ∧ (0 : Rat) = 0 * s ^ 0
    constructor <;> grind
  | n + 1 => by
    obtain ⟨h1, h2⟩ := ct_hom c s n
    have k1 := cr_s (c * s) n
    have k2 := ci_s (c * s) n
    have k3 := cr_s c n
    have k4 := ci_s c n
    rw [h2] at k1
    rw [h1] at k2
    have h := rn_pos n
    generalize ((n + 1 : Nat) : Rat) = m at *
    constructor
    · refine mul_inj h ?_
      rw [k1]; grind
    · refine mul_inj h ?_
      rw [k2]; grind
theorem eT_hom (c s : Rat) : ∀ n, eT (c * s) n = eT c n * s ^ n
  | 0 => by show (1 : Rat) = 1 * s ^ 0; grind
  | n + 1 => by
    have ih := eT_hom c s n
    have k1 := eT_s (c * s) n
    have k2 := eT_s c n
    rw [ih] at k1
    have h := rn_pos n
    generalize ((n + 1 : Nat) : Rat) = m at *
    refine mul_inj h ?_
    rw [k1]; grind
theorem cR_pl (c s : Rat) (n : Nat) : cR (c * s) n = plE (lsF (cr c) (n + 1)) s := by
  rw [lsF_ok]; exact sm_cong _ (fun i _ => (ct_hom c s i).1)
theorem cI_pl (c s : Rat) (n : Nat) : cI (c * s) n = plE (lsF (ci c) (n + 1)) s := by
  rw [lsF_ok]; exact sm_cong _ (fun i _ => (ct_hom c s i).2)
theorem eS_pl (c s : Rat) (n : Nat) : eS (c * s) n = plE (lsF (eT c) (n + 1)) s := by
  rw [lsF_ok, eS_sm]; exact sm_cong _ (fun i _ => eT_hom c s i)
