/-! the exponential of an imaginary number: its terms' two parts -/
def ct (a : Rat) : Nat → Rat × Rat
  | 0 => (1, 0)
  | n + 1 => (-(ct a n).2 * a / ((n + 1 : Nat) : Rat), (ct a n).1 * a / ((n + 1 : Nat) : Rat))
def cr (a : Rat) (n : Nat) : Rat := (ct a n).1
def ci (a : Rat) (n : Nat) : Rat := (ct a n).2
theorem cr_s (a : Rat) (n : Nat) : ((n + 1 : Nat) : Rat) * cr a (n + 1) = -(a * ci a n) := by
  have h := rn_pos n
  show ((n + 1 : Nat) : Rat) * (-(ct a n).2 * a / ((n + 1 : Nat) : Rat)) = -(a * (ct a n).2)
  have h2 : ((n + 1 : Nat) : Rat) ≠ 0 := by grind
  generalize ((n + 1 : Nat) : Rat) = m at *
  grind
theorem ci_s (a : Rat) (n : Nat) : ((n + 1 : Nat) : Rat) * ci a (n + 1) = a * cr a n := by
  have h := rn_pos n
  show ((n + 1 : Nat) : Rat) * ((ct a n).1 * a / ((n + 1 : Nat) : Rat)) = a * (ct a n).1
  have h2 : ((n + 1 : Nat) : Rat) ≠ 0 := by grind
  generalize ((n + 1 : Nat) : Rat) = m at *
  grind
/-- products of terms, degree s: f of a, g of b -/
def cw (f g : Nat → Rat) (s : Nat) : Rat := sm (fun i => f i * g (s - i)) (s + 1)
/-- (i f i)' : where (i + 1) f (i + 1) = a F i -/
theorem cw_s {f F g G : Nat → Rat} {a b : Rat} (hf : ∀ i, ((i + 1 : Nat) : Rat) * f (i + 1) = a * F i) (hg : ∀ i, ((i + 1 : Nat) : Rat) * g (i + 1) = b * G i) (s : Nat) : ((s + 1 : Nat) : Rat) * cw f g (s + 1) = a * cw F g s + b * cw f G s := by
  have e1 : ((s + 1 : Nat) : Rat) * cw f g (s + 1) = sm (fun i => (i : Rat) * f i * g (s + 1 - i)) (s + 2) + sm (fun i => ((s + 1 - i : Nat) : Rat) * f i * g (s + 1 - i)) (s + 2) := by
    unfold cw
    rw [← sm_mul, ← sm_add]
    refine sm_cong _ (fun i hi => ?_)
    have e : ((s + 1 : Nat) : Rat) = (i : Rat) + ((s + 1 - i : Nat) : Rat) := by
      have h : s + 1 = i + (s + 1 - i) := by omega
      have h9 : ((i + (s + 1 - i) : Nat) : Rat) = (i : Rat) + ((s + 1 - i : Nat) : Rat) := by simp
      rw [← h9, ← h]
    rw [e]; grind
  have e2 : sm (fun i => (i : Rat) * f i * g (s + 1 - i)) (s + 2) = a * cw F g s := by
    rw [sm_shift]
    unfold cw
    rw [← sm_mul]
    have e0 : ((0 : Nat) : Rat) * f 0 * g (s + 1 - 0) = 0 := by simp
    rw [e0]
    have : sm (fun i => ((i + 1 : Nat) : Rat) * f (i + 1) * g (s + 1 - (i + 1))) (s + 1) = sm (fun i => a * (F i * g (s - i))) (s + 1) := sm_cong _ (fun i hi => by rw [hf, show s + 1 - (i + 1) = s - i by omega]; grind)
    rw [this]; grind
  have e3 : sm (fun i => ((s + 1 - i : Nat) : Rat) * f i * g (s + 1 - i)) (s + 2) = b * cw f G s := by
    show sm (fun i => ((s + 1 - i : Nat) : Rat) * f i * g (s + 1 - i)) (s + 1) + ((s + 1 - (s + 1) : Nat) : Rat) * f (s + 1) * g (s + 1 - (s + 1)) = _
    have e0 : ((s + 1 - (s + 1) : Nat) : Rat) * f (s + 1) * g (s + 1 - (s + 1)) = 0 := by rw [Nat.sub_self]; simp
    rw [e0]
    unfold cw
    rw [← sm_mul]
    have : sm (fun i => ((s + 1 - i : Nat) : Rat) * f i * g (s + 1 - i)) (s + 1) = sm (fun i => b * (f i * G (s - i))) (s + 1) := sm_cong _ (fun i hi => by
      have k := hg (s - i)
      rw [show s + 1 - i = s - i + 1 by omega]
      generalize ((s - i + 1 : Nat) : Rat) = m at *
      grind)
    rw [this]; grind
  rw [e1, e2, e3]
theorem mul_inj {m x y : Rat} (hm : 0 < m) (h : m * x = m * y) : x = y := by
  have h3 : m * (x - y) = 0 := by grind
  rcases Rat.mul_eq_zero.mp h3 with q | q
  · exfalso; grind
  · grind
/-- the terms of a + b -/
theorem cw_add (a b : Rat) : ∀ s, cw (cr a) (cr b) s - cw (ci a) (ci b) s = cr (a + b) s ∧ cw (cr a) (ci b) s + cw (ci a) (cr b) s = ci (a + b) s
  | 0 => by
    have e1 : cw (cr a) (cr b) 0 = 0 + 1 * 1 := rfl
    have e2 : cw (ci a) (ci b) 0 = 0 + 0 * 0 := rfl
    have e3 : cw (cr a) (ci b) 0 = 0 + 1 * 0 := rfl
    have e4 : cw (ci a) (cr b) 0 = 0 + 0 * 1 := rfl
    have e5 : cr (a + b) 0 = 1 := rfl
    have e6 : ci (a + b) 0 = 0 := rfl
    rw [e1, e2, e3, e4, e5, e6]
    constructor <;> grind
  | s + 1 => by
    obtain ⟨i1, i2⟩ := cw_add a b s
    have hp := rn_pos s
    have fr : ∀ (a : Rat) (i : Nat), ((i + 1 : Nat) : Rat) * cr a (i + 1) = (-a) * ci a i := fun a i => by rw [cr_s]; grind
    have k1 := cw_s (fr a) (fr b) s
    have k2 := cw_s (ci_s a) (ci_s b) s
    have k3 := cw_s (fr a) (ci_s b) s
    have k4 := cw_s (ci_s a) (fr b) s
    have c1 := cr_s (a + b) s
    have c2 := ci_s (a + b) s
    generalize ((s + 1 : Nat) : Rat) = m at *
    constructor
    · exact mul_inj hp (by grind)
    · exact mul_inj hp (by grind)
/-- sums -/
def cR (a : Rat) (n : Nat) : Rat := sm (cr a) (n + 1)
def cI (a : Rat) (n : Nat) : Rat := sm (ci a) (n + 1)
theorem tri_gen (f g : Nat → Rat) : ∀ n, sm (cw f g) (n + 1) = sm (fun i => f i * sm g (n - i + 1)) (n + 1)
  | 0 => by
    show (0 : Rat) + (0 + f 0 * g 0) = 0 + f 0 * (0 + g 0)
    grind
  | n + 1 => by
    show sm (cw f g) (n + 1) + cw f g (n + 1) = sm (fun i => f i * sm g (n + 1 - i + 1)) (n + 1) + f (n + 1) * sm g (n + 1 - (n + 1) + 1)
    have e1 : sm (fun i => f i * sm g (n + 1 - i + 1)) (n + 1) = sm (fun i => f i * sm g (n - i + 1) + f i * g (n + 1 - i)) (n + 1) := sm_cong _ (fun i hi => by
      rw [show n + 1 - i = n - i + 1 by omega]
      show f i * (sm g (n - i + 1) + g (n - i + 1)) = _
      grind)
    have e2 : cw f g (n + 1) = sm (fun i => f i * g (n + 1 - i)) (n + 1) + f (n + 1) * g (n + 1 - (n + 1)) := rfl
    rw [e1, sm_add, tri_gen f g n, e2, Nat.sub_self]
    have e3 : sm g (0 + 1) = 0 + g 0 := rfl
    rw [e3]; grind
theorem pr_gen (f g : Nat → Rat) (n : Nat) : sm f (n + 1) * sm g (n + 1) - sm (cw f g) (n + 1) = sm (fun i => f i * (sm g (n + 1) - sm g (n - i + 1))) (n + 1) := by
  have e : sm f (n + 1) * sm g (n + 1) = sm (fun i => sm g (n + 1) * f i) (n + 1) := by rw [sm_mul]; grind
  have e2 : sm (fun i => f i * (sm g (n + 1) - sm g (n - i + 1))) (n + 1) + sm (fun i => f i * sm g (n - i + 1)) (n + 1) = sm (fun i => sm g (n + 1) * f i) (n + 1) := by
    rw [← sm_add]
    exact sm_cong _ (fun i hi => by grind)
  rw [tri_gen, e]
  grind
/-- bounds of the terms by those of the real series -/
theorem ct_bd {a α : Rat} (h : nb a α) : ∀ n, nb (cr a n) (eT α n) ∧ nb (ci a n) (eT α n)
  | 0 => by
    show nb 1 1 ∧ nb 0 1
    exact ⟨⟨by grind, by grind⟩, ⟨by grind, by grind⟩⟩
  | n + 1 => by
    obtain ⟨i1, i2⟩ := ct_bd h n
    have hp := rn_pos n
    have k1 := cr_s a n
    have k2 := ci_s a n
    have k3 := eT_s α n
    have m1 := nb_mul h i1
    have m2 := nb_mul h i2
    obtain ⟨u1, u2⟩ := m1
    obtain ⟨v1, v2⟩ := m2
    generalize ((n + 1 : Nat) : Rat) = m at *
    refine ⟨⟨?_, ?_⟩, ⟨?_, ?_⟩⟩
    · exact mul_cancel_le hp (by grind)
    · exact mul_cancel_le hp (by grind)
    · exact mul_cancel_le hp (by grind)
    · exact mul_cancel_le hp (by grind)
theorem sm_bd {f : Nat → Rat} {α : Rat} (h : ∀ i, nb (f i) (eT α i)) (m : Nat) : ∀ k, nb (sm f (m + k) - sm f m) (sm (eT α) (m + k) - sm (eT α) m)
  | 0 => by rw [Nat.add_zero]; constructor <;> grind
  | k + 1 => by
    have a := sm_bd h m k
    have s := nb_add a (h (m + k))
    have e1 : sm f (m + (k + 1)) = sm f (m + k) + f (m + k) := rfl
    have e2 : sm (eT α) (m + (k + 1)) = sm (eT α) (m + k) + eT α (m + k) := rfl
    rw [e1, e2]
    obtain ⟨u, v⟩ := s
    constructor <;> grind
/-- a product of two sums against the sum of products -/
theorem pr_bd {f g : Nat → Rat} {α β : Rat} (hf : ∀ i, nb (f i) (eT α i)) (hg : ∀ i, nb (g i) (eT β i)) (n : Nat) : nb (sm f (n + 1) * sm g (n + 1) - sm (cw f g) (n + 1)) (eS α n * eS β n - eS (α + β) n) := by
  rw [pr_gen, df_sm]
  have key : ∀ i, i < n + 1 → nb (f i * (sm g (n + 1) - sm g (n - i + 1))) (eT α i * (eS β n - eS β (n - i))) := fun i hi => by
    have k := sm_bd hg (n - i + 1) i
    rw [show n - i + 1 + i = n + 1 by omega, ← eS_sm, ← eS_sm] at k
    exact nb_mul (hf i) k
  have gen : ∀ (F G : Nat → Rat) (m : Nat), (∀ i, i < m → nb (F i) (G i)) → nb (sm F m) (sm G m) := fun F G m h => by
    induction m with
    | zero => show nb 0 0; exact ⟨by grind, by grind⟩
    | succ m ih => exact nb_add (ih (fun i hi => h i (by omega))) (h m (by omega))
  exact gen _ _ _ key
theorem sm_sub (f g : Nat → Rat) : ∀ n, sm (fun i => f i - g i) n = sm f n - sm g n
  | 0 => by show (0 : Rat) = 0 - 0; grind
  | n + 1 => by show sm _ n + (f n - g n) = sm f n + f n - (sm g n + g n); rw [sm_sub f g n]; grind
/-- the sums of a + b -/
theorem cx_add {a b α β : Rat} (ha : nb a α) (hb : nb b β) (n : Nat) : nb (cR a n * cR b n - cI a n * cI b n - cR (a + b) n) (2 * (eS α n * eS β n - eS (α + β) n)) ∧ nb (cR a n * cI b n + cI a n * cR b n - cI (a + b) n) (2 * (eS α n * eS β n - eS (α + β) n)) := by
  have ra := fun i => (ct_bd ha i).1
  have ia := fun i => (ct_bd ha i).2
  have rb := fun i => (ct_bd hb i).1
  have ib := fun i => (ct_bd hb i).2
  have k1 := pr_bd ra rb n
  have k2 := pr_bd ia ib n
  have k3 := pr_bd ra ib n
  have k4 := pr_bd ia rb n
  have e1 : cR (a + b) n = sm (cw (cr a) (cr b)) (n + 1) - sm (cw (ci a) (ci b)) (n + 1) := by
    rw [← sm_sub]
    exact sm_cong _ (fun i _ => ((cw_add a b i).1).symm)
  have e2 : cI (a + b) n = sm (cw (cr a) (ci b)) (n + 1) + sm (cw (ci a) (cr b)) (n + 1) := by
    rw [← sm_add]
    exact sm_cong _ (fun i _ => ((cw_add a b i).2).symm)
  rw [e1, e2]
  have s1 := nb_add k1 (nb_neg k2)
  have s2 := nb_add k3 k4
  unfold cR cI
  obtain ⟨u1, u2⟩ := s1
  obtain ⟨v1, v2⟩ := s2
  refine ⟨⟨?_, ?_⟩, ⟨?_, ?_⟩⟩ <;> grind
