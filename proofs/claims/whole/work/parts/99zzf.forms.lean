/-! many whole numbers of either sign in one -/
def pkI (P : Nat) : List Int → Int
  | [] => 0
  | a :: l => a + P * pkI P l
def adI : List Int → List Int → List Int
  | [], m => m
  | a :: l, [] => a :: l
  | a :: l, b :: m => (a + b) :: adI l m
def smI (c : Int) : List Int → List Int
  | [] => []
  | a :: l => (c * a) :: smI c l
def sltI : List Int → List (List Int) → List Int
  | m :: ms, k :: ks => adI (smI m k) (sltI ms ks)
  | _, _ => []
def dtI : List Int → List Int → Int
  | m :: ms, k :: ks => m * k + dtI ms ks
  | _, _ => 0
def dtN : List Nat → List Nat → Nat
  | m :: ms, k :: ks => m * k + dtN ms ks
  | _, _ => 0
def dtR : List Int → List Rat → Rat
  | m :: ms, x :: xs => (m : Rat) * x + dtR ms xs
  | _, _ => 0
def dtE : List Nat → List Rat → Rat
  | m :: ms, x :: xs => (m : Rat) * x + dtE ms xs
  | _, _ => 0
def mxA : List Int → Nat
  | [] => 0
  | a :: l => max a.natAbs (mxA l)
def bdm : List Int → List Nat → Bool
  | [], [] => true
  | m :: ms, g :: gs => Nat.ble m.natAbs g && bdm ms gs
  | _, _ => false
def nsu : List Int → Nat
  | [] => 0
  | a :: l => a.natAbs + nsu l
def cst : List Int → List Rat
  | [] => []
  | a :: l => (a : Rat) :: cst l
theorem pkI_ad (P : Nat) : ∀ l m, pkI P (adI l m) = pkI P l + pkI P m
  | [], m => by show pkI P m = 0 + pkI P m; omega
  | a :: l, [] => by show pkI P (a :: l) = pkI P (a :: l) + 0; omega
  | a :: l, b :: m => by
    have ih := pkI_ad P l m
    show (a + b) + (P : Int) * pkI P (adI l m) = a + P * pkI P l + (b + P * pkI P m)
    rw [ih, Int.mul_add]; omega
theorem pkI_sm (P : Nat) (c : Int) : ∀ l, pkI P (smI c l) = c * pkI P l
  | [] => by show (0 : Int) = c * 0; omega
  | a :: l => by
    have ih := pkI_sm P c l
    show c * a + (P : Int) * pkI P (smI c l) = c * (a + P * pkI P l)
    rw [ih, Int.mul_add, Int.mul_left_comm]
theorem pkI_slt (P : Nat) : ∀ ms ks, pkI P (sltI ms ks) = dtI ms (ks.map (pkI P))
  | [], _ => rfl
  | _ :: _, [] => rfl
  | m :: ms, k :: ks => by
    have ih := pkI_slt P ms ks
    show pkI P (adI (smI m k) (sltI ms ks)) = m * pkI P k + dtI ms (ks.map (pkI P))
    rw [pkI_ad, pkI_sm, ih]
theorem adI_bd {B C : Nat} : ∀ {l m : List Int}, (∀ a, a ∈ l → a.natAbs ≤ B) → (∀ a, a ∈ m → a.natAbs ≤ C) → ∀ a, a ∈ adI l m → a.natAbs ≤ B + C
  | [], m, _, h2, a, ha => by
    have := h2 a ha; omega
  | b :: l, [], h1, _, a, ha => by
    have := h1 a ha; omega
  | b :: l, c :: m, h1, h2, a, ha => by
    have q : a ∈ (b + c) :: adI l m := ha
    rcases List.mem_cons.mp q with e | e
    · have k1 := h1 b (List.mem_cons_self)
      have k2 := h2 c (List.mem_cons_self)
      rw [e]; omega
    · exact adI_bd (fun x hx => h1 x (List.mem_cons_of_mem _ hx)) (fun x hx => h2 x (List.mem_cons_of_mem _ hx)) a e
theorem mxA_le : ∀ {l : List Int} {a : Int}, a ∈ l → a.natAbs ≤ mxA l
  | [], a, ha => absurd ha (List.not_mem_nil)
  | b :: l, a, ha => by
    show a.natAbs ≤ max b.natAbs (mxA l)
    rcases List.mem_cons.mp ha with e | e
    · rw [e]; omega
    · have := mxA_le e; omega
theorem smI_bd {c : Int} {g : Nat} (hc : c.natAbs ≤ g) : ∀ {l : List Int} {B : Nat}, (∀ a, a ∈ l → a.natAbs ≤ B) → ∀ a, a ∈ smI c l → a.natAbs ≤ g * B
  | [], _, _, a, ha => absurd ha (List.not_mem_nil)
  | b :: l, B, h, a, ha => by
    have q : a ∈ (c * b) :: smI c l := ha
    rcases List.mem_cons.mp q with e | e
    · have k1 := h b (List.mem_cons_self)
      rw [e, Int.natAbs_mul]
      exact Nat.mul_le_mul hc k1
    · exact smI_bd hc (fun x hx => h x (List.mem_cons_of_mem _ hx)) a e
theorem slt_bd : ∀ {ms : List Int} {ks : List (List Int)} {gs : List Nat}, bdm ms gs = true → ∀ a, a ∈ sltI ms ks → a.natAbs ≤ dtN gs (ks.map mxA)
  | [], _, _, _, a, ha => absurd ha (List.not_mem_nil)
  | _ :: _, [], _, _, a, ha => absurd ha (List.not_mem_nil)
  | m :: ms, k :: ks, [], h, _, _ => by cases h
  | m :: ms, k :: ks, g :: gs, h, a, ha => by
    have h' : (Nat.ble m.natAbs g && bdm ms gs) = true := h
    rw [Bool.and_eq_true] at h'
    have ih := slt_bd (ks := ks) h'.2
    exact adI_bd (smI_bd (Nat.le_of_ble_eq_true h'.1) (fun x hx => mxA_le hx)) ih a ha
theorem adI_len {n : Nat} : ∀ {l m : List Int}, l.length ≤ n → m.length ≤ n → (adI l m).length ≤ n
  | [], _, _, h2 => h2
  | _ :: _, [], h1, _ => h1
  | a :: l, b :: m, h1, h2 => by
    have k1 : l.length + 1 ≤ n := h1
    have k2 : m.length + 1 ≤ n := h2
    have := adI_len (n := n - 1) (l := l) (m := m) (by omega) (by omega)
    show (adI l m).length + 1 ≤ n
    omega
theorem smI_len (c : Int) : ∀ l : List Int, (smI c l).length = l.length
  | [] => rfl
  | a :: l => by show (smI c l).length + 1 = l.length + 1; rw [smI_len c l]
theorem slt_len {n : Nat} : ∀ {ms : List Int} {ks : List (List Int)}, (∀ k, k ∈ ks → k.length ≤ n) → (sltI ms ks).length ≤ n
  | [], _, _ => Nat.zero_le _
  | _ :: _, [], _ => Nat.zero_le _
  | m :: ms, k :: ks, h => adI_len (by rw [smI_len]; exact h k (List.mem_cons_self)) (slt_len (fun x hx => h x (List.mem_cons_of_mem _ hx)))
/-- the lanes' sum, each without its sign; a lane holds its number and h -/
def dsm (P h : Nat) : Nat → Nat → Nat
  | 0, _ => 0
  | n + 1, X => Nat.add (Nat.add (Nat.sub (Nat.mod X P) h) (Nat.sub h (Nat.mod X P))) (dsm P h n (Nat.div X P))
def ofI (P h : Nat) : Nat → Int
  | 0 => 0
  | n + 1 => h + P * ofI P h n
theorem dsm_ok {P h : Nat} (h0 : 0 < h) (hP : P = 2 * h) : ∀ (n : Nat) (l : List Int) (X : Nat), l.length ≤ n → (∀ a, a ∈ l → a.natAbs < h) → (X : Int) = pkI P l + ofI P h n → dsm P h n X = nsu l
  | 0, [], _, _, _, _ => rfl
  | 0, a :: l, _, hl, _, _ => by
    have : l.length + 1 ≤ 0 := hl
    omega
  | n + 1, [], X, _, _, e => by
    have e' : (X : Int) = 0 + (h + P * ofI P h n) := e
    have e2 : (X : Int) = h + P * ofI P h n := by omega
    have p1 : ((X : Int) % (P : Int)) = h := by
      rw [e2, Int.add_mul_emod_self_left]
      exact Int.emod_eq_of_lt (by omega) (by omega)
    have p2 : ((X : Int) / (P : Int)) = ofI P h n := by
      rw [e2, Int.add_mul_ediv_left _ _ (by omega), Int.ediv_eq_zero_of_lt (by omega) (by omega)]
      omega
    have q1 : X % P = h := by omega
    have q2 : ((X / P : Nat) : Int) = ofI P h n := by rw [Int.natCast_ediv]; exact p2
    have ih := dsm_ok h0 hP n [] (X / P) (Nat.zero_le _) (fun a ha => absurd ha (List.not_mem_nil)) (by rw [q2]; show ofI P h n = 0 + ofI P h n; omega)
    show (X % P - h) + (h - X % P) + dsm P h n (X / P) = nsu []
    rw [ih, q1]
    show h - h + (h - h) + 0 = 0
    omega
  | n + 1, a :: l, X, hl, hb, e => by
    have ha := hb a (List.mem_cons_self)
    have e' : (X : Int) = a + P * pkI P l + (h + P * ofI P h n) := e
    have e2 : (X : Int) = (a + h) + P * (pkI P l + ofI P h n) := by rw [e', Int.mul_add]; omega
    have p1 : ((X : Int) % (P : Int)) = a + h := by
      rw [e2, Int.add_mul_emod_self_left]
      exact Int.emod_eq_of_lt (by omega) (by omega)
    have p2 : ((X : Int) / (P : Int)) = pkI P l + ofI P h n := by
      rw [e2, Int.add_mul_ediv_left _ _ (by omega), Int.ediv_eq_zero_of_lt (by omega) (by omega)]
      omega
    have q2 : ((X / P : Nat) : Int) = pkI P l + ofI P h n := by rw [Int.natCast_ediv]; exact p2
    have q1 : ((X % P : Nat) : Int) = a + h := by rw [Int.natCast_emod]; exact p1
    have ih := dsm_ok h0 hP n l (X / P) (by have : l.length + 1 ≤ n + 1 := hl; omega) (fun x hx => hb x (List.mem_cons_of_mem _ hx)) q2
    show (X % P - h) + (h - X % P) + dsm P h n (X / P) = a.natAbs + nsu l
    rw [ih]
    omega
theorem chV_cst_ad (s : Rat) : ∀ (l m : List Int) (p q : Rat), chV s (cst (adI l m)) p q = chV s (cst l) p q + chV s (cst m) p q
  | [], m, p, q => by show chV s (cst m) p q = 0 + chV s (cst m) p q; grind
  | a :: l, [], p, q => by show chV s (cst (a :: l)) p q = chV s (cst (a :: l)) p q + 0; grind
  | a :: l, b :: m, p, q => by
    have ih := chV_cst_ad s l m q (2 * s * q - p)
    show ((a + b : Int) : Rat) * p + chV s (cst (adI l m)) q (2 * s * q - p) = (a : Rat) * p + chV s (cst l) q (2 * s * q - p) + ((b : Rat) * p + chV s (cst m) q (2 * s * q - p))
    rw [ih, Rat.intCast_add]; grind
theorem chV_cst_sm (s : Rat) (c : Int) : ∀ (l : List Int) (p q : Rat), chV s (cst (smI c l)) p q = (c : Rat) * chV s (cst l) p q
  | [], p, q => by show (0 : Rat) = (c : Rat) * 0; grind
  | a :: l, p, q => by
    have ih := chV_cst_sm s c l q (2 * s * q - p)
    show ((c * a : Int) : Rat) * p + chV s (cst (smI c l)) q (2 * s * q - p) = (c : Rat) * ((a : Rat) * p + chV s (cst l) q (2 * s * q - p))
    rw [ih, Rat.intCast_mul]; grind
theorem chE_slt (s : Rat) : ∀ (ms : List Int) (ks : List (List Int)), chE (cst (sltI ms ks)) s = dtR ms (ks.map (fun k => chE (cst k) s))
  | [], _ => rfl
  | _ :: _, [] => rfl
  | m :: ms, k :: ks => by
    have ih := chE_slt s ms ks
    show chV s (cst (adI (smI m k) (sltI ms ks))) 1 s = (m : Rat) * chE (cst k) s + dtR ms (ks.map (fun k => chE (cst k) s))
    rw [chV_cst_ad, chV_cst_sm, ← ih]
    rfl
theorem nb_abs (a : Int) : nb (a : Rat) (a.natAbs : Rat) := by
  have h1 : -(a.natAbs : Int) ≤ a := by omega
  have h2 : a ≤ (a.natAbs : Int) := by omega
  have r1 : ((-(a.natAbs : Int) : Int) : Rat) ≤ (a : Rat) := Rat.intCast_le_intCast.mpr h1
  have r2 : (a : Rat) ≤ (((a.natAbs : Int)) : Rat) := Rat.intCast_le_intCast.mpr h2
  rw [Rat.intCast_neg] at r1
  exact ⟨r1, r2⟩
theorem abL_cst : ∀ l : List Int, abL (cst l) ≤ (nsu l : Rat)
  | [] => by show (0 : Rat) ≤ ((0 : Nat) : Rat); decide
  | a :: l => by
    have ih := abL_cst l
    have k := rab_le (nb_abs a)
    show rab (a : Rat) + abL (cst l) ≤ ((a.natAbs + nsu l : Nat) : Rat)
    rw [Rat.natCast_add]
    grind
/-- lists that are near, one by one -/
def nrL : List Rat → List Rat → List Rat → Prop
  | [], [], [] => True
  | x :: xs, y :: ys, e :: es => nb (x - y) e ∧ nrL xs ys es
  | _, _, _ => False
theorem dtR_nr : ∀ {ms : List Int} {gs : List Nat} {xs ys es : List Rat}, bdm ms gs = true → nrL xs ys es → nb (dtR ms xs - dtR ms ys) (dtE gs es)
  | [], [], _, _, _, _, _ => by
    show nb (0 - 0) 0
    constructor <;> grind
  | [], _ :: _, _, _, _, h, _ => by cases h
  | _ :: _, [], _, _, _, h, _ => by cases h
  | m :: ms, g :: gs, [], [], [], _, _ => by
    show nb (0 - 0) 0
    constructor <;> grind
  | m :: ms, g :: gs, x :: xs, y :: ys, e :: es, h, k => by
    have h' : (Nat.ble m.natAbs g && bdm ms gs) = true := h
    rw [Bool.and_eq_true] at h'
    have ih := dtR_nr h'.2 k.2
    have m0 := nb_abs m
    have mg : (m.natAbs : Rat) ≤ (g : Rat) := Rat.natCast_le_natCast.mpr (Nat.le_of_ble_eq_true h'.1)
    have q := nb_mul (nb_mono m0 mg) k.1
    show nb ((m : Rat) * x + dtR ms xs - ((m : Rat) * y + dtR ms ys)) ((g : Rat) * e + dtE gs es)
    obtain ⟨q1, q2⟩ := q
    obtain ⟨i1, i2⟩ := ih
    constructor <;> grind
  | _ :: _, _ :: _, [], _ :: _, _, _, k => by cases k
  | _ :: _, _ :: _, [], [], _ :: _, _, k => by cases k
  | _ :: _, _ :: _, _ :: _, [], _, _, k => by cases k
  | _ :: _, _ :: _, _ :: _, _ :: _, [], _, k => by cases k
/-- the sum's size by its lanes -/
theorem form_bd {P h n T : Nat} {s : Rat} {ms : List Int} {ks : List (List Int)} {gs : List Nat} {φ ε : List Rat} (hs : s * s < 1) (h0 : 0 < h) (hP : P = 2 * h) (hb : bdm ms gs = true) (hh : dtN gs (ks.map mxA) < h) (hn : ∀ k, k ∈ ks → k.length ≤ n)
    (hc : dsm P h n (dtI ms (ks.map (pkI P)) + ofI P h n).toNat ≤ T) (hφ : nrL φ (ks.map (fun k => chE (cst k) s)) ε) : nb (dtR ms φ) ((T : Rat) + dtE gs ε) := by
  have b1 : ∀ a, a ∈ sltI ms ks → a.natAbs < h := fun a ha => Nat.lt_of_le_of_lt (slt_bd hb a ha) hh
  have hnn : ∀ (n : Nat) (l : List Int), l.length ≤ n → (∀ a, a ∈ l → a.natAbs < h) → 0 ≤ pkI P l + ofI P h n := by
    intro n
    induction n with
    | zero =>
      intro l hl _
      cases l with
      | nil => exact Int.le_refl _
      | cons a l => have : l.length + 1 ≤ 0 := hl; omega
    | succ n ih =>
      intro l hl hb
      cases l with
      | nil =>
        have k := ih [] (Nat.zero_le _) (fun a ha => absurd ha (List.not_mem_nil))
        have k' : 0 ≤ 0 + ofI P h n := k
        have m := Int.mul_nonneg (show (0 : Int) ≤ (P : Int) by omega) (show 0 ≤ ofI P h n by omega)
        show 0 ≤ 0 + ((h : Int) + P * ofI P h n)
        omega
      | cons a l =>
        have k := ih l (by have : l.length + 1 ≤ n + 1 := hl; omega) (fun x hx => hb x (List.mem_cons_of_mem _ hx))
        have ha := hb a (List.mem_cons_self)
        have m := Int.mul_nonneg (show (0 : Int) ≤ (P : Int) by omega) k
        rw [Int.mul_add] at m
        show 0 ≤ a + P * pkI P l + ((h : Int) + P * ofI P h n)
        omega
  have l1 := slt_len (ms := ms) hn
  have nn := hnn n (sltI ms ks) l1 b1
  rw [← pkI_slt] at hc
  have d := dsm_ok h0 hP n (sltI ms ks) (pkI P (sltI ms ks) + ofI P h n).toNat l1 b1 (Int.toNat_of_nonneg nn)
  rw [d] at hc
  have e1 := chE_bd hs (cst (sltI ms ks))
  have e2 : (nsu (sltI ms ks) : Rat) ≤ (T : Rat) := Rat.natCast_le_natCast.mpr hc
  have e3 := abL_cst (sltI ms ks)
  rw [chE_slt] at e1
  have e4 := dtR_nr hb hφ
  obtain ⟨a1, a2⟩ := e1
  obtain ⟨c1, c2⟩ := e4
  constructor <;> grind
