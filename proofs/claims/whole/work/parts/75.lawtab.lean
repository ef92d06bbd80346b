/-! tables: the class's answers are the reference's -/
theorem xor_lt {a b : Int64} (hb : 0 < b.toInt) : (a ^^^ b) < 0 ↔ a.toInt < 0 := by
  rw [i64_lt, show (0 : Int64).toInt = 0 from rfl]
  show (a ^^^ b).toBitVec.toInt < 0 ↔ a.toBitVec.toInt < 0
  rw [Int64.toBitVec_xor]
  have h1 : ∀ x : BitVec 64, x.toInt < 0 ↔ x.msb = true := fun x => by rw [BitVec.msb_eq_toInt]; simp
  rw [h1, h1, BitVec.msb_xor]
  have h2 : b.toBitVec.msb = false := by
    rw [BitVec.msb_eq_toInt]
    have : 0 < b.toBitVec.toInt := hb
    simp; omega
  rw [h2]; simp
theorem dn_fd {a b : Int64} (hb : 0 < b.toInt) : dn_v a b = pu_fdl a b := by
  have hA := tI_bd a; have hB := tI_bd b
  unfold dn_v pu_fdl
  by_cases h0 : a.toInt < 0
  · obtain ⟨c, hc⟩ : ∃ c : Int, a.toInt = -c := ⟨-a.toInt, by omega⟩
    have d0 := dv_le (d := c) (q := b.toInt) (by omega) hb
    have d1 := Int.ediv_mul_le c (b := b.toInt) (by omega)
    have d2 := Int.mul_nonneg d0.1 (Int.le_of_lt hb)
    have e1 : (a / b).toInt = -(c / b.toInt) := by
      rw [Int64.toInt_div, hc, Int.neg_tdiv, Int.tdiv_eq_ediv_of_nonneg (by omega)]
      exact tI_fit (by omega) (by omega)
    have e3 : -(c / b.toInt) * b.toInt = -(c / b.toInt * b.toInt) := Int.neg_mul _ _
    have e2 : (a / b * b).toInt = -(c / b.toInt * b.toInt) := by
      rw [tI_mul (by rw [e1, e3]; omega) (by rw [e1, e3]; omega), e1, e3]
    by_cases h1 : a / b * b = a
    · rw [if_pos (show a / b * b ≤ a from (i64_le _ _).mpr (by rw [h1]; exact Int.le_refl _)), if_neg (fun q => q.2 h1)]
    · have h2 : (a / b * b).toInt ≠ a.toInt := fun q => h1 (Int64.toInt_inj.mp q)
      rw [if_neg (fun q => by have := (i64_le _ _).mp q; omega), if_pos ⟨(xor_lt hb).mpr h0, h1⟩]
  · have e1 : (a / b).toInt = a.toInt / b.toInt := tI_div (by omega) hb
    have d0 := dv_le (d := a.toInt) (q := b.toInt) (by omega) hb
    have d1 := Int.ediv_mul_le a.toInt (b := b.toInt) (by omega)
    have d2 := Int.mul_nonneg d0.1 (Int.le_of_lt hb)
    have e2 : (a / b * b).toInt = a.toInt / b.toInt * b.toInt := by
      rw [tI_mul (by rw [e1]; omega) (by rw [e1]; omega), e1]
    rw [if_pos ((i64_le _ _).mpr (by omega)), if_neg (fun q => h0 ((xor_lt hb).mp q.1))]
theorem tb_sc_skip {cn : Nat} {P V : Nat → Int32} {pl : Int32} : ∀ n i j, (∀ x, i ≤ x → x < i + j → ¬ pl ≤ P x) → tb_sc cn P V pl (n + j) i = tb_sc cn P V pl n (i + j)
  | n, i, 0, _ => rfl
  | n, i, j + 1, h => by
    rw [← Nat.add_assoc n j 1]
    show (if pl ≤ P i then _ else tb_sc cn P V pl (n + j) (i + 1)) = _
    rw [if_neg (h i (Nat.le_refl _) (by omega)), tb_sc_skip n (i + 1) j (fun x h1 h2 => h x (by omega) (by omega)), Nat.add_assoc i 1 j, Nat.add_comm 1 j]
theorem i32_sub64 {a b : Int32} : (a.toInt64 - b.toInt64).toInt = a.toInt - b.toInt := by
  have := Int32.toInt_lt a; have := Int32.le_toInt a; have := Int32.toInt_lt b; have := Int32.le_toInt b
  rw [tI_sub (by rw [Int32.toInt_toInt64, Int32.toInt_toInt64]; omega) (by rw [Int32.toInt_toInt64, Int32.toInt_toInt64]; omega), Int32.toInt_toInt64, Int32.toInt_toInt64]
theorem rv_tb {cn : Nat} {P V P' V' : Nat → Int32} {pl : Int32} (hc : cn ≤ 20) (hP : ∀ i, i < cn → P' i = P i) (hV : ∀ i, i < cn → V' i = V i) (hasc : ∀ i, i + 1 < cn → P' i < P' (i + 1)) : rv_v cn P' V' pl = tb_val cn P V pl := by
  obtain ⟨k1, k2, k3⟩ := rv_kok (cn := cn) (P := P') (pl := pl) hc
  unfold rv_v tb_val
  generalize rv_k cn P' pl = k at *
  by_cases h0 : cn = 0
  · rw [if_pos h0, if_pos h0]
  · rw [if_neg h0, if_neg h0]
    by_cases hk : k = cn
    · have hs : ∀ x, x < cn → ¬ pl ≤ P x := fun x hx => by rw [← hP x hx]; exact Int32.not_le.mpr (k2 x (by omega)).2
      rw [if_pos hk, if_neg (hs 0 (by omega)), hV _ (by omega)]
      have := tb_sc_skip (cn := cn) (P := P) (V := V) (pl := pl) 0 1 (cn - 1) (fun x h1 h2 => hs x (by omega))
      rw [Nat.zero_add] at this
      rw [this]; rfl
    · rw [if_neg hk]
      have hkc : k < cn := by omega
      have hpk := Int32.not_lt.mp (k3 hkc)
      by_cases hk0 : k = 0
      · subst hk0
        rw [if_pos rfl, if_pos (by rw [← hP 0 hkc]; exact hpk), hV 0 hkc]
      · have hs : ∀ x, x < k → ¬ pl ≤ P x := fun x hx => by rw [← hP x (by omega)]; exact Int32.not_le.mpr (k2 x hx).2
        rw [if_neg hk0, if_neg (hs 0 (by omega))]
        have := tb_sc_skip (cn := cn) (P := P) (V := V) (pl := pl) (cn - 1 - (k - 1)) 1 (k - 1) (fun x h1 h2 => hs x (by omega))
        rw [show cn - 1 - (k - 1) + (k - 1) = cn - 1 by omega, show 1 + (k - 1) = k by omega] at this
        rw [this, show cn - 1 - (k - 1) = (cn - 1 - k) + 1 by omega]
        show _ = if pl ≤ P k then tb_bf P V k pl else _
        rw [if_pos (by rw [← hP k hkc]; exact hpk)]
        have hlt := hasc (k - 1) (by omega)
        rw [show k - 1 + 1 = k by omega] at hlt
        have hd : 0 < ((P' k).toInt64 - (P' (k - 1)).toInt64).toInt := by rw [i32_sub64]; have := (i32_lt _ _).mp hlt; omega
        rw [dn_fd hd, hP k hkc, hP (k - 1) (by omega), hV k hkc, hV (k - 1) (by omega)]
        rw [hP k hkc, hP (k - 1) (by omega)] at hd
        exact (if_pos ((i64_lt _ _).mpr (show (0 : Int64).toInt < _ from hd))).symm
theorem jn_eq (a b : Int64) : jn9 a b = jn_v a b := by
  unfold jn9 jn_v
  by_cases h : a = -9223372036854775808
  · rw [if_pos h, if_pos (Or.inl h)]
  · by_cases h2 : b = -9223372036854775808
    · rw [if_neg h, if_pos h2, if_pos (Or.inr h2)]
    · rw [if_neg h, if_neg h2, if_neg (fun q => q.elim h h2)]
/-- at -/
theorem at_eq {n f : Nat} {cc : Nat → Nat} {P9 V9 : Nat → Int32} {tc : Nat} {T : fq_T} (hJ : lw_J n f cc P9 V9 tc T) {j : Nat} (hj : j < tc) (pl : Int32) : rv_v (cc j) (fun i => P9 (20 * j + i)) (fun i => V9 (20 * j + i)) pl = tb_val (T j).1 (T j).2.1 (T j).2.2 pl := by
  obtain ⟨h1, h2, h3, h4, h5, h6, h7, h8⟩ := hJ
  have hc := h6 j hj
  have := h4 j (by omega)
  rw [hc]
  exact rv_tb (by omega) (fun i hi => (h7 j hj i (by omega)).1) (fun i hi => (h7 j hj i (by omega)).2) (fun i hi => h8 j hj i (by omega))
theorem it_none {n : Nat} {t : Int32} (hn : n ≤ 6) (h : it_v n t = 0) : ¬ ∃ j : Nat, j < n ∧ t = nI j := fun ⟨j, hj, e⟩ => it_no hn hj (e ▸ h)
theorem it_some {n : Nat} {t : Int32} (hn : n ≤ 6) (h : ¬ ∃ j : Nat, j < n ∧ t = nI j) : it_v n t = 0 := Decidable.byContradiction (fun q => h (it_ex hn q))
/-- is_nb as the class tells it -/
theorem nb_iff {p : Int32} : ¬ is_nb p = 0 ↔ (-1000000000 ≤ p.toInt64 ∧ p.toInt64 ≤ 1000000000) := by
  unfold is_nb
  constructor
  · intro h
    by_cases q : p < -1000000000
    · rw [if_pos q] at h; exact absurd rfl h
    · rw [if_neg q] at h
      by_cases q2 : 1000000000 < p
      · rw [if_pos q2] at h; exact absurd rfl h
      · exact ⟨(show (-1000000000 : Int64) = (-1000000000 : Int32).toInt64 by decide) ▸ t64_le.mpr (Int32.not_lt.mp q), (show (1000000000 : Int64) = (1000000000 : Int32).toInt64 by decide) ▸ t64_le.mpr (Int32.not_lt.mp q2)⟩
  · intro h
    obtain ⟨a, b⟩ := rg_of (lo' := -1000000000) (hi' := 1000000000) (by decide) (by decide) h
    rw [if_neg a, if_neg (Int32.not_lt.mpr b)]; decide
theorem nb_no {p : Int32} : is_nb p = 0 ↔ (p.toInt64 < -1000000000 ∨ 1000000000 < p.toInt64) := by
  constructor
  · intro h
    by_cases q : p.toInt64 < -1000000000
    · exact Or.inl q
    · by_cases q2 : 1000000000 < p.toInt64
      · exact Or.inr q2
      · exact absurd h (nb_iff.mpr ⟨Int64.not_lt.mp q, Int64.not_lt.mp q2⟩)
  · intro h
    exact Decidable.byContradiction (fun q => by
      have := nb_iff.mp q
      rcases h with h | h
      · exact absurd this.1 (Int64.not_le.mpr h)
      · exact absurd this.2 (Int64.not_le.mpr h))
/-- a new table -/
theorem J_table {n f : Nat} {cc : Nat → Nat} {P9 V9 : Nat → Int32} {tc : Nat} {T : fq_T} (hJ : lw_J n f cc P9 V9 tc T) (h : tc < 6) : lw_J (n + 1) f (nu cc n 0) P9 V9 (tc + 1) T := by
  obtain ⟨h1, h2, h3, h4, h5, h6, h7, h8⟩ := hJ
  subst h2
  refine ⟨h1, rfl, by omega, h4, fun j hj => h5 j (by omega), fun j hj => ?_, fun j hj i hi => ?_, fun j hj i hi => ?_⟩
  · by_cases e : j = n
    · rw [e, nu_eq, h5 n (Nat.le_refl _)]
    · rw [nu_ne _ _ e]; exact h6 j (by omega)
  · by_cases e : j = n
    · rw [e, nu_eq] at hi; exact absurd hi (Nat.not_lt_zero _)
    · rw [nu_ne _ _ e] at hi; exact h7 j (by omega) i hi
  · by_cases e : j = n
    · rw [e, nu_eq] at hi; exact absurd hi (by omega)
    · rw [nu_ne _ _ e] at hi; exact h8 j (by omega) i hi
theorem up9_eq (f : Nat → Int32) (k : Nat) (x : Int32) : upd f k x k = x := if_pos rfl
theorem up9_ne (f : Nat → Int32) {k j : Nat} (x : Int32) (h : j ≠ k) : upd f k x j = f j := if_neg h
theorem vup_eq {α : Type} (f : Nat → α) (k : Nat) (v : α) : va_up f k v k = v := if_pos rfl
theorem vup_ne {α : Type} (f : Nat → α) {k j : Nat} (v : α) (h : j ≠ k) : va_up f k v j = f j := if_neg h
theorem vup_id {α : Type} (f : Nat → α) (k : Nat) : va_up f k (f k) = f := by
  funext j
  by_cases h : j = k
  · rw [h, vup_eq]
  · rw [vup_ne _ _ h]
/-- a row that comes on -/
theorem J_row {n f : Nat} {cc : Nat → Nat} {P9 V9 : Nat → Int32} {tc : Nat} {T : fq_T} (hJ : lw_J n f cc P9 V9 tc T) {j : Nat} (hj : j < tc) (p v : Int32) (hc : ¬ cc j = 20) (hno : ¬ (0 < cc j ∧ p ≤ P9 (20 * j + cc j - 1))) :
    lw_J n f (nu cc j (cc j + 1)) (upd P9 (20 * j + cc j) p) (upd V9 (20 * j + cc j) v) tc (va_up T j ((T j).1 + 1, upd (T j).2.1 (T j).1 p, upd (T j).2.2 (T j).1 v)) := by
  obtain ⟨h1, h2, h3, h4, h5, h6, h7, h8⟩ := hJ
  have ec := h6 j hj
  have c20 := h4 j (by omega)
  refine ⟨h1, h2, h3, fun x hx => ?_, fun x hx => ?_, fun x hx => ?_, fun x hx i hi => ?_, fun x hx i hi => ?_⟩
  · by_cases e : x = j
    · rw [e, vup_eq]; show (T j).1 + 1 ≤ 20; omega
    · rw [vup_ne _ _ e]; exact h4 x hx
  · rw [vup_ne _ _ (show x ≠ j by omega)]; exact h5 x hx
  · by_cases e : x = j
    · rw [e, vup_eq, nu_eq, ec]
    · rw [vup_ne _ _ e, nu_ne _ _ e]; exact h6 x hx
  · by_cases e : x = j
    · subst e
      rw [nu_eq] at hi
      rw [vup_eq]
      by_cases e2 : i = cc x
      · rw [e2, up9_eq, up9_eq, ec]; exact ⟨(up9_eq _ _ _).symm, (up9_eq _ _ _).symm⟩
      · rw [up9_ne _ _ (by omega), up9_ne _ _ (by omega)]
        have := h7 x hj i (by omega)
        exact ⟨this.1.trans (up9_ne _ _ (by omega)).symm, this.2.trans (up9_ne _ _ (by omega)).symm⟩
    · rw [nu_ne _ _ e] at hi
      rw [vup_ne _ _ e]
      have hx20 : cc x ≤ 20 := by rw [h6 x hx]; exact h4 x (by omega)
      rw [up9_ne _ _ (by omega), up9_ne _ _ (by omega)]
      exact h7 x hx i hi
  · by_cases e : x = j
    · subst e
      rw [nu_eq] at hi
      by_cases e2 : i + 1 = cc x
      · rw [show 20 * x + i + 1 = 20 * x + cc x by omega, up9_eq, up9_ne _ _ (by omega)]
        have hno2 : ¬ p ≤ P9 (20 * x + cc x - 1) := fun q => hno ⟨by omega, q⟩
        rw [show 20 * x + cc x - 1 = 20 * x + i by omega] at hno2
        exact Int32.not_le.mp hno2
      · rw [up9_ne _ _ (by omega), up9_ne _ _ (by omega)]; exact h8 x hj i (by omega)
    · rw [nu_ne _ _ e] at hi
      have hx20 : cc x ≤ 20 := by rw [h6 x hx]; exact h4 x (by omega)
      rw [up9_ne _ _ (by omega), up9_ne _ _ (by omega)]; exact h8 x hx i hi
/-- the two sides at a row: what is refused, and why -/
theorem no_eq {n f : Nat} {cc : Nat → Nat} {P9 V9 : Nat → Int32} {tc : Nat} {T : fq_T} (hJ : lw_J n f cc P9 V9 tc T) {j : Nat} (hj : j < tc) (hc : ¬ cc j = 20) (p : Int32) : tb_no (T j).1 (T j).2.1 p ↔ (0 < cc j ∧ p ≤ P9 (20 * j + cc j - 1)) := by
  obtain ⟨h1, h2, h3, h4, h5, h6, h7, h8⟩ := hJ
  have ec := h6 j hj
  have c20 := h4 j (by omega)
  unfold tb_no
  constructor
  · rintro (h | ⟨h, h9⟩)
    · exact absurd h (by omega)
    · refine ⟨by omega, ?_⟩
      rw [show 20 * j + cc j - 1 = 20 * j + (cc j - 1) by omega, (h7 j hj (cc j - 1) (by omega)).1, ec]; exact h9
  · rintro ⟨h, h9⟩
    refine Or.inr ⟨by omega, ?_⟩
    rw [show 20 * j + cc j - 1 = 20 * j + (cc j - 1) by omega, (h7 j hj (cc j - 1) (by omega)).1, ec] at h9; exact h9
theorem J_cc {n f : Nat} {cc : Nat → Nat} {P9 V9 : Nat → Int32} {tc : Nat} {T : fq_T} (hJ : lw_J n f cc P9 V9 tc T) : n ≤ 6 ∧ (∀ j, j < n → cc j ≤ 20) ∧ (∀ j, j < n → ∀ i, i + 1 < cc j → P9 (20 * j + i) < P9 (20 * j + i + 1)) := by
  obtain ⟨h1, h2, h3, h4, h5, h6, h7, h8⟩ := hJ
  subst h2
  exact ⟨h3, fun j hj => by rw [h6 j hj]; exact h4 j (by omega), h8⟩
/-- table: both sides -/
theorem tb_step {n f : Nat} {cc : Nat → Nat} {P9 V9 : Nat → Int32} {tc : Nat} {T : fq_T} (hJ : lw_J n f cc P9 V9 tc T) {r1 v2 : Int32} {o1 : Nat → Int64} {tc1 : Nat} {w2 : Int32 × Nat × (Nat → Nat)}
    (h1 : (r1 = 0 ∧ tc < 6 ∧ o1 0 = (nI tc).toInt64 ∧ tc1 = tc + 1) ∨ (r1 = 1 ∧ tc = 6 ∧ tc1 = tc)) (h2 : (n = 6 ∧ v2 = 0 ∧ w2 = (1, n, cc)) ∨ (¬ n = 6 ∧ v2 = nI n ∧ w2 = (0, n + 1, nu cc n 0))) :
    r1 = w2.1 ∧ (r1 = 0 → o1 0 = v2.toInt64) ∧ lw_J w2.2.1 f w2.2.2 P9 V9 tc1 T := by
  have en : n = tc := hJ.2.1
  rcases h1 with ⟨a1, a2, a3, a4⟩ | ⟨a1, a2, a3⟩
  · rcases h2 with ⟨b1, -, -⟩ | ⟨b1, b2, b3⟩
    · exact absurd b1 (by omega)
    · subst b3; subst a4
      exact ⟨a1, fun _ => by rw [a3, b2, en], J_table hJ a2⟩
  · rcases h2 with ⟨b1, b2, b3⟩ | ⟨b1, -, -⟩
    · subst b3; subst a3
      exact ⟨a1, fun q => absurd (a1.symm.trans q) (by decide), hJ⟩
    · exact absurd (en.trans a2) b1
/-- at: both sides -/
theorem at_step {n f : Nat} {cc : Nat → Nat} {P9 V9 : Nat → Int32} {tc : Nat} {T : fq_T} (hJ : lw_J n f cc P9 V9 tc T) {t q r1 t2 : Int32} {v2 : Int64} {o1 : Nat → Int64}
    (h1 : (r1 = 0 ∧ ∃ j : Nat, j < tc ∧ t = nI j ∧ o1 0 = tb_val (T j).1 (T j).2.1 (T j).2.2 q) ∨ (r1 = 1 ∧ (¬ ∃ j : Nat, j < tc ∧ t = nI j))) (h2 : (it_v n t = 0 ∧ v2 = 0 ∧ t2 = 1) ∨ (∃ j, j < n ∧ t = nI j ∧ v2 = rv_v (cc j) (fun i => P9 (20 * j + i)) (fun i => V9 (20 * j + i)) q ∧ t2 = 0)) :
    r1 = t2 ∧ (r1 = 0 → o1 0 = v2) := by
  have en : n = tc := hJ.2.1
  have e6 := hJ.2.2.1
  subst en
  rcases h1 with ⟨a1, j, hj, ej, a2⟩ | ⟨a1, a2⟩
  · rcases h2 with ⟨b1, -, -⟩ | ⟨j2, hj2, ej2, b2, b3⟩
    · exact absurd ⟨j, hj, ej⟩ (it_none e6 b1)
    · have e := nI_inj (by omega) (by omega) (ej.symm.trans ej2)
      subst e
      exact ⟨a1.trans b3.symm, fun _ => by rw [a2, b2, at_eq hJ hj]⟩
  · rcases h2 with ⟨b1, b2, b3⟩ | ⟨j2, hj2, ej2, -, -⟩
    · exact ⟨a1.trans b3.symm, fun q => absurd (a1.symm.trans q) (by decide)⟩
    · exact absurd ⟨j2, hj2, ej2⟩ a2
/-- join: both sides -/
theorem jn_step {n f : Nat} {cc : Nat → Nat} {P9 V9 : Nat → Int32} {tc : Nat} {T : fq_T} (hJ : lw_J n f cc P9 V9 tc T) {t o q r1 t2 : Int32} {v2 : Int64} {o1 : Nat → Int64}
    (h1 : (r1 = 0 ∧ ∃ i j : Nat, (i < tc ∧ t = nI i) ∧ (j < tc ∧ o = nI j) ∧ o1 0 = jn_v (tb_val (T i).1 (T i).2.1 (T i).2.2 q) (tb_val (T j).1 (T j).2.1 (T j).2.2 q)) ∨ (r1 = 1 ∧ ((¬ ∃ j : Nat, j < tc ∧ t = nI j) ∨ (¬ ∃ j : Nat, j < tc ∧ o = nI j))))
    (h2 : ((it_v n t = 0 ∨ it_v n o = 0) ∧ v2 = 0 ∧ t2 = 1) ∨ (∃ i j, (i < n ∧ t = nI i) ∧ (j < n ∧ o = nI j) ∧ v2 = jn9 (rv_v (cc i) (fun x => P9 (20 * i + x)) (fun x => V9 (20 * i + x)) q) (rv_v (cc j) (fun i => P9 (20 * j + i)) (fun i => V9 (20 * j + i)) q) ∧ t2 = 0)) :
    r1 = t2 ∧ (r1 = 0 → o1 0 = v2) := by
  have en : n = tc := hJ.2.1
  have e6 := hJ.2.2.1
  subst en
  rcases h1 with ⟨a1, i, j, ⟨hi, ei⟩, ⟨hj, ej⟩, a2⟩ | ⟨a1, a2⟩
  · rcases h2 with ⟨b1, -, -⟩ | ⟨i2, j2, ⟨hi2, ei2⟩, ⟨hj2, ej2⟩, b2, b3⟩
    · exact b1.elim (fun b => absurd ⟨i, hi, ei⟩ (it_none e6 b)) (fun b => absurd ⟨j, hj, ej⟩ (it_none e6 b))
    · have e := nI_inj (by omega) (by omega) (ei.symm.trans ei2)
      have e' := nI_inj (by omega) (by omega) (ej.symm.trans ej2)
      subst e; subst e'
      exact ⟨a1.trans b3.symm, fun _ => by rw [a2, b2, at_eq hJ hi, at_eq hJ hj, jn_eq]⟩
  · rcases h2 with ⟨b1, b2, b3⟩ | ⟨i2, j2, h3, h4, -, -⟩
    · exact ⟨a1.trans b3.symm, fun q => absurd (a1.symm.trans q) (by decide)⟩
    · exact a2.elim (fun a => absurd ⟨i2, h3⟩ a) (fun a => absurd ⟨j2, h4⟩ a)
/-- row: both sides -/
theorem rw_step {n f : Nat} {cc : Nat → Nat} {P9 V9 : Nat → Int32} {tc : Nat} {T T1 : fq_T} (hJ : lw_J n f cc P9 V9 tc T) {t pl va r1 v2 : Int32} {o1 : Nat → Int64} {w2 : Int32 × (Nat → Nat) × (Nat → Int32) × (Nat → Int32)}
    (h1 : (r1 = 0 ∧ ∃ r9 : Int32, o1 0 = r9.toInt64 ∧ (-1000000000 ≤ pl.toInt64 ∧ pl.toInt64 ≤ 1000000000) ∧ (-1000000000 ≤ va.toInt64 ∧ va.toInt64 ≤ 1000000000) ∧ ∃ j : Nat, j < tc ∧ t = nI j ∧ ¬ 20 ≤ (T j).1 ∧ ((tb_no (T j).1 (T j).2.1 pl ∧ r9 = -1 ∧ T1 = va_up T j (T j)) ∨ (¬ tb_no (T j).1 (T j).2.1 pl ∧ r9 = nI ((T j).1 + 1) ∧ T1 = va_up T j ((T j).1 + 1, upd (T j).2.1 (T j).1 pl, upd (T j).2.2 (T j).1 va)))) ∨
      (r1 = 1 ∧ ((¬ ∃ j : Nat, j < tc ∧ t = nI j) ∨ (pl.toInt64 < -1000000000 ∨ 1000000000 < pl.toInt64) ∨ (va.toInt64 < -1000000000 ∨ 1000000000 < va.toInt64)) ∧ T1 = T) ∨
      (r1 = 2 ∧ ((-1000000000 ≤ pl.toInt64 ∧ pl.toInt64 ≤ 1000000000) ∧ (-1000000000 ≤ va.toInt64 ∧ va.toInt64 ≤ 1000000000) ∧ ∃ j : Nat, j < tc ∧ t = nI j ∧ 20 ≤ (T j).1) ∧ T1 = T)) (h2 : rw_post n cc P9 V9 t pl va v2 w2) :
    r1 = w2.1 ∧ (r1 = 0 → o1 0 = v2.toInt64) ∧ lw_J n f w2.2.1 w2.2.2.1 w2.2.2.2 tc T1 := by
  have en : n = tc := hJ.2.1
  have e6 := hJ.2.2.1
  have hcc := hJ.2.2.2.2.2.1
  have h20 := hJ.2.2.2.1
  subst en
  rcases h1 with ⟨a1, r9, a2, a3, a4, j, hj, ej, a5, a6⟩ | ⟨a1, a2, a3⟩ | ⟨a1, ⟨a3, a4, j, hj, ej, a5⟩, a6⟩
  · rcases h2 with ⟨b, -, -⟩ | ⟨j2, hj2, ej2, b1, b2, b3⟩
    · rcases b with b | b | b
      · exact absurd ⟨j, hj, ej⟩ (it_none e6 b)
      · exact absurd b (nb_iff.mpr a3)
      · exact absurd b (nb_iff.mpr a4)
    · have e := nI_inj (by omega) (by omega) (ej.symm.trans ej2)
      subst e
      have ec := hcc j hj
      have := h20 j (by omega)
      rcases b3 with ⟨c1, -, -⟩ | ⟨c1, c2, c3, c4⟩ | ⟨c1, c2, c3, c4⟩
      · exact absurd c1 (by omega)
      · rcases a6 with ⟨d1, d2, d3⟩ | ⟨d1, -, -⟩
        · subst c4; subst d3
          refine ⟨a1, fun _ => by rw [a2, d2, c3], ?_⟩
          rw [vup_id]; exact hJ
        · exact absurd ((no_eq hJ hj c1 pl).mpr c2) d1
      · rcases a6 with ⟨d1, -, -⟩ | ⟨d1, d2, d3⟩
        · exact absurd ((no_eq hJ hj c1 pl).mp d1) c2
        · subst c4; subst d3
          exact ⟨a1, fun _ => by rw [a2, d2, c3, ec], J_row hJ hj pl va c1 c2⟩
  · subst a3
    rcases h2 with ⟨b, b2, b3⟩ | ⟨j2, hj2, ej2, b1, b2, b3⟩
    · subst b3
      exact ⟨a1, fun q => absurd (a1.symm.trans q) (by decide), hJ⟩
    · rcases a2 with a | a | a
      · exact absurd ⟨j2, hj2, ej2⟩ a
      · exact absurd (nb_no.mpr a) b1
      · exact absurd (nb_no.mpr a) b2
  · subst a6
    rcases h2 with ⟨b, -, -⟩ | ⟨j2, hj2, ej2, b1, b2, b3⟩
    · rcases b with b | b | b
      · exact absurd ⟨j, hj, ej⟩ (it_none e6 b)
      · exact absurd b (nb_iff.mpr a3)
      · exact absurd b (nb_iff.mpr a4)
    · have e := nI_inj (by omega) (by omega) (ej.symm.trans ej2)
      subst e
      have ec := hcc j hj
      have := h20 j (by omega)
      rcases b3 with ⟨c1, c2, c3⟩ | ⟨c1, -, -, -⟩ | ⟨c1, -, -, -⟩
      · subst c3
        exact ⟨a1, fun q => absurd (a1.symm.trans q) (by decide), hJ⟩
      · exact absurd (show cc j = 20 by omega) c1
      · exact absurd (show cc j = 20 by omega) c1
