/-! the reference's tables: pure parts -/
def rw_R (cc : Nat → Nat) : Nat → Int32 := fun i => nI (cc i)
def nu (cc : Nat → Nat) (j v : Nat) : Nat → Nat := fun i => if i = j then v else cc i
theorem nu_eq (cc : Nat → Nat) (j v : Nat) : nu cc j v j = v := if_pos rfl
theorem nu_ne (cc : Nat → Nat) {j i : Nat} (v : Nat) (h : i ≠ j) : nu cc j v i = cc i := if_neg h
theorem rw_upd (cc : Nat → Nat) (j v : Nat) : upd (rw_R cc) j (nI v) = rw_R (nu cc j v) := by
  funext i
  unfold upd rw_R nu
  by_cases h : i = j
  · rw [if_pos h, if_pos h]
  · rw [if_neg h, if_neg h]
theorem rw_ix (j c : Nat) : (20 : Int32) * nI j + nI c = nI (20 * j + c) := by
  rw [← nI_add, ← pk_mul]; rfl
theorem rw_i0 (j : Nat) : (20 : Int32) * nI j = nI (20 * j) := by
  rw [← pk_mul]; rfl
def it_v (n : Nat) (t : Int32) : Int32 := if t < 0 then 0 else if nI n ≤ t then 0 else 1
theorem it_ex {n : Nat} {t : Int32} (hn : n ≤ 6) (h : ¬ it_v n t = 0) : ∃ j, j < n ∧ t = nI j := by
  unfold it_v at h
  by_cases q : t < 0
  · rw [if_pos q] at h; exact absurd rfl h
  · rw [if_neg q] at h
    by_cases q2 : nI n ≤ t
    · rw [if_pos q2] at h; exact absurd rfl h
    · have a : ¬ t.toInt < 0 := fun z => q ((i32_lt _ _).mpr z)
      have b : ¬ (n : Int) ≤ t.toInt := fun z => q2 ((i32_le _ _).mpr (by rw [nI_toInt (by omega)]; exact z))
      refine ⟨t.toInt.toNat, by omega, ?_⟩
      rw [← Int32.toInt_inj, nI_toInt (by omega)]
      omega
theorem it_no {n j : Nat} (hn : n ≤ 6) (hj : j < n) : ¬ it_v n (nI j) = 0 := by
  unfold it_v
  rw [if_neg (fun q => by have := (i32_lt _ _).mp q; rw [nI_toInt (by omega), show (0 : Int32).toInt = 0 from rfl] at this; omega), if_neg (nI_ge hj (by omega))]
  decide
def dn_v (a b : Int64) : Int64 := if a / b * b ≤ a then a / b else a / b - 1
def rv_k (cn : Nat) (P : Nat → Int32) (pl : Int32) : Nat := rk_stop (fun i => if i < cn then (if P i < pl then 0 else 1) else 1) 20 0
def rv_v (cn : Nat) (P V : Nat → Int32) (pl : Int32) : Int64 := if cn = 0 then -9223372036854775808 else if rv_k cn P pl = cn then (V (cn - 1)).toInt64 else if rv_k cn P pl = 0 then (V 0).toInt64 else (V (rv_k cn P pl - 1)).toInt64 + dn_v (((V (rv_k cn P pl)).toInt64 - (V (rv_k cn P pl - 1)).toInt64) * (pl.toInt64 - (P (rv_k cn P pl - 1)).toInt64)) ((P (rv_k cn P pl)).toInt64 - (P (rv_k cn P pl - 1)).toInt64)
theorem rv_kok {cn : Nat} {P : Nat → Int32} {pl : Int32} (h : cn ≤ 20) : rv_k cn P pl ≤ cn ∧ (∀ i, i < rv_k cn P pl → i < cn ∧ P i < pl) ∧ (rv_k cn P pl < cn → ¬ P (rv_k cn P pl) < pl) := by
  have := stop_ok (fun i => if i < cn then (if P i < pl then (0 : Int32) else 1) else 1) 20 0 cn (by show ¬ (if cn < cn then (if P cn < pl then (0 : Int32) else 1) else 1) = 0; rw [if_neg (by omega)]; decide) (Nat.zero_le _) (by omega)
  obtain ⟨a, b, c⟩ := this
  refine ⟨c, fun i hi => ?_, fun hk q => ?_⟩
  · have hc : i < cn := Nat.lt_of_lt_of_le hi c
    have := a i (Nat.zero_le _) hi
    simp only [if_pos hc] at this
    by_cases q : P i < pl
    · exact ⟨hc, q⟩
    · rw [if_neg q] at this; exact absurd this (by decide)
  · refine b ?_
    show (if rv_k cn P pl < cn then (if P (rv_k cn P pl) < pl then (0 : Int32) else 1) else 1) = 0
    rw [if_pos hk, if_pos q]
def rw_post (n : Nat) (cc : Nat → Nat) (P V : Nat → Int32) (t p v r : Int32) (u : Int32 × (Nat → Nat) × (Nat → Int32) × (Nat → Int32)) : Prop :=
  ((it_v n t = 0 ∨ is_nb p = 0 ∨ is_nb v = 0) ∧ r = 0 ∧ u = (1, cc, P, V)) ∨
  (∃ j, j < n ∧ t = nI j ∧ ¬ is_nb p = 0 ∧ ¬ is_nb v = 0 ∧
    ((cc j = 20 ∧ r = 0 ∧ u = (2, cc, P, V)) ∨
     (¬ cc j = 20 ∧ (0 < cc j ∧ p ≤ P (20 * j + cc j - 1)) ∧ r = -1 ∧ u = (0, cc, P, V)) ∨
     (¬ cc j = 20 ∧ ¬ (0 < cc j ∧ p ≤ P (20 * j + cc j - 1)) ∧ r = nI (cc j + 1) ∧ u = (0, nu cc j (cc j + 1), upd P (20 * j + cc j) p, upd V (20 * j + cc j) v))))
def jn9 (a b : Int64) : Int64 := if a = -9223372036854775808 then -9223372036854775808 else if b = -9223372036854775808 then -9223372036854775808 else a - b
theorem rv_pos {a b : Int32} (h : a < b) : ¬ b.toInt64 - a.toInt64 = 0 := fun q => by
  have h1 := (i32_lt _ _).mp h
  have h2 := congrArg Int64.toInt q
  have := Int32.toInt_lt a; have := Int32.le_toInt a; have := Int32.toInt_lt b; have := Int32.le_toInt b
  rw [tI_sub (by rw [Int32.toInt_toInt64, Int32.toInt_toInt64]; omega) (by rw [Int32.toInt_toInt64, Int32.toInt_toInt64]; omega), Int32.toInt_toInt64, Int32.toInt_toInt64, show (0 : Int64).toInt = 0 from rfl] at h2
  omega
theorem nI_inj {a b : Nat} (ha : a < 2 ^ 31) (hb : b < 2 ^ 31) (h : nI a = nI b) : a = b := by
  have := congrArg Int32.toInt h
  rw [nI_toInt ha, nI_toInt hb] at this
  omega
