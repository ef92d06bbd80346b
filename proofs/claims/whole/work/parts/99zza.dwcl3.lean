theorem dw_fin {u : rk_U} {c : Int → Prop} {n : Nat} (hm : ∀ m m', m' ≤ m → -4000 ≤ m' → m ≤ 10000 → c m → c m') (hz : ∀ (m : Int32) (v : rk_U), v 8 = u 8 → -4000 ≤ m.toInt → m.toInt ≤ 10000 → (dw_z m v = 0 ↔ ¬ c m.toInt) ∧ dw_v m v 8 = u 8) (s1 : ∀ j, j < n → (dw_st u j).1.toInt < (dw_st u j).2.1.toInt) (s2 : ¬ (dw_st u n).1.toInt < (dw_st u n).2.1.toInt) :
    -4001 ≤ (dw_f (dw_st u n)).toInt ∧ (dw_f (dw_st u n)).toInt ≤ 10000 ∧ ((dw_f (dw_st u n)).toInt = -4001 ∨ c (dw_f (dw_st u n)).toInt) ∧ ∀ m, (dw_f (dw_st u n)).toInt < m → m ≤ 10000 → ¬ c m := by
  have I := dw_inv hm hz n s1
  clear s1
  generalize dw_st u n = x at I s2 ⊢
  have L : dw_f x = x.1 := rfl
  rw [L]
  obtain ⟨-, j2, j3, j4, j5, j6, -⟩ := I
  have eq : x.1.toInt = x.2.1.toInt := by omega
  rw [← eq] at j4 j6
  exact ⟨j2, j4, j5, j6⟩
theorem dw_stp {u : rk_U} {c : Int → Prop} (hm : ∀ m m', m' ≤ m → -4000 ≤ m' → m ≤ 10000 → c m → c m') (hz : ∀ (m : Int32) (v : rk_U), v 8 = u 8 → -4000 ≤ m.toInt → m.toInt ≤ 10000 → (dw_z m v = 0 ↔ ¬ c m.toInt) ∧ dw_v m v 8 = u 8) : ∃ N, N ≤ 14 ∧ ¬ (dw_st u N).1.toInt < (dw_st u N).2.1.toInt := by
  by_cases w : ∃ k, k ≤ 14 ∧ ¬ (dw_st u k).1.toInt < (dw_st u k).2.1.toInt
  · exact w
  · exfalso
    have all : ∀ j, j < 15 → (dw_st u j).1.toInt < (dw_st u j).2.1.toInt := fun j hj => by
      by_cases q : (dw_st u j).1.toInt < (dw_st u j).2.1.toInt
      · exact q
      · exact absurd ⟨j, by omega, q⟩ w
    obtain ⟨M, hM⟩ : ∃ M : Nat, M = 14 := ⟨_, rfl⟩
    have k := (dw_inv hm hz M (fun j hj => all j (by omega))).2.2.2.2.2.2
    have l := all M (by omega)
    have e : (2 : Int) ^ M = 16384 := by rw [hM]; decide
    rw [e] at k
    clear all w hz hm
    generalize (dw_st u M).1.toInt = a at k l
    generalize (dw_st u M).2.1.toInt = b at k l
    omega
theorem dw_dec (u : rk_U) (i : Nat) : ((if (dw_st u i).1 < (dw_st u i).2.1 then (0 : Int32) else 1) = 0 ↔ (dw_st u i).1.toInt < (dw_st u i).2.1.toInt) := by
  generalize dw_st u i = x
  by_cases w : x.1 < x.2.1
  · rw [if_pos w]
    exact ⟨fun _ => (i32_lt _ _).mp w, fun _ => rfl⟩
  · rw [if_neg w]
    exact ⟨fun q => absurd q (by decide), fun q => absurd ((i32_lt _ _).mpr q) w⟩
theorem dw_nn {u : rk_U} {N : Nat} (h1 : N ≤ 14) (h2 : ¬ (dw_st u N).1.toInt < (dw_st u N).2.1.toInt) : (∀ j, j < dw_n u → (dw_st u j).1.toInt < (dw_st u j).2.1.toInt) ∧ ¬ (dw_st u (dw_n u)).1.toInt < (dw_st u (dw_n u)).2.1.toInt := by
  have st := stop_ok (fun i => if (dw_st u i).1 < (dw_st u i).2.1 then (0 : Int32) else 1) 32 0 N (fun q => h2 ((dw_dec u N).mp q)) (Nat.zero_le _) (by omega)
  unfold dw_n
  generalize rk_stop (fun i => if (dw_st u i).1 < (dw_st u i).2.1 then (0 : Int32) else 1) 32 0 = n at st ⊢
  exact ⟨fun j hj => (dw_dec u j).mp (st.1 j (Nat.zero_le _) hj), fun q => st.2.1 ((dw_dec u n).mpr q)⟩
/-- the greatest warmth that the class finds -/
theorem dw_find {u : rk_U} {c : Int → Prop} (hm : ∀ m m', m' ≤ m → -4000 ≤ m' → m ≤ 10000 → c m → c m') (hz : ∀ (m : Int32) (v : rk_U), v 8 = u 8 → -4000 ≤ m.toInt → m.toInt ≤ 10000 → (dw_z m v = 0 ↔ ¬ c m.toInt) ∧ dw_v m v 8 = u 8) :
    -4001 ≤ (dw_lo u).toInt ∧ (dw_lo u).toInt ≤ 10000 ∧ ((dw_lo u).toInt = -4001 ∨ c (dw_lo u).toInt) ∧ ∀ m, (dw_lo u).toInt < m → m ≤ 10000 → ¬ c m := by
  obtain ⟨N, n1, n2⟩ := dw_stp hm hz
  obtain ⟨s1, s2⟩ := dw_nn n1 n2
  unfold dw_lo
  generalize dw_n u = n at s1 s2 ⊢
  exact dw_fin hm hz s1 s2
