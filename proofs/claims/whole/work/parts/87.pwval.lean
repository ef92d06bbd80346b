/-! the reference's power series over Int: the sum and its squares -/
def pwT (B st : Int) : Nat → Int
  | 0 => B
  | n + 1 => pwT B st n * st / B / ((n + 1 : Nat) : Int)
def pwS (b : Int32) (B st : Int) : Nat → Int
  | 0 => B
  | n + 1 => if b = 0 then pwS b B st n + pwT B st (n + 1) else if (n + 1) % 2 = 1 then pwS b B st n - pwT B st (n + 1) else pwS b B st n + pwT B st (n + 1)
theorem odd_nI : ∀ q, q < 1000 → (nI q - nI q / 2 * 2 = 1 ↔ q % 2 = 1) := by decide +kernel
theorem dv_third {T s B : Int} (hT : 0 ≤ T) (hB : 0 < B) (hs : 3 * s ≤ B) : 3 * (T * s / B) ≤ T := by
  have h1 := Int.ediv_mul_le (T * s) (b := B) (by omega)
  have h2 := Int.mul_le_mul_of_nonneg_left hs hT
  have h3 : T * (3 * s) = 3 * (T * s) := by grind
  generalize T * s / B = d at *
  have h4 : 3 * d * B ≤ T * B := by
    have : 3 * d * B = 3 * (d * B) := by grind
    omega
  exact Int.le_of_mul_le_mul_right h4 hB
theorem pw_fin {B S T T' : Int} (h3 : 3 * T' ≤ T) (h0 : 0 ≤ T') (h1 : B + T ≤ 2 * S) (h2 : 2 * S ≤ 3 * B - T) : T' ≤ S ∧ (B + T' ≤ 2 * (S + T') ∧ 2 * (S + T') ≤ 3 * B - T') ∧ (B + T' ≤ 2 * (S - T') ∧ 2 * (S - T') ≤ 3 * B - T') := by omega
theorem pw_val {f : Nat} {b : Int32} {g p : Nat → Int64} (hf : f ≤ 18) (o8 : ok 8 g) (hX : vv 8 g 24 ≤ 20 * 1000000 ^ f) : ∀ n, n ≤ 800 →
    vv 1 (pw_it f b g p n).1 24 = pwT (1000000 ^ f) (vv 8 g 24 / 64) n ∧ vv 0 (pw_it f b g p n).1 24 = pwS b (1000000 ^ f) (vv 8 g 24 / 64) n ∧ 1000000 ^ f + vv 1 (pw_it f b g p n).1 24 ≤ 2 * vv 0 (pw_it f b g p n).1 24 ∧ 2 * vv 0 (pw_it f b g p n).1 24 ≤ 3 * 1000000 ^ f - vv 1 (pw_it f b g p n).1 24
  | 0, _ => by
    have hB := pw_pos f
    have w0 := wh_ok (f := f) (r := 0) (v := 1) (g := mr_by 2 64 (mr_cp 2 8 g)) (by omega) (by decide) (wh_room (by omega) (by decide) (by decide))
    have w1 := wh_ok (f := f) (r := 1) (v := 1) (g := mr_wh f 0 1 (mr_by 2 64 (mr_cp 2 8 g))) (by omega) (by decide) (wh_room (by omega) (by decide) (by decide))
    have E : (pw_it f b g p 0).1 = mr_wh f 1 1 (mr_wh f 0 1 (mr_by 2 64 (mr_cp 2 8 g))) := rfl
    have e1 : vv 1 (pw_it f b g p 0).1 24 = 1000000 ^ f := by rw [E, w1.2.2, show (1 : Int64).toInt = 1 from rfl]; omega
    have e0 : vv 0 (pw_it f b g p 0).1 24 = 1000000 ^ f := by rw [E, fr_vv w1.2.1 (by decide), w0.2.2, show (1 : Int64).toInt = 1 from rfl]; omega
    rw [e1, e0]
    exact ⟨rfl, rfl, by omega, by omega⟩
  | n + 1, h => by
    have hB := pw_pos f
    obtain ⟨i1, i2, i3, i4⟩ := pw_val (b := b) (p := p) hf o8 hX n (by omega)
    obtain ⟨o0, o1, o2, e2⟩ := pw_inv (b := b) (p := p) (show f ≤ 23 by omega) o8 (by omega) n (by omega)
    have hx := vv_nn o8
    have hs : vv 2 (pw_it f b g p n).1 24 ≤ 1000000 ^ f := by
      rw [e2]; generalize (1000000 : Int) ^ f = B at *; omega
    have m := mul_ok (f := f) (r := 1) (a := 1) (b := 2) (p := (pw_it f b g p n).2) (by omega) o1 o2 (mul_room (vv_nn o1) (vv_tp o1) hs (vv_nn o2))
    have hq : (nI (n + 1)).toInt64.toInt = ((n + 1 : Nat) : Int) := nI_L (by omega)
    have d := by_ok (r := 1) (q := (nI (n + 1)).toInt64) m.1 (by omega) (by omega)
    have o0' := fr_ok d.2.1 (s := 0) (by decide) (fr_ok m.2.1 (by decide) o0)
    have eT : vv 1 (mr_by 1 (nI (n + 1)).toInt64 (mr_mul f 1 1 2 (pw_it f b g p n).1 (pw_it f b g p n).2)) 24 = pwT (1000000 ^ f) (vv 8 g 24 / 64) (n + 1) := by
      rw [d.2.2, m.2.2, e2, hq, i1]; rfl
    have eS : vv 0 (mr_by 1 (nI (n + 1)).toInt64 (mr_mul f 1 1 2 (pw_it f b g p n).1 (pw_it f b g p n).2)) 24 = pwS b (1000000 ^ f) (vv 8 g 24 / 64) n := by
      rw [fr_vv d.2.1 (by decide), fr_vv m.2.1 (by decide), i2]
    have ER : (pw_it f b g p (n + 1)).1 = pw_as b (nI (n + 1)) (mr_by 1 (nI (n + 1)).toInt64 (mr_mul f 1 1 2 (pw_it f b g p n).1 (pw_it f b g p n).2)) := rfl
    have a := pw_as_ok (b := b) (q := nI (n + 1)) o0' d.1
    have e1 : vv 1 (pw_it f b g p (n + 1)).1 24 = pwT (1000000 ^ f) (vv 8 g 24 / 64) (n + 1) := by rw [ER, fr_vv a.2 (by decide), eT]
    -- the term is a third at most
    have hT := vv_nn o1
    have t0 : 0 ≤ pwT (1000000 ^ f) (vv 8 g 24 / 64) (n + 1) := by rw [← eT]; exact vv_nn d.1
    have t3 : 3 * pwT (1000000 ^ f) (vv 8 g 24 / 64) (n + 1) ≤ vv 1 (pw_it f b g p n).1 24 := by
      have k1 := dv_third (T := vv 1 (pw_it f b g p n).1 24) (s := vv 8 g 24 / 64) (B := 1000000 ^ f) hT hB (by generalize (1000000 : Int) ^ f = B at *; omega)
      have k2 := Int.ediv_nonneg (Int.mul_nonneg hT (show 0 ≤ vv 8 g 24 / 64 by omega)) (Int.le_of_lt hB)
      have k3 := dv_le (d := vv 1 (pw_it f b g p n).1 24 * (vv 8 g 24 / 64) / 1000000 ^ f) (q := ((n + 1 : Nat) : Int)) k2 (by omega)
      have k4 : pwT (1000000 ^ f) (vv 8 g 24 / 64) (n + 1) = vv 1 (pw_it f b g p n).1 24 * (vv 8 g 24 / 64) / 1000000 ^ f / ((n + 1 : Nat) : Int) := by rw [i1]; rfl
      rw [k4]
      exact Int.le_trans (Int.mul_le_mul_of_nonneg_left k3.2 (by decide)) k1
    rw [i2] at i3 i4
    obtain ⟨q1, q2, q3⟩ := pw_fin t3 t0 i3 i4
    have room : pwS b (1000000 ^ f) (vv 8 g 24 / 64) n + pwT (1000000 ^ f) (vv 8 g 24 / 64) (n + 1) < 1000000 ^ 24 := by
      have r1 := wh_room (f := f) (v := 1000) (by omega) (by decide) (by decide)
      generalize (1000000 : Int) ^ 24 = P at *
      generalize pwS b (1000000 ^ f) (vv 8 g 24 / 64) n = S at *
      generalize pwT (1000000 ^ f) (vv 8 g 24 / 64) (n + 1) = T' at *
      generalize (1000000 : Int) ^ f = B at *
      generalize vv 1 (pw_it f b g p n).1 24 = T at *
      omega
    have ha := (add_ok (r := 0) (a := 1) (by decide) o0' d.1).2.2 (by rw [eT, eS]; exact room)
    have hl := (les_ok (r := 0) (a := 1) (by decide) o0' d.1).2.2 (by rw [eT, eS]; exact q1)
    rw [eT, eS] at ha hl
    have e0 : vv 0 (pw_it f b g p (n + 1)).1 24 = pwS b (1000000 ^ f) (vv 8 g 24 / 64) (n + 1) ∧ 1000000 ^ f + pwT (1000000 ^ f) (vv 8 g 24 / 64) (n + 1) ≤ 2 * vv 0 (pw_it f b g p (n + 1)).1 24 ∧ 2 * vv 0 (pw_it f b g p (n + 1)).1 24 ≤ 3 * 1000000 ^ f - pwT (1000000 ^ f) (vv 8 g 24 / 64) (n + 1) := by
      rw [ER]
      have EP : pwS b (1000000 ^ f) (vv 8 g 24 / 64) (n + 1) = if b = 0 then pwS b (1000000 ^ f) (vv 8 g 24 / 64) n + pwT (1000000 ^ f) (vv 8 g 24 / 64) (n + 1) else if (n + 1) % 2 = 1 then pwS b (1000000 ^ f) (vv 8 g 24 / 64) n - pwT (1000000 ^ f) (vv 8 g 24 / 64) (n + 1) else pwS b (1000000 ^ f) (vv 8 g 24 / 64) n + pwT (1000000 ^ f) (vv 8 g 24 / 64) (n + 1) := rfl
      rw [EP]
      unfold pw_as
      by_cases hb : b = 0
      · rw [if_pos hb, if_pos hb, ha]; exact ⟨rfl, q2.1, q2.2⟩
      · rw [if_neg hb, if_neg hb]
        by_cases ho : nI (n + 1) - nI (n + 1) / 2 * 2 = 1
        · rw [if_pos ho, if_pos ((odd_nI (n + 1) (by omega)).mp ho), hl]; exact ⟨rfl, q3.1, q3.2⟩
        · rw [if_neg ho, if_neg (fun z => ho ((odd_nI (n + 1) (by omega)).mpr z)), ha]; exact ⟨rfl, q2.1, q2.2⟩
    rw [e1]
    exact ⟨rfl, e0.1, e0.2.1, e0.2.2⟩
