/-! the reference's public methods: what they come to, and that their series stop -/
def po (f : Nat) (z : Int32) (g p : Nat → Int64) : S2 := pw_sq f (pw_it f z g p (sk (fun i => (pw_it f z g p i).1))) 6
def hk1 (f : Nat) (g : Nat → Int64) : Nat := sk (ao_it f 7 5 16 g)
def hk2 (f : Nat) (g : Nat → Int64) : Nat := sk (ao_it f 4 239 4 (ao_it f 7 5 16 g (hk1 f g)))
def hfr (f : Nat) (g : Nat → Int64) : Nat → Int64 := hf_r f g (hk1 f g) (hk2 f g)
def anr (f : Nat) (a b : Int64) (g : Nat → Int64) : Nat → Int64 := an_it f a b g (sk (an_it f a b g))
def qur (f : Nat) (z : Int32) (g p : Nat → Int64) : S2 := qu_it f z g p (sk (fun i => (qu_it f z g p i).1))
def lgk (v : Int64) : Nat := rk_stop (fun i => if v < 2 * lg_two i then 1 else 0) 45 0
def lok1 (f : Nat) (g p : Nat → Int64) : Nat := sk (fun i => (ra_it f 1 3 g p i).1)
def lok2 (f : Nat) (v : Int64) (g p : Nat → Int64) : Nat := sk (fun i => (ra_it f (v - lg_two (lgk v)) (v + lg_two (lgk v)) (lo_a f (lgk v) g p (lok1 f g p)).1 (lo_a f (lgk v) g p (lok1 f g p)).2 i).1)
def lor (f : Nat) (v : Int64) (g p : Nat → Int64) : S2 := lo_r f v (lgk v) g p (lok1 f g p) (lok2 f v g p)
theorem po_st {f : Nat} {z : Int32} {g p : Nat → Int64} (hf : f ≤ 20) (o8 : ok 8 g) (hX : vv 8 g 24 ≤ 32 * 1000000 ^ f) :
    sk (fun i => (pw_it f z g p i).1) < 1000 ∧ (∀ i, i < sk (fun i => (pw_it f z g p i).1) → md_no 1 (pw_it f z g p i).1 24 = 0) ∧ ¬ md_no 1 (pw_it f z g p (sk (fun i => (pw_it f z g p i).1))).1 24 = 0 :=
  sk_ok (s := fun i => (pw_it f z g p i).1) (N := 700) (by decide) (pw_stop (by omega) o8 hX)
theorem hf_s1 {f : Nat} {g : Nat → Int64} (hf : f ≤ 20) : hk1 f g < 1000 ∧ (∀ i, i < hk1 f g → md_no 1 (ao_it f 7 5 16 g i) 24 = 0) ∧ ¬ md_no 1 (ao_it f 7 5 16 g (hk1 f g)) 24 = 0 :=
  sk_ok (s := ao_it f 7 5 16 g) (N := 700) (by decide) (ao_stop hf (by decide) (by decide) (by decide) (by decide) (by decide))
theorem hf_s2 {f : Nat} {g : Nat → Int64} (hf : f ≤ 20) : hk2 f g < 1000 ∧ (∀ i, i < hk2 f g → md_no 1 (ao_it f 4 239 4 (ao_it f 7 5 16 g (hk1 f g)) i) 24 = 0) ∧ ¬ md_no 1 (ao_it f 4 239 4 (ao_it f 7 5 16 g (hk1 f g)) (hk2 f g)) 24 = 0 :=
  sk_ok (s := ao_it f 4 239 4 (ao_it f 7 5 16 g (hk1 f g))) (N := 700) (by decide) (ao_stop hf (by decide) (by decide) (by decide) (by decide) (by decide))
theorem an_s {f : Nat} {a b : Int64} {g : Nat → Int64} (hf : f ≤ 18) (ha : 0 ≤ a.toInt) (hab : a.toInt ≤ b.toInt) (hb0 : 0 < b.toInt) (hb : b.toInt ≤ 1000000) : sk (an_it f a b g) < 1000 ∧ (∀ i, i < sk (an_it f a b g) → md_no 1 (an_it f a b g i) 24 = 0) ∧ ¬ md_no 1 (an_it f a b g (sk (an_it f a b g))) 24 = 0 :=
  sk_ok (s := an_it f a b g) (N := 700) (by decide) (an_stop hf ha hab hb0 hb)
theorem qu_s {f : Nat} {z : Int32} {g p : Nat → Int64} (hf : f ≤ 18) (o8 : ok 8 g) (hX : vv 8 g 24 ≤ 2 * 1000000 ^ f) :
    sk (fun i => (qu_it f z g p i).1) < 1000 ∧ (∀ i, i < sk (fun i => (qu_it f z g p i).1) → md_no 1 (qu_it f z g p i).1 24 = 0) ∧ ¬ md_no 1 (qu_it f z g p (sk (fun i => (qu_it f z g p i).1))).1 24 = 0 :=
  sk_ok (s := fun i => (qu_it f z g p i).1) (N := 701) (by decide) (qu_stop hf o8 hX)
theorem ra_s {f : Nat} {v q : Int64} {g p : Nat → Int64} (hf : f ≤ 20) (hv : 0 ≤ v.toInt) (hv2 : v.toInt ≤ 1000000000000) (hq : 0 < q.toInt) (hq2 : q.toInt ≤ 9000000000000) (h2 : 2 * v.toInt ≤ q.toInt) :
    sk (fun i => (ra_it f v q g p i).1) < 1000 ∧ (∀ i, i < sk (fun i => (ra_it f v q g p i).1) → md_no 1 (ra_it f v q g p i).1 24 = 0) ∧ ¬ md_no 1 (ra_it f v q g p (sk (fun i => (ra_it f v q g p i).1))).1 24 = 0 :=
  sk_ok (s := fun i => (ra_it f v q g p i).1) (N := 700) (by decide) (ra_stop hf hv hv2 hq hq2 h2)
theorem lg_two_eq : ∀ k, k ≤ 45 → (lg_two k).toInt = 2 ^ k
  | 0, _ => rfl
  | k + 1, h => by
    have ih := lg_two_eq k (by omega)
    have hp : (2 : Int) ^ k ≤ 2 ^ 45 := by
      have : (2 : Int) ^ 45 = 2 ^ (45 - k) * 2 ^ k := by rw [← Int.pow_add]; congr 1; omega
      have h1 : (0 : Int) < 2 ^ (45 - k) := Int.pow_pos (by decide)
      have h2 : (0 : Int) < 2 ^ k := Int.pow_pos (by decide)
      have := Int.mul_le_mul_of_nonneg_right (show (1 : Int) ≤ 2 ^ (45 - k) by omega) (Int.le_of_lt h2)
      omega
    have h2 : (0 : Int) < 2 ^ k := Int.pow_pos (by decide)
    show (2 * lg_two k).toInt = _
    have e2 : (2 : Int64).toInt = 2 := rfl
    have e45 : (2 : Int) ^ 45 = 35184372088832 := rfl
    rw [tI_mul (by rw [ih, e2]; omega) (by rw [ih, e2]; omega), ih, e2, Int.pow_succ]; omega
theorem lg_le {v : Int64} {i : Nat} (h : i ≤ 44) : v < 2 * lg_two i ↔ v.toInt < 2 ^ (i + 1) := by
  rw [Int64.lt_iff_toInt_lt, ← lg_two_eq (i + 1) (by omega)]; exact Iff.rfl
theorem lgk_ok {v : Int64} (hv : v.toInt ≤ 1000000000000) : lgk v ≤ 39 ∧ (∀ i, i < lgk v → ¬ v < 2 * lg_two i) ∧ v < 2 * lg_two (lgk v) := by
  have h39 : v < 2 * lg_two 39 := (lg_le (by decide)).mpr (by have : (2 : Int) ^ (39 + 1) = 1099511627776 := rfl; omega)
  have := stop_ok (fun i => if v < 2 * lg_two i then (1 : Int32) else 0) 45 0 39 (by show ¬ (if v < 2 * lg_two 39 then (1 : Int32) else 0) = 0; rw [if_pos h39]; decide) (by decide) (by decide)
  obtain ⟨a, b, c⟩ := this
  refine ⟨c, fun i hi q => ?_, ?_⟩
  · have := a i (Nat.zero_le _) hi
    simp only [if_pos q] at this
    exact absurd this (by decide)
  · by_cases q : v < 2 * lg_two (lgk v)
    · exact q
    · exact absurd (by show (if v < 2 * lg_two (lgk v) then (1 : Int32) else 0) = 0; rw [if_neg q]) b
/-- two's power at v: not above v, less than twice -/
theorem lgk_two {v : Int64} (h0 : 0 < v.toInt) (hv : v.toInt ≤ 1000000000000) : (lg_two (lgk v)).toInt ≤ v.toInt ∧ v.toInt < 2 * (lg_two (lgk v)).toInt ∧ 0 < (lg_two (lgk v)).toInt := by
  obtain ⟨a, b, c⟩ := lgk_ok hv
  have c := (lg_le (by omega)).mp c
  have e := lg_two_eq (lgk v) (by omega)
  have hp : (0 : Int) < 2 ^ lgk v := Int.pow_pos (by decide)
  rw [Int.pow_succ] at c
  refine ⟨?_, by omega, by omega⟩
  by_cases q : lgk v = 0
  · rw [e, q]; exact h0
  · have := b (lgk v - 1) (by omega)
    have h3 : ¬ v.toInt < 2 ^ (lgk v - 1 + 1) := fun x => this ((lg_le (by omega)).mpr x)
    rw [show lgk v - 1 + 1 = lgk v by omega, ← e] at h3
    omega
theorem lg_ve {v : Int64} (h0 : 0 < v.toInt) (hv : v.toInt ≤ 1000000000000) : (v - lg_two (lgk v)).toInt = v.toInt - (lg_two (lgk v)).toInt ∧ (v + lg_two (lgk v)).toInt = v.toInt + (lg_two (lgk v)).toInt := by
  obtain ⟨a, b, c⟩ := lgk_two h0 hv
  exact ⟨tI_sub (by omega) (by omega), tI_add (by omega) (by omega)⟩
theorem lo_s1 {f : Nat} {g p : Nat → Int64} (hf : f ≤ 20) : lok1 f g p < 1000 ∧ (∀ i, i < lok1 f g p → md_no 1 (ra_it f 1 3 g p i).1 24 = 0) ∧ ¬ md_no 1 (ra_it f 1 3 g p (lok1 f g p)).1 24 = 0 :=
  ra_s hf (by decide) (by decide) (by decide) (by decide) (by decide)
theorem lo_s2 {f : Nat} {v : Int64} {g p : Nat → Int64} (hf : f ≤ 20) (h0 : 0 < v.toInt) (hv : v.toInt ≤ 1000000000000) : lok2 f v g p < 1000 ∧ (∀ i, i < lok2 f v g p → md_no 1 (ra_it f (v - lg_two (lgk v)) (v + lg_two (lgk v)) (lo_a f (lgk v) g p (lok1 f g p)).1 (lo_a f (lgk v) g p (lok1 f g p)).2 i).1 24 = 0) ∧ ¬ md_no 1 (ra_it f (v - lg_two (lgk v)) (v + lg_two (lgk v)) (lo_a f (lgk v) g p (lok1 f g p)).1 (lo_a f (lgk v) g p (lok1 f g p)).2 (lok2 f v g p)).1 24 = 0 := by
  obtain ⟨a, b, c⟩ := lgk_two h0 hv
  obtain ⟨d, e⟩ := lg_ve h0 hv
  exact ra_s hf (by omega) (by omega) (by omega) (by omega) (by omega)
theorem lo_ne {v : Int64} (h0 : 0 < v.toInt) (hv : v.toInt ≤ 1000000000000) : ¬ v + lg_two (lgk v) = 0 := fun q => by
  obtain ⟨a, b, c⟩ := lgk_two h0 hv
  obtain ⟨d, e⟩ := lg_ve h0 hv
  have := congrArg Int64.toInt q
  rw [e, show (0 : Int64).toInt = 0 from rfl] at this
  omega
/-! half: its registers -/
theorem ao_fr {f r : Nat} {n o : Int64} {g : Nat → Int64} (hf : f ≤ 20) (hr : r ≠ 1 ∧ r ≠ 5) (hn : 5 ≤ n.toInt) (hn2 : n.toInt ≤ 1000) (ho : 0 ≤ o.toInt) (ho2 : o.toInt ≤ 100) {s : Nat} (hs : s ≠ 1 ∧ s ≠ 5 ∧ s ≠ r) (os : ok s g) : ∀ k, k ≤ 800 → ok s (ao_it f r n o g k) ∧ vv s (ao_it f r n o g k) 24 = vv s g 24
  | 0, _ => by
    have rt := rat_ok (f := f) (r := 1) (v := o) (q := n) (g := g) hf ho (by omega) (by omega) (by omega)
    have c := cp_ok (r := r) (a := 1) (fun q => hr.1 q.symm) rt.1
    exact ⟨fr_ok c.2.1 hs.2.2 (fr_ok rt.2.1 hs.1 os), by show vv s (mr_cp r 1 (mr_by 1 n (mr_wh f 1 o g))) 24 = _; rw [fr_vv c.2.1 hs.2.2, fr_vv rt.2.1 hs.1]⟩
  | k + 1, h => by
    obtain ⟨i1, i2⟩ := ao_fr (o := o) hf hr hn hn2 ho ho2 hs os k (by omega)
    obtain ⟨⟨o0, o1, -, -, -⟩, -⟩ := ao_inv (g := g) (o := o) hf hr hn hn2 ho ho2 k (by omega)
    have hnn : (n * n).toInt = n.toInt * n.toInt := tI_mul (by have := Int.mul_nonneg (show 0 ≤ n.toInt by omega) (show 0 ≤ n.toInt by omega); omega) (by have := Int.mul_le_mul hn2 hn2 (by omega) (by omega); omega)
    have hn3 : 25 ≤ n.toInt * n.toInt := by have := Int.mul_le_mul hn hn (by omega) (by omega); omega
    have hn4 : n.toInt * n.toInt ≤ 1000000 := by have := Int.mul_le_mul hn2 hn2 (by omega) (by omega); omega
    have b := by_ok (r := 1) (q := n * n) o1 (by omega) (by omega)
    have c := cp_ok (r := 5) (a := 1) (by decide) b.1
    have hq : (nI (3 + 2 * k)).toInt64.toInt = ((3 + 2 * k : Nat) : Int) := nI_L (by omega)
    have d := by_ok (r := 5) (q := (nI (3 + 2 * k)).toInt64) c.1 (by omega) (by omega)
    have o0' := fr_ok d.2.1 (s := r) hr.2 (fr_ok c.2.1 hr.2 (fr_ok b.2.1 hr.1 o0))
    have a := ao_as_ok (q := nI (3 + 2 * k)) (fun q => hr.2 q.symm) o0' d.1
    exact ⟨fr_ok a.2.1 hs.2.2 (fr_ok d.2.1 hs.2.1 (fr_ok c.2.1 hs.2.1 (fr_ok b.2.1 hs.1 i1))), by
      show vv s (ao_as r (nI (3 + 2 * k)) (mr_by 5 (nI (3 + 2 * k)).toInt64 (mr_cp 5 1 (mr_by 1 (n * n) (ao_it f r n o g k))))) 24 = _
      rw [fr_vv a.2.1 hs.2.2, fr_vv d.2.1 hs.2.1, fr_vv c.2.1 hs.2.1, fr_vv b.2.1 hs.1, i2]⟩
theorem sk_le {s : Nat → (Nat → Int64)} {N : Nat} (hN : N ≤ 900) (h : ¬ md_no 1 (s N) 24 = 0) : sk s ≤ N := by
  have := stop_ok (fun i => md_no 1 (s i) 24) 900 0 N h (Nat.zero_le _) (by omega)
  unfold sk
  rw [ir_eq]
  exact this.2.2
theorem hf_ok {f : Nat} {g : Nat → Int64} (hf : f ≤ 20) (hf0 : 0 < f) : ok 7 (hfr f g) ∧ ok 4 (hfr f g) ∧ 3 * 1000000 ^ f ≤ vv 7 (hfr f g) 24 ∧ 10 * vv 7 (hfr f g) 24 ≤ 33 * 1000000 ^ f ∧ vv 4 (hfr f g) 24 = vv 7 (hfr f g) 24 / 2 := by
  have k1 : hk1 f g ≤ 700 := sk_le (s := ao_it f 7 5 16 g) (N := 700) (by decide) (ao_stop hf (by decide) (by decide) (by decide) (by decide) (by decide))
  have k2 : hk2 f g ≤ 700 := sk_le (s := ao_it f 4 239 4 (ao_it f 7 5 16 g (hk1 f g))) (N := 700) (by decide) (ao_stop hf (by decide) (by decide) (by decide) (by decide) (by decide))
  unfold hfr hf_r
  generalize hk2 f g = n2 at *
  generalize hk1 f g = n1 at *
  obtain ⟨⟨a1, a2, -, a3, a4⟩, -⟩ := ao_inv (f := f) (r := 7) (n := 5) (o := 16) (g := g) hf (by decide) (by decide) (by decide) (by decide) (by decide) n1 (by omega)
  obtain ⟨⟨b1, b2, -, b3, b4⟩, -⟩ := ao_inv (f := f) (r := 4) (n := 239) (o := 4) (g := ao_it f 7 5 16 g n1) hf (by decide) (by decide) (by decide) (by decide) (by decide) n2 (by omega)
  obtain ⟨c1, c2⟩ := ao_fr (f := f) (r := 4) (n := 239) (o := 4) (g := ao_it f 7 5 16 g n1) hf (by decide) (by decide) (by decide) (by decide) (by decide) (s := 7) (by decide) a1 n2 (by omega)
  have ta := vv_nn a2
  have tb := vv_nn b2
  have sb := vv_nn b1
  have hL := les_ok (r := 7) (a := 4) (by decide) c1 b1
  have hC := cp_ok (r := 4) (a := 7) (by decide) hL.1
  have hB := by_ok (r := 4) (q := 2) hC.1 (by decide) (by decide)
  have hlv := hL.2.2
  rw [c2] at hlv
  have e5 : (5 : Int64).toInt = 5 := rfl
  have e16 : (16 : Int64).toInt = 16 := rfl
  have e239 : (239 : Int64).toInt = 239 := rfl
  have e4 : (4 : Int64).toInt = 4 := rfl
  rw [e5, e16] at a3 a4
  rw [e239, e4] at b3 b4
  have hp : (1000000 : Int) ≤ 1000000 ^ f := by
    rw [show f = f - 1 + 1 by omega, Int.pow_succ]
    have := pw_pos (f - 1)
    have := Int.mul_le_mul_of_nonneg_right (show (1 : Int) ≤ 1000000 ^ (f - 1) by omega) (show (0 : Int) ≤ 1000000 by decide)
    omega
  refine ⟨fr_ok hB.2.1 (by decide) (fr_ok hC.2.1 (by decide) hL.1), hB.1, ?_, ?_, ?_⟩
  · rw [fr_vv hB.2.1 (by decide), fr_vv hC.2.1 (by decide)]
    generalize vv 7 (ao_it f 7 5 16 g n1) 24 = S7 at *
    generalize vv 4 (ao_it f 4 239 4 (ao_it f 7 5 16 g n1) n2) 24 = S4 at *
    generalize vv 1 (ao_it f 7 5 16 g n1) 24 = T7 at *
    generalize vv 1 (ao_it f 4 239 4 (ao_it f 7 5 16 g n1) n2) 24 = T4 at *
    generalize (1000000 : Int) ^ f = B at *
    rw [hlv (by omega)]
    omega
  · rw [fr_vv hB.2.1 (by decide), fr_vv hC.2.1 (by decide)]
    generalize vv 7 (ao_it f 7 5 16 g n1) 24 = S7 at *
    generalize vv 4 (ao_it f 4 239 4 (ao_it f 7 5 16 g n1) n2) 24 = S4 at *
    generalize vv 1 (ao_it f 7 5 16 g n1) 24 = T7 at *
    generalize vv 1 (ao_it f 4 239 4 (ao_it f 7 5 16 g n1) n2) 24 = T4 at *
    generalize (1000000 : Int) ^ f = B at *
    rw [hlv (by omega)]
    omega
  · rw [hB.2.2, hC.2.2, fr_vv hB.2.1 (by decide), fr_vv hC.2.1 (by decide)]; rfl
