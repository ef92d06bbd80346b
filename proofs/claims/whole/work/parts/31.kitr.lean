/-! a method that hands back a reference, or throws; the tables' world -/
theorem ct_aret {p : Program} {l : Launch} {e : Env} {R : Room} {s : State} {m : MethodId} {args : Array Value} {below : List Frame} {meth : Method} {c : Code} {H : Heap} {locs : List Loc} {cells slots : Nat} {cc : ByteArray} {maxL : Nat} {wds : List Cond} {y : MethodName} {pc : Nat} {ls : Array Slot} {A : Nat → Prop} {S : Type} {post : S → Prop} {B : S → Nat → State → Prop} {a : Nat} {n9 : String}
    (hF : ct_F p s m meth c cc (some (.object n9)) maxL wds y args) (hdg : decode cc pc = .ok (.areturn, 1)) (u : S) (hp : post u) (hB : ∀ t : State, t.heap = H → s.vm.Alike t.vm → B u a t) (hS : va_S A s.heap H locs) :
    W p l e R s m args below meth c H locs cells slots (MQ below (va_Qr post B A) args s cells slots A) (F0 m pc ls [.ref a]) := by
  obtain ⟨hx, hb, hr, -, -, -, hlocks, -⟩ := hF
  exact W.aret hx hb hr (Or.inl ⟨n9, rfl⟩) (Or.inr ⟨a, rfl⟩) (fun t ht hW => ⟨⟨u, a, rfl, hp, hB t ht hW.alike⟩, hS.F ht⟩) hS.2.2 hdg
theorem cx_callr {p : Program} {l : Launch} {e : Env} {R : Room} {s : State} {m : MethodId} {args : Array Value} {below : List Frame} {meth : Method} {c : Code} {H : Heap} {locs : List Loc} {cells slots : Nat} {Q : State → Prop}
    {D : va_G} {cl : List vw_C} {tysC : List (ClassId × FieldType)} {ws wc : va_W} {A : Nat → Prop} {mc ms : Nat} {H0 : Heap} {a : Array Value} {pc : Nat} {ls : Array Slot} {st0 rest : List Value} {S : Type} {ex : String → Prop} {post : S → Prop} {ra : S → Nat}
    (hr : vx_Run p l e R s m args below meth c H locs cells slots mc ms (F0 m pc ls st0) rest (va_Qr post (fun u q t => q = ra u ∧ va_P D cl wc t.heap) (va_A wc H.size) a) (cx_XC D cl tysC wc ex (va_A wc H.size)) (va_A wc H.size))
    (hP : va_P D cl ws H) (hD : va_D A ws) (hS : va_S A H0 H locs) (hA : ∀ q, H0.size ≤ q → A q) (isC : List Nat) (hC : isC.map (fun i => ws[i]?) = wc.map some)
    (kx : ∀ (E : String) (ce : Cell) (q9 : Addr) (H1 : Heap) (locs1 : List Loc), ex E → va_P D cl ws H1 → va_S A H0 H1 locs1 → H1[q9]? = some ce → ce.vm = .none → s.vm.findClass E = some ce.cls → vx_W p l e R s m args below meth c H1 locs1 (cells + mc) (slots + ms) Q (F0 m pc ls rest) q9)
    (kk : ∀ (u : S) (H1 : Heap) (locs1 : List Loc), post u → va_P D cl ws H1 → va_S A H0 H1 locs1 → W p l e R s m args below meth c H1 locs1 (cells + mc) (slots + ms) Q (F0 m (pc + 3) ls (.ref (ra u) :: rest))) :
    W p l e R s m args below meth c H locs cells slots Q (F0 m pc ls st0) := by
  have hF := va_free hD hS hA isC hC
  intro T hT X
  rcases hr T hT X with ⟨v, st₀, t, T', L, h0, X', hL, e1, e2, ⟨⟨u, q, hv, hp, hq, hP1⟩, hF1⟩, st⟩ | ⟨q, st₀, t, T', L, E, ce, h0, X', hL, e1, e2, ⟨u, hp, ⟨hE, hP1, -, -⟩, hF1⟩, hce, hcv, hcl, st⟩
  · cases hv
    subst hq
    obtain ⟨k1, k2, k3⟩ := vx_keep h0 e1 hS (fun q _ h => hF q h) hF hL hF1
    rw [← e1] at hP1
    obtain ⟨t2, a1, b1⟩ := kk u T'.heap (locs ++ L) hp (ct_keep hP hD isC hC k2 hP1) k3 T' rfl X'
    exact ⟨t2, st t2 a1, b1⟩
  · obtain ⟨k1, k2, k3⟩ := vx_keep h0 e1 hS (fun q _ h => hF q h) hF hL hF1
    rw [← e1] at hP1 hce
    obtain ⟨t2, a1, b1⟩ := kx E ce q T'.heap (locs ++ L) hE (ct_keep hP hD isC hC k2 hP1) k3 hce hcv hcl T' rfl X'
    exact ⟨t2, st.trans a1, b1⟩
abbrev fq_T : Type := Nat → Nat × (Nat → Int32) × (Nat → Int32)
abbrev fq_c (tt : Nat → Nat) (cI : ClassId) (j : Nat) (T : Nat × (Nat → Int32) × (Nat → Int32)) : va_W :=
  [(tt (3 * j), .inr (2, [.ref (tt (3 * j + 1)), .ref (tt (3 * j + 2)), .int (nI T.1)])), (tt (3 * j + 1), .inl (cI, 20, .inl T.2.1)), (tt (3 * j + 2), .inl (cI, 20, .inl T.2.2))]
def fq_f (tt : Nat → Nat) : Nat → Option Nat := fun i => if i < 6 then some (tt (3 * i)) else none
abbrev fq_w (fx : Nat) (sd : Int64) (tb tc ra : Nat) (cT cI : ClassId) (tt : Nat → Nat) (T : fq_T) : va_W :=
  (fx, .inr (3, [.long sd, .ref tb, .int (nI tc), .ref ra])) :: (tb, .inl (cT, 6, .inr (.inr (.inr (.inr (fq_f tt)))))) :: (fq_c tt cI 0 (T 0) ++ (fq_c tt cI 1 (T 1) ++ (fq_c tt cI 2 (T 2) ++ (fq_c tt cI 3 (T 3) ++ (fq_c tt cI 4 (T 4) ++ fq_c tt cI 5 (T 5))))))
section FT
variable (fx : Nat) (sd : Int64) (tb tc ra : Nat) (cT cI : ClassId) (tt : Nat → Nat) (T : fq_T)
theorem fq_6 {j : Nat} (hj : j < 6) : j = 0 ∨ j = 1 ∨ j = 2 ∨ j = 3 ∨ j = 4 ∨ j = 5 := by omega
theorem fq_C {j : Nat} (hj : j < 6) : [2 + 3 * j, 3 + 3 * j, 4 + 3 * j].map (fun i => (fq_w fx sd tb tc ra cT cI tt T)[i]?) = (fq_c tt cI j (T j)).map some := by
  rcases fq_6 hj with rfl | rfl | rfl | rfl | rfl | rfl <;> rfl
theorem fq_0 {j : Nat} (hj : j < 6) : (fq_w fx sd tb tc ra cT cI tt T)[2 + 3 * j]? = some (tt (3 * j), .inr (2, [.ref (tt (3 * j + 1)), .ref (tt (3 * j + 2)), .int (nI (T j).1)])) := by
  rcases fq_6 hj with rfl | rfl | rfl | rfl | rfl | rfl <;> rfl
theorem fq_S {j : Nat} (hj : j < 6) (X : Nat × (Nat → Int32) × (Nat → Int32)) : ct_sets (fq_w fx sd tb tc ra cT cI tt T) [2 + 3 * j, 3 + 3 * j, 4 + 3 * j] (fq_c tt cI j X) = fq_w fx sd tb tc ra cT cI tt (va_up T j X) := by
  rcases fq_6 hj with rfl | rfl | rfl | rfl | rfl | rfl <;> rfl
theorem fq_R {j : Nat} (hj : j < 6) : ct_sets (fq_w fx sd tb tc ra cT cI tt T) [2 + 3 * j, 3 + 3 * j, 4 + 3 * j] (fq_c tt cI j (T j)) = fq_w fx sd tb tc ra cT cI tt T := by
  rcases fq_6 hj with rfl | rfl | rfl | rfl | rfl | rfl <;> rfl
end FT
theorem fq_nd {j : Nat} (hj : j < 6) : va_nd [2 + 3 * j, 3 + 3 * j, 4 + 3 * j] = true := by
  rcases fq_6 hj with rfl | rfl | rfl | rfl | rfl | rfl <;> decide
