/-! CALLS 24: all fits tried -/
section
variable {P : zp} {n : Nat × Nat} {d nl nn : Nat} {T : yT} {L : Nat → Nat × Nat × Nat} {c0 : Int32} {N : yNo}
theorem yC_fit2 {P1 : zp} {V : yV} {k r q f f' : Nat} (hC : yC P1 250 V) (hk : k < 8) (hv : V.1 k = some (r, q, f)) : yC (zp_sA P1 253 k (zi f')) 250 (ysp V k (some (r, q, f'))) := by
  obtain ⟨c1, c2, c3⟩ := yC_p hC hk hv
  refine ⟨fun k' hk' => ?_, fun p hp => ?_, hC.2.2.1, hC.2.2.2⟩
  · show match (if k' = k then some (r, q, f') else V.1 k') with | none => (zp_sA P1 253 k (zi f')).2.1 251 k' = -1 | some (r, q, f) => (zp_sA P1 253 k (zi f')).2.1 251 k' = zi r ∧ (zp_sA P1 253 k (zi f')).2.1 252 k' = zi q ∧ (zp_sA P1 253 k (zi f')).2.1 253 k' = zi f
    rw [zp_a7 (show 251 ≠ 253 by decide), zp_a7 (show 252 ≠ 253 by decide)]
    by_cases z : k' = k
    · simp only [if_pos z]
      rw [z]
      exact ⟨c1, c2, zp_a9⟩
    · simp only [if_neg z]
      rw [zp_a8 z]
      exact hC.1 k' hk'
  · show (zp_sA P1 253 k (zi f')).2.1 254 p = _
    rw [zp_a7 (by decide)]; exact hC.2.1 p hp
def ybt (U : Nat → Nat → yV) (nn : Nat) (N : yNo) (m : Nat) : Int32 := (List.range m).foldl (fun a f => if yok (U f) nn N = true then a ||| (1 <<< (zi f &&& 31)) else a) 0
theorem zs_tryFits (hT : yTC P T) (hN : yNC P nn N) (hs : yTs P nl L c0) (hB : yNB T.1 nn N) (hL : ∀ l, l < nl → (L l).1 < T.1 ∧ (L l).2.1 < T.1 ∧ (L l).1 ≠ (L l).2.1 ∧ (L l).2.2 < 10) {i m : Nat} (hi : i < nl) (hm : m ≤ 9) : ∃ P', zk_sm (d + 10) m_Seeing_tryFits [.ref 249, .int (zi i), .int (zi m)] (zp_M P, n) = some (none, (zp_M P', n)) ∧ P'.1 249 8 = ybt (fun f => yev T (ytf nl L c0 i f)) nn N 10 ∧ (∀ f, f < 10 → yok (yev T (ytf nl L c0 i f)) nn N = true → 1 ≤ m → P'.2.1 259 f = (yev T (ytf nl L c0 i f) m).2.1 (L i).2.1) ∧ yF yff yfk P P' := by
  have h6 := hT.2.1
  have h8 : nl ≤ 8 := hs.2.1
  rw [e_Seeing_tryFits, zp_N8p, Option.bind_some]
  refine zl_ind (m := 10) (L := fun f (a : zp × Value × Value) => zk_sf (d + 10) m_Seeing_tryFits 7 [.ref 249, .int (zi i), .int (zi m), .int (zi f), a.2.1, a.2.2] [] (zp_M a.1, n)) (I := fun f a => a.1.1 249 8 = ybt (fun f => yev T (ytf nl L c0 i f)) nn N f ∧ (∀ f', f' < f → yok (yev T (ytf nl L c0 i f')) nn N = true → 1 ≤ m → a.1.2.1 259 f' = (yev T (ytf nl L c0 i f') m).2.1 (L i).2.1) ∧ yF yff yfk P a.1) (Q := fun r => ∃ P', r = some (none, (zp_M P', n)) ∧ P'.1 249 8 = ybt (fun f => yev T (ytf nl L c0 i f)) nn N 10 ∧ (∀ f, f < 10 → yok (yev T (ytf nl L c0 i f)) nn N = true → 1 ≤ m → P'.2.1 259 f = (yev T (ytf nl L c0 i f) m).2.1 (L i).2.1) ∧ yF yff yfk P P') (fun f a hf hI => Or.inr ?_) (fun a hI => ?_) (a := (zp_sF P 249 8 0, .retAddr 0, .retAddr 0)) ⟨zp_f9, fun f' h => absurd h (Nat.not_lt_zero f'), yF_f (by decide)⟩
  · obtain ⟨a, v4, v5⟩ := a
    obtain ⟨b8, bm, fa⟩ := hI
    have b8 : a.1 249 8 = ybt (fun f => yev T (ytf nl L c0 i f)) nn N f := b8
    have bm : ∀ f', f' < f → yok (yev T (ytf nl L c0 i f')) nn N = true → 1 ≤ m → a.2.1 259 f' = (yev T (ytf nl L c0 i f') m).2.1 (L i).2.1 := bm
    have fa : yF yff yfk P a := fa
    obtain ⟨c1, f1⟩ := yC_begin zs_250 (yTs_f fa hs)
    obtain ⟨Z, hZ⟩ : ∃ Z, Z = zq_begin a 250 := ⟨_, rfl⟩
    rw [← hZ] at c1 f1
    have hv : (ytd nl L c0).1 i = some ((L i).1, (L i).2.1, (L i).2.2) := by
      show (if i < nl then some (L i) else none) = _
      rw [if_pos hi]
    have c2 : yC (zp_sA Z 253 i (zi f)) 250 (yks (yev T (ytf nl L c0 i f) 0) c0) := yC_fit2 (f' := f) c1 (by omega) hv
    obtain ⟨P2, hP2⟩ : ∃ P2, P2 = zp_sA Z 253 i (zi f) := ⟨_, rfl⟩
    rw [← hP2] at c2
    have F1 : yF yff yfk a Z := yF_m f1 (fun x hx => by simp only [List.mem_cons, List.not_mem_nil, or_false] at hx ⊢; exact Or.inr hx) (fun k hk => by simp only [List.mem_cons, List.not_mem_nil, or_false] at hk ⊢; omega)
    have F2 : yF yff yfk a P2 := yF_t F1 (by rw [hP2]; exact yF_A (by decide))
    have F02 := yF_t fa F2
    have u8 : P2.1 249 8 = a.1 249 8 := by rw [hP2]; exact f1.1 249 8 (by simp)
    have u259 : P2.2.1 259 = a.2.1 259 := by rw [hP2, zp_a7 (by decide)]; exact f1.2.1 259 (by simp)
    obtain ⟨P3, w, w', e3, a8, am, ak, F3⟩ := zs_tf42 (d := d) (n := n) (nn := nn) (N := N) (V := ytf nl L c0 i f) (L := L) (c0 := c0) (q := (L i).2.1) (ytf_O hL hi hf) rfl h6 hB hi hm hf (hL i hi).2.1 rfl 9 0 true P2 rfl (yTC_f F02 hT) (yNC_f F02 hN) (yTs_f F02 hs) c2 (fun _ w' hw' => by
      rw [Bool.eq_false_iff]
      intro z
      obtain ⟨j, hj, e⟩ := List.any_eq_true.mp z
      unfold ybad at e
      rw [Bool.and_eq_true] at e
      have e1 := of_decide_eq_true e.1
      have := (hB j (List.mem_range.mp hj)).2.1
      omega) (fun z => (by cases z)) (fun h1 h2 => by omega)
    refine ⟨(P3, w, w'), ?_, ?_, fun f' hf' ho h1 => ?_, yF_t F02 F3⟩
    · show zk_sf (d + 10) m_Seeing_tryFits 7 [.ref 249, .int (zi i), .int (zi m), .int (zi f), v4, v5] [] (zp_M a, n) = _
      rw [e_Seeing_tryFits_7, if_pos (show zi f < 10 from zi_10 hf), zp_N2, Option.bind_some, zp_N0, Option.bind_some, zp_sv zs_250, Option.bind_some, zs_begin zs_250, zs_cV, Option.bind_some, ← hZ, zp_N2, Option.bind_some, zp_s2 zs_250, Option.bind_some, zs_put (zp_sb_t zs_250).2.2.2.1 (by decide), zs_cV, Option.bind_some, zp_pi (show i < 8 by omega) (by decide), ← hP2]
      exact e3
    · show P3.1 249 8 = _
      rw [a8, u8, b8]
      unfold ybt
      rw [zl_rs]
    · show P3.2.1 259 f' = _
      by_cases z : f' = f
      · rw [z] at ho ⊢
        exact am ho h1
      · rw [ak f' z, u259]; exact bm f' (by omega) ho h1
  · obtain ⟨a, v4, v5⟩ := a
    obtain ⟨b8, bm, fa⟩ := hI
    refine ⟨a, ?_, b8, bm, fa⟩
    show zk_sf (d + 10) m_Seeing_tryFits 7 [.ref 249, .int (zi i), .int (zi m), .int (zi 10), v4, v5] [] (zp_M a, n) = _
    rw [e_Seeing_tryFits_7, if_neg (by decide)]
end
