/-! PARSING 24: laws: from the start; the call fault -/
def yfW : List (Nat × Nat) := [(269, 3), (269, 4), (269, 5), (269, 14)]
theorem yF_L {P P' : zp} (f : yF yfQ ykC P P') : yF yfW ykC P P' := yF_m f (fun x hx => by simp only [List.mem_cons, List.not_mem_nil, or_false] at hx; rcases hx with rfl | rfl | rfl <;> decide) (fun _ h => h)
/-- other laws are kept -/
theorem yLR_k {t i : Nat} {Q Q' : zp} {X : yL} (hi : i ≠ t) (K : yKr t 0 0 Q Q') (h : yLR Q.2.1 i X) : yLR Q'.2.1 i X := by
  obtain ⟨a, b, c, d⟩ := h
  obtain ⟨k1, k2, k3⟩ := K
  refine ⟨a, b, by rw [k2 i hi]; exact c, fun q cl hq => ?_⟩
  obtain ⟨s, e1, e2, e3, e4, e5⟩ := d q cl hq
  have hql : q < X.length := (List.getElem?_eq_some_iff.mp hq).1
  obtain ⟨f1, f2, f3⟩ := k3 (140 * i + q) (by omega)
  refine ⟨s, by rw [f1]; exact e1, by rw [f2]; exact e2, by rw [f3]; exact e3, e4, fun j o hj => ?_⟩
  have hjl : j < (cl.1 ++ cl.2).length := (List.getElem?_eq_some_iff.mp hj).1
  rw [List.length_append] at hjl
  obtain ⟨g1, g2⟩ := k1 (520 * i + s + j) (by omega)
  rw [g1, g2]
  exact e5 j o hj
section
variable {n : Nat × Nat} {L len : Nat} {xs : Nat → Int32} {B : Nat → Nat}
theorem zz_R14p {P : zp} {x : Int32} : zk_pf (zp_M P, n) 269 12 14 (.int x) = some (zp_M (zp_sF P 269 14 x), n) := zp_pI (by decide +kernel)
theorem zs_Ropen {Q : zp} {d t : Nat} (ht : t < 5) : zk_sm d m_R_open [.ref 269, .int (zi t)] (zp_M Q, n) = some (none, (zp_M (zp_sA (zp_sA (zp_sF (zp_sF (zp_sF (zp_sF Q 269 14 (zi t)) 269 3 0) 269 4 (-1)) 269 5 0) 273 t 0) 274 t 0), n)) := by
  rw [e_R_open, zz_R14p, Option.bind_some, zp_R3p, Option.bind_some, zp_R4p, Option.bind_some, zp_R5p, Option.bind_some, zp_R8', Option.bind_some, zp_sti zp_a273 ht (by decide), Option.bind_some, zp_R9', Option.bind_some, zp_sti zp_a274 ht (by decide), Option.bind_some]
theorem yR_lawAll (hB : ∀ i, i < len → 1 ≤ B i ∧ B i < 256) (h240 : len ≤ 240) : ∃ o : yPl, (o.1 ≤ len ∧ ∀ Y, o.2 = some Y → (yen 0 Y).length ≤ o.1 ∧ 2 * Y.length ≤ o.1 + 2 ∧ ywf Y) ∧
    (∀ (P : zp) (e : Nat), 64 ≤ e → yTp P B len → zk_kE L xs (zp_M P, n) → ∃ P', zk_sm e m_LawReader_firstFault [.ref 24] (zp_M P, n) = some (some (.int (yov o)), (zp_M P', n)) ∧ yF yfP [25] P P' ∧ ∀ Y, o.2 = some Y → P'.1 24 1 = zi (yen 0 Y).length ∧ ∀ (j : Nat) (x : Int32), (yen 0 Y)[j]? = some x → P'.2.1 25 j = x) ∧
    ∀ (Q : zp) (n : Nat × Nat) (t e : Nat), 64 ≤ e → t < 5 → yTq Q B len → ∃ Q', zk_sm e m_R_readLaw [.ref 269, .int (zi t)] (zp_M Q, n) = some (some (.int (yov o)), (zp_M Q', n)) ∧ yF yfW ykC Q Q' ∧ (∀ i X, i ≠ t → yLR Q.2.1 i X → yLR Q'.2.1 i X) ∧ ∀ Y, o.2 = some Y → yLR Q'.2.1 t Y := by
  obtain ⟨o, ⟨o1, o2⟩, oC, oR⟩ := yR_law (n := n) (L := L) (xs := xs) hB h240 len 0 rfl (Nat.zero_le _)
  refine ⟨o, ⟨o1, fun Y hY => o2 Y hY⟩, fun P e he hT hE => ?_, fun Q n t e he ht hT => ?_⟩
  · obtain ⟨e, rfl⟩ : ∃ e', e = e' + 1 := ⟨e - 1, by omega⟩
    obtain ⟨P1, hP1⟩ : ∃ P1, P1 = zp_sF (zp_sF P 24 1 0) 13 1 0 := ⟨_, rfl⟩
    have f1 : yF yfP [25] P P1 := by rw [hP1]; exact yF_t (yF_f (by decide)) (yF_f (by decide))
    obtain ⟨P2, e2, F2, -, X2⟩ := oC P1 0 0 e (by omega) ⟨yTp_F (by decide) (by decide) f1 hT, by rw [hP1]; rfl, Nat.zero_le _, by rw [hP1]; rfl, Nat.le_refl _, zk_kE_F (by rw [hP1]; rfl) (Nat.le_refl _) hE⟩ (Nat.le_refl _)
    refine ⟨P2, ?_, yF_t f1 F2, fun Y hY => ?_⟩
    · rw [e_LawReader_firstFault, zp_Y1p, Option.bind_some, zp_Y2, Option.bind_some, zp_P1p, Option.bind_some, ← hP1]
      exact e2
    · obtain ⟨a, b, -⟩ := X2 Y hY
      refine ⟨by rw [a, Nat.zero_add], fun j x hj => ?_⟩
      have := b j x hj
      rw [Nat.zero_add] at this
      exact this
  · obtain ⟨e, rfl⟩ : ∃ e', e = e' + 1 := ⟨e - 1, by omega⟩
    obtain ⟨Q1, hQ1⟩ : ∃ Q1, Q1 = zp_sA (zp_sA (zp_sF (zp_sF (zp_sF (zp_sF Q 269 14 (zi t)) 269 3 0) 269 4 (-1)) 269 5 0) 273 t 0) 274 t 0 := ⟨_, rfl⟩
    have eo := zs_Ropen (n := n) (Q := Q) (d := e) ht
    rw [← hQ1] at eo
    have f1 : yF yfW ykC Q Q1 := by rw [hQ1]; exact yF_t (yF_t (yF_t (yF_t (yF_t (yF_f (by decide)) (yF_f (by decide))) (yF_f (by decide))) (yF_f (by decide))) (yF_A (by decide))) (yF_A (by decide))
    have K1 : yKr t 0 0 Q Q1 := by
      refine ⟨fun j _ => ?_, fun i hi => ?_, fun i _ => ?_⟩
      · rw [hQ1]; exact ⟨by rw [zp_a7 (by decide), zp_a7 (by decide)]; rfl, by rw [zp_a7 (by decide), zp_a7 (by decide)]; rfl⟩
      · rw [hQ1, zp_a8 hi, zp_a7 (by decide)]; rfl
      · rw [hQ1]; exact ⟨by rw [zp_a7 (by decide), zp_a7 (by decide)]; rfl, by rw [zp_a7 (by decide), zp_a7 (by decide)]; rfl, by rw [zp_a7 (by decide), zp_a7 (by decide)]; rfl⟩
    have h273 : Q1.2.1 273 t = zi 0 := by rw [hQ1, zp_a7 (by decide)]; exact zp_a9
    have h274 : Q1.2.1 274 t = zi 0 := by rw [hQ1]; exact zp_a9
    obtain ⟨Q2, e2, F2, K2, X2⟩ := oR Q1 n 0 t 0 e (zi t) (by omega) ⟨yTq_F (by decide) (by decide) f1 hT, by rw [hQ1]; rfl, Nat.zero_le _, by rw [hQ1]; rfl, by rw [hQ1]; rfl, by rw [hQ1]; rfl, ht, h273, Nat.le_refl _⟩ h274 (Nat.le_refl _)
    have K := yKr_t (Nat.le_refl 0) (Nat.le_refl 0) K1 K2
    refine ⟨Q2, ?_, yF_t f1 (yF_L F2), fun i X hi hX => yLR_k hi K hX, fun Y hY => ?_⟩
    · rw [e_R_readLaw, zp_Rv, Option.bind_some, eo, zs_cV, Option.bind_some, zp_Rv, Option.bind_some]
      exact e2
    · obtain ⟨a1, a2, a3⟩ := o2 Y hY
      obtain ⟨b1, b2⟩ := X2 Y hY
      refine ⟨ht, by omega, by rw [b1, Nat.zero_add], fun q c hq => ?_⟩
      obtain ⟨a, -, d1, d2, d3, d4, d5⟩ := b2 q c hq
      rw [Nat.zero_add] at d1 d2 d3
      exact ⟨a, d1, d2, d3, d4, d5⟩
end
/-- a law's rows beside the laws -/
theorem yP_laws {P P' : zp} {n : Nat} {T : yT} {V : yV} {nl : Nat} {M : Nat → Nat × Nat × Nat} {c0 : Int32} {nw : Nat} (hnw : P.1 33 2 = zi nw) (h4 : nw ≤ 4) (K : ∀ i X, i < nw → yLR P.2.1 i X → yLR P'.2.1 i X) (F : yF yfW ykC P P') (hP : yP P n T V nl M c0) : yP P' n T V nl M c0 := by
  obtain ⟨⟨j1, j2, ⟨x1, x2, x3, x4, x5, x6, x7⟩, j4, ⟨nn, n1, n2, n3, n4⟩, ⟨nw', q1, q2, q3, q4, q5, q6⟩⟩, hA, hK⟩ := hP
  have enw : nw' = nw := (zi_eq (by omega) (by omega)).mp (q2.symm.trans hnw)
  subst enw
  have hAk := fun k (z : k ∉ ykC) => F.2.1 k z
  have hF := fun k j (z : (k, j) ∉ yfW) => F.1 k j z
  refine ⟨⟨?_, ?_, ⟨?_, ?_, x3, fun l hl => ?_, x5, ?_, ?_⟩, ?_, ⟨nn, n1, ?_, ?_, fun i hi => ?_⟩, ⟨nw', q1, ?_, ?_, fun i hi => ?_, ?_, ?_⟩⟩, yA_F (by decide) (by decide) F hA, yK_F (by decide) (by decide) F hK⟩
  · exact yTC_F (by decide) (by decide) F j1
  · obtain ⟨a1, a2, a3, a4, a5⟩ := j2
    refine ⟨(hF 269 25 (by decide)).trans a1, a2, fun p hp => by rw [hAk 284 (by decide)]; exact a3 p hp, by rw [hAk 283 (by decide)]; exact a4, ?_⟩
    rcases a5 with ⟨b1, b2⟩ | ⟨i, X, b1, b2, b3, b4, b5⟩
    · exact Or.inl ⟨(hF 269 29 (by decide)).trans b1, b2⟩
    · refine Or.inr ⟨i, X, b1, (hF 269 29 (by decide)).trans b2, K i X ?_ b3, b4, b5⟩
      rcases q6 with z | ⟨i', hi', z⟩
      · rw [q5, b2] at z
        exact absurd z (zi_n1 (by omega))
      · rw [q5, b2] at z
        have := (zi_eq (by omega) (by omega)).mp z
        omega
  · rw [hF 26 3 (by decide)]; exact x1
  · rw [hF 269 26 (by decide)]; exact x2
  · rw [hAk 30 (by decide), hAk 31 (by decide), hAk 32 (by decide), hAk 285 (by decide)]; exact x4 l hl
  · rw [hF 26 1 (by decide)]; exact x6
  · rw [hAk 283 (by decide), hF 26 0 (by decide)]; exact x7
  · rcases j4 with ⟨m1, m2⟩ | ⟨m1, m2, m3, I, m4, m5, m6, m7, m8⟩
    · exact Or.inl ⟨(hF 40 4 (by decide)).trans m1, (hF 269 50 (by decide)).trans m2⟩
    · refine Or.inr ⟨(hF 40 4 (by decide)).trans m1, (hF 269 50 (by decide)).trans m2, m3, I, yC_F (fun j h0 hj z => ?_) (by decide) (by decide) F m4, ?_, m6, m7, ?_⟩
      · simp only [List.mem_cons, List.not_mem_nil, or_false] at z; omega
      · rw [hAk 298 (by decide)]; exact m5
      · rw [hAk 298 (by decide), hAk 42 (by decide)]; exact m8
  · rw [hF 249 9 (by decide)]; exact n2
  · rw [hF 269 46 (by decide)]; exact n3
  · rw [hAk 255 (by decide), hAk 256 (by decide), hAk 257 (by decide), hAk 258 (by decide), hAk 292 (by decide), hAk 293 (by decide), hAk 294 (by decide), hAk 295 (by decide)]; exact n4 i hi
  · rw [hF 33 2 (by decide)]; exact q2
  · rw [hF 269 13 (by decide)]; exact q3
  · obtain ⟨la, X, a1, a2, a3, a4, a5⟩ := q4 i hi
    exact ⟨la, X, by rw [F.2.2.2.1]; exact a1, a2, F.2.2.2.2 _ _ a3, K i X hi a4, a5⟩
  · rw [hF 33 3 (by decide), hF 269 29 (by decide)]; exact q5
  · rw [hF 33 3 (by decide)]; exact q6
theorem ySc_P : ySc yfP [25] := ⟨by decide, by decide, by decide, by decide, by decide, by decide⟩
theorem yc_fault {L d : Nat} {xs : Nat → Int32} {P : zp} {n : Nat × Nat} (x : Int32) (hI : yI P n.1) (hE : zk_kE L xs (zp_M P, n)) : yOK (d + 90) P n m_SaddlerKnows_fault m_R_fault [.int x] := by
  by_cases h0 : x = 0
  · rw [h0]; exact yc_fault0 hI hE
  · by_cases h1 : x = 1
    · rw [h1]
      obtain ⟨h300, T, V, nl, M, c0, hP⟩ := hI
      obtain ⟨nw, q1, q2, -⟩ := id hP.1.2.2.2.2.2
      obtain ⟨len, B, hT, hQ, h240, hB⟩ := yK_B hP.2.2
      obtain ⟨o, o1, oC, oR⟩ := yR_lawAll (n := n) (L := L) (xs := xs) hB h240
      obtain ⟨P1, e1, F1, -⟩ := oC P (d + 89) (by omega) hT hE
      obtain ⟨P2, e2, F2, K2, -⟩ := oR P1 n 4 (d + 89) (by omega) (by decide) (yTq_F (by decide) (by decide) F1 hQ)
      refine yOK_q (v := yov o) (P1 := P1) (P2 := P2) ?_ ?_ ⟨h300, T, V, nl, M, c0, yP_laws (nw := nw) ((F1.1 33 2 (by decide)).trans q2) q1 (fun i X hi => K2 i X (by omega)) F2 (yP_F ySc_P F1 hP)⟩
      · rw [e_SaddlerKnows_fault, if_neg zi_1n, if_pos rfl, zz_C2, Option.bind_some, zp_Yv, Option.bind_some, e1, zs_cI, Option.bind_some]
      · rw [e_R_fault, if_neg zi_1n, if_pos rfl, zp_Rv, Option.bind_some, show zk_sm (d + 89) m_R_readLaw [.ref 269, .int 4] (zp_M P1, n) = _ from e2, zs_cI, Option.bind_some]
    · refine yOK_q (v := -2) (P1 := P) (P2 := P) ?_ ?_ hI
      · rw [e_SaddlerKnows_fault, if_neg h0, if_neg h1]
      · rw [e_R_fault, if_neg h0, if_neg h1]
