/-! PARSING 26: the call text of a county -/
def yf1 : List (Nat × Nat) := [(13, 1), (15, 3), (16, 0), (16, 1), (16, 2), (16, 3), (26, 0), (26, 1), (26, 2), (26, 3)]
def yk1 : List Nat := [17, 18, 19, 20, 21, 22, 23, 27, 28, 29, 30, 31, 32]
def yf6 : List (Nat × Nat) := [(269, 3), (269, 4), (269, 20), (269, 21), (269, 2), (269, 25), (269, 26), (269, 46), (269, 34), (269, 50)]
def yk6 : List Nat := [280, 281, 282, 283, 284, 285, 286]
def yf3 : List (Nat × Nat) := [(40, 6), (40, 4), (249, 9), (13, 0)] ++ yf6
def yf2 : List (Nat × Nat) := [(35, 4), (35, 5)] ++ yf3
def yk2 : List Nat := [36, 37, 38, 39] ++ yk6
def yf0 : List (Nat × Nat) := yf1 ++ yf2
def yk0 : List Nat := yk1 ++ yk2
/-- a county that was taken: all of it again -/
theorem yP_county {P P2 P3 P6 Q : zp} {n : Nat} {T : yT} {V : yV} {nl : Nat} {M : Nat → Nat × Nat × Nat} {c0 : Int32} {D : yD} (hP : yP P n T V nl M c0) (hv : yDv D) (hw : yWh D) (F : yF yf0 yk0 P Q) (F2 : yF yf2 yk2 P2 Q) (F3 : yF yf3 yk6 P3 Q) (F6 : yF yf6 yk6 P6 Q)
    (c0' : P2.1 26 0 = zi D.1.1) (c1 : P2.1 26 1 = D.1.2.1) (c2 : P2.1 26 2 = zi D.2.1.1) (c3 : P2.1 26 3 = zi D.2.2.1) (c4 : ∀ p, p < D.2.1.1 → P2.2.1 27 p = D.2.1.2 0 p ∧ P2.2.1 28 p = D.2.1.2 1 p ∧ P2.2.1 29 p = D.2.1.2 2 p) (c5 : ∀ l, l < D.2.2.1 → P2.2.1 30 l = zi (D.2.2.2 l).1 ∧ P2.2.1 31 l = zi (D.2.2.2 l).2.1 ∧ P2.2.1 32 l = zi (D.2.2.2 l).2.2)
    (hC : yC P3 35 (ytd D.2.2.1 D.2.2.2 D.1.2.1)) (g1 : P6.1 40 6 = 0) (g2 : P6.1 40 4 = 0) (g3 : P6.1 249 9 = 0) (g4 : P6.1 13 0 = 0)
    (q1 : Q.1 269 25 = zi D.2.1.1) (q2 : yTr Q D.2.2.1 D.2.2.2 D.1.2.1) (q3 : Q.2.1 283 0 = zi D.1.1) (q4 : ∀ p, p < D.2.1.1 → Q.2.1 284 (3 * p + 0) = D.2.1.2 0 p ∧ Q.2.1 284 (3 * p + 1) = D.2.1.2 1 p ∧ Q.2.1 284 (3 * p + 2) = D.2.1.2 2 p) (q5 : yR (Q.2.1 286) (ytd D.2.2.1 D.2.2.2 D.1.2.1)) (q6 : Q.2.1 286 40 = 0) (q7 : Q.1 269 46 = 0) (q8 : Q.1 269 34 = 0) (q9 : Q.1 269 50 = 0) (q0 : Q.1 269 2 = 0) :
    yP Q n (D.2.1.1, D.2.1.2 0, D.2.1.2 1, D.2.1.2 2, zi D.1.1, T.2.2.2.2.2) (ytd D.2.2.1 D.2.2.2 D.1.2.1) D.2.2.1 D.2.2.2 D.1.2.1 := by
  obtain ⟨v1, v2, v3, v4⟩ := hv
  obtain ⟨w1, w2⟩ := hw
  obtain ⟨⟨⟨-, -, -, -, jC⟩, ⟨-, -, -, -, jR⟩, -, -, -, ⟨nw, z1, z2, z3, z4, z5, z6⟩⟩, ⟨-, -, -, -, -, ⟨u0, na, nx, U, -, -, -, -, u5, u6, -⟩⟩, ⟨k1, k2, -⟩⟩ := hP
  obtain ⟨t1, t2, t3, t4⟩ := q2
  have eL : ∀ l, l < D.2.2.1 → (D.2.2.2 l).1 < D.2.1.1 ∧ (D.2.2.2 l).2.1 < D.2.1.1 ∧ (D.2.2.2 l).1 ≠ (D.2.2.2 l).2.1 ∧ (D.2.2.2 l).2.2 < 10 := fun l hl => by
    obtain ⟨a, b, c, -⟩ := w2 l hl
    have := (v4 l hl).2.2
    exact ⟨a, b, c, by omega⟩
  refine ⟨⟨⟨?_, v2, fun p hp => ?_, ?_, ?_⟩, ⟨q1, v2, q4, q3, ?_⟩, ⟨?_, t1, ⟨v3, Or.inr w1⟩, fun l hl => ⟨?_, t3 l hl⟩, eL, ?_, t4, D.1.1, v1, ?_⟩, Or.inl ⟨?_, q9⟩, ⟨0, by decide, ?_, q7, fun i hi => absurd hi (Nat.not_lt_zero i)⟩, ⟨nw, z1, ?_, ?_, fun i hi => ?_, ?_, ?_⟩⟩, ⟨?_, q5, ⟨fun k r q f hk h => ?_, Nat.zero_le _⟩, ⟨fun p _ => ⟨(by decide : ¬ (0 : Int32) < 0), (by decide : ¬ (99 : Int32) < 0)⟩, fun _ _ _ => rfl, Nat.zero_le _⟩, ⟨q6, fun i c hi _ => absurd hi (Nat.not_lt_zero i)⟩, ⟨?_, 0, nx, fun _ => ytd D.2.2.1 D.2.2.2 D.1.2.1, rfl, ?_, q8, Nat.zero_le _, ?_, u6, fun i hi => absurd hi (Nat.not_lt_zero i)⟩⟩, ⟨fun j hj => ?_, ?_, 0, Nat.zero_le _, ?_, q0, fun i hi => absurd hi (Nat.not_lt_zero i)⟩⟩
  · exact (F2.1 26 2 (by decide)).trans c2
  · rw [F2.2.1 27 (by decide), F2.2.1 28 (by decide), F2.2.1 29 (by decide)]; exact c4 p hp
  · exact (F2.1 26 0 (by decide)).trans c0'
  · rcases jC with ⟨b1, b2⟩ | ⟨i, la, X, b1, b2, b3, b4, b5, b6⟩
    · exact Or.inl ⟨(F.1 33 3 (by decide)).trans b1, b2⟩
    · exact Or.inr ⟨i, la, X, b1, (F.1 33 3 (by decide)).trans b2, by rw [F.2.2.2.1]; exact b3, F.2.2.2.2 _ _ b4, b5, b6⟩
  · rcases jR with ⟨b1, b2⟩ | ⟨i, X, b1, b2, b3, b4, b5⟩
    · exact Or.inl ⟨(F.1 269 29 (by decide)).trans b1, b2⟩
    · exact Or.inr ⟨i, X, b1, (F.1 269 29 (by decide)).trans b2, yLR_e (fun k hk => F.2.1 k ((by decide : ∀ k, k ∈ [271, 272, 274, 275, 276, 277] → k ∉ yk0) k hk)) b3, b4, b5⟩
  · exact (F2.1 26 3 (by decide)).trans c3
  · rw [F2.2.1 30 (by decide), F2.2.1 31 (by decide), F2.2.1 32 (by decide)]; exact c5 l hl
  · exact (F2.1 26 1 (by decide)).trans c1
  · exact (F2.1 26 0 (by decide)).trans c0'
  · exact (F6.1 40 4 (by decide)).trans g2
  · exact (F6.1 249 9 (by decide)).trans g3
  · exact (F.1 33 2 (by decide)).trans z2
  · exact (F.1 269 13 (by decide)).trans z3
  · obtain ⟨la, X, a1, a2, a3, a4, a5⟩ := z4 i hi
    exact ⟨la, X, by rw [F.2.2.2.1]; exact a1, a2, F.2.2.2.2 _ _ a3, yLR_e (fun k hk => F.2.1 k ((by decide : ∀ k, k ∈ [271, 272, 274, 275, 276, 277] → k ∉ yk0) k hk)) a4, a5⟩
  · rw [F.1 33 3 (by decide), F.1 269 29 (by decide)]; exact z5
  · rw [F.1 33 3 (by decide)]; exact z6
  · exact yC_F (fun j h0 hj z => by
      have : ∀ k, k ∈ yk6 → 280 ≤ k := by decide
      have := this _ z
      omega) (by decide) (by decide) F3 hC
  · have h : (if k < D.2.2.1 then some (D.2.2.2 k) else none) = some (r, q, f) := h
    by_cases y : k < D.2.2.1
    · rw [if_pos y] at h
      have e : D.2.2.2 k = (r, q, f) := Option.some.inj h
      have := eL k y
      rw [e] at this
      exact this
    · rw [if_neg y] at h; cases h
  · intro s hs
    rw [F.2.2.2.1]; exact u0 s hs
  · exact (F6.1 40 6 (by decide)).trans g1
  · exact (F.1 40 5 (by decide)).trans u5
  · rw [F.2.1 268 (by decide), F.2.1 287 (by decide)]; exact k1 j hj
  · rw [F.1 12 11 (by decide), F.1 269 30 (by decide)]; exact k2
  · exact (F6.1 13 0 (by decide)).trans g4
set_option maxHeartbeats 1000000 in
theorem yc_text0 {L d : Nat} {xs : Nat → Int32} {P : zp} {n : Nat × Nat} (hI : yI P n.1) (hE : zk_kE L xs (zp_M P, n)) : yOK (d + 90) P n m_SaddlerKnows_text m_R_text [.int 0] := by
  obtain ⟨h300, T, V, nl, M, c0, hP⟩ := hI
  obtain ⟨len, B, hT, hQ, h240, hB⟩ := yK_B hP.2.2
  obtain ⟨o, ⟨o1, o2⟩, oC, oR⟩ := yZ_county (n := n) (L := L) (xs := xs) hB h240
  obtain ⟨P1, e1, F1, X1⟩ := oC P (d + 88) (by omega) hT hE
  have hs := e_SaddlerKnows_takeCounty (d + 88) 12 (zp_M P, n)
  rw [zz_C1, Option.bind_some, zp_Zv, Option.bind_some, e1, zs_cI, Option.bind_some] at hs
  have ht : ∀ {v : Int32} {s : zk_S}, zk_sm (d + 89) m_SaddlerKnows_takeCounty [.ref 12] (zp_M P, n) = some (some (.int v), s) → zk_sm (d + 90) m_SaddlerKnows_text [.ref 12, .int 0] (zp_M P, n) = some (some (.int v), s) := by
    intro v s h
    rw [e_SaddlerKnows_text, if_pos rfl, zz_Cv, Option.bind_some, h, zs_cI, Option.bind_some]
  cases ho : o.2 with
  | none =>
    have hne : ¬ zi o.1 = -1 := zi_n1 (by omega)
    have ev : yovd o = zi o.1 := by unfold yovd; rw [ho]
    obtain ⟨P2, e2, F2, -⟩ := oR P1 (d + 89) (by omega) (yTq_F (by decide) (by decide) F1 hQ)
    rw [ev] at e2
    rw [ev, if_neg (show ¬ (zi o.1, (zp_M P1, n)).1 = -1 from hne)] at hs
    refine yOK_q (v := -1) (P1 := P1) (P2 := P2) (ht hs) ?_ ⟨h300, T, V, nl, M, c0, yP_F ySc_Y F2 (yP_F ySc_Z F1 hP)⟩
    rw [e_R_text, if_pos rfl, zp_Rv, Option.bind_some, e2, zs_cI, Option.bind_some, if_neg (show ¬ (zi o.1, (zp_M P2, n)).1 = -1 from hne), if_neg (by decide)]
  | some D =>
    obtain ⟨hv, hw⟩ := o2 D ho
    have ev : yovd o = -1 := by unfold yovd; rw [ho]
    obtain ⟨P2, e2, F2, c0', c1, c2, c3, c4, c5⟩ := zs_toldcopy (n := n) (d := d + 87) hv (X1 D ho)
    obtain ⟨hC, fC⟩ := yC_begin (P := P2) (b := 35) (nl := D.2.2.1) (L := D.2.2.2) (c0 := D.1.2.1) zs_35 ⟨c3, hv.2.2.1, c5, c1⟩
    have e3 := zs_begin (d := d + 85) (n := n) (P := P2) zs_35
    obtain ⟨P3, hP3⟩ : ∃ P3, P3 = zq_begin P2 35 := ⟨_, rfl⟩
    rw [← hP3] at hC fC e3
    obtain ⟨P6, hP6⟩ : ∃ P6, P6 = zp_sF (zp_sF (zp_sF (zp_sF P3 40 6 0) 40 4 0) 249 9 0) 13 0 0 := ⟨_, rfl⟩
    have f36 : yF [(40, 6), (40, 4), (249, 9), (13, 0)] [] P3 P6 := by rw [hP6]; exact yF_t (yF_t (yF_t (yF_f (by decide)) (yF_f (by decide))) (yF_f (by decide))) (yF_f (by decide))
    have c26 : P6.1 26 2 = zi D.2.1.1 := (f36.1 26 2 (by decide)).trans ((fC.1 26 2 (by decide)).trans c2)
    rw [ev, if_pos rfl, zp_C3, Option.bind_some, zz_C1, Option.bind_some, zp_Z0, Option.bind_some, zp_Tv, Option.bind_some, e2, zs_cV, Option.bind_some, zp_C5, Option.bind_some, zp_C3, Option.bind_some, zp_sv zs_35, Option.bind_some, e3, zs_cV, Option.bind_some, zp_C6, Option.bind_some, zp_Sv, Option.bind_some, zs_forget, zs_cV, Option.bind_some, zp_C7, Option.bind_some, zp_N9p, Option.bind_some, zp_C0, Option.bind_some, zp_P0p, Option.bind_some, ← hP6, zp_C3, Option.bind_some, zp_T2, Option.bind_some, c26] at hs
    -- the reference
    have F06 : yF (yf1 ++ [(35, 4), (35, 5), (40, 6), (40, 4), (249, 9), (13, 0)]) (yk1 ++ [36, 37, 38, 39]) P P6 := yF_t (yF_m F1 (by decide) (by decide)) (yF_t (yF_m F2 (by decide) (by decide)) (yF_t (yF_m fC (by decide) (by decide)) (yF_m f36 (by decide) (fun _ h => by cases h))))
    obtain ⟨Q1, r1, G1, Y1⟩ := oR P6 (d + 89) (by omega) (yTq_F (by decide) (by decide) F06 hQ)
    have D1 := Y1 D ho
    have G2 : yF [(269, 2)] [] Q1 (zp_sF Q1 269 2 0) := yF_f (by decide)
    obtain ⟨Q, r3, G3, q1, q2, q3, q4, q5, q6, q7, q8, q9⟩ := zs_Rtake (n := n) (d := d + 88) hv (yDq_F (by decide) (by decide) G2 D1)
    have F6 : yF yf6 yk6 P6 Q := yF_t (yF_m G1 (by decide) (by decide)) (yF_t (yF_m G2 (by decide) (fun _ h => by cases h)) (yF_m G3 (by decide) (by decide)))
    have F3 : yF yf3 yk6 P3 Q := yF_t (yF_m f36 (by decide) (fun _ h => by cases h)) (yF_m F6 (by decide) (fun _ h => h))
    have F2' : yF yf2 yk2 P2 Q := yF_t (yF_m fC (by decide) (by decide)) (yF_m F3 (by decide) (by decide))
    have F0 : yF yf0 yk0 P Q := yF_t (yF_m F1 (by decide) (by decide)) (yF_t (yF_m F2 (by decide) (by decide)) (yF_m F2' (by decide) (by decide)))
    refine yOK_q (v := zi D.2.1.1) (P1 := P6) (P2 := Q) (ht hs) ?_ ⟨h300, _, _, _, _, _, yP_county hP hv hw F0 F2' F3 F6 c0' c1 c2 c3 c4 c5 hC (by rw [hP6]; rfl) (by rw [hP6]; rfl) (by rw [hP6]; rfl) (by rw [hP6]; rfl) q1 q2 q3 q4 q5 q6 q7 q8 q9 ?_⟩
    · rw [ev] at r1
      rw [e_R_text, if_pos rfl, zp_Rv, Option.bind_some, r1, zs_cI, Option.bind_some, if_pos rfl, zp_R2p, Option.bind_some, zp_Rv, Option.bind_some, r3, zs_cI, Option.bind_some]
    · exact (G3.1 269 2 (by decide)).trans zp_f9
