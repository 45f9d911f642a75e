/-! PARSING 28: the call text -/
def yfX : List (Nat × Nat) := [(13, 1), (24, 1), (33, 2), (13, 0), (269, 3), (269, 4), (269, 5), (269, 14), (269, 2), (269, 13)]
def ykX : List Nat := [25, 271, 272, 273, 274, 275, 276, 277]
/-- a new law beside the laws -/
theorem yP_newlaw {P Q : zp} {n n' la : Nat} {T : yT} {V : yV} {nl : Nat} {M : Nat → Nat × Nat × Nat} {c0 : Int32} {nw : Nat} {Y : yL} (hnw : P.1 33 2 = zi nw) (h4 : nw < 4) (F : yF yfX ykX P (Q.1, Q.2.1, Q.2.2.1, P.2.2.2.1, P.2.2.2.2)) (hG : ∀ lb X, lb + 2 < la → yLC P.2.2.2.2 lb X → yLC Q.2.2.2.2 lb X) (hR : ∀ k i, ¬ (k = 34 ∧ i = nw) → Q.2.2.2.1 k i = P.2.2.2.1 k i) (hRn : Q.2.2.2.1 34 nw = some la) (K : ∀ i X, i < nw → yLR P.2.1 i X → yLR Q.2.1 i X) (hn : n ≤ la) (hn' : la + 2 < n') (hLC : yLC Q.2.2.2.2 la Y) (hLR : yLR Q.2.1 nw Y) (hY : ywf Y) (w1 : Q.1 33 2 = zi (nw + 1)) (w2 : Q.1 269 13 = zi (nw + 1)) (w3 : Q.1 13 0 = 0) (w4 : Q.1 269 2 = 0) (hP : yP P n T V nl M c0) : yP Q n' T V nl M c0 := by
  obtain ⟨⟨j1, j2, ⟨x1, x2, x3, x4, x5, x6, x7⟩, j4, ⟨nn, n1, n2, n3, n4⟩, ⟨nw', q1, q2, q3, q4, q5, q6⟩⟩, hA, ⟨k1, k2, -⟩⟩ := hP
  have enw : nw' = nw := (zi_eq (by omega) (by omega)).mp (q2.symm.trans hnw)
  subst enw
  have hAk : ∀ k, k ∉ ykX → Q.2.1 k = P.2.1 k := fun k z => F.2.1 k z
  have hF : ∀ k j, (k, j) ∉ yfX → Q.1 k j = P.1 k j := fun k j z => F.1 k j z
  obtain ⟨a1, a2, a3, a4, a5, u0, u1⟩ := yA_F (by decide) (by decide) F hA
  -- the law that is in force is one of the old ones
  have old : ∀ i, i < 4 → P.1 33 3 = zi i → i < nw' := fun i hi h => by
    rcases q6 with z | ⟨i', hi', z⟩
    · rw [h] at z; exact absurd z (zi_n1 (by omega))
    · rw [h] at z
      have := (zi_eq (by omega) (by omega)).mp z
      omega
  refine ⟨⟨?_, ?_, ⟨?_, ?_, x3, fun l hl => ?_, x5, ?_, ?_⟩, ?_, ⟨nn, n1, ?_, ?_, fun i hi => ?_⟩, ⟨nw' + 1, h4, w1, w2, fun i hi => ?_, ?_, ?_⟩⟩, ⟨a1, a2, a3, a4, a5, fun s hs => ?_, u1⟩, ⟨fun j hj => ?_, ?_, 0, Nat.zero_le _, w3, w4, fun i hi => absurd hi (Nat.not_lt_zero i)⟩⟩
  · obtain ⟨b1, b2, b3, b4, b5⟩ := j1
    refine ⟨(hF 26 2 (by decide)).trans b1, b2, fun p hp => by rw [hAk 27 (by decide), hAk 28 (by decide), hAk 29 (by decide)]; exact b3 p hp, (hF 26 0 (by decide)).trans b4, ?_⟩
    rcases b5 with ⟨e1, e2⟩ | ⟨i, lb, X, e1, e2, e3, e4, e5, e6⟩
    · exact Or.inl ⟨(hF 33 3 (by decide)).trans e1, e2⟩
    · have hi := old i e1 e2
      obtain ⟨lb', X', b1', b2', -⟩ := q4 i hi
      have : lb' = lb := Option.some.inj (b1'.symm.trans e3)
      exact Or.inr ⟨i, lb, X, e1, (hF 33 3 (by decide)).trans e2, (hR 34 i (by omega)).trans e3, hG _ _ (by omega) e4, e5, e6⟩
  · obtain ⟨b1, b2, b3, b4, b5⟩ := j2
    refine ⟨(hF 269 25 (by decide)).trans b1, b2, fun p hp => by rw [hAk 284 (by decide)]; exact b3 p hp, by rw [hAk 283 (by decide)]; exact b4, ?_⟩
    rcases b5 with ⟨e1, e2⟩ | ⟨i, X, e1, e2, e3, e4, e5⟩
    · exact Or.inl ⟨(hF 269 29 (by decide)).trans e1, e2⟩
    · exact Or.inr ⟨i, X, e1, (hF 269 29 (by decide)).trans e2, K i X (old i e1 (q5.trans e2)) e3, e4, e5⟩
  · rw [hF 26 3 (by decide)]; exact x1
  · rw [hF 269 26 (by decide)]; exact x2
  · rw [hAk 30 (by decide), hAk 31 (by decide), hAk 32 (by decide), hAk 285 (by decide)]; exact x4 l hl
  · rw [hF 26 1 (by decide)]; exact x6
  · rw [hAk 283 (by decide), hF 26 0 (by decide)]; exact x7
  · rcases j4 with ⟨m1, m2⟩ | ⟨m1, m2, m3, I, m4, m5, m6, m7, m8⟩
    · exact Or.inl ⟨(hF 40 4 (by decide)).trans m1, (hF 269 50 (by decide)).trans m2⟩
    · refine Or.inr ⟨(hF 40 4 (by decide)).trans m1, (hF 269 50 (by decide)).trans m2, m3, I, ?_, ?_, m6, m7, ?_⟩
      · exact yC_F (fun j h0 hj z => by
          have : ∀ k, k ∈ ykX → k < 43 ∨ 48 < k := by decide
          have := this _ z
          omega) (fs := yfX) (ks := ykX) (P' := (Q.1, Q.2.1, Q.2.2.1, P.2.2.2.1, P.2.2.2.2)) (by decide) (by decide) F m4
      · rw [hAk 298 (by decide)]; exact m5
      · rw [hAk 298 (by decide), hAk 42 (by decide)]; exact m8
  · rw [hF 249 9 (by decide)]; exact n2
  · rw [hF 269 46 (by decide)]; exact n3
  · rw [hAk 255 (by decide), hAk 256 (by decide), hAk 257 (by decide), hAk 258 (by decide), hAk 292 (by decide), hAk 293 (by decide), hAk 294 (by decide), hAk 295 (by decide)]; exact n4 i hi
  · by_cases z : i = nw'
    · rw [z]; exact ⟨la, Y, hRn, hn', hLC, hLR, hY⟩
    · obtain ⟨lb, X, b1, b2, b3, b4, b5⟩ := q4 i (by omega)
      exact ⟨lb, X, (hR 34 i (by omega)).trans b1, by omega, hG _ _ (by omega) b3, K i X (by omega) b4, b5⟩
  · rw [hF 33 3 (by decide), hF 269 29 (by decide)]; exact q5
  · rw [hF 33 3 (by decide)]
    rcases q6 with z | ⟨i, hi, z⟩
    · exact Or.inl z
    · exact Or.inr ⟨i, by omega, z⟩
  · exact (hR 48 s (by omega)).trans (u0 s hs)
  · rw [hAk 268 (by decide), hAk 287 (by decide)]; exact k1 j hj
  · rw [hF 12 11 (by decide), hF 269 30 (by decide)]; exact k2
section
variable {n : Nat × Nat} {P : zp}
theorem zz_W1 : zk_gR (zp_M P, n) 33 4 1 = some 34 := zp_gR (by decide +kernel)
theorem zz_W2 : zk_gI (zp_M P, n) 33 4 2 = some (P.1 33 2) := zp_gI (by decide +kernel)
theorem zz_W2p {x : Int32} : zk_pf (zp_M P, n) 33 4 2 (.int x) = some (zp_M (zp_sF P 33 2 x), n) := zp_pI (by decide +kernel)
theorem zz_Wv : zk_rv (zp_M P, n) 33 4 = some () := zp_rv (by decide +kernel)
theorem zz_R13p {x : Int32} : zk_pf (zp_M P, n) 269 12 13 (.int x) = some (zp_M (zp_sF P 269 13 x), n) := zp_pI (by decide +kernel)
theorem zs_addLaw {nw la d : Nat} {fs : List Value} (hw : P.1 33 2 = zi nw) (h4 : nw < 4) (hl : 300 ≤ la) (e : P.2.2.2.2 la = zk_ob 1 fs) : zk_sm d m_Pinches_addLaw [.ref 33, .ref la] (zp_M P, n) = some (none, (zp_M (zp_sF (zp_sR P 34 nw (some la)) 33 2 (zi (nw + 1))), n)) := by
  rw [e_Pinches_addLaw, zz_W2, Option.bind_some, hw, if_neg (zi_n (by omega)), Option.bind_some, zz_W1, Option.bind_some, zp_al zz_a34 (by decide), Option.bind_some, if_pos ((zi_nI (i := nw) (m := 4) (by omega) (by decide)).mpr h4), Option.bind_some, Option.bind_some, zz_stR h4 hl e, Option.bind_some, zz_W2, Option.bind_some, show (zp_sR P 34 nw (some la)).1 33 2 = zi nw from hw, zi_s, zz_W2p, Option.bind_some]
end
set_option maxHeartbeats 1000000 in
theorem yc_text1 {L d : Nat} {xs : Nat → Int32} {P : zp} {n : Nat × Nat} (hI : yI P n.1) (hE : zk_kE L xs (zp_M P, n)) : yOK (d + 90) P n m_SaddlerKnows_text m_R_text [.int 1] := by
  obtain ⟨la, u⟩ := n
  obtain ⟨h300, T, V, nl, M, c0, hP⟩ := hI
  have h300 : 300 ≤ la := h300
  obtain ⟨nw, z1, z2, z3, z4, z5, z6⟩ := id hP.1.2.2.2.2.2
  obtain ⟨len, B, hT, hQ, h240, hB⟩ := yK_B hP.2.2
  obtain ⟨o, ⟨o1, o2⟩, oC, oR⟩ := yR_lawAll (n := (la, u)) (L := L) (xs := xs) hB h240
  have ht : ∀ {v : Int32} {s : zk_S}, zk_sm (d + 89) m_SaddlerKnows_takeLaw [.ref 12] (zp_M P, la, u) = some (some (.int v), s) → zk_sm (d + 90) m_SaddlerKnows_text [.ref 12, .int 1] (zp_M P, la, u) = some (some (.int v), s) := by
    intro v s h
    rw [e_SaddlerKnows_text, if_neg zi_1n, if_pos rfl, zz_Cv, Option.bind_some, h, zs_cI, Option.bind_some]
  have hs := e_SaddlerKnows_takeLaw (d + 88) 12 (zp_M P, la, u)
  rw [zp_C4, Option.bind_some, zz_W2, Option.bind_some, z2] at hs
  by_cases h4 : nw < 4
  · rw [if_pos (show zi nw < 4 from (zi_l (m := 4) (by omega) (by decide)).mpr h4), zz_C2, Option.bind_some, zp_Yv, Option.bind_some] at hs
    obtain ⟨P1, e1, F1, X1⟩ := oC P (d + 88) (by omega) hT hE
    rw [e1, zs_cI, Option.bind_some] at hs
    cases ho : o.2 with
    | none =>
      have hne : ¬ zi o.1 = -1 := zi_n1 (by omega)
      have ev : yov o = zi o.1 := by unfold yov; rw [ho]
      obtain ⟨P2, e2, F2, K2, -⟩ := oR P1 (la, u) nw (d + 89) (by omega) (by omega) (yTq_F (by decide) (by decide) F1 hQ)
      rw [ev] at e2
      rw [ev, if_neg (show ¬ (zi o.1, (zp_M P1, la, u)).1 = -1 from hne)] at hs
      have w13 : P1.1 269 13 = zi nw := (F1.1 269 13 (by decide)).trans z3
      refine yOK_q (v := -1) (P1 := P1) (P2 := P2) (ht hs) ?_ ⟨h300, T, V, nl, M, c0, yP_laws (nw := nw) ((F1.1 33 2 (by decide)).trans z2) z1 (fun i X hi => K2 i X (by omega)) F2 (yP_F ySc_P F1 hP)⟩
      rw [e_R_text, if_neg zi_1n, if_pos rfl, zp_R13, Option.bind_some, w13, if_pos (show zi nw < 4 from (zi_l (m := 4) (by omega) (by decide)).mpr h4), Option.bind_some, zp_Rv, Option.bind_some, e2, zs_cI, Option.bind_some, if_neg (show ¬ (zi o.1, (zp_M P2, la, u)).1 = -1 from hne)]
    | some Y =>
      obtain ⟨y1, y2, y3⟩ := o2 Y ho
      obtain ⟨x1, x2⟩ := X1 Y ho
      have ev : yov o = -1 := by unfold yov; rw [ho]
      obtain ⟨lc, hlc⟩ : ∃ lc, lc = (yen 0 Y).length := ⟨_, rfl⟩
      rw [← hlc] at y1 x1
      obtain ⟨P2, hP2⟩ : ∃ P2, P2 = zp_sG P1 (zk_up P1.2.2.2.2 la (zk_ob 1 [.null, .null, .int 0])) := ⟨_, rfl⟩
      have g2 : P2.2.2.2.2 la = zk_ob 1 [.null, .null, .int 0] := by rw [hP2]; exact zk_up_s _ _ _
      obtain ⟨g', f', e3, k1, k2, k3, k4, k5⟩ := zs_lawnew (P := P2) (la := la) (u := u + 3) (len := lc) (d := d + 87) h300 (by omega) g2
      have w24 : P2.1 24 1 = zi lc := by rw [hP2]; exact x1
      obtain ⟨P3, hP3⟩ : ∃ P3, P3 = zp_sG P2 g' := ⟨_, rfl⟩
      rw [← hP3] at e3
      have w33 : P3.1 33 2 = zi nw := by rw [hP3, hP2]; exact (F1.1 33 2 (by decide)).trans z2
      have g3 : P3.2.2.2.2 la = zk_ob 1 [.ref (la + 2), .ref (la + 1), .int 0] := by rw [hP3]; exact k2
      have e4 := zs_addLaw (n := (la + 3, u + 3 + 64 + lc)) (d := d + 88) w33 h4 h300 g3
      obtain ⟨P4, hP4⟩ : ∃ P4, P4 = zp_sF (zp_sF (zp_sR P3 34 nw (some la)) 33 2 (zi (nw + 1))) 13 0 0 := ⟨_, rfl⟩
      have w4 : P4.1 33 2 = zi (nw + 1) := by rw [hP4]; rfl
      rw [ev, if_pos rfl, zp_C4, Option.bind_some, zp_nw h300, ← hP2, zz_C2, Option.bind_some, zp_Y0, Option.bind_some, Option.bind_some, zp_Y1, Option.bind_some, w24, show zk_sm (d + 88) m_Law_new [.ref la, .ref 25, .int (zi lc)] (zp_M P2, la + 1, u + 3) = _ from e3, zs_cV, Option.bind_some, zz_Wv, Option.bind_some, show zk_sm (d + 88) m_Pinches_addLaw [.ref 33, .ref la] (zp_M P3, la + 3, u + 3 + 64 + lc) = _ from e4, zs_cV, Option.bind_some, zp_C0, Option.bind_some, zp_P0p, Option.bind_some, ← hP4, zp_C4, Option.bind_some, zz_W2, Option.bind_some, w4, zi_d (show 0 < nw + 1 by omega), Nat.add_sub_cancel] at hs
      -- the reference
      have q4 : yTq P4 B len := by
        have h := yTq_F (by decide) (by decide) F1 hQ
        rw [hP4, hP3, hP2]
        exact h
      obtain ⟨Q1, r1, G1, K1, L1⟩ := oR P4 (la + 3, u + 3 + 64 + lc) nw (d + 89) (by omega) (by omega) q4
      rw [ev] at r1
      have w13 : P4.1 269 13 = zi nw := by rw [hP4, hP3, hP2]; exact (F1.1 269 13 (by decide)).trans z3
      have w13' : Q1.1 269 13 = zi nw := (G1.1 269 13 (by decide)).trans w13
      obtain ⟨Q, hQ'⟩ : ∃ Q, Q = zp_sF (zp_sF Q1 269 2 0) 269 13 (zi (nw + 1)) := ⟨_, rfl⟩
      have hr : zk_sm (d + 90) m_R_text [.ref 269, .int 1] (zp_M P4, la + 3, u + 3 + 64 + lc) = some (some (.int (zi nw)), (zp_M Q, la + 3, u + 3 + 64 + lc)) := by
        rw [e_R_text, if_neg zi_1n, if_pos rfl, zp_R13, Option.bind_some, w13, if_pos (show zi nw < 4 from (zi_l (m := 4) (by omega) (by decide)).mpr h4), Option.bind_some, zp_Rv, Option.bind_some, r1, zs_cI, Option.bind_some, if_pos rfl, zp_R2p, Option.bind_some, zp_R13, Option.bind_some, show (zp_sF Q1 269 2 0).1 269 13 = zi nw from (zp_f8 (by decide)).trans w13', zi_s, zz_R13p, Option.bind_some, ← hQ', zp_R13, Option.bind_some, show Q.1 269 13 = zi (nw + 1) by rw [hQ']; exact zp_f9, zi_d (show 0 < nw + 1 by omega), Nat.add_sub_cancel]
      -- the frames
      have sub1 : ∀ x, x ∈ yfW → x ∈ yfX := by decide
      have sub2 : ∀ x, x ∈ yfP → x ∈ yfX := by decide
      have sub3 : ∀ x, x ∈ ykC → x ∈ ykX := by decide
      have fA : ∀ k j, (k, j) ∉ yfX → Q.1 k j = P.1 k j := fun k j z => by
        have a : ∀ a b, (a, b) ∈ yfX → ¬ (k = a ∧ j = b) := fun a b h w => z (by rw [w.1, w.2]; exact h)
        rw [hQ', zp_f8 (a 269 13 (by decide)), zp_f8 (a 269 2 (by decide)), G1.1 k j (fun h => z (sub1 _ h)), hP4, zp_f8 (a 13 0 (by decide)), zp_f8 (a 33 2 (by decide)), hP3, hP2]
        exact F1.1 k j (fun h => z (sub2 _ h))
      have fB : ∀ k, k ∉ ykX → Q.2.1 k = P.2.1 k := fun k z => by
        rw [hQ']
        refine (G1.2.1 k (fun h => z (sub3 _ h))).trans ?_
        rw [hP4, hP3, hP2]
        exact F1.2.1 k (fun h => z (by rw [List.mem_singleton.mp h]; decide))
      have fC : ∀ k, Q.2.2.1 k = P.2.2.1 k := fun k => by
        rw [hQ']
        refine (G1.2.2.1 k).trans ?_
        rw [hP4, hP3, hP2]
        exact F1.2.2.1 k
      have fR : Q.2.2.2.1 = zp_u P.2.2.2.1 34 nw (some la) := by
        rw [hQ']
        refine G1.2.2.2.1.trans ?_
        rw [hP4, hP3, hP2]
        show zp_u P1.2.2.2.1 34 nw (some la) = _
        rw [F1.2.2.2.1]
      have eg : P4.2.2.2.2 = g' := by rw [hP4, hP3]; rfl
      have eq4 : P4.2.1 = P1.2.1 := by rw [hP4, hP3, hP2]; rfl
      have gQ : yG g' Q.2.2.2.2 := by
        have h := G1.2.2.2.2
        rw [eg] at h
        rw [hQ']
        exact h
      have hlow : ∀ j, j < la → g' j = P1.2.2.2.2 j := fun j hj => by
        rw [k1 j (by omega) (by omega) (by omega), hP2]
        exact zk_up_n (by omega)
      refine ⟨zi nw, P4, Q, (la + 3, u + 3 + 64 + lc), ht hs, hr, ⟨by show 300 ≤ la + 3; omega, T, V, nl, M, c0, yP_newlaw (la := la) (Y := Y) z2 h4 ⟨fA, fB, fC, rfl, yG_r⟩ (fun lb X hlb hX => ?_) (fun k i hk => ?_) ?_ (fun i X hi hX => ?_) (Nat.le_refl la) (Nat.lt_succ_self _) ?_ ?_ y3 ?_ ?_ ?_ ?_ hP⟩, Nat.le_refl _, by show u + 3 + 64 + lc ≤ u + 1000; omega⟩
      · obtain ⟨a1, a2, h, st, fc, a3, a4, a5, a6⟩ := F1.2.2.2.2 _ _ hX
        exact gQ _ _ ⟨a1, a2, h, st, fc, (hlow _ (by omega)).trans a3, (hlow _ (by omega)).trans a4, (hlow _ (by omega)).trans a5, a6⟩
      · rw [fR]; exact if_neg hk
      · rw [fR]; exact if_pos ⟨rfl, rfl⟩
      · rw [hQ']
        refine K1 i X (by omega) ?_
        rw [eq4]
        exact yLR_e (fun k hk => F1.2.1 k ((by decide : ∀ k, k ∈ [271, 272, 274, 275, 276, 277] → k ∉ [25]) k hk)) hX
      · refine gQ _ _ ⟨h300, by omega, 0, fun _ => 0, f', k2, k3, by rw [← hlc]; exact k4, fun j x hj => ?_⟩
        have hjl : j < lc := by rw [hlc]; exact (List.getElem?_eq_some_iff.mp hj).1
        rw [k5 j hjl, hP2]
        exact x2 j x hj
      · rw [hQ']; exact L1 Y ho
      · rw [hQ', zp_f8 (by decide), zp_f8 (by decide), G1.1 33 2 (by decide)]; exact w4
      · rw [hQ']; exact zp_f9
      · rw [hQ', zp_f8 (by decide), zp_f8 (by decide), G1.1 13 0 (by decide), hP4]; exact zp_f9
      · rw [hQ', zp_f8 (by decide)]; exact zp_f9
  · rw [if_neg (show ¬ zi nw < 4 from fun z => h4 ((zi_l (m := 4) (by omega) (by decide)).mp z))] at hs
    refine yOK_q (v := -1) (P1 := P) (P2 := P) (ht hs) ?_ ⟨h300, T, V, nl, M, c0, hP⟩
    rw [e_R_text, if_neg zi_1n, if_pos rfl, zp_R13, Option.bind_some, z3, if_neg (show ¬ zi nw < 4 from fun z => h4 ((zi_l (m := 4) (by omega) (by decide)).mp z))]
theorem yc_text {L d : Nat} {xs : Nat → Int32} {P : zp} {n : Nat × Nat} (x : Int32) (hI : yI P n.1) (hE : zk_kE L xs (zp_M P, n)) : yOK (d + 90) P n m_SaddlerKnows_text m_R_text [.int x] := by
  by_cases h0 : x = 0
  · rw [h0]; exact yc_text0 hI hE
  · by_cases h1 : x = 1
    · rw [h1]; exact yc_text1 hI hE
    · refine yOK_q (v := -1) (P1 := P) (P2 := P) ?_ ?_ hI
      · rw [e_SaddlerKnows_text, if_neg h0, if_neg h1]
      · rw [e_R_text, if_neg h0, if_neg h1]
