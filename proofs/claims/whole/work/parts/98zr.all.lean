/-! LOOP 2: the law's own person; the loop -/
/-- more cells past the picture: all of it again -/
theorem yP_sG {P : zp} {n n' : Nat} {T : yT} {V : yV} {nl : Nat} {M : Nat → Nat × Nat × Nat} {c0 : Int32} {g : zk_M} (hn : n ≤ n') (hg : ∀ k, k < n → g k = P.2.2.2.2 k) (hP : yP P n T V nl M c0) : yP (zp_sG P g) n' T V nl M c0 := by
  obtain ⟨⟨⟨b1, b2, b3, b4, b5⟩, j2, j3, j4, j5, ⟨nw, q1, q2, q3, q4, q5, q6⟩⟩, hA, hK⟩ := hP
  have keep : ∀ la X, la + 2 < n → yLC P.2.2.2.2 la X → yLC g la X := fun la X hla ⟨a1, a2, h, st, fc, a3, a4, a5, a6⟩ => ⟨a1, a2, h, st, fc, (hg _ (by omega)).trans a3, (hg _ (by omega)).trans a4, (hg _ hla).trans a5, a6⟩
  refine ⟨⟨⟨b1, b2, b3, b4, ?_⟩, j2, j3, j4, j5, ⟨nw, q1, q2, q3, fun i hi => ?_, q5, q6⟩⟩, hA, hK⟩
  · rcases b5 with ⟨e1, e2⟩ | ⟨i, la, X, e1, e2, e3, e4, e5, e6⟩
    · exact Or.inl ⟨e1, e2⟩
    · refine Or.inr ⟨i, la, X, e1, e2, e3, keep la X ?_ e4, e5, e6⟩
      have hi : i < nw := by
        rcases q6 with z | ⟨i', hi', z⟩
        · rw [e2] at z; exact absurd z (zi_n1 (by omega))
        · rw [e2] at z
          have := (zi_eq (by omega) (by omega)).mp z
          omega
      obtain ⟨la', X', a1, a2, -⟩ := q4 i hi
      have : la' = la := Option.some.inj (a1.symm.trans e3)
      omega
  · obtain ⟨la, X, a1, a2, a3, a4, a5⟩ := q4 i hi
    exact ⟨la, X, a1, by omega, keep la X a2 a3, a4, a5⟩
theorem ySc_Th : ySc [(269, 0)] [278, 279] := ⟨by decide, by decide, by decide, by decide, by decide, by decide⟩
section
variable {P : zp} {n : Nat × Nat} {L d i : Nat} {xs : Nat → Int32}
theorem zz_a299 : zp_ad 299 = (3, 1) := by decide +kernel
theorem zz_L299 : zp_M P 299 = zk_la 1 (P.2.2.1 299) := by
  obtain ⟨hr, ht⟩ := zp_ad_i zz_a299 (by decide)
  rw [show zp_M P 299 = zp_c P 299 from if_pos hr]
  unfold zp_c
  rw [ht]
  rfl
theorem zz_stL {y : Int64} : zk_stL (zp_M P, n) 299 0 y = some (zp_M (zp_sJ P 299 0 y), n) := by
  unfold zk_stL
  rw [show (zp_M P, n).1 299 = _ from zz_L299]
  show (if ¬ ((0 : Int32) < 0 ∨ 1 ≤ (0 : Int32).toNatClampNeg) then some (zk_up (zp_M P) 299 (zk_la 1 (vp_updL (P.2.2.1 299) (0 : Int32).toNatClampNeg y)), n) else none) = _
  rw [if_pos (by decide), zp_Mu (P' := zp_sJ P 299 0 y) ?_ (fun j hj => zp_Me (P := P) (P' := zp_sJ P 299 0 y) rfl rfl (zp_uo hj) rfl rfl)]
  rw [zz_L299]
  refine congrArg (zk_la 1) ?_
  funext j
  show (if 299 = 299 ∧ j = 0 then y else P.2.2.1 299 j) = if j = 0 then y else P.2.2.1 299 j
  by_cases z : j = 0
  · rw [if_pos ⟨rfl, z⟩, if_pos z]
  · rw [if_neg (fun w => z w.2), if_neg z]
theorem zz_ldL : zk_ldL (zp_M P, n) 299 0 = some (P.2.2.1 299 0) := by
  unfold zk_ldL
  rw [show (zp_M P, n).1 299 = _ from zz_L299]
  show (if ¬ ((0 : Int32) < 0 ∨ 1 ≤ (0 : Int32).toNatClampNeg) then some (P.2.2.1 299 (0 : Int32).toNatClampNeg) else none) = _
  rw [if_pos (by decide)]
  rfl
theorem zz_thrown {e : Nat} : zk_sm e m_R_thrown [.ref 269] (zp_M P, n) = some (some (.int (P.1 269 0)), (zp_M P, n)) := by
  rw [e_R_thrown, (zp_o269 P n).1, Option.bind_some]
theorem yL_person (hL : L ≤ 3072) (hI : yI P n.1) (hE : zk_kE L xs (zp_M P, n)) (hi : i + 6 ≤ L) : yLk L xs d 381 i P n := by
  intro v5 v6
  obtain ⟨n1, n2⟩ := n
  obtain ⟨h300, T, V, nl, M, c0, hP⟩ := hI
  have h300 : 300 ≤ n1 := h300
  have hcl : ∀ s : zk_S, zk_cl (d + 91) m_Law_person [.ref 12, .int (xs (i + 1)), .int (xs (i + 2)), .ref 299] s = (zk_rv s 12 11).bind fun _ => (zk_sm (d + 89) m_SaddlerKnows_person [.ref 12, .int (xs (i + 1)), .int (xs (i + 2))] s).bind fun r => match r with
    | (some (.int y), t) => (zk_stL t 299 0 y.toInt64).bind fun u => some (some (.int 0), u)
    | (some (.retAddr _), t) => some (some (.int 1), zk_nw t zk_no zk_xw)
    | _ => none := fun s => rfl
  rcases yc_personC (d := d + 69) (n := (n1, n2)) hP (p := xs (i + 1)) (w := xs (i + 2)) with ⟨hf, e1⟩ | ⟨a, j, P1, ha, hj, hp, hw, e1, F1⟩
  · obtain ⟨P1, hP1⟩ : ∃ P1, P1 = zp_sG P (zk_up P.2.2.2.2 n1 zk_no) := ⟨_, rfl⟩
    have hP' : yP P1 (n1 + 1) T V nl M c0 := by
      rw [hP1]
      exact yP_sG (Nat.le_succ n1) (fun k hk => zk_up_n (by omega)) hP
    have ec : zk_cl (d + 91) m_Law_person [.ref 12, .int (xs (i + 1)), .int (xs (i + 2)), .ref 299] (zp_M P, n1, n2) = some (some (.int 1), (zp_M P1, n1 + 1, n2 + 6)) := by
      rw [hcl, zz_Cv, Option.bind_some, show zk_sm (d + 89) m_SaddlerKnows_person [.ref 12, .int (xs (i + 1)), .int (xs (i + 2))] (zp_M P, n1, n2) = _ from e1, Option.bind_some]
      show some (some (Value.int 1), zk_nw (zp_M P, n1, n2) zk_no zk_xw) = _
      rw [zp_nw h300, ← hP1]
      rfl
    have hE1 : zk_kE L xs (zp_M P1, n1 + 1, n2 + 6) := by
      have h := zk_nw_k (c := zk_no) (w := zk_xw) hE
      rw [zp_nw h300, ← hP1] at h
      exact h
    obtain ⟨P2, e2, t2, F2⟩ := (yc_personR (d := d + 70) (n := (n1 + 1, n2 + 6)) hP' (p := xs (i + 1)) (w := xs (i + 2))).1 hf
    have e2 : zk_sm (d + 90) m_R_person [.ref 269, .int (xs (i + 1)), .int (xs (i + 2))] (zp_M P1, n1 + 1, n2 + 6) = _ := e2
    refine ⟨P2, (n1 + 1, n2 + 6), .int 1, .int 0, ?_, ⟨by show 300 ≤ n1 + 1; omega, T, V, nl, M, c0, yP_F ySc_Th F2 hP'⟩, zk_sm_k e2 hE1, by show n1 + 1 ≤ n1 + 3; omega, by show n2 + 6 ≤ n2 + 1000; omega⟩
    rw [e_Law_law_381, zs_scr hE zi_i1 (show i + 1 < L by omega) hL, Option.bind_some, zs_scr hE zi_i2 (show i + 2 < L by omega) hL, Option.bind_some, show zk_cl (d + 90 + 1) m_Law_person [.ref 12, .int (xs (i + 1)), .int (xs (i + 2)), .ref 299] (zp_M P, n1, n2) = _ from ec, zs_cI, Option.bind_some, zs_scr hE1 zi_i1 (show i + 1 < L by omega) hL, Option.bind_some, zs_scr hE1 zi_i2 (show i + 2 < L by omega) hL, Option.bind_some, zp_Rv, Option.bind_some, e2, zs_cI, Option.bind_some, zp_Rv, Option.bind_some, zz_thrown, zs_cI, Option.bind_some, t2, if_pos rfl, if_neg zi_1n]
  · obtain ⟨P1', hP1⟩ : ∃ P1', P1' = zp_sJ P1 299 0 (Int32.toInt64 (ypv T V a j)) := ⟨_, rfl⟩
    have hPa : yP P1 n1 T V nl M c0 := yP_F ySc_0 F1 hP
    have hP' : yP P1' n1 T V nl M c0 := by
      rw [hP1]
      exact hPa
    have ec : zk_cl (d + 91) m_Law_person [.ref 12, .int (xs (i + 1)), .int (xs (i + 2)), .ref 299] (zp_M P, n1, n2) = some (some (.int 0), (zp_M P1', n1, n2)) := by
      rw [hcl, zz_Cv, Option.bind_some, show zk_sm (d + 89) m_SaddlerKnows_person [.ref 12, .int (xs (i + 1)), .int (xs (i + 2))] (zp_M P, n1, n2) = _ from e1, Option.bind_some]
      show ((zk_stL (zp_M P1, n1, n2) 299 0 (Int32.toInt64 (ypv T V a j))).bind fun u => some (some (Value.int 0), u)) = _
      rw [zz_stL, Option.bind_some, ← hP1]
    have hE1 : zk_kE L xs (zp_M P1', n1, n2) := zk_kE_F (by rw [hP1]; rfl) (Nat.le_refl _) (zk_sm_k e1 hE)
    obtain ⟨P2, e2, t2, F2⟩ := (yc_personR (d := d + 70) (n := (n1, n2)) hP' (p := xs (i + 1)) (w := xs (i + 2))).2 a j ha hj hp hw
    have e2 : zk_sm (d + 90) m_R_person [.ref 269, .int (xs (i + 1)), .int (xs (i + 2))] (zp_M P1', n1, n2) = _ := e2
    have hy : P2.2.2.1 299 0 = Int32.toInt64 (ypv T V a j) := by
      rw [F2.2.2.1 299, hP1]
      show (if 299 = 299 ∧ 0 = 0 then Int32.toInt64 (ypv T V a j) else P1.2.2.1 299 0) = _
      exact if_pos ⟨rfl, rfl⟩
    refine ⟨P2, (n1, n2), .int 0, .int (ypv T V a j), ?_, ⟨h300, T, V, nl, M, c0, yP_F ySc_Th F2 hP'⟩, zk_sm_k e2 hE1, Nat.le_add_right _ _, Nat.le_add_right _ _⟩
    rw [e_Law_law_381, zs_scr hE zi_i1 (show i + 1 < L by omega) hL, Option.bind_some, zs_scr hE zi_i2 (show i + 2 < L by omega) hL, Option.bind_some, show zk_cl (d + 90 + 1) m_Law_person [.ref 12, .int (xs (i + 1)), .int (xs (i + 2)), .ref 299] (zp_M P, n1, n2) = _ from ec, zs_cI, Option.bind_some, zs_scr hE1 zi_i1 (show i + 1 < L by omega) hL, Option.bind_some, zs_scr hE1 zi_i2 (show i + 2 < L by omega) hL, Option.bind_some, zp_Rv, Option.bind_some, e2, zs_cI, Option.bind_some, zp_Rv, Option.bind_some, zz_thrown, zs_cI, Option.bind_some, t2, if_pos rfl, if_pos rfl, zz_ldL, Option.bind_some, hy, if_pos ((lg_0 _ _).mpr rfl)]
/-- the script's length beside a place -/
theorem zi_len (hL : L ≤ 3072) (hi : i ≤ 4000) : nI L - 6 < zi i ↔ L < i + 6 := by
  rcases Nat.lt_or_ge L 6 with h | h
  · have hx : nI L - 6 < 0 := by
      match L, h with
      | 0, _ => decide
      | 1, _ => decide
      | 2, _ => decide
      | 3, _ => decide
      | 4, _ => decide
      | 5, _ => decide
    refine ⟨fun _ => by omega, fun _ => ?_⟩
    exact Int32.lt_of_lt_of_le hx (Int32.not_lt.mp (zi_n (by omega)))
  · have e : nI L - 6 = zi (L - 6) := zi_sub (a := L) (b := 6) h
    rw [e, zi_l (by omega) (by omega)]
    omega
/-- any call -/
theorem yL_any (hL : L ≤ 3072) (hI : yI P n.1) (hE : zk_kE L xs (zp_M P, n)) (hi : i + 6 ≤ L) (v5 v6 : Value) : ∃ (P2 : zp) (n1 : Nat × Nat) (v5' v6' : Value), zk_sf (d + 91) m_Law_law 23 [.ref 0, .ref 12, .ref 269, .ref 299, .int (zi i), v5, v6] [] (zp_M P, n) = zk_sf (d + 91) m_Law_law 23 [.ref 0, .ref 12, .ref 269, .ref 299, .int (zi (i + 6)), v5', v6'] [] (zp_M P2, n1) ∧ yI P2 n1.1 ∧ zk_kE L xs (zp_M P2, n1) ∧ n1.1 ≤ n.1 + 3 ∧ n1.2 ≤ n.2 + 1000 := by
  have hal : zk_al (zp_M P, n) 0 = some (nI L) := by
    have e : zp_M P 0 = zk_ia 5 L xs := hE.2 0 (by decide)
    unfold zk_al
    show (match zp_M P 0 with | .inl _ => none | .inr (.inl (_, n, _)) => some (nI n) | .inr (.inr (.inl (n, _))) => some (nI n) | .inr (.inr (.inr (_, n, _))) => some (nI n)) = _
    rw [e]
  have hld : zk_ldI (zp_M P, n) 0 (zi i) = some (xs i) := by
    have h := zs_scr (i := i) (c := 0) (j := i) hE (zi_p _) (by omega) hL
    rw [zi_p] at h
    exact h
  have h23 := e_Law_law_23 (d + 90) 0 12 269 299 (zi i) v5 v6 (zp_M P, n)
  rw [hal, Option.bind_some, if_neg (fun z => absurd ((zi_len hL (by omega)).mp z) (by omega)), hld, Option.bind_some] at h23
  have nx : ∀ (pc : Nat), yLk L xs d pc i P n → zk_sf (d + 91) m_Law_law 23 [.ref 0, .ref 12, .ref 269, .ref 299, .int (zi i), v5, v6] [] (zp_M P, n) = zk_sf (d + 91) m_Law_law pc [.ref 0, .ref 12, .ref 269, .ref 299, .int (zi i), v5, v6] [] (zp_M P, n) → ∃ (P2 : zp) (n1 : Nat × Nat) (v5' v6' : Value), zk_sf (d + 91) m_Law_law 23 [.ref 0, .ref 12, .ref 269, .ref 299, .int (zi i), v5, v6] [] (zp_M P, n) = zk_sf (d + 91) m_Law_law 23 [.ref 0, .ref 12, .ref 269, .ref 299, .int (zi (i + 6)), v5', v6'] [] (zp_M P2, n1) ∧ yI P2 n1.1 ∧ zk_kE L xs (zp_M P2, n1) ∧ n1.1 ≤ n.1 + 3 ∧ n1.2 ≤ n.2 + 1000 := by
    intro pc h e
    obtain ⟨P2, n1, v5', v6', e1, x⟩ := h v5 v6
    refine ⟨P2, n1, v5', v6', (e.trans e1).trans ?_, x⟩
    rw [e_Law_law_1561, show zi i + 6 = zi (i + 6) from zi_add i 6]
  by_cases z0 : xs i &&& 63 = 0
  · rw [if_pos z0] at h23
    exact nx 208 (yL_feed hL hI hE hi) h23
  rw [if_neg z0] at h23
  by_cases z1 : xs i &&& 63 = 1
  · rw [if_pos z1] at h23
    exact nx 281 (yL_end hL hI hE hi) h23
  rw [if_neg z1] at h23
  by_cases z2 : xs i &&& 63 = 2
  · rw [if_pos z2] at h23
    exact nx 306 (yL_fault hL hI hE hi) h23
  rw [if_neg z2] at h23
  by_cases z3 : xs i &&& 63 = 3
  · rw [if_pos z3] at h23
    exact nx 331 (yL_text hL hI hE hi) h23
  rw [if_neg z3] at h23
  by_cases z4 : xs i &&& 63 = 4
  · rw [if_pos z4] at h23
    exact nx 356 (yL_rule hL hI hE hi) h23
  rw [if_neg z4] at h23
  by_cases z5 : xs i &&& 63 = 5
  · rw [if_pos z5] at h23
    exact nx 381 (yL_person hL hI hE hi) h23
  rw [if_neg z5] at h23
  by_cases z6 : xs i &&& 63 = 6
  · rw [if_pos z6] at h23
    exact nx 449 (yL_saddle hL hI hE hi) h23
  rw [if_neg z6] at h23
  by_cases z7 : xs i &&& 63 = 7
  · rw [if_pos z7] at h23
    exact nx 486 (yL_law hL hI hE hi) h23
  rw [if_neg z7] at h23
  by_cases z8 : xs i &&& 63 = 8
  · rw [if_pos z8] at h23
    exact nx 511 (yL_weeks hL hI hE hi) h23
  rw [if_neg z8] at h23
  by_cases z9 : xs i &&& 63 = 9
  · rw [if_pos z9] at h23
    exact nx 536 (yL_makes hL hI hE hi) h23
  rw [if_neg z9] at h23
  by_cases z10 : xs i &&& 63 = 10
  · rw [if_pos z10] at h23
    exact nx 585 (yL_stitch hL hI hE hi) h23
  rw [if_neg z10] at h23
  by_cases z11 : xs i &&& 63 = 11
  · rw [if_pos z11] at h23
    exact nx 622 (yL_off hL hI hE hi) h23
  rw [if_neg z11] at h23
  by_cases z12 : xs i &&& 63 = 12
  · rw [if_pos z12] at h23
    exact nx 647 (yL_salve hL hI hE hi) h23
  rw [if_neg z12] at h23
  by_cases z13 : xs i &&& 63 = 13
  · rw [if_pos z13] at h23
    exact nx 672 (yL_give hL hI hE hi) h23
  rw [if_neg z13] at h23
  by_cases z14 : xs i &&& 63 = 14
  · rw [if_pos z14] at h23
    exact nx 697 (yL_rest hL hI hE hi) h23
  rw [if_neg z14] at h23
  by_cases z15 : xs i &&& 63 = 15
  · rw [if_pos z15] at h23
    exact nx 722 (yL_years hL hI hE hi) h23
  rw [if_neg z15] at h23
  by_cases z16 : xs i &&& 63 = 16
  · rw [if_pos z16] at h23
    exact nx 791 (yL_status hL hI hE hi) h23
  rw [if_neg z16] at h23
  by_cases z17 : xs i &&& 63 = 17
  · rw [if_pos z17] at h23
    exact nx 816 (yL_undo hL hI hE hi) h23
  rw [if_neg z17] at h23
  by_cases z18 : xs i &&& 63 = 18
  · rw [if_pos z18] at h23
    exact nx 829 (yL_log hL hI hE hi) h23
  rw [if_neg z18] at h23
  by_cases z19 : xs i &&& 63 = 19
  · rw [if_pos z19] at h23
    exact nx 866 (yL_limit hL hI hE hi) h23
  rw [if_neg z19] at h23
  by_cases z20 : xs i &&& 63 = 20
  · rw [if_pos z20] at h23
    exact nx 891 (yL_pinch hL hI hE hi) h23
  rw [if_neg z20] at h23
  by_cases z21 : xs i &&& 63 = 21
  · rw [if_pos z21] at h23
    exact nx 940 (yL_best hL hI hE hi) h23
  rw [if_neg z21] at h23
  by_cases z22 : xs i &&& 63 = 22
  · rw [if_pos z22] at h23
    exact nx 977 (yL_throwing hL hI hE hi) h23
  rw [if_neg z22] at h23
  by_cases z23 : xs i &&& 63 = 23
  · rw [if_pos z23] at h23
    exact nx 1002 (yL_bears hL hI hE hi) h23
  rw [if_neg z23] at h23
  by_cases z24 : xs i &&& 63 = 24
  · rw [if_pos z24] at h23
    exact nx 1051 (yL_ring hL hI hE hi) h23
  rw [if_neg z24] at h23
  by_cases z25 : xs i &&& 63 = 25
  · rw [if_pos z25] at h23
    exact nx 1064 (yL_chain hL hI hE hi) h23
  rw [if_neg z25] at h23
  by_cases z26 : xs i &&& 63 = 26
  · rw [if_pos z26] at h23
    exact nx 1101 (yL_seats hL hI hE hi) h23
  rw [if_neg z26] at h23
  by_cases z27 : xs i &&& 63 = 27
  · rw [if_pos z27] at h23
    exact nx 1126 (yL_seen hL hI hE hi) h23
  rw [if_neg z27] at h23
  by_cases z28 : xs i &&& 63 = 28
  · rw [if_pos z28] at h23
    exact nx 1203 (yL_fits hL hI hE hi) h23
  rw [if_neg z28] at h23
  by_cases z29 : xs i &&& 63 = 29
  · rw [if_pos z29] at h23
    exact nx 1240 (yL_ask hL hI hE hi) h23
  rw [if_neg z29] at h23
  by_cases z30 : xs i &&& 63 = 30
  · rw [if_pos z30] at h23
    exact nx 1277 (yL_waiting hL hI hE hi) h23
  rw [if_neg z30] at h23
  by_cases z31 : xs i &&& 63 = 31
  · rw [if_pos z31] at h23
    exact nx 1350 (yL_rests hL hI hE hi) h23
  rw [if_neg z31] at h23
  by_cases z32 : xs i &&& 63 = 32
  · rw [if_pos z32] at h23
    exact nx 1399 (yL_odds hL hI hE hi) h23
  rw [if_neg z32] at h23
  by_cases z33 : xs i &&& 63 = 33
  · rw [if_pos z33] at h23
    exact nx 1448 (yL_shares hL hI hE hi) h23
  rw [if_neg z33] at h23
  by_cases z34 : xs i &&& 63 = 34
  · rw [if_pos z34] at h23
    exact nx 1485 (yL_most hL hI hE hi) h23
  rw [if_neg z34] at h23
  by_cases z35 : xs i &&& 63 = 35
  · rw [if_pos z35] at h23
    exact nx 1510 (yL_image hL hI hE hi) h23
  rw [if_neg z35] at h23
  by_cases z36 : xs i &&& 63 = 36
  · rw [if_pos z36] at h23
    exact nx 1523 (yL_back hL hI hE hi) h23
  rw [if_neg z36] at h23
  by_cases z37 : xs i &&& 63 = 37
  · rw [if_pos z37] at h23
    exact nx 1536 (yL_count hL hI hE hi) h23
  rw [if_neg z37] at h23
  refine ⟨P, n, v5, v6, h23.trans ?_, hI, hE, Nat.le_add_right _ _, Nat.le_add_right _ _⟩
  rw [e_Law_law_1561, show zi i + 6 = zi (i + 6) from zi_add i 6]
/-- all of them -/
theorem yL_all (hL : L ≤ 3072) : ∀ (N i : Nat) (P : zp) (n : Nat × Nat) (v5 v6 : Value), L < i + 6 + 6 * N → i ≤ L + 6 → yI P n.1 → zk_kE L xs (zp_M P, n) → ∃ s1 : zk_S, zk_sf (d + 91) m_Law_law 23 [.ref 0, .ref 12, .ref 269, .ref 299, .int (zi i), v5, v6] [] (zp_M P, n) = some (some (.int 1), s1) ∧ s1.2.1 ≤ n.1 + 3 * N ∧ s1.2.2 ≤ n.2 + 1000 * N
  | N, i, P, n, v5, v6, h, hi, hI, hE => by
    by_cases hend : L < i + 6
    · have hal : zk_al (zp_M P, n) 0 = some (nI L) := by
        have e : zp_M P 0 = zk_ia 5 L xs := hE.2 0 (by decide)
        unfold zk_al
        show (match zp_M P 0 with | .inl _ => none | .inr (.inl (_, n, _)) => some (nI n) | .inr (.inr (.inl (n, _))) => some (nI n) | .inr (.inr (.inr (_, n, _))) => some (nI n)) = _
        rw [e]
      refine ⟨(zp_M P, n), ?_, Nat.le_add_right _ _, Nat.le_add_right _ _⟩
      rw [e_Law_law_23, hal, Option.bind_some, if_pos ((zi_len hL (by omega)).mpr hend)]
    · match N, h with
      | 0, h => omega
      | N + 1, h =>
        obtain ⟨P2, n1, v5', v6', e1, hI2, hE2, b1, b2⟩ := yL_any (d := d) hL hI hE (by omega : i + 6 ≤ L) v5 v6
        obtain ⟨s1, e2, c1, c2⟩ := yL_all hL N (i + 6) P2 n1 v5' v6' (by omega) (by omega) hI2 hE2
        exact ⟨s1, e1.trans e2, by omega, by omega⟩
end
