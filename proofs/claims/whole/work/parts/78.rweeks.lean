/-! ACTS: a week by the reference -/
section
variable {P : zp} {n : Nat × Nat} {d : Nat} {T : yT} {A : yAA}
theorem zp_a9 {k i : Nat} {x : Int32} : (zp_sA P k i x).2.1 k i = x := zp_u9
theorem zp_a8 {k i j : Nat} {x : Int32} (h : j ≠ i) : (zp_sA P k i x).2.1 k j = P.2.1 k j := zp_u8 h
theorem zp_a7 {k k' i : Nat} {x : Int32} (h : k' ≠ k) : (zp_sA P k i x).2.1 k' = P.2.1 k' := zp_uo h
theorem yR_hi {V : yV} {k : Nat} {x : Int32} (hk : 40 ≤ k) (hR : yR (P.2.1 286) V) : yR ((zp_sA P 286 k x).2.1 286) V := yR_b (fun j hj => zp_u8 (by omega)) hR
theorem yO_nw {V : yV} (hO : yO T.1 V) (hw : V.2.2.2 < 999) : yO T.1 (ywk T V 99) := ywk_O hO (by omega)
set_option maxHeartbeats 2000000 in
theorem zs_Rtail {V : yV} {m : Nat} {th : Int32} (hT : yTR P T) (hR : yR (P.2.1 286) V) (hO : yO T.1 V) (hm : m < 60) (h40 : P.2.1 286 40 = zi m) (hth : P.1 269 32 = th) : ∃ P', ((zk_gI (zp_M P, n) 269 12 32).bind fun x7 => (zk_stI (zp_M P, n) 286 (41 + (3 * zi m)) x7).bind fun t8 => (zk_gR t8 269 12 27).bind fun b9 => (zk_rv t8 269 12).bind fun _ => (zk_cI (zk_sm (d + 3) m_R_allGall [.ref 269] t8)).bind fun p10 => (zk_stI p10.2 b9 ((41 + (3 * zi m)) + 1) p10.1).bind fun t11 => (zk_gR t11 269 12 27).bind fun b12 => (zk_rv t11 269 12).bind fun _ => (zk_cI (zk_sm (d + 3) m_R_saddleOnes [.ref 269] t11)).bind fun p13 => (zk_cI (zk_sm (d + 3) m_Integer_bitCount [.int p13.1] p13.2)).bind fun p14 => (zk_stI p14.2 b12 ((41 + (3 * zi m)) + 2) p14.1).bind fun t15 => (zk_gR t15 269 12 27).bind fun b16 => (zk_ldI t15 b16 40).bind fun x17 => (zk_stI t15 b16 40 (x17 + 1)).bind fun t18 => (some (none, t18) : Option zk_R)) = some (none, (zp_M P', n)) ∧ yR (P'.2.1 286) V ∧ P'.2.1 286 40 = zi (m + 1) ∧ P'.2.1 286 (41 + 3 * m) = th ∧ P'.2.1 286 (41 + 3 * m + 1) = ygs V T.1 ∧ P'.2.1 286 (41 + 3 * m + 2) = zq_bits (yns V) ∧ (∀ j, 41 ≤ j → (j < 41 + 3 * m ∨ 41 + 3 * m + 2 < j) → P'.2.1 286 j = P.2.1 286 j) ∧ yF [] [286] P P' := by
  have e1 : 41 + (3 * zi m) = zi (41 + 3 * m) := by
    show Int32.ofNat 41 + Int32.ofNat 3 * Int32.ofNat m = _
    rw [← Int32.ofNat_mul, ← Int32.ofNat_add]
  have e3 : zi (41 + 3 * m) + 2 = zi (41 + 3 * m + 2) := (Int32.ofNat_add _ 2).symm
  rw [zp_R32, Option.bind_some, hth, e1, zp_sti zp_a286 (show 41 + 3 * m < 221 by omega) (by decide), Option.bind_some]
  obtain ⟨P1, h1⟩ : ∃ P1, P1 = zp_sA P 286 (41 + 3 * m) th := ⟨_, rfl⟩
  have f1 : yF [] [286] P P1 := by rw [h1]; exact yF_A (by decide)
  have R1 : yR (P1.2.1 286) V := by rw [h1]; exact yR_hi (by omega) hR
  have T1 : yTR P1 T := yTR_F (by decide) f1 hT
  rw [← h1, zp_R27, Option.bind_some, zp_Rv, Option.bind_some, yg_Rgall T1 R1, zs_cI, Option.bind_some, zi_s, zp_sti zp_a286 (show 41 + 3 * m + 1 < 221 by omega) (by decide), Option.bind_some]
  obtain ⟨P2, h2⟩ : ∃ P2, P2 = zp_sA P1 286 (41 + 3 * m + 1) (ygs V T.1) := ⟨_, rfl⟩
  have f2 : yF [] [286] P P2 := yF_t f1 (by rw [h2]; exact yF_A (by decide))
  have R2 : yR (P2.2.1 286) V := by rw [h2]; exact yR_hi (by omega) R1
  have T2 : yTR P2 T := yTR_F (by decide) f2 hT
  rw [← h2, zp_R27, Option.bind_some, zp_Rv, Option.bind_some, yg_Rones T2 R2 hO, zs_cI, Option.bind_some, zs_bitCount, zs_cI, Option.bind_some, e3, zp_sti zp_a286 (show 41 + 3 * m + 2 < 221 by omega) (by decide), Option.bind_some]
  obtain ⟨P3, h3⟩ : ∃ P3, P3 = zp_sA P2 286 (41 + 3 * m + 2) (zq_bits (yns V)) := ⟨_, rfl⟩
  have f3 : yF [] [286] P P3 := yF_t f2 (by rw [h3]; exact yF_A (by decide))
  have R3 : yR (P3.2.1 286) V := by rw [h3]; exact yR_hi (by omega) R2
  have a1 : ∀ j, P1.2.1 286 j = if j = 41 + 3 * m then th else P.2.1 286 j := fun j => by
    rw [h1]
    by_cases q : j = 41 + 3 * m
    · rw [if_pos q, q]; exact zp_a9
    · rw [if_neg q]; exact zp_a8 q
  have a2 : ∀ j, P2.2.1 286 j = if j = 41 + 3 * m + 1 then ygs V T.1 else P1.2.1 286 j := fun j => by
    rw [h2]
    by_cases q : j = 41 + 3 * m + 1
    · rw [if_pos q, q]; exact zp_a9
    · rw [if_neg q]; exact zp_a8 q
  have a3 : ∀ j, P3.2.1 286 j = if j = 41 + 3 * m + 2 then zq_bits (yns V) else P2.2.1 286 j := fun j => by
    rw [h3]
    by_cases q : j = 41 + 3 * m + 2
    · rw [if_pos q, q]; exact zp_a9
    · rw [if_neg q]; exact zp_a8 q
  have h340 : P3.2.1 286 40 = zi m := by rw [a3, if_neg (by omega), a2, if_neg (by omega), a1, if_neg (by omega), h40]
  have a4 : ∀ j, (zp_sA P3 286 40 (zi (m + 1))).2.1 286 j = if j = 40 then zi (m + 1) else P3.2.1 286 j := fun j => by
    by_cases q : j = 40
    · rw [if_pos q, q]; exact zp_a9
    · rw [if_neg q]; exact zp_a8 q
  refine ⟨zp_sA P3 286 40 (zi (m + 1)), ?_, yR_hi (by omega) R3, zp_a9, ?_, ?_, ?_, fun j hj hj2 => ?_, yF_t f3 (yF_A (by decide))⟩
  · rw [← h3, zp_R27, Option.bind_some, zp_lit (i := 40) (y := 40) zp_a286 rfl (by decide) (by decide), Option.bind_some, h340, zi_s, zp_sit (i := 40) (y := 40) zp_a286 rfl (by decide) (by decide), Option.bind_some]
  · rw [a4, if_neg (by omega), a3, if_neg (by omega), a2, if_neg (by omega), a1, if_pos rfl]
  · rw [a4, if_neg (by omega), a3, if_neg (by omega), a2, if_pos rfl]
  · rw [a4, if_neg (by omega), a3, if_pos rfl]
  · rw [a4, if_neg (by omega), a3, if_neg (by omega), a2, if_neg (by omega), a1, if_neg (by omega)]
set_option maxHeartbeats 2000000 in
theorem zs_RpassWeek (hT : yTR P T) (hp0 : 0 < T.1) (hA : yAR P A) (hO : yO T.1 (A.2.2 0).1) (hw : (A.2.2 0).1.2.2.2 < 999) : ∃ P', zk_sm (d + 10) m_R_passWeek [.ref 269] (zp_M P, n) = some (none, (zp_M P', n)) ∧ yAR P' (ymk A (ynw T (A.2.2 0))) ∧ yF yfR ykR P P' := by
  obtain ⟨r1, ⟨r2, r3, r4⟩, r5⟩ := hA
  have h6 := hT.2.1
  obtain ⟨S, hS⟩ : ∃ S, S = A.2.2 0 := ⟨_, rfl⟩
  rw [← hS] at hO hw r2 r3 r4
  obtain ⟨P1, e1, y1, w1, f1, k1⟩ := zs_Rlive (d := d) (n := n) (x := -1) (e := 99) hT hp0 r2 hO (fun p hp => ⟨fun z => absurd z (zi_n1 (by omega)), fun z => by omega⟩)
  have hO1 := yO_nw hO hw
  have T1 : yTR P1 T := yTR_1 f1 hT
  have h140 : P1.2.1 286 40 = zi (min 60 S.1.2.2.2) := (k1 40 (by decide)).trans r3
  -- all together, from the row with m logged weeks of which the latest are where they must be
  have fin : ∀ (P2 : zp) (m : Nat), m < 60 → yTR P2 T → yR (P2.2.1 286) (ywk T S.1 99) → P2.2.1 286 40 = zi m → P2.1 269 32 = ytw T S.1 99 → m + 1 = min 60 (S.1.2.2.2 + 1) → (∀ j c, j < m → c < 3 → P2.2.1 286 (41 + 3 * (m - 1 - j) + c) = S.2 j c) → yF [(269, 32)] yrk P P2 → ∃ P', ((zk_gI (zp_M P2, n) 269 12 32).bind fun x7 => (zk_stI (zp_M P2, n) 286 (41 + (3 * zi m)) x7).bind fun t8 => (zk_gR t8 269 12 27).bind fun b9 => (zk_rv t8 269 12).bind fun _ => (zk_cI (zk_sm (d + 9) m_R_allGall [.ref 269] t8)).bind fun p10 => (zk_stI p10.2 b9 ((41 + (3 * zi m)) + 1) p10.1).bind fun t11 => (zk_gR t11 269 12 27).bind fun b12 => (zk_rv t11 269 12).bind fun _ => (zk_cI (zk_sm (d + 9) m_R_saddleOnes [.ref 269] t11)).bind fun p13 => (zk_cI (zk_sm (d + 9) m_Integer_bitCount [.int p13.1] p13.2)).bind fun p14 => (zk_stI p14.2 b12 ((41 + (3 * zi m)) + 2) p14.1).bind fun t15 => (zk_gR t15 269 12 27).bind fun b16 => (zk_ldI t15 b16 40).bind fun x17 => (zk_stI t15 b16 40 (x17 + 1)).bind fun t18 => (some (none, t18) : Option zk_R)) = some (none, (zp_M P', n)) ∧ yAR P' (ymk A (ynw T (A.2.2 0))) ∧ yF yfR ykR P P' := by
    intro P2 m hm T2 R2 h40 hth hmw hrow f2
    obtain ⟨P3, e3, R3, a40, a0, a1, a2, a5, f3⟩ := zs_Rtail (d := d + 6) (n := n) T2 R2 hO1 hm h40 hth
    have f23 : yF yfR ykR P P3 := yF_t (yF_m f2 (fun x hx => by simp only [List.mem_cons, List.not_mem_nil, or_false] at hx ⊢; exact Or.inl hx) (fun k hk => by simp only [List.mem_cons, List.not_mem_nil, or_false] at hk ⊢; omega)) (yF_m f3 (fun _ h => by cases h) (fun k hk => by simp only [List.mem_cons, List.not_mem_nil, or_false] at hk ⊢; omega))
    refine ⟨P3, e3, ⟨?_, ?_, fun i hi => ?_⟩, f23⟩
    · exact (f3.1 269 34 (by decide)).trans ((f2.1 269 34 (by decide)).trans r1)
    · show yRg (P3.2.1 286) (if 0 = 0 then ynw T (A.2.2 0) else _)
      rw [if_pos rfl, ← hS]
      refine ⟨R3, ?_, fun j c hj hc => ?_⟩
      · show _ = zi (min 60 (S.1.2.2.2 + 1))
        rw [← hmw]; exact a40
      · have hj : j < min 60 (S.1.2.2.2 + 1) := hj
        show P3.2.1 286 (41 + 3 * (min 60 (S.1.2.2.2 + 1) - 1 - j) + c) = (ynw T S).2 j c
        rw [← hmw] at hj ⊢
        rcases Nat.eq_zero_or_pos j with y | y
        · subst y
          have hcc : c = 0 ∨ c = 1 ∨ c = 2 := by omega
          rcases hcc with rfl | rfl | rfl
          · rw [show 41 + 3 * (m + 1 - 1 - 0) + 0 = 41 + 3 * m by omega]; exact a0
          · rw [show 41 + 3 * (m + 1 - 1 - 0) + 1 = 41 + 3 * m + 1 by omega]; exact a1
          · rw [show 41 + 3 * (m + 1 - 1 - 0) + 2 = 41 + 3 * m + 2 by omega]; exact a2
        · obtain ⟨k, rfl⟩ : ∃ k, j = k + 1 := ⟨j - 1, by omega⟩
          rw [a5 _ (by omega) (by omega), show m + 1 - 1 - (k + 1) = m - 1 - k by omega]
          exact hrow k c (by omega) hc
    · have hi : i < A.1 := hi
      show yRg (fun j => P3.2.1 289 (221 * (A.1 - 1 - i) + j)) (if i + 1 = 0 then ynw T (A.2.2 0) else A.2.2 (i + 1))
      rw [if_neg (by omega), f3.2.1 289 (by decide), f2.2.1 289 (by decide)]
      exact r5 i hi
  have e40 : zk_ldI (zp_M P1, n) 286 40 = some (zi (min 60 S.1.2.2.2)) := (zp_lit (i := 40) (y := 40) zp_a286 rfl (by decide) (by decide)).trans (by rw [h140])
  rw [e_R_passWeek, zp_Rv, Option.bind_some, e1, zs_cV, Option.bind_some, zp_R27, Option.bind_some, e40, Option.bind_some]
  by_cases q : S.1.2.2.2 < 60
  · rw [if_neg (show ¬ zi (min 60 S.1.2.2.2) = 60 from fun z => by have := (zi_eq (b := 60) (by omega) (by decide)).mp z; omega), Option.bind_some, e40, Option.bind_some, Option.bind_some]
    refine fin P1 (min 60 S.1.2.2.2) (by omega) T1 y1 h140 w1 (by omega) (fun j c hj hc => ?_) f1
    rw [k1 _ (by omega)]
    exact r4 j c (by omega) hc
  · rw [if_pos (show zi (min 60 S.1.2.2.2) = 60 by rw [show min 60 S.1.2.2.2 = 60 by omega]; rfl)]
    refine zl_ind (m := 177) (L := fun i (a : zp) => zk_sf (d + 10) m_R_passWeek 19 [.ref 269, .int (zi (3 + i))] [] (zp_M a, n)) (I := fun i a => yF [] [286] P1 a ∧ yR (a.2.1 286) (ywk T S.1 99) ∧ a.2.1 286 40 = zi 60 ∧ (∀ j, j < i → a.2.1 286 (41 + j) = P1.2.1 286 (41 + j + 3)) ∧ (∀ j, i ≤ j → a.2.1 286 (41 + j) = P1.2.1 286 (41 + j))) (Q := fun r => ∃ P', r = some (none, (zp_M P', n)) ∧ yAR P' (ymk A (ynw T (A.2.2 0))) ∧ yF yfR ykR P P') (fun i a hi hI => Or.inr ?_) (fun a hI => ?_) (a := P1) ⟨yF_r, y1, by rw [h140, show min 60 S.1.2.2.2 = 60 by omega], fun j hj => absurd hj (Nat.not_lt_zero j), fun _ _ => rfl⟩
    · obtain ⟨f, R, h60, b1, b2⟩ := hI
      have ei : 41 + zi (3 + i) = zi (41 + (3 + i)) := (Int32.ofNat_add 41 (3 + i)).symm
      have ei2 : zi (41 + (3 + i)) - 3 = zi (41 + i) := by
        show zi (41 + (3 + i)) - zi 3 = zi (41 + i)
        rw [zi_sub (by omega), show 41 + (3 + i) - 3 = 41 + i by omega]
      refine ⟨zp_sA a 286 (41 + i) (a.2.1 286 (41 + (3 + i))), ?_, yF_t f (yF_A (by decide)), yR_hi (by omega) R, (zp_a8 (by omega)).trans h60, fun j hj => ?_, fun j hj => (zp_a8 (by omega)).trans (b2 j (by omega))⟩
      · show zk_sf (d + 10) m_R_passWeek 19 [.ref 269, .int (zi (3 + i))] [] (zp_M a, n) = _
        rw [e_R_passWeek_19, if_pos (show zi (3 + i) < 180 from (zi_l (m := 180) (by omega) (by decide)).mpr (by omega)), zp_R27, Option.bind_some, Option.bind_some, ei, zp_ldi zp_a286 (show 41 + (3 + i) < 221 by omega) (by decide), Option.bind_some, ei2, zp_sti zp_a286 (show 41 + i < 221 by omega) (by decide), Option.bind_some, zi_s]
        rfl
      · by_cases z : j = i
        · subst z
          refine zp_a9.trans ?_
          rw [b2 (3 + j) (by omega), show 41 + (3 + j) = 41 + j + 3 by omega]
        · exact (zp_a8 (by omega)).trans (b1 j (by omega))
    · obtain ⟨f, R, h60, b1, b2⟩ := hI
      have l60 : zk_ldI (zp_M a, n) 286 40 = some (zi 60) := (zp_lit (i := 40) (y := 40) zp_a286 rfl (by decide) (by decide)).trans (by rw [h60])
      have fA : yF [] [286] P1 (zp_sA a 286 40 (zi 59)) := yF_t f (yF_A (by decide))
      have l59 : zk_ldI (zp_M (zp_sA a 286 40 (zi 59)), n) 286 40 = some (zi 59) := (zp_lit (i := 40) (y := 40) zp_a286 rfl (by decide) (by decide)).trans (by rw [show (zp_sA a 286 40 (zi 59)).2.1 286 40 = zi 59 from zp_a9])
      show ∃ P', zk_sf (d + 10) m_R_passWeek 19 [.ref 269, .int (zi (3 + 177))] [] (zp_M a, n) = _ ∧ _
      rw [e_R_passWeek_19, if_neg (by decide), zp_R27, Option.bind_some, l60, Option.bind_some, show zi 60 - 1 = zi 59 by decide, zp_sit (i := 40) (y := 40) zp_a286 rfl (by decide) (by decide), Option.bind_some, zp_R27, Option.bind_some, l59, Option.bind_some, Option.bind_some]
      refine fin (zp_sA a 286 40 (zi 59)) 59 (by decide) (yTR_F (by decide) fA T1) (yR_hi (by decide) R) zp_a9 ((fA.1 269 32 (by decide)).trans w1) (by omega) (fun j c hj hc => ?_) (yF_t f1 (yF_m fA (fun _ h => by cases h) (fun k hk => by simp only [List.mem_cons, List.not_mem_nil, or_false] at hk ⊢; omega)))
      refine (zp_a8 (by omega)).trans ?_
      have g1 := b1 (3 * (59 - 1 - j) + c) (by omega)
      have g2 := r4 j c (by omega) hc
      rw [show 41 + (3 * (59 - 1 - j) + c) = 41 + 3 * (59 - 1 - j) + c by omega] at g1
      rw [g1, k1 _ (by omega), ← g2, show 41 + 3 * (59 - 1 - j) + c + 3 = 41 + 3 * (min 60 S.1.2.2.2 - 1 - j) + c by omega]
end
