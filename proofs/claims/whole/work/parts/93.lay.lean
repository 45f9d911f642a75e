/-! SPECS 31: the row as told, laid by the reference -/
def ytn (m : Nat) (L : Nat → Nat × Nat × Nat) : yV := (fun k => if k < m then some (L k) else none, fun _ => 0, 0, 0)
section
variable {P : zp} {n : Nat × Nat} {d nl : Nat} {L : Nat → Nat × Nat × Nat} {c0 : Int32}
theorem zq_R24 : zk_gR (zp_M P, n) 269 12 24 = some 285 := zp_gR (by decide +kernel)
theorem zq_a285 : zp_ad 285 = (0, 24) := by decide +kernel
theorem zi_3c (l k : Nat) : 3 * zi l + zi k = zi (3 * l + k) := by
  show Int32.ofNat 3 * Int32.ofNat l + Int32.ofNat k = _
  rw [← Int32.ofNat_mul, ← Int32.ofNat_add]
theorem zs_Rlay3 {l : Nat} {v : Int32} (hl : l < 8) : zk_sf d m_R_layTold 33 [.ref 269, .int (zi l), .int 0] [] (zp_M P, n) = zk_sf d m_R_layTold 23 [.ref 269, .int (zi (l + 1)), .int 3] [] (zp_M (zp_sA (zp_sA (zp_sA (zp_sA P 286 (4 * l + 0) (P.2.1 285 (3 * l + 0))) 286 (4 * l + 1) (P.2.1 285 (3 * l + 1))) 286 (4 * l + 2) (P.2.1 285 (3 * l + 2))) 286 (4 * l + 3) 1), n) := by
  have e30 : 3 * zi l + 0 = zi (3 * l + 0) := zi_3c l 0
  have e31 : 3 * zi l + (0 + 1) = zi (3 * l + 1) := zi_3c l 1
  have e32 : 3 * zi l + (0 + 1 + 1) = zi (3 * l + 2) := zi_3c l 2
  have e40 : 4 * zi l + 0 = zi (4 * l + 0) := zi_4 l 0
  have e41 : 4 * zi l + (0 + 1) = zi (4 * l + 1) := zi_4 l 1
  have e42 : 4 * zi l + (0 + 1 + 1) = zi (4 * l + 2) := zi_4 l 2
  have o : ∀ (Q : zp) (i : Nat) (x : Int32), (zp_sA Q 286 i x).2.1 285 = Q.2.1 285 := fun Q i x => zp_a7 (by decide)
  rw [e_R_layTold_33, if_pos (by decide), zp_R27, Option.bind_some, zq_R24, Option.bind_some, e30, zp_ldi zq_a285 (show 3 * l + 0 < 24 by omega) (by decide), Option.bind_some, e40, zp_sti zp_a286 (show 4 * l + 0 < 221 by omega) (by decide), Option.bind_some]
  rw [e_R_layTold_33, if_pos (by decide), zp_R27, Option.bind_some, zq_R24, Option.bind_some, e31, zp_ldi zq_a285 (show 3 * l + 1 < 24 by omega) (by decide), Option.bind_some, e41, zp_sti zp_a286 (show 4 * l + 1 < 221 by omega) (by decide), Option.bind_some]
  rw [e_R_layTold_33, if_pos (by decide), zp_R27, Option.bind_some, zq_R24, Option.bind_some, e32, zp_ldi zq_a285 (show 3 * l + 2 < 24 by omega) (by decide), Option.bind_some, e42, zp_sti zp_a286 (show 4 * l + 2 < 221 by omega) (by decide), Option.bind_some]
  rw [e_R_layTold_33, if_neg (by decide), zp_R27, Option.bind_some, zi_43, zp_sti zp_a286 (show 4 * l + 3 < 221 by omega) (by decide), Option.bind_some, zi_s, o, o, o]
  rfl
theorem zs_RlayTold (hr : yTr P nl L c0) : ∃ P', zk_sm d m_R_layTold [.ref 269] (zp_M P, n) = some (none, (zp_M P', n)) ∧ yR (P'.2.1 286) (ytd nl L c0) ∧ yF [] [286] P P' ∧ ∀ j, 40 ≤ j → P'.2.1 286 j = P.2.1 286 j := by
  obtain ⟨r1, r2, r3, r4⟩ := hr
  rw [e_R_layTold]
  refine zl_ind (m := 40) (L := fun i (a : zp) => zk_sf d m_R_layTold 2 [.ref 269, .int (zi i), .retAddr 0] [] (zp_M a, n)) (I := fun i a => yF [] [286] P a ∧ (∀ j, j < i → a.2.1 286 j = 0) ∧ (∀ j, 40 ≤ j → a.2.1 286 j = P.2.1 286 j)) (Q := fun r => ∃ P', r = some (none, (zp_M P', n)) ∧ yR (P'.2.1 286) (ytd nl L c0) ∧ yF [] [286] P P' ∧ ∀ j, 40 ≤ j → P'.2.1 286 j = P.2.1 286 j) (fun i a hi hI => Or.inr ?_) (fun a hI => ?_) (a := P) ⟨yF_r, fun j hj => absurd hj (Nat.not_lt_zero j), fun _ _ => rfl⟩
  · obtain ⟨f, a0, a1⟩ := hI
    refine ⟨zp_sA a 286 i 0, ?_, yF_t f (yF_A (by decide)), fun j hj => ?_, fun j hj => (zp_a8 (by omega)).trans (a1 j hj)⟩
    · show zk_sf d m_R_layTold 2 [.ref 269, .int (zi i), .retAddr 0] [] (zp_M a, n) = _
      rw [e_R_layTold_2, if_pos (show zi i < 40 from (zi_l (m := 40) (by omega) (by decide)).mpr hi), zp_R27, Option.bind_some, zp_sti zp_a286 (show i < 221 by omega) (by decide), Option.bind_some, zi_s]
    · by_cases z : j = i
      · rw [z]; exact zp_a9
      · exact (zp_a8 z).trans (a0 j (by omega))
  · obtain ⟨f, a0, a1⟩ := hI
    show ∃ P', zk_sf d m_R_layTold 2 [.ref 269, .int (zi 40), .retAddr 0] [] (zp_M a, n) = _ ∧ _
    rw [e_R_layTold_2, if_neg (by decide)]
    refine zl_ind (m := nl) (L := fun l (b : zp × Value) => zk_sf d m_R_layTold 23 [.ref 269, .int (zi l), b.2] [] (zp_M b.1, n)) (I := fun l b => yF [] [286] P b.1 ∧ yR (b.1.2.1 286) (ytn l L) ∧ (∀ j, 40 ≤ j → b.1.2.1 286 j = P.2.1 286 j)) (Q := fun r => ∃ P', r = some (none, (zp_M P', n)) ∧ yR (P'.2.1 286) (ytd nl L c0) ∧ yF [] [286] P P' ∧ ∀ j, 40 ≤ j → P'.2.1 286 j = P.2.1 286 j) (fun l b hl hI => Or.inr ?_) (fun b hI => ?_) (a := (a, .retAddr 0)) ⟨f, ⟨fun k hk => ?_, fun p hp => a0 _ (by omega), a0 38 (by decide), a0 39 (by decide)⟩, a1⟩
    · obtain ⟨b, v⟩ := b
      obtain ⟨fb, Rb, kb⟩ := hI
      have fb : yF [] [286] P b := fb
      have Rb : yR (b.2.1 286) (ytn l L) := Rb
      have kb : ∀ j, 40 ≤ j → b.2.1 286 j = P.2.1 286 j := kb
      obtain ⟨c1, c2, c3⟩ := r3 l hl
      have e285 : b.2.1 285 = P.2.1 285 := fb.2.1 285 (by decide)
      refine ⟨(zp_sA (zp_sA (zp_sA (zp_sA b 286 (4 * l + 0) (zi (L l).1)) 286 (4 * l + 1) (zi (L l).2.1)) 286 (4 * l + 2) (zi (L l).2.2)) 286 (4 * l + 3) 1, .int 3), ?_, yF_t fb (yF_t (yF_t (yF_t (yF_A (by decide)) (yF_A (by decide))) (yF_A (by decide))) (yF_A (by decide))), yR_e (V := ysp (ytn l L) l (some ((L l).1, (L l).2.1, (L l).2.2))) (V' := ytn (l + 1) L) ⟨fun k hk => ?_, fun _ _ => rfl, rfl⟩ (yR_make (r := (L l).1) (q := (L l).2.1) (f := (L l).2.2) Rb (show l < 8 by omega)), fun j hj => (zp_a8 (by omega)).trans ((zp_a8 (by omega)).trans ((zp_a8 (by omega)).trans ((zp_a8 (by omega)).trans (kb j hj))))⟩
      · show zk_sf d m_R_layTold 23 [.ref 269, .int (zi l), v] [] (zp_M b, n) = _
        rw [e_R_layTold_23, (zp_R26 : zk_gI (zp_M b, n) 269 12 26 = _), Option.bind_some, fb.1 269 26 (by decide), r1, if_pos ((zi_l (by omega) (by omega)).mpr hl), zs_Rlay3 (v := 0) (show l < 8 by omega), e285, c1, c2, c3]
      · show (if k = l then some ((L l).1, (L l).2.1, (L l).2.2) else if k < l then some (L k) else none) = if k < l + 1 then some (L k) else none
        by_cases z : k = l
        · rw [if_pos z, if_pos (by omega), z]
        · rw [if_neg z]
          by_cases y : k < l
          · rw [if_pos y, if_pos (by omega)]
          · rw [if_neg y, if_neg (by omega)]
    · obtain ⟨b, v⟩ := b
      obtain ⟨fb, Rb, kb⟩ := hI
      have fb : yF [] [286] P b := fb
      have Rb : yR (b.2.1 286) (ytn nl L) := Rb
      have kb : ∀ j, 40 ≤ j → b.2.1 286 j = P.2.1 286 j := kb
      have e283 : zk_ldI (zp_M b, n) 283 1 = some c0 := (zp_lit (i := 1) (y := 1) zp_a283 rfl (by decide) (by decide)).trans (by rw [fb.2.1 283 (by decide), r4])
      refine ⟨zp_sA b 286 38 c0, ?_, yR_coin (c := c0) Rb, yF_t fb (yF_A (by decide)), fun j hj => (zp_a8 (by omega)).trans (kb j hj)⟩
      show zk_sf d m_R_layTold 23 [.ref 269, .int (zi nl), v] [] (zp_M b, n) = _
      rw [e_R_layTold_23, (zp_R26 : zk_gI (zp_M b, n) 269 12 26 = _), Option.bind_some, fb.1 269 26 (by decide), r1, if_neg (fun z => absurd ((zi_l (by omega) (by omega)).mp z) (Nat.lt_irrefl _)), zp_R27, Option.bind_some, zp_R22, Option.bind_some, e283, Option.bind_some, ys38, Option.bind_some]
    · have e : (ytn 0 L).1 k = none := by
        show (if k < 0 then some (L k) else none) = none
        rw [if_neg (Nat.not_lt_zero k)]
      rw [e]
      exact a0 _ (by omega)
end
