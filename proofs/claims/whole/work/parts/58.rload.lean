/-! SPECS 17: pinch, load, the best fit of the reference -/
theorem zi_32 (q : Nat) : 32 + zi q = zi (32 + q) := (Int32.ofNat_add 32 q).symm
section
variable {P : zp} {n : Nat × Nat} {d : Nat} {V : yV} {T : yT}
theorem zs_RofS (hT : yTR P T) {r : Nat} (hr : r < T.1) : zk_sm d m_R_ofPerson [.ref 269, .int (zi r), .int 0] (zp_M P, n) = some (some (Value.int (T.2.1 r)), (zp_M P, n)) := by
  have h6 := hT.2.1
  rw [zs_RofPerson (x := 0) (k := 0) (by omega) rfl, (hT.2.2.1 r hr).1]
theorem zs_RofB (hT : yTR P T) {r : Nat} (hr : r < T.1) : zk_sm d m_R_ofPerson [.ref 269, .int (zi r), .int 1] (zp_M P, n) = some (some (Value.int (T.2.2.1 r)), (zp_M P, n)) := by
  have h6 := hT.2.1
  rw [zs_RofPerson (x := 1) (k := 1) (by omega) rfl, (hT.2.2.1 r hr).2.1]
theorem zs_RofT (hT : yTR P T) {r : Nat} (hr : r < T.1) : zk_sm d m_R_ofPerson [.ref 269, .int (zi r), .int 2] (zp_M P, n) = some (some (Value.int (T.2.2.2.1 r)), (zp_M P, n)) := by
  have h6 := hT.2.1
  rw [zs_RofPerson (x := 2) (k := 2) (by omega) rfl, (hT.2.2.1 r hr).2.2]
theorem ylm_R (hT : yTR P T) {r : Nat} (hr : r < T.1) : zk_sm (d + 1) m_R_limitOf [.ref 269, .int (zi r)] (zp_M P, n) = some (some (Value.int (ylm T r)), (zp_M P, n)) := by
  have h6 := hT.2.1
  rw [zs_RlimitOf (by omega), (hT.2.2.1 r hr).2.2]
  rfl
theorem yTR_0 {P' : zp} (h : yF [] [278, 279] P P') (hT : yTR P T) : yTR P' T := yTR_F (by decide) h hT
theorem yR_0 {P' : zp} (h : yF [] [278, 279] P P') (hR : yR (P.2.1 286) V) : yR (P'.2.1 286) V := by rw [h.2.1 286 (by decide)]; exact hR
set_option maxHeartbeats 2000000 in
theorem zs_RpinchBy (hT : yTR P T) (hR : yR (P.2.1 286) V) (hw : V.2.2.2 < 2 ^ 31) {r q f : Nat} (hr : r < T.1) (hq : q < T.1) : ∃ P', zk_sm (d + 6) m_R_pinchBy [.ref 269, .int (zi r), .int (zi q), .int (zi f)] (zp_M P, n) = some (some (Value.int (yp T r q f (V.2.1 q) V.2.2.2)), (zp_M P', n)) ∧ yF [] [278, 279] P P' := by
  have h6 := hT.2.1
  rw [e_R_pinchBy, zp_Rv, Option.bind_some, zs_RofB hT hq, zs_cI, Option.bind_some, zs_abs, zs_cI, Option.bind_some, zp_Rv, Option.bind_some, zs_RofS hT hr, zs_cI, Option.bind_some, zp_R29, Option.bind_some]
  rcases hT.2.2.2.2 with ⟨w1, w2⟩ | ⟨i, X, w1, w2, w3, w4, w5⟩
  · rw [if_pos w1, zs_min, zs_cI, Option.bind_some, zs_max, zs_cI, Option.bind_some]
    refine ⟨P, ?_, yF_r⟩
    unfold yp
    rw [w2]
    rfl
  · rw [if_neg (by rw [w2]; exact zi_n1 (by omega)), zp_R15, Option.bind_some, zp_Rv, Option.bind_some, zs_RofS hT hr, zs_cI, Option.bind_some]
    have st : ∀ (P : zp) (i : Nat) (y x : Int32), y = zi i → i < 6 → zk_stI (zp_M P, n) 278 y x = some (zp_M (zp_sA P 278 i x), n) := fun P i y x hy hi => by rw [hy]; exact zp_sti zp_a278 hi (by decide)
    have l39 : ∀ (P : zp), zk_ldI (zp_M P, n) 286 39 = some (P.2.1 286 39) := fun P => zp_ldi (i := 39) zp_a286 (by decide) (by decide)
    rw [st _ 0 0 _ rfl (by decide), Option.bind_some]
    obtain ⟨P1, h1⟩ : ∃ P1, P1 = zp_sA P 278 0 (T.2.1 r) := ⟨_, rfl⟩
    have f1 : yF [] [278, 279] P P1 := by rw [h1]; exact yF_A (by decide)
    rw [← h1, zp_R15, Option.bind_some, zp_Rv, Option.bind_some, zs_RofB (yTR_0 f1 hT) hq, zs_cI, Option.bind_some, st _ 1 1 _ rfl (by decide), Option.bind_some]
    obtain ⟨P2, h2⟩ : ∃ P2, P2 = zp_sA P1 278 1 (T.2.2.1 q) := ⟨_, rfl⟩
    have f2 : yF [] [278, 279] P P2 := yF_t f1 (by rw [h2]; exact yF_A (by decide))
    rw [← h2, zp_R15, Option.bind_some, st _ 2 2 _ rfl (by decide), Option.bind_some]
    obtain ⟨P3, h3⟩ : ∃ P3, P3 = zp_sA P2 278 2 (zi f) := ⟨_, rfl⟩
    have f3 : yF [] [278, 279] P P3 := yF_t f2 (by rw [h3]; exact yF_A (by decide))
    rw [← h3, zp_R15, Option.bind_some, zp_Rv, Option.bind_some, zs_RofT (yTR_0 f3 hT) hq, zs_cI, Option.bind_some, st _ 3 3 _ rfl (by decide), Option.bind_some]
    obtain ⟨P4, h4⟩ : ∃ P4, P4 = zp_sA P3 278 3 (T.2.2.2.1 q) := ⟨_, rfl⟩
    have f4 : yF [] [278, 279] P P4 := yF_t f3 (by rw [h4]; exact yF_A (by decide))
    rw [← h4, zp_R15, Option.bind_some, zp_R27, Option.bind_some, zi_32, zp_ldi zp_a286 (show 32 + q < 221 by omega) (by decide), Option.bind_some, (yR_0 f4 hR).2.1 q (by omega), st _ 4 4 _ rfl (by decide), Option.bind_some]
    obtain ⟨P5, h5⟩ : ∃ P5, P5 = zp_sA P4 278 4 (V.2.1 q) := ⟨_, rfl⟩
    have f5 : yF [] [278, 279] P P5 := yF_t f4 (by rw [h5]; exact yF_A (by decide))
    rw [← h5, zp_R15, Option.bind_some, zp_R27, Option.bind_some, l39, Option.bind_some, (yR_0 f5 hR).2.2.2, zi_mod hw, st _ 5 5 _ rfl (by decide), Option.bind_some]
    obtain ⟨P6, h6'⟩ : ∃ P6, P6 = zp_sA P5 278 5 (zi (V.2.2.2 % 100)) := ⟨_, rfl⟩
    have f6 : yF [] [278, 279] P P6 := yF_t f5 (by rw [h6']; exact yF_A (by decide))
    have hl : ∀ j, j < 6 → P6.2.1 278 j = yls (T.2.1 r) (T.2.2.1 q) (zi f) (T.2.2.2.1 q) (V.2.1 q) (zi (V.2.2.2 % 100)) j := by
      intro j hj
      rw [h6', h5, h4, h3, h2, h1]
      have : j = 0 ∨ j = 1 ∨ j = 2 ∨ j = 3 ∨ j = 4 ∨ j = 5 := by omega
      rcases this with rfl | rfl | rfl | rfl | rfl | rfl <;> rfl
    have hX : yLR P6.2.1 i X := yLR_e (fun k hk => f6.2.1 k (by
      revert hk
      simp only [List.mem_cons, List.not_mem_nil, or_false]
      omega)) w3
    obtain ⟨P7, e7, f7⟩ := zs_RworthOf (d := d) (n := n) hl hX w4
    have hh : P6.1 269 29 = zi i := (f6.1 269 29 (by decide)).trans w2
    refine ⟨P7, ?_, yF_t f6 (yF_m f7 (fun _ h => h) (fun k hk => by simp only [List.mem_cons, List.not_mem_nil, or_false] at hk ⊢; exact Or.inr hk))⟩
    rw [← h6', zp_R29, Option.bind_some, zp_Rv, Option.bind_some, hh, e7, zs_cI, Option.bind_some, zs_min, zs_cI, Option.bind_some, zs_max, zs_cI, Option.bind_some]
    unfold yp
    rw [w5]
    rfl
theorem zs_RpinchOf (hT : yTR P T) (hR : yR (P.2.1 286) V) (hO : yO T.1 V) {k r q f : Nat} (hk : k < 8) (hv : V.1 k = some (r, q, f)) : ∃ P', zk_sm (d + 7) m_R_pinchOf [.ref 269, .int (zi k)] (zp_M P, n) = some (some (Value.int (yp T r q f (V.2.1 q) V.2.2.2)), (zp_M P', n)) ∧ yF [] [278, 279] P P' := by
  obtain ⟨o1, o2, -, -⟩ := hO.1 k r q f hk hv
  obtain ⟨c1, c2, c3, c4⟩ := yR_p hR hk hv
  have hw := hO.2
  obtain ⟨P', e, f'⟩ := zs_RpinchBy (d := d) (n := n) (f := f) hT hR (by omega) o1 o2
  refine ⟨P', ?_, f'⟩
  rw [e_R_pinchOf, zp_Rv, Option.bind_some, zs_Rof (x := 0) (k := 0) (by omega) rfl, zs_cI, Option.bind_some, zp_Rv, Option.bind_some, zs_Rof (x := 1) (k := 1) (by omega) rfl, zs_cI, Option.bind_some, zp_Rv, Option.bind_some, zs_Rof (x := 2) (k := 2) (by omega) rfl, zs_cI, Option.bind_some, c1, c2, c3, zp_Rv, Option.bind_some, e, zs_cI, Option.bind_some]
set_option maxHeartbeats 1000000 in
theorem zs_RloadOf (hp0 : 0 < T.1) (hT : yTR P T) (hR : yR (P.2.1 286) V) (hO : yO T.1 V) {p : Nat} (hp : p < T.1) : ∃ P', zk_sm (d + 8) m_R_loadOf [.ref 269, .int (zi p)] (zp_M P, n) = some (some (Value.int (yld T V p (V.2.1 p) V.2.2.2)), (zp_M P', n)) ∧ yF [] [278, 279] P P' := by
  have h6 := hT.2.1
  rw [e_R_loadOf]
  refine zl_ind (m := 8) (L := fun i (a : Int32 × zp) => zk_sf (d + 8) m_R_loadOf 4 [.ref 269, .int (zi p), .int a.1, .int (zi i)] [] (zp_M a.2, n)) (I := fun i a => yF [] [278, 279] P a.2 ∧ a.1 = (List.range i).foldl (yld1 T V p (V.2.1 p) V.2.2.2) 0) (Q := fun r => ∃ P', r = some (some (Value.int (yld T V p (V.2.1 p) V.2.2.2)), (zp_M P', n)) ∧ yF [] [278, 279] P P') (fun i a hi hI => Or.inr ?_) (fun a hI => ?_) (a := (0, P)) ⟨yF_r, rfl⟩
  · obtain ⟨x, P1⟩ := a
    obtain ⟨f1, hx⟩ := hI
    have f1 : yF [] [278, 279] P P1 := f1
    have hx : x = _ := hx
    have hT1 := yTR_0 f1 hT
    have hR1 := yR_0 f1 hR
    have h25 : 0 < P1.1 269 25 := by rw [hT1.1]; exact (zi_0 (by omega)).mpr hp0
    show ∃ a', zk_sf (d + 8) m_R_loadOf 4 [.ref 269, .int (zi p), .int x, .int (zi i)] [] (zp_M P1, n) = _ ∧ _
    rw [e_R_loadOf_4, if_pos (zi_8 hi), zp_Rv, Option.bind_some, zs_RisOn h25 hi, zs_cI, Option.bind_some, zp_ib, yb_ron hR1 hO h6 hi (by omega), zi_s, zi_p]
    cases hv : V.1 i with
    | none =>
      refine ⟨(x, P1), ?_, f1, ?_⟩
      · rw [show yon V i p = false by unfold yon; rw [hv]]; rfl
      · rw [zl_rs, ← hx]; unfold yld1; rw [hv]
    | some y =>
      obtain ⟨r, q, f⟩ := y
      obtain ⟨o1, o2, o3, o4⟩ := hO.1 i r q f hi hv
      by_cases hq : q = p
      · obtain ⟨P2, e2, f2⟩ := zs_RpinchOf (d := d) (n := n) hT1 hR1 hO hi hv
        refine ⟨(x + yp T r p f (V.2.1 p) V.2.2.2, P2), ?_, yF_t f1 f2, ?_⟩
        · rw [show yon V i p = true by unfold yon; rw [hv]; exact decide_eq_true hq, cond_true, zp_Rv, Option.bind_some, e2, zs_cI, Option.bind_some, hq]
        · show x + yp T r p f (V.2.1 p) V.2.2.2 = _
          rw [zl_rs, ← hx]; unfold yld1; rw [hv]
          exact (if_pos hq).symm
      · refine ⟨(x, P1), ?_, f1, ?_⟩
        · rw [show yon V i p = false by unfold yon; rw [hv]; exact decide_eq_false hq]; rfl
        · rw [zl_rs, ← hx]; unfold yld1; rw [hv]
          exact (if_neg hq).symm
  · obtain ⟨x, P1⟩ := a
    obtain ⟨f1, hx⟩ := hI
    refine ⟨P1, ?_, f1⟩
    show zk_sf (d + 8) m_R_loadOf 4 [.ref 269, .int (zi p), .int x, .int (zi 8)] [] (zp_M P1, n) = _
    rw [e_R_loadOf_4, if_neg zi_8n, show x = _ from hx]
    rfl
set_option maxHeartbeats 1000000 in
theorem zs_RbestFit (hT : yTR P T) (hR : yR (P.2.1 286) V) (hw : V.2.2.2 < 2 ^ 31) {r q : Nat} (hr : r < T.1) (hq : q < T.1) : ∃ P', zk_sm (d + 7) m_R_bestFit [.ref 269, .int (zi r), .int (zi q)] (zp_M P, n) = some (some (Value.int (zi (ybf T V r q))), (zp_M P', n)) ∧ yF [] [278, 279] P P' := by
  rw [e_R_bestFit]
  refine zl_ind (m := 9) (L := fun i (a : Nat × zp) => zk_sf (d + 7) m_R_bestFit 5 [.ref 269, .int (zi r), .int (zi q), .int (zi a.1), .int (zi (i + 1))] [] (zp_M a.2, n)) (I := fun i a => yF [] [278, 279] P a.2 ∧ a.1 = (List.range i).foldl (fun a i => if yp T r q (i + 1) (V.2.1 q) V.2.2.2 < yp T r q a (V.2.1 q) V.2.2.2 then i + 1 else a) 0) (Q := fun x => ∃ P', x = some (some (Value.int (zi (ybf T V r q))), (zp_M P', n)) ∧ yF [] [278, 279] P P') (fun i a hi hI => Or.inr ?_) (fun a hI => ?_) (a := (0, P)) ⟨yF_r, rfl⟩
  · obtain ⟨x, P1⟩ := a
    obtain ⟨f1, hx⟩ := hI
    have f1 : yF [] [278, 279] P P1 := f1
    have hx : x = _ := hx
    obtain ⟨P2, e2, f2⟩ := zs_RpinchBy (d := d) (n := n) (f := i + 1) (yTR_0 f1 hT) (yR_0 f1 hR) hw hr hq
    have f12 := yF_t f1 f2
    obtain ⟨P3, e3, f3⟩ := zs_RpinchBy (d := d) (n := n) (f := x) (yTR_0 f12 hT) (yR_0 f12 hR) hw hr hq
    have f13 := yF_t f12 f3
    show ∃ a', zk_sf (d + 7) m_R_bestFit 5 [.ref 269, .int (zi r), .int (zi q), .int (zi x), .int (zi (i + 1))] [] (zp_M P1, n) = _ ∧ _
    rw [e_R_bestFit_5, if_neg (zi_9 (by omega)), zp_Rv, Option.bind_some, e2, zs_cI, Option.bind_some, zp_Rv, Option.bind_some, e3, zs_cI, Option.bind_some, zi_s]
    by_cases q' : yp T r q (i + 1) (V.2.1 q) V.2.2.2 < yp T r q x (V.2.1 q) V.2.2.2
    · rw [if_pos q']
      refine ⟨(i + 1, P3), rfl, f13, ?_⟩
      rw [zl_rs, ← hx, if_pos q']
    · rw [if_neg q']
      refine ⟨(x, P3), rfl, f13, ?_⟩
      rw [zl_rs, ← hx, if_neg q']
  · obtain ⟨x, P1⟩ := a
    obtain ⟨f1, hx⟩ := hI
    refine ⟨P1, ?_, f1⟩
    show zk_sf (d + 7) m_R_bestFit 5 [.ref 269, .int (zi r), .int (zi q), .int (zi x), .int (zi (9 + 1))] [] (zp_M P1, n) = _
    rw [e_R_bestFit_5, if_pos zi_9n, show x = _ from hx]
    rfl
end
