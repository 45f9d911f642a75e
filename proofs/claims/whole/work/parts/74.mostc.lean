/-! CALLS 7: most, put together -/
section
variable {P : zp} {n : Nat × Nat} {d nl : Nat} {V : yV} {T : yT} {L : Nat → Nat × Nat × Nat} {c0 : Int32}
theorem zs_free (hP : yP P n.1 T V nl L c0) : zk_sm (d + 13) m_SaddlerKnows_freePeople [.ref 12] (zp_M P, n) = some (some (.int (yfe V T.1)), (zp_M P, n)) := by
  have hT := hP.1.1
  have h6 := hT.2.1
  have hC := hP.2.1.1
  have hO := hP.2.1.2.2.1
  rw [e_SaddlerKnows_freePeople]
  refine zl_fold (L := fun i a => zk_sf (d + 13) m_SaddlerKnows_freePeople 4 [.ref 12, .int a, .int (zi i)] [] (zp_M P, n)) (g := fun i a => bif !ybr V i then a ||| (1 <<< (zi i &&& 31)) else a) (fin := fun a => (some (.int a), (zp_M P, n))) (m := T.1) (fun i a hi => ?_) (fun a => ?_) 0
  · show zk_sf (d + 13) m_SaddlerKnows_freePeople 4 [.ref 12, .int a, .int (zi i)] [] (zp_M P, n) = _
    rw [e_SaddlerKnows_freePeople_4, zp_C3, Option.bind_some, zp_T2, Option.bind_some, hT.1, if_pos ((zi_l (by omega) (by omega)).mpr hi), zp_C5, Option.bind_some, zp_sv zs_35, Option.bind_some, zs_bears zs_35 hC hO h6 (by omega), zs_cI, Option.bind_some, zp_ib, zi_s]
    cases ybr V i <;> rfl
  · show zk_sf (d + 13) m_SaddlerKnows_freePeople 4 [.ref 12, .int a, .int (zi T.1)] [] (zp_M P, n) = _
    rw [e_SaddlerKnows_freePeople_4, zp_C3, Option.bind_some, zp_T2, Option.bind_some, hT.1, if_neg (fun z => absurd ((zi_l (by omega) (by omega)).mp z) (Nat.lt_irrefl _))]
theorem zs_Rfree0 (hP : yP P n.1 T V nl L c0) (hp0 : 0 < T.1) : zk_sm (d + 13) m_R_freeOnes [.ref 269, .int 0] (zp_M P, n) = some (some (.int (yfe V T.1)), (zp_M P, n)) := by
  have hT := hP.1.2.1
  have h6 := hT.2.1
  have hR := hP.2.1.2.1
  have hO := hP.2.1.2.2.1
  have h25 : 0 < P.1 269 25 := by rw [hT.1]; exact (zi_0 (by omega)).mpr hp0
  rw [e_R_freeOnes]
  refine zl_fold (L := fun i a => zk_sf (d + 13) m_R_freeOnes 4 [.ref 269, .int 0, .int a, .int (zi i)] [] (zp_M P, n)) (g := fun i a => bif !ybr V i then a ||| (1 <<< (zi i &&& 31)) else a) (fin := fun a => (some (.int a), (zp_M P, n))) (m := T.1) (fun i a hi => ?_) (fun a => ?_) 0
  · show zk_sf (d + 13) m_R_freeOnes 4 [.ref 269, .int 0, .int a, .int (zi i)] [] (zp_M P, n) = _
    rw [e_R_freeOnes_4, zp_R25, Option.bind_some, hT.1, if_pos ((zi_l (by omega) (by omega)).mpr hi), zp_Rv, Option.bind_some, zs_RbornBy h25, zs_cI, Option.bind_some, zi_s, zi_o]
    cases hb : ybr V i with
    | false => rw [if_pos ((zr_born0 hR hO h6 (by omega)).mpr hb), if_pos rfl]; rfl
    | true => rw [if_neg (fun z => by have := (zr_born0 hR hO h6 (by omega)).mp z; rw [hb] at this; cases this)]; rfl
  · show zk_sf (d + 13) m_R_freeOnes 4 [.ref 269, .int 0, .int a, .int (zi T.1)] [] (zp_M P, n) = _
    rw [e_R_freeOnes_4, zp_R25, Option.bind_some, hT.1, if_neg (fun z => absurd ((zi_l (by omega) (by omega)).mp z) (Nat.lt_irrefl _))]
theorem zs_Rfree1 (hP : yP P n.1 T V nl L c0) (hp0 : 0 < T.1) : zk_sm (d + 13) m_R_freeOnes [.ref 269, .int 1] (zp_M P, n) = some (some (.int (yft_ V T.1)), (zp_M P, n)) := by
  have hT := hP.1.2.1
  have h6 := hT.2.1
  have hR := hP.2.1.2.1
  have hO := hP.2.1.2.2.1
  have h25 : 0 < P.1 269 25 := by rw [hT.1]; exact (zi_0 (by omega)).mpr hp0
  rw [e_R_freeOnes]
  refine zl_fold (L := fun i a => zk_sf (d + 13) m_R_freeOnes 4 [.ref 269, .int 1, .int a, .int (zi i)] [] (zp_M P, n)) (g := fun i a => bif !ybr V i && decide (0 < ysc V i) then a ||| (1 <<< (zi i &&& 31)) else a) (fin := fun a => (some (.int a), (zp_M P, n))) (m := T.1) (fun i a hi => ?_) (fun a => ?_) 0
  · show zk_sf (d + 13) m_R_freeOnes 4 [.ref 269, .int 1, .int a, .int (zi i)] [] (zp_M P, n) = _
    have hsb := @ysc_b V i
    rw [e_R_freeOnes_4, zp_R25, Option.bind_some, hT.1, if_pos ((zi_l (by omega) (by omega)).mpr hi), zp_Rv, Option.bind_some, zs_RbornBy h25, zs_cI, Option.bind_some, zi_s, zi_o]
    cases hb : ybr V i with
    | false =>
      rw [if_pos ((zr_born0 hR hO h6 (by omega)).mpr hb), if_neg (by decide), zp_Rv, Option.bind_some, ysc_R hT hp0 hR hO (by omega), zs_cI, Option.bind_some]
      by_cases z : 0 < ysc V i
      · rw [if_pos ((zi_0 (by omega)).mpr z), decide_eq_true z]; rfl
      · rw [if_neg (fun w => z ((zi_0 (by omega)).mp w)), decide_eq_false z]; rfl
    | true => rw [if_neg (fun z => by have := (zr_born0 hR hO h6 (by omega)).mp z; rw [hb] at this; cases this)]; rfl
  · show zk_sf (d + 13) m_R_freeOnes 4 [.ref 269, .int 1, .int a, .int (zi T.1)] [] (zp_M P, n) = _
    rw [e_R_freeOnes_4, zp_R25, Option.bind_some, hT.1, if_neg (fun z => absurd ((zi_l (by omega) (by omega)).mp z) (Nat.lt_irrefl _))]
theorem yfr_1 {p : Nat} : (yfr T V p 1 = none ↔ (yst1 T V 99 p).2 = false) ∨ p = 99 := by
  by_cases hp : p = 99
  · exact Or.inr hp
  · refine Or.inl ?_
    unfold yfr
    cases hb : ybr V p with
    | false =>
      have : yst1 T V 99 p = (zq_max 0 (V.2.1 p - T.2.2.2.2.1), false) := if_pos (Or.inr hb)
      rw [this]; exact ⟨fun _ => rfl, fun _ => rfl⟩
    | true =>
      have h3 := ySm_t (T := T) (V := V) (p := p) (e := 99) ySm_0 hb hp
      rw [h3]
      show (if ygl T V p (V.2.1 p) (V.2.2.2 + 0) < ylm T p then none else some (0 + 1)) = none ↔ _
      by_cases q : ygl T V p (V.2.1 p) (V.2.2.2 + 0) < ylm T p
      · rw [if_pos q, if_pos q]; exact ⟨fun _ => rfl, fun _ => rfl⟩
      · rw [if_neg q, if_neg q]; exact ⟨fun z => (by cases z), fun z => (by cases z)⟩
theorem zs_throwNext (hP : yP P n.1 T V nl L c0) : ∃ P', zk_sm (d + 13) m_SaddlerKnows_throwingNext [.ref 12] (zp_M P, n) = some (some (.int (ytw T V 99)), (zp_M P', n)) ∧ yF [] [] P P' := by
  rw [e_SaddlerKnows_throwingNext]
  refine zl_ind (m := T.1) (L := fun i (a : Int32 × zp) => zk_sf (d + 13) m_SaddlerKnows_throwingNext 4 [.ref 12, .int a.1, .int (zi i)] [] (zp_M a.2, n)) (I := fun i a => yF [] [] P a.2 ∧ a.1 = (List.range i).foldl (yth1 T V 99) 0) (Q := fun r => ∃ P', r = some (some (.int (ytw T V 99)), (zp_M P', n)) ∧ yF [] [] P P') (fun i a hi hI => Or.inr ?_) (fun a hI => ?_) (a := (0, P)) ⟨yF_r, rfl⟩
  · obtain ⟨x, P2⟩ := a
    obtain ⟨f2, hx⟩ := hI
    have f2 : yF [] [] P P2 := f2
    have hx : x = _ := hx
    have hP2 := yP_F ySc_0 f2 hP
    have h6 := hP2.1.1.2.1
    obtain ⟨P3, e3, f3⟩ := zs_firstThrow (d := d + 5) (n := n) (m := 1) zs_35 hP2.1.1 hP2.2.1.1 hP2.2.1.2.2.1 hi (by decide)
    show ∃ a', zk_sf (d + 13) m_SaddlerKnows_throwingNext 4 [.ref 12, .int x, .int (zi i)] [] (zp_M P2, n) = _ ∧ _
    rw [e_SaddlerKnows_throwingNext_4, zp_C3, Option.bind_some, zp_T2, Option.bind_some, hP2.1.1.1, if_pos ((zi_l (by omega) (by omega)).mpr hi), zp_C4, Option.bind_some, zp_C5, Option.bind_some, zp_Lv, Option.bind_some, show zk_sm (d + 12) m_Pinches_firstThrow [.ref 33, .ref 35, .int (zi i), .int 1] (zp_M P2, n) = _ from e3, zs_cI, Option.bind_some, zi_s]
    have h1 := (@yfr_1 V T i).resolve_right (by omega)
    cases hf : yfr T V i 1 with
    | none =>
      have h2 := h1.mp hf
      rw [if_pos (show yfi none = -1 from rfl)]
      refine ⟨(x, P3), rfl, yF_t f2 f3, ?_⟩
      rw [zl_rs, ← hx]
      unfold yth1
      rw [h2]; rfl
    | some k =>
      have h2 : (yst1 T V 99 i).2 = true := by
        cases hs : (yst1 T V 99 i).2 with
        | true => rfl
        | false => rw [h1.mpr hs] at hf; cases hf
      have hk : yfi (some k) ≠ -1 := by
        have hk1 : k = 1 := by
          unfold yfr at hf
          cases hb : ybr V i with
          | false => rw [hb] at hf; cases hf
          | true =>
            rw [hb] at hf
            have hf : (if ygl T V i (V.2.1 i) (V.2.2.2 + 0) < ylm T i then none else some (0 + 1)) = some k := hf
            by_cases q : ygl T V i (V.2.1 i) (V.2.2.2 + 0) < ylm T i
            · rw [if_pos q] at hf; cases hf
            · rw [if_neg q] at hf; cases hf; rfl
        rw [hk1]; exact zi_n1 (by decide)
      rw [if_neg hk]
      refine ⟨(x ||| (1 <<< (zi i &&& 31)), P3), rfl, yF_t f2 f3, ?_⟩
      rw [zl_rs, ← hx]
      unfold yth1
      rw [h2]; rfl
  · obtain ⟨x, P2⟩ := a
    obtain ⟨f2, hx⟩ := hI
    have f2 : yF [] [] P P2 := f2
    have hx : x = _ := hx
    have hP2 := yP_F ySc_0 f2 hP
    have h6 := hP2.1.1.2.1
    refine ⟨P2, ?_, f2⟩
    show zk_sf (d + 13) m_SaddlerKnows_throwingNext 4 [.ref 12, .int x, .int (zi T.1)] [] (zp_M P2, n) = _
    rw [e_SaddlerKnows_throwingNext_4, zp_C3, Option.bind_some, zp_T2, Option.bind_some, hP2.1.1.1, if_neg (fun z => absurd ((zi_l (by omega) (by omega)).mp z) (Nat.lt_irrefl _)), hx]
    rfl
/-- a week that would be, gone through and taken back -/
theorem zs_Rthrowers (hP : yP P n.1 T V nl L c0) (hp0 : 0 < T.1) : ∃ P', zk_sm (d + 13) m_R_throwers [.ref 269] (zp_M P, n) = some (some (.int (ytw T V 99)), (zp_M P', n)) ∧ yF [(269, 32)] yrt P P' := by
  have hT := hP.1.2.1
  have h6 := hT.2.1
  have hR := hP.2.1.2.1
  have hO := hP.2.1.2.2.1
  obtain ⟨P1, e1, f1, a1, -⟩ := zs_RputAside (P := P) (n := n) (d := d + 12) (k := 0) (by decide)
  obtain ⟨P2, e2, r2, w2, f2, k2⟩ := zs_Rlive (d := d + 3) (n := n) (x := -1) (e := 99) (yTR_F (by decide) f1 hT) hp0 (by rw [f1.2.1 286 (by decide)]; exact hR) hO (fun p hp => ⟨fun z => absurd z (zi_n1 (by omega)), fun z => by omega⟩)
  obtain ⟨P3, e3, f3, a3, b3⟩ := zs_RtakeBack (P := P2) (n := n) (d := d + 12) (k := 0) (by decide)
  have h286 : P3.2.1 286 = P.2.1 286 := by
    funext j
    by_cases q : j < 40
    · rw [a3 j q, f2.2.1 290 (by decide), a1 j q]
    · rw [b3 j (by omega), k2 j (by omega), f1.2.1 286 (by decide)]
  have f4 : yF [(269, 32)] [278, 279, 286, 288, 290] P P3 := yF_t (yF_m f1 (fun _ h => by cases h) (fun k hk => by simp only [List.mem_cons, List.not_mem_nil, or_false] at hk ⊢; omega)) (yF_t (yF_m f2 (fun _ h => h) (fun k hk => by simp only [List.mem_cons, List.not_mem_nil, or_false] at hk ⊢; omega)) (yF_m f3 (fun _ h => by cases h) (fun k hk => by simp only [List.mem_cons, List.not_mem_nil, or_false] at hk ⊢; omega)))
  refine ⟨P3, ?_, yF_x f4 (fun k hk hk' => ?_)⟩
  · rw [e_R_throwers, zp_Rv, Option.bind_some, show zk_sm (d + 12) m_R_putAside [.ref 269, .int 0] (zp_M P, n) = _ from e1, zs_cV, Option.bind_some, zp_Rv, Option.bind_some, e2, zs_cV, Option.bind_some, zp_R32, Option.bind_some, w2, zp_Rv, Option.bind_some, show zk_sm (d + 12) m_R_takeBack [.ref 269, .int 0] (zp_M P2, n) = _ from e3, zs_cV, Option.bind_some]
  · have : k = 286 := by simp only [List.mem_cons, List.not_mem_nil, or_false] at hk hk'; omega
    rw [this]; exact h286
theorem zs_rings (hP : yP P n.1 T V nl L c0) : zk_sm (d + 13) m_SaddlerKnows_peopleInRings [.ref 12] (zp_M P, n) = some (some (.int (yrg_ V T.1)), (zp_M P, n)) := by
  have hT := hP.1.1
  have h6 := hT.2.1
  have hC := hP.2.1.1
  have hO := hP.2.1.2.2.1
  rw [e_SaddlerKnows_peopleInRings]
  refine zl_fold (L := fun i a => zk_sf (d + 13) m_SaddlerKnows_peopleInRings 4 [.ref 12, .int a, .int (zi i)] [] (zp_M P, n)) (g := fun i a => bif yb_t (yab V i 6).2 i then a ||| (1 <<< (zi i &&& 31)) else a) (fin := fun a => (some (.int a), (zp_M P, n))) (m := T.1) (fun i a hi => ?_) (fun a => ?_) 0
  · show zk_sf (d + 13) m_SaddlerKnows_peopleInRings 4 [.ref 12, .int a, .int (zi i)] [] (zp_M P, n) = _
    have e : a ||| ((yab V i 6).2 &&& (1 <<< (zi i &&& 31))) = bif yb_t (yab V i 6).2 i then a ||| (1 <<< (zi i &&& 31)) else a := by
      refine yb_ext (fun x hx => ?_)
      rw [yb_or, yb_and, yb_1s i (by omega) x hx]
      cases hb : yb_t (yab V i 6).2 i with
      | true =>
        rw [cond_true, yb_or, yb_1s i (by omega) x hx]
        by_cases z : x = i
        · rw [z, hb, decide_eq_true rfl]; rfl
        · rw [decide_eq_false z, Bool.and_false]
      | false =>
        rw [cond_false]
        by_cases z : x = i
        · rw [z, hb, Bool.false_and, Bool.or_false]
        · rw [decide_eq_false z, Bool.and_false, Bool.or_false]
    rw [e_SaddlerKnows_peopleInRings_4, zp_C3, Option.bind_some, zp_T2, Option.bind_some, hT.1, if_pos ((zi_l (by omega) (by omega)).mpr hi), zp_C5, Option.bind_some, zp_sv zs_35, Option.bind_some, yab_C zs_35 hC hO h6, zs_cI, Option.bind_some, zi_s, e]
  · show zk_sf (d + 13) m_SaddlerKnows_peopleInRings 4 [.ref 12, .int a, .int (zi T.1)] [] (zp_M P, n) = _
    rw [e_SaddlerKnows_peopleInRings_4, zp_C3, Option.bind_some, zp_T2, Option.bind_some, hT.1, if_neg (fun z => absurd ((zi_l (by omega) (by omega)).mp z) (Nat.lt_irrefl _))]
theorem zs_Rrings (hP : yP P n.1 T V nl L c0) : zk_sm (d + 13) m_R_inRings [.ref 269] (zp_M P, n) = some (some (.int (yrg_ V T.1)), (zp_M P, n)) := by
  have hT := hP.1.2.1
  have h6 := hT.2.1
  have hR := hP.2.1.2.1
  have hO := hP.2.1.2.2.1
  rw [e_R_inRings]
  refine zl_fold (L := fun i a => zk_sf (d + 13) m_R_inRings 4 [.ref 269, .int a, .int (zi i)] [] (zp_M P, n)) (g := fun i a => bif yb_t (yab V i 6).2 i then a ||| (1 <<< (zi i &&& 31)) else a) (fin := fun a => (some (.int a), (zp_M P, n))) (m := T.1) (fun i a hi => ?_) (fun a => ?_) 0
  · show zk_sf (d + 13) m_R_inRings 4 [.ref 269, .int a, .int (zi i)] [] (zp_M P, n) = _
    rw [e_R_inRings_4, zp_R25, Option.bind_some, hT.1, if_pos ((zi_l (by omega) (by omega)).mpr hi), zp_Rv, Option.bind_some, zs_Rabove hT hR hO (by omega), zs_cI, Option.bind_some, zs_Rhas, zs_cI, Option.bind_some, zp_ib, yb_has (by omega), zi_s, zi_o]
    cases yb_t (yab V i 6).2 i <;> rfl
  · show zk_sf (d + 13) m_R_inRings 4 [.ref 269, .int a, .int (zi T.1)] [] (zp_M P, n) = _
    rw [e_R_inRings_4, zp_R25, Option.bind_some, hT.1, if_neg (fun z => absurd ((zi_l (by omega) (by omega)).mp z) (Nat.lt_irrefl _))]
theorem yfi_n {p q : Nat} : (yfi (ypl V p q) = -1) ↔ (ypl V p q).isSome = false := by
  cases h : ypl V p q with
  | none => exact ⟨fun _ => rfl, fun _ => rfl⟩
  | some k =>
    have hk := List.mem_range.mp (List.find?_range_eq_some.mp h).2.1
    exact ⟨fun z => absurd z (zi_n1 (by omega)), fun z => by cases z⟩
theorem zs_sides (hP : yP P n.1 T V nl L c0) : zk_sm (d + 13) m_SaddlerKnows_sidePairs [.ref 12] (zp_M P, n) = some (some (.int (zi (ysA V T.1))), (zp_M P, n)) := by
  have hT := hP.1.1
  have h6 := hT.2.1
  have hC := hP.2.1.1
  have hO := hP.2.1.2.2.1
  have inner : ∀ (j o acc p : Nat), o + j = T.1 → p < T.1 → zk_sf (d + 13) m_SaddlerKnows_sidePairs 19 [.ref 12, .int (zi acc), .int (zi p), .int (zi o)] [] (zp_M P, n) = zk_sf (d + 13) m_SaddlerKnows_sidePairs 4 [.ref 12, .int (zi ((List.range' o j).foldl (fun a x => a + ysd V p x) acc)), .int (zi (p + 1)), .int (zi T.1)] [] (zp_M P, n) := by
    intro j
    induction j with
    | zero =>
      intro o acc p ho hp
      have : o = T.1 := ho
      subst this
      rw [e_SaddlerKnows_sidePairs_19, zp_C3, Option.bind_some, zp_T2, Option.bind_some, hT.1, if_neg (fun z => absurd ((zi_l (by omega) (by omega)).mp z) (Nat.lt_irrefl _)), zi_s]
      rfl
    | succ j ih =>
      intro o acc p ho hp
      rw [e_SaddlerKnows_sidePairs_19, zp_C3, Option.bind_some, zp_T2, Option.bind_some, hT.1, if_pos ((zi_l (by omega) (by omega)).mpr (by omega)), zp_C5, Option.bind_some, zp_sv zs_35, Option.bind_some, ypl_C zs_35 hC hO h6 (by omega) (by omega), zs_cI, Option.bind_some]
      have e : (List.range' o (j + 1)).foldl (fun a x => a + ysd V p x) acc = (List.range' (o + 1) j).foldl (fun a x => a + ysd V p x) (acc + ysd V p o) := rfl
      rw [e, ← ih (o + 1) (acc + ysd V p o) p (by omega) hp]
      cases h1 : (ypl V p o).isSome with
      | false =>
        have e0 : ysd V p o = 0 := by unfold ysd; rw [h1]; rfl
        rw [if_pos (yfi_n.mpr h1), zi_s, e0]; rfl
      | true =>
        rw [if_neg (fun z => by have := yfi_n.mp z; rw [h1] at this; cases this), zp_C5, Option.bind_some, zp_sv zs_35, Option.bind_some, ypl_C zs_35 hC hO h6 (by omega) (by omega), zs_cI, Option.bind_some]
        cases h2 : (ypl V o p).isSome with
        | false =>
          have e0 : ysd V p o = 0 := by unfold ysd; rw [h1, h2]; rfl
          rw [if_pos (yfi_n.mpr h2), zi_s, e0]; rfl
        | true =>
          have e0 : ysd V p o = 1 := by unfold ysd; rw [h1, h2]; rfl
          rw [if_neg (fun z => by have := yfi_n.mp z; rw [h2] at this; cases this), zi_s, zi_s, e0]
  rw [e_SaddlerKnows_sidePairs]
  refine zl_ind (m := T.1) (L := fun i (a : Nat × Value) => zk_sf (d + 13) m_SaddlerKnows_sidePairs 4 [.ref 12, .int (zi a.1), .int (zi i), a.2] [] (zp_M P, n)) (I := fun i a => a.1 = (List.range i).foldl (fun a p => (List.range' (p + 1) (T.1 - (p + 1))).foldl (fun a x => a + ysd V p x) a) 0) (Q := fun r => r = some (some (.int (zi (ysA V T.1))), (zp_M P, n))) (fun i a hi hI => Or.inr ?_) (fun a hI => ?_) (a := (0, .retAddr 0)) rfl
  · obtain ⟨x, v⟩ := a
    have hx : x = _ := hI
    refine ⟨((List.range' (i + 1) (T.1 - (i + 1))).foldl (fun a y => a + ysd V i y) x, .int (zi T.1)), ?_, ?_⟩
    · show zk_sf (d + 13) m_SaddlerKnows_sidePairs 4 [.ref 12, .int (zi x), .int (zi i), v] [] (zp_M P, n) = _
      rw [e_SaddlerKnows_sidePairs_4, zp_C3, Option.bind_some, zp_T2, Option.bind_some, hT.1, if_pos ((zi_l (by omega) (by omega)).mpr hi), zi_s, inner (T.1 - (i + 1)) (i + 1) x i (by omega) hi]
    · rw [zl_rs, ← hx]
  · obtain ⟨x, v⟩ := a
    have hx : x = _ := hI
    show zk_sf (d + 13) m_SaddlerKnows_sidePairs 4 [.ref 12, .int (zi x), .int (zi T.1), v] [] (zp_M P, n) = _
    rw [e_SaddlerKnows_sidePairs_4, zp_C3, Option.bind_some, zp_T2, Option.bind_some, hT.1, if_neg (fun z => absurd ((zi_l (by omega) (by omega)).mp z) (Nat.lt_irrefl _)), hx]
    rfl
theorem zs_Rsides (hP : yP P n.1 T V nl L c0) (hp0 : 0 < T.1) : zk_sm (d + 13) m_R_sides [.ref 269] (zp_M P, n) = some (some (.int (zi (ysB V T.1))), (zp_M P, n)) := by
  have hT := hP.1.2.1
  have h6 := hT.2.1
  have hR := hP.2.1.2.1
  have hO := hP.2.1.2.2.1
  have inner : ∀ (p acc : Nat), p < T.1 → zk_sf (d + 13) m_R_sides 14 [.ref 269, .int (zi acc), .int (zi p), .int (zi 0)] [] (zp_M P, n) = zk_sf (d + 13) m_R_sides 4 [.ref 269, .int (zi ((List.range p).foldl (fun a x => a + ysd V p x) acc)), .int (zi (p + 1)), .int (zi p)] [] (zp_M P, n) := by
    intro p acc hp
    refine (zl_go (m := p) (L := fun i (a : Nat) => zk_sf (d + 13) m_R_sides 14 [.ref 269, .int (zi a), .int (zi p), .int (zi i)] [] (zp_M P, n)) (g := fun i a => a + ysd V p i) (fun i a hi => ?_) acc).trans ?_
    · show zk_sf (d + 13) m_R_sides 14 [.ref 269, .int (zi a), .int (zi p), .int (zi i)] [] (zp_M P, n) = _
      rw [e_R_sides_14, if_pos ((zi_l (by omega) (by omega)).mpr hi), zp_Rv, Option.bind_some, ypl_R hT hp0 hR hO (by omega) (by omega), zs_cI, Option.bind_some, zp_ib, zi_s, zi_p]
      cases h1 : (ypl V p i).isSome with
      | false =>
        have e0 : ysd V p i = 0 := by unfold ysd; rw [h1]; rfl
        rw [e0]; rfl
      | true =>
        rw [cond_true, zp_Rv, Option.bind_some, ypl_R hT hp0 hR hO (by omega) (by omega), zs_cI, Option.bind_some, zp_ib]
        cases h2 : (ypl V i p).isSome with
        | false =>
          have e0 : ysd V p i = 0 := by unfold ysd; rw [h1, h2]; rfl
          rw [e0]; rfl
        | true =>
          have e0 : ysd V p i = 1 := by unfold ysd; rw [h1, h2]; rfl
          rw [e0, cond_true, zi_s]
    · show zk_sf (d + 13) m_R_sides 14 [.ref 269, .int (zi ((List.range p).foldl (fun a x => a + ysd V p x) acc)), .int (zi p), .int (zi p)] [] (zp_M P, n) = _
      rw [e_R_sides_14, if_neg (fun z => absurd ((zi_l (by omega) (by omega)).mp z) (Nat.lt_irrefl _)), zi_s]
  rw [e_R_sides]
  refine zl_ind (m := T.1) (L := fun i (a : Nat × Value) => zk_sf (d + 13) m_R_sides 4 [.ref 269, .int (zi a.1), .int (zi i), a.2] [] (zp_M P, n)) (I := fun i a => a.1 = ysB V i) (Q := fun r => r = some (some (.int (zi (ysB V T.1))), (zp_M P, n))) (fun i a hi hI => Or.inr ?_) (fun a hI => ?_) (a := (0, .retAddr 0)) rfl
  · obtain ⟨x, v⟩ := a
    have hx : x = _ := hI
    refine ⟨((List.range i).foldl (fun a y => a + ysd V i y) x, .int (zi i)), ?_, ?_⟩
    · show zk_sf (d + 13) m_R_sides 4 [.ref 269, .int (zi x), .int (zi i), v] [] (zp_M P, n) = _
      rw [e_R_sides_4, zp_R25, Option.bind_some, hT.1, if_pos ((zi_l (by omega) (by omega)).mpr hi)]
      exact inner i x hi
    · unfold ysB
      rw [zl_rs, hx]
      rfl
  · obtain ⟨x, v⟩ := a
    have hx : x = _ := hI
    show zk_sf (d + 13) m_R_sides 4 [.ref 269, .int (zi x), .int (zi T.1), v] [] (zp_M P, n) = _
    rw [e_R_sides_4, zp_R25, Option.bind_some, hT.1, if_neg (fun z => absurd ((zi_l (by omega) (by omega)).mp z) (Nat.lt_irrefl _)), hx]
end
section
variable {P : zp} {n : Nat × Nat} {d : Nat}
theorem zi_ge {k : Nat} (h : k < 2 ^ 31) (h5 : 5 < k) : (5 : Int32) < zi k := (zi_l (i := 5) (by decide) h).mpr h5
theorem yc_most (hI : yI P n.1) {i : Int32} : yOK (d + 20) P n m_SaddlerKnows_most m_R_most [.int i] := by
  obtain ⟨h0, T, V, nl, L, c0, hP⟩ := id hI
  have hT := hP.1.1
  have hR := hP.1.2.1
  have h6 := hT.2.1
  have hO := hP.2.1.2.2.1
  have hB := hP.2.1.2.2.2.1
  have hz : (P.1 269 25 = 0) ↔ T.1 = 0 := by rw [hR.1]; exact zi_eq (b := 0) (by omega) (by decide)
  by_cases hp : 0 < T.1
  · have hz' : ∀ P' : zp, yTR P' T → ¬ P'.1 269 25 = 0 := fun P' h' z => by
      rw [h'.1] at z
      have := (zi_eq (b := 0) (by omega) (by decide)).mp z
      omega
    have hcl : zk_sm (d + 20) m_SaddlerKnows_most [.ref 12, .int i] (zp_M P, n) = (if i < 0 then some (some (.int (-1)), (zp_M P, n)) else if 5 < i then (if i = 6 then (zk_cI (zk_sm (d + 19) m_SaddlerKnows_tightest [.ref 12] (zp_M P, n))).bind fun p => some (some (.int p.1), p.2) else if i = 7 then (zk_cI (zk_sm (d + 19) m_SaddlerKnows_freePeople [.ref 12] (zp_M P, n))).bind fun p => some (some (.int p.1), p.2) else if i = 8 then some (some (.int (yfe V T.1 &&& ysp_ V)), (zp_M P, n)) else if i = 9 then (zk_cI (zk_sm (d + 19) m_SaddlerKnows_throwingNext [.ref 12] (zp_M P, n))).bind fun p => some (some (.int p.1), p.2) else if i = 10 then some (some (.int (yns V)), (zp_M P, n)) else if i = 11 then some (some (.int (ygs V T.1)), (zp_M P, n)) else if i = 12 then (zk_cI (zk_sm (d + 19) m_SaddlerKnows_peopleInRings [.ref 12] (zp_M P, n))).bind fun p => some (some (.int p.1), p.2) else if i = 13 then (zk_cI (zk_sm (d + 19) m_SaddlerKnows_sidePairs [.ref 12] (zp_M P, n))).bind fun p => some (some (.int p.1), p.2) else some (some (.int (-1)), (zp_M P, n))) else (zk_cI (zk_sm (d + 19) m_SaddlerKnows_foremost [.ref 12, .int i] (zp_M P, n))).bind fun p => some (some (.int p.1), p.2)) := by
      have e8 : ((zk_cI (zk_sm (d + 19) m_SaddlerKnows_freePeople [.ref 12] (zp_M P, n))).bind fun p4 => (zk_gR p4.2 12 11 5).bind fun b5 => (zk_rv p4.2 b5 7).bind fun _ => (zk_cI (zk_sm (d + 19) m_Stand_sittingPeople [.ref b5] p4.2)).bind fun p6 => (some (some (.int (p4.1 &&& p6.1)), p6.2) : Option zk_R)) = some (some (.int (yfe V T.1 &&& ysp_ V)), (zp_M P, n)) := by
        rw [zs_free hP, zs_cI, Option.bind_some, zp_C5, Option.bind_some, zp_sv zs_35, Option.bind_some, ysp_C zs_35 hP.2.1.1 hO h6, zs_cI, Option.bind_some]
      rw [e_SaddlerKnows_most, zp_Cv, Option.bind_some, yg_cnt hT, zs_cI, Option.bind_some, zp_ib, decide_eq_true hp, cond_true]
      by_cases q : i < 0
      · have w : ∀ k, k < 14 → ¬ i = zi k := fun k hk z => by rw [z] at q; exact zi_n (by omega) q
        rw [if_pos q, if_pos q, if_neg (show ¬ i = 6 from w 6 (by decide)), if_neg (show ¬ i = 7 from w 7 (by decide)), if_neg (show ¬ i = 8 from w 8 (by decide)), if_neg (show ¬ i = 9 from w 9 (by decide)), if_neg (show ¬ i = 10 from w 10 (by decide)), if_neg (show ¬ i = 11 from w 11 (by decide)), if_neg (show ¬ i = 12 from w 12 (by decide)), if_neg (show ¬ i = 13 from w 13 (by decide))]
      · rw [if_neg q, if_neg q]
        by_cases q5 : 5 < i
        · rw [if_pos q5, if_pos q5, zp_Cv, Option.bind_some, Option.bind_some, Option.bind_some, Option.bind_some, Option.bind_some, Option.bind_some, e8, zp_C5, Option.bind_some, Option.bind_some, zp_sv zs_35, Option.bind_some, Option.bind_some, zs_saddlePlaces zs_35, zs_cI, Option.bind_some, yns_C hP.2.1.1 hO h6, yg_gall zs_35 hP.2.1.1 hB h6, zs_cI, Option.bind_some]
        · rw [if_neg q5, if_neg q5, zp_Cv, Option.bind_some]
    have hin : ∀ (P' : zp), zk_sm (d + 19) m_R_in [.int i, .int 0, .int 13] (zp_M P', n) = some (some (.int (zp_b (yrg 14 i))), (zp_M P', n)) := fun P' => yg_Rin (m := 14) (by decide) (by decide) (by decide)
    cases h : yrg 14 i with
    | false =>
      have w : ∀ k, k < 14 → ¬ i = zi k := fun k hk z => by rw [z, yrg_i hk] at h; cases h
      refine yOK_q (v := -1) (P1 := P) (P2 := P) ?_ ?_ hI
      · rw [hcl]
        by_cases q : i < 0
        · rw [if_pos q]
        · obtain ⟨k, hk, rfl⟩ := zi_r q
          have hk14 : ¬ k < 14 := fun z => w k z rfl
          rw [if_neg q, if_pos (zi_ge hk (by omega)), if_neg (show ¬ zi k = 6 from w 6 (by decide)), if_neg (show ¬ zi k = 7 from w 7 (by decide)), if_neg (show ¬ zi k = 8 from w 8 (by decide)), if_neg (show ¬ zi k = 9 from w 9 (by decide)), if_neg (show ¬ zi k = 10 from w 10 (by decide)), if_neg (show ¬ zi k = 11 from w 11 (by decide)), if_neg (show ¬ zi k = 12 from w 12 (by decide)), if_neg (show ¬ zi k = 13 from w 13 (by decide))]
      · rw [e_R_most, zp_R25, Option.bind_some, if_neg (hz' P hR), hin, h, zs_cI, Option.bind_some, zp_ib]; rfl
    | true =>
      obtain ⟨k, hk, rfl⟩ := yrg_o h
      by_cases k5 : k < 6
      · obtain ⟨P1, e1, f1⟩ := zs_foremost (d := d + 6) (n := n) hP hp k5
        have hP1 := yP_F ySc_0 f1 hP
        obtain ⟨P2, e2, f2⟩ := zs_topBy (d := d + 6) (n := n) hP1 hp k5
        refine yOK_q (v := zi (yfm T V k (T.1 - 1))) (P1 := P1) (P2 := P2) ?_ ?_ ⟨h0, T, V, nl, L, c0, yP_F ySc_r f2 hP1⟩
        · rw [hcl, if_neg (zi_n (by omega)), if_neg (show ¬ (5 : Int32) < zi k from fun z => absurd ((zi_l (i := 5) (by decide) (by omega)).mp z) (by omega)), e1, zs_cI, Option.bind_some]
        · have w : ∀ j, 6 ≤ j → j < 14 → ¬ zi k = zi j := fun j h1 h2 z => by have := (zi_eq (by omega) (by omega)).mp z; omega
          rw [e_R_most, zp_R25, Option.bind_some, if_neg (hz' P1 hP1.1.2.1), hin, h, zs_cI, Option.bind_some, zp_ib, cond_true, if_neg (show ¬ zi k = 6 from w 6 (by decide) (by decide)), if_neg (show ¬ zi k = 7 from w 7 (by decide) (by decide)), if_neg (show ¬ zi k = 8 from w 8 (by decide) (by decide)), if_neg (show ¬ zi k = 9 from w 9 (by decide) (by decide)), if_neg (show ¬ zi k = 10 from w 10 (by decide) (by decide)), if_neg (show ¬ zi k = 11 from w 11 (by decide) (by decide)), if_neg (show ¬ zi k = 12 from w 12 (by decide) (by decide)), if_neg (show ¬ zi k = 13 from w 13 (by decide) (by decide)), zp_Rv, Option.bind_some, e2, zs_cI, Option.bind_some]
      · have hk' : k = 6 ∨ k = 7 ∨ k = 8 ∨ k = 9 ∨ k = 10 ∨ k = 11 ∨ k = 12 ∨ k = 13 := by omega
        rcases hk' with rfl | rfl | rfl | rfl | rfl | rfl | rfl | rfl
        · obtain ⟨P1, e1, f1⟩ := zs_tightest (d := d + 6) (n := n) hP
          have hP1 := yP_F ySc_0 f1 hP
          obtain ⟨P2, e2, f2⟩ := zs_Rtightest (d := d + 6) (n := n) hP1
          refine yOK_q (v := yfi (ytg T V 8)) (P1 := P1) (P2 := P2) ?_ ?_ ⟨h0, T, V, nl, L, c0, yP_F ySc_r f2 hP1⟩
          · rw [hcl, if_neg (by decide), if_pos (by decide), if_pos (by decide), e1, zs_cI, Option.bind_some]
          · rw [e_R_most, zp_R25, Option.bind_some, if_neg (hz' P1 hP1.1.2.1), hin, h, zs_cI, Option.bind_some, zp_ib, cond_true, if_pos (by decide), zp_Rv, Option.bind_some, e2, zs_cI, Option.bind_some]
        · refine yOK_q (v := yfe V T.1) (P1 := P) (P2 := P) ?_ ?_ hI
          · rw [hcl, if_neg (by decide), if_pos (by decide), if_neg (by decide), if_pos (by decide), zs_free hP, zs_cI, Option.bind_some]
          · rw [e_R_most, zp_R25, Option.bind_some, if_neg (hz' P hR), hin, h, zs_cI, Option.bind_some, zp_ib, cond_true, if_neg (by decide), if_pos (by decide), zp_Rv, Option.bind_some, zs_Rfree0 hP hp, zs_cI, Option.bind_some]
        · refine yOK_q (v := yft_ V T.1) (P1 := P) (P2 := P) ?_ ?_ hI
          · rw [hcl, if_neg (by decide), if_pos (by decide), if_neg (by decide), if_neg (by decide), if_pos (by decide), yft_e hO h6]
          · rw [e_R_most, zp_R25, Option.bind_some, if_neg (hz' P hR), hin, h, zs_cI, Option.bind_some, zp_ib, cond_true, if_neg (by decide), if_neg (by decide), if_pos (by decide), zp_Rv, Option.bind_some, zs_Rfree1 hP hp, zs_cI, Option.bind_some]
        · obtain ⟨P1, e1, f1⟩ := zs_throwNext (d := d + 6) (n := n) hP
          have hP1 := yP_F ySc_0 f1 hP
          obtain ⟨P2, e2, f2⟩ := zs_Rthrowers (d := d + 6) (n := n) hP1 hp
          refine yOK_q (v := ytw T V 99) (P1 := P1) (P2 := P2) ?_ ?_ ⟨h0, T, V, nl, L, c0, yP_F ySc_t f2 hP1⟩
          · rw [hcl, if_neg (by decide), if_pos (by decide), if_neg (by decide), if_neg (by decide), if_neg (by decide), if_pos (by decide), e1, zs_cI, Option.bind_some]
          · rw [e_R_most, zp_R25, Option.bind_some, if_neg (hz' P1 hP1.1.2.1), hin, h, zs_cI, Option.bind_some, zp_ib, cond_true, if_neg (by decide), if_neg (by decide), if_neg (by decide), if_pos (by decide), zp_Rv, Option.bind_some, e2, zs_cI, Option.bind_some]
        · refine yOK_q (v := yns V) (P1 := P) (P2 := P) ?_ ?_ hI
          · rw [hcl, if_neg (by decide), if_pos (by decide), if_neg (by decide), if_neg (by decide), if_neg (by decide), if_neg (by decide), if_pos (by decide)]
          · rw [e_R_most, zp_R25, Option.bind_some, if_neg (hz' P hR), hin, h, zs_cI, Option.bind_some, zp_ib, cond_true, if_neg (by decide), if_neg (by decide), if_neg (by decide), if_neg (by decide), if_pos (by decide), zp_Rv, Option.bind_some, yg_Rones hR hP.2.1.2.1 hO, zs_cI, Option.bind_some]
        · refine yOK_q (v := ygs V T.1) (P1 := P) (P2 := P) ?_ ?_ hI
          · rw [hcl, if_neg (by decide), if_pos (by decide), if_neg (by decide), if_neg (by decide), if_neg (by decide), if_neg (by decide), if_neg (by decide), if_pos (by decide)]
          · rw [e_R_most, zp_R25, Option.bind_some, if_neg (hz' P hR), hin, h, zs_cI, Option.bind_some, zp_ib, cond_true, if_neg (by decide), if_neg (by decide), if_neg (by decide), if_neg (by decide), if_neg (by decide), if_pos (by decide), zp_Rv, Option.bind_some, yg_Rgall hR hP.2.1.2.1, zs_cI, Option.bind_some]
        · refine yOK_q (v := yrg_ V T.1) (P1 := P) (P2 := P) ?_ ?_ hI
          · rw [hcl, if_neg (by decide), if_pos (by decide), if_neg (by decide), if_neg (by decide), if_neg (by decide), if_neg (by decide), if_neg (by decide), if_neg (by decide), if_pos (by decide), zs_rings hP, zs_cI, Option.bind_some]
          · rw [e_R_most, zp_R25, Option.bind_some, if_neg (hz' P hR), hin, h, zs_cI, Option.bind_some, zp_ib, cond_true, if_neg (by decide), if_neg (by decide), if_neg (by decide), if_neg (by decide), if_neg (by decide), if_neg (by decide), if_pos (by decide), zp_Rv, Option.bind_some, zs_Rrings hP, zs_cI, Option.bind_some]
        · refine yOK_q (v := zi (ysB V T.1)) (P1 := P) (P2 := P) ?_ ?_ hI
          · rw [hcl, if_neg (by decide), if_pos (by decide), if_neg (by decide), if_neg (by decide), if_neg (by decide), if_neg (by decide), if_neg (by decide), if_neg (by decide), if_neg (by decide), if_pos (by decide), zs_sides hP, zs_cI, Option.bind_some, ysAB h6]
          · rw [e_R_most, zp_R25, Option.bind_some, if_neg (hz' P hR), hin, h, zs_cI, Option.bind_some, zp_ib, cond_true, if_neg (by decide), if_neg (by decide), if_neg (by decide), if_neg (by decide), if_neg (by decide), if_neg (by decide), if_neg (by decide), if_pos (by decide), zp_Rv, Option.bind_some, zs_Rsides hP hp, zs_cI, Option.bind_some]
  · refine yOK_q (v := -1) (P1 := P) (P2 := P) ?_ ?_ hI
    · rw [e_SaddlerKnows_most, zp_Cv, Option.bind_some, yg_cnt hT, zs_cI, Option.bind_some, zp_ib, decide_eq_false hp]; rfl
    · rw [e_R_most, zp_R25, Option.bind_some, if_pos (hz.mpr (by omega))]
end
