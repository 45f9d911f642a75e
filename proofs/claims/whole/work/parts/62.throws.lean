/-! SPECS 21: rows put aside and taken back; the first throw by the reference -/
section
variable {P : zp} {n : Nat × Nat} {d np : Nat} {V : yV} {T : yT}
theorem zp_a290 : zp_ad 290 = (0, 320) := by decide +kernel
theorem zp_R36 : zk_gR (zp_M P, n) 269 12 36 = some 290 := zp_gR (by decide +kernel)
theorem zi_40 (i k : Nat) : 40 * zi i + zi k = zi (40 * i + k) := by
  show Int32.ofNat 40 * Int32.ofNat i + Int32.ofNat k = Int32.ofNat (40 * i + k)
  rw [← Int32.ofNat_mul, ← Int32.ofNat_add]
theorem zs_RputAside {k : Nat} (hk : k < 8) : ∃ P', zk_sm d m_R_putAside [.ref 269, .int (zi k)] (zp_M P, n) = some (none, (zp_M P', n)) ∧ yF [] [290] P P' ∧ (∀ j, j < 40 → P'.2.1 290 (40 * k + j) = P.2.1 286 j) ∧ (∀ j, (j < 40 * k ∨ 40 * k + 40 ≤ j) → P'.2.1 290 j = P.2.1 290 j) := by
  rw [e_R_putAside]
  refine zl_ind (m := 40) (L := fun i (a : zp) => zk_sf d m_R_putAside 2 [.ref 269, .int (zi k), .int (zi i)] [] (zp_M a, n)) (I := fun i a => yF [] [290] P a ∧ (∀ j, j < i → a.2.1 290 (40 * k + j) = P.2.1 286 j) ∧ (∀ j, (j < 40 * k ∨ 40 * k + 40 ≤ j) → a.2.1 290 j = P.2.1 290 j)) (Q := fun r => ∃ P', r = some (none, (zp_M P', n)) ∧ yF [] [290] P P' ∧ (∀ j, j < 40 → P'.2.1 290 (40 * k + j) = P.2.1 286 j) ∧ (∀ j, (j < 40 * k ∨ 40 * k + 40 ≤ j) → P'.2.1 290 j = P.2.1 290 j)) (fun i P1 hi hI => Or.inr ?_) (fun P1 hI => ?_) (a := P) ⟨yF_r, fun j hj => absurd hj (Nat.not_lt_zero _), fun _ _ => rfl⟩
  · obtain ⟨f1, a1, b1⟩ := hI
    refine ⟨zp_sA P1 290 (40 * k + i) (P.2.1 286 i), ?_, yF_t f1 (yF_A (by decide)), fun j hj => ?_, fun j hj => ?_⟩
    · show zk_sf d m_R_putAside 2 [.ref 269, .int (zi k), .int (zi i)] [] (zp_M P1, n) = _
      rw [e_R_putAside_2, if_pos (show zi i < 40 from (zi_l (m := 40) (by omega) (by decide)).mpr hi), zp_R36, Option.bind_some, zp_R27, Option.bind_some, zp_ldi zp_a286 (show i < 221 by omega) (by decide), Option.bind_some, zi_40, zp_sti zp_a290 (show 40 * k + i < 320 by omega) (by decide), Option.bind_some, zi_s, f1.2.1 286 (by decide)]
    · by_cases q : j = i
      · rw [q]; exact zp_u9
      · exact (zp_u8 (by omega)).trans (a1 j (by omega))
    · exact (zp_u8 (by omega)).trans (b1 j hj)
  · obtain ⟨f1, a1, b1⟩ := hI
    refine ⟨P1, ?_, f1, a1, b1⟩
    show zk_sf d m_R_putAside 2 [.ref 269, .int (zi k), .int (zi 40)] [] (zp_M P1, n) = _
    rw [e_R_putAside_2, if_neg (by decide)]
theorem zs_RtakeBack {k : Nat} (hk : k < 8) : ∃ P', zk_sm d m_R_takeBack [.ref 269, .int (zi k)] (zp_M P, n) = some (none, (zp_M P', n)) ∧ yF [] [286] P P' ∧ (∀ j, j < 40 → P'.2.1 286 j = P.2.1 290 (40 * k + j)) ∧ (∀ j, 40 ≤ j → P'.2.1 286 j = P.2.1 286 j) := by
  rw [e_R_takeBack]
  refine zl_ind (m := 40) (L := fun i (a : zp) => zk_sf d m_R_takeBack 2 [.ref 269, .int (zi k), .int (zi i)] [] (zp_M a, n)) (I := fun i a => yF [] [286] P a ∧ (∀ j, j < i → a.2.1 286 j = P.2.1 290 (40 * k + j)) ∧ (∀ j, 40 ≤ j → a.2.1 286 j = P.2.1 286 j)) (Q := fun r => ∃ P', r = some (none, (zp_M P', n)) ∧ yF [] [286] P P' ∧ (∀ j, j < 40 → P'.2.1 286 j = P.2.1 290 (40 * k + j)) ∧ (∀ j, 40 ≤ j → P'.2.1 286 j = P.2.1 286 j)) (fun i P1 hi hI => Or.inr ?_) (fun P1 hI => ?_) (a := P) ⟨yF_r, fun j hj => absurd hj (Nat.not_lt_zero _), fun _ _ => rfl⟩
  · obtain ⟨f1, a1, b1⟩ := hI
    refine ⟨zp_sA P1 286 i (P.2.1 290 (40 * k + i)), ?_, yF_t f1 (yF_A (by decide)), fun j hj => ?_, fun j hj => ?_⟩
    · show zk_sf d m_R_takeBack 2 [.ref 269, .int (zi k), .int (zi i)] [] (zp_M P1, n) = _
      rw [e_R_takeBack_2, if_pos (show zi i < 40 from (zi_l (m := 40) (by omega) (by decide)).mpr hi), zp_R27, Option.bind_some, zp_R36, Option.bind_some, zi_40, zp_ldi zp_a290 (show 40 * k + i < 320 by omega) (by decide), Option.bind_some, zp_sti zp_a286 (show i < 221 by omega) (by decide), Option.bind_some, zi_s, f1.2.1 290 (by decide)]
    · by_cases q : j = i
      · rw [q]; exact zp_u9
      · exact (zp_u8 q).trans (a1 j (by omega))
    · exact (zp_u8 (by omega)).trans (b1 j hj)
  · obtain ⟨f1, a1, b1⟩ := hI
    refine ⟨P1, ?_, f1, a1, b1⟩
    show zk_sf d m_R_takeBack 2 [.ref 269, .int (zi k), .int (zi 40)] [] (zp_M P1, n) = _
    rw [e_R_takeBack_2, if_neg (by decide)]
end
/-- V' is V, as far as person p is concerned, k weeks on, with gall g -/
def ySm (T : yT) (V : yV) (p : Nat) (V' : yV) (k : Nat) (g : Int32) : Prop := (∀ i, yon V' i p = yon V i p ∧ (yon V i p = true → V'.1 i = V.1 i)) ∧ V'.2.2.2 = V.2.2.2 + k ∧ V'.2.1 p = g
section
variable {T : yT} {V V' : yV} {p k e : Nat} {g : Int32}
theorem ySm_br (h : ySm T V p V' k g) : ybr V' p = ybr V p := zl_anyc (fun i _ => (h.1 i).1)
theorem yld_e (h : ∀ i, yon V' i p = yon V i p ∧ (yon V i p = true → V'.1 i = V.1 i)) (x : Int32) (w : Nat) : yld T V' p x w = yld T V p x w := by
  refine zl_fc (fun i a _ => ?_) 0
  obtain ⟨h1, h2⟩ := h i
  have hn : ∀ (U : yV) (a : Int32), yon U i p = false → yld1 T U p x w a i = a := by
    intro U a hU
    unfold yon at hU
    unfold yld1
    cases hv : U.1 i with
    | none => rfl
    | some y =>
      obtain ⟨r, q, f⟩ := y
      rw [hv] at hU
      exact if_neg (of_decide_eq_false hU)
  cases ho : yon V i p with
  | false => rw [hn V a ho, hn V' a (h1.trans ho)]
  | true => unfold yld1; rw [h2 ho]
theorem ySm_0 : ySm T V p V 0 (V.2.1 p) := ⟨fun _ => ⟨rfl, fun _ => rfl⟩, rfl, rfl⟩
theorem ymd_k {m : Nat} (hp : p < m) (h : (yst1 T V e p).2 = false) (i : Nat) : yon (ymd T V e m) i p = yon V i p ∧ (yon V i p = true → (ymd T V e m).1 i = V.1 i) := by
  have e0 : (ymd T V e m).1 i = (match V.1 i with | some (r, q, f) => if q < m ∧ (yst1 T V e q).2 = true then none else some (r, q, f) | none => none) := rfl
  unfold yon
  rw [e0]
  cases hv : V.1 i with
  | none => exact ⟨rfl, fun _ => rfl⟩
  | some y =>
    obtain ⟨r, q, f⟩ := y
    show (match (if q < m ∧ (yst1 T V e q).2 = true then none else some (r, q, f)) with | some (_, q, _) => decide (q = p) | none => false) = decide (q = p) ∧ (decide (q = p) = true → (if q < m ∧ (yst1 T V e q).2 = true then none else some (r, q, f)) = some (r, q, f))
    by_cases hq : q = p
    · subst hq
      have hn : ¬ (q < m ∧ (yst1 T V e q).2 = true) := fun z => by rw [h] at z; cases z.2
      rw [if_neg hn]
      exact ⟨rfl, fun _ => rfl⟩
    · rw [decide_eq_false hq]
      refine ⟨?_, fun z => by cases z⟩
      by_cases h2 : q < m ∧ (yst1 T V e q).2 = true
      · rw [if_pos h2]
      · rw [if_neg h2]; exact decide_eq_false hq
theorem ySm_s (hp : p < T.1) (h : ySm T V p V' k g) (ht : (yst1 T V' e p).2 = false) : ySm T V p (ywk T V' e) (k + 1) (yst1 T V' e p).1 := by
  obtain ⟨h1, h2, h3⟩ := h
  refine ⟨fun i => ?_, ?_, ?_⟩
  · obtain ⟨a1, a2⟩ := ymd_k hp ht i
    obtain ⟨b1, b2⟩ := h1 i
    refine ⟨a1.trans b1, fun z => (a2 (b1.trans z)).trans (b2 z)⟩
  · show V'.2.2.2 + 1 = _
    rw [h2]; omega
  · show (if p < T.1 then (yst1 T V' e p).1 else V'.2.1 p) = _
    rw [if_pos hp]
theorem ySm_t (h : ySm T V p V' k g) (hb : ybr V p = true) (he : p ≠ e) : yst1 T V' e p = if ygl T V p g (V.2.2.2 + k) < ylm T p then (ygl T V p g (V.2.2.2 + k), false) else (ygl T V p g (V.2.2.2 + k) / 2, true) := by
  have e1 : yst1 T V' e p = if ygl T V' p (V'.2.1 p) V'.2.2.2 < ylm T p then (ygl T V' p (V'.2.1 p) V'.2.2.2, false) else (ygl T V' p (V'.2.1 p) V'.2.2.2 / 2, true) := if_neg (fun z => by
    rcases z with z | z
    · exact he z
    · rw [ySm_br h, hb] at z; cases z)
  have e2 : ygl T V' p (V'.2.1 p) V'.2.2.2 = ygl T V p g (V.2.2.2 + k) := by
    unfold ygl
    rw [yld_e h.1, h.2.1, h.2.2]
  rw [e1, e2]
theorem ySm_n (h : ySm T V p V' k g) (hb : ybr V p = false) : (yst1 T V' e p).2 = false := by
  have : yst1 T V' e p = (zq_max 0 (V'.2.1 p - T.2.2.2.2.1), false) := if_pos (Or.inr (by rw [ySm_br h]; exact hb))
  rw [this]
theorem ywk_O {np : Nat} (hO : yO np V) (hw : V.2.2.2 < 2000) : yO np (ywk T V e) := ⟨(ymd_O (T := T) (e := e) (i := T.1) hO).1, hw⟩
end
section
variable {P : zp} {n : Nat × Nat} {d : Nat} {V : yV} {T : yT}
abbrev yrt : List Nat := [278, 279, 288, 290]
theorem yR_b {A B : Nat → Int32} (h : ∀ j, j < 40 → B j = A j) (hR : yR A V) : yR B V := by
  refine ⟨fun k hk => by rw [h _ (by omega), h _ (by omega), h _ (by omega), h _ (by omega)]; exact hR.1 k hk, fun p hp => by rw [h _ (by omega)]; exact hR.2.1 p hp, by rw [h _ (by omega)]; exact hR.2.2.1, by rw [h _ (by omega)]; exact hR.2.2.2⟩
theorem zs_Rtiloop {p m : Nat} (hp : p < T.1) (h6 : T.1 ≤ 6) (hm : m < 1000) (hw : V.2.2.2 + m ≤ 1900) : ∀ (j k : Nat) (g : Int32) (V' : yV) (P : zp), k + j = m → yTR P T → yR (P.2.1 286) V' → yO T.1 V' → ySm T V p V' k g →
    ∃ P' P2, zk_sf (d + 11) m_R_throwsIn 11 [.ref 269, .int (zi p), .int (zi m), .int (-1), .int (zi (k + 1))] [] (zp_M P, n) = ((zk_cV (zk_sm (d + 10) m_R_takeBack [.ref 269, .int 7] (zp_M P', n))).bind fun t => some (some (Value.int (yfi (bif ybr V p then yft T V p j g k else none))), t)) ∧ yF [(269, 32)] yrk P P' ∧ (∀ j, 40 ≤ j → P'.2.1 286 j = P.2.1 286 j) ∧ P2 = P
  | 0, k, g, V', P, hk, hT, hR, hO, hS => by
    refine ⟨P, P, ?_, yF_r, fun _ _ => rfl, rfl⟩
    rw [e_R_throwsIn_11, if_pos ((zi_l (by omega) (by omega)).mpr (by omega)), zp_Rv, Option.bind_some]
    cases ybr V p <;> rfl
  | j + 1, k, g, V', P, hk, hT, hR, hO, hS => by
    obtain ⟨P1, e1, r1, w1, f1, k1⟩ := zs_Rlive (d := d + 1) (n := n) (x := -1) (e := 99) hT (by omega) hR hO (fun p hp => ⟨fun z => absurd z (zi_n1 (by omega)), fun z => by omega⟩)
    rw [e_R_throwsIn_11, if_neg (fun z => absurd ((zi_l (by omega) (by omega)).mp z) (by omega)), if_pos rfl, zp_Rv, Option.bind_some, e1, zs_cV, Option.bind_some, zp_R32, Option.bind_some, w1, zs_Rhas, zs_cI, Option.bind_some, zp_ib, yb_tw h6 hp, zi_s]
    have hwk := hS.2.1
    cases ht : (yst1 T V' 99 p).2 with
    | false =>
      obtain ⟨P2, -, e2, f2, k2, -⟩ := zs_Rtiloop hp h6 hm hw j (k + 1) (yst1 T V' 99 p).1 (ywk T V' 99) P1 (by omega) (yTR_1 f1 hT) r1 (ywk_O hO (by omega)) (ySm_s hp hS ht)
      refine ⟨P2, P, ?_, yF_t f1 f2, fun i hi => (k2 i hi).trans (k1 i hi), rfl⟩
      rw [cond_false, e2]
      cases hb : ybr V p with
      | false => rfl
      | true =>
        have h3 := ySm_t hS hb (e := 99) (by omega)
        rw [cond_true, cond_true]
        show _ = ((zk_cV (zk_sm (d + 10) m_R_takeBack [.ref 269, .int 7] (zp_M P2, n))).bind fun t => some (some (Value.int (yfi (if ygl T V p g (V.2.2.2 + k) < ylm T p then yft T V p j (ygl T V p g (V.2.2.2 + k)) (k + 1) else some (k + 1)))), t))
        by_cases q : ygl T V p g (V.2.2.2 + k) < ylm T p
        · rw [if_pos q] at h3 ⊢
          rw [h3]
        · rw [if_neg q] at h3
          rw [h3] at ht; cases ht
    | true =>
      refine ⟨P1, P, ?_, f1, k1, rfl⟩
      have hb : ybr V p = true := by
        cases hb : ybr V p with
        | true => rfl
        | false => rw [ySm_n hS hb] at ht; cases ht
      have h3 := ySm_t hS hb (e := 99) (by omega)
      have hv : yft T V p (j + 1) g k = some (k + 1) := by
        show (if ygl T V p g (V.2.2.2 + k) < ylm T p then _ else some (k + 1)) = _
        by_cases q : ygl T V p g (V.2.2.2 + k) < ylm T p
        · rw [if_pos q] at h3; rw [h3] at ht; cases ht
        · rw [if_neg q]
      rw [cond_true, hb, cond_true, hv]
      by_cases q : zi m < zi (k + 1 + 1)
      · rw [e_R_throwsIn_11, if_pos q, zp_Rv, Option.bind_some]
        rfl
      · rw [e_R_throwsIn_11, if_neg q, if_neg (zi_n1 (by omega)), zp_Rv, Option.bind_some]
        rfl
theorem zs_RthrowsIn (hT : yTR P T) (hR : yR (P.2.1 286) V) (hO : yO T.1 V) {p m : Nat} (hp : p < T.1) (hm : m < 1000) (hw : V.2.2.2 + m ≤ 1900) : ∃ P', zk_sm (d + 11) m_R_throwsIn [.ref 269, .int (zi p), .int (zi m)] (zp_M P, n) = some (some (Value.int (yfi (yfr T V p m))), (zp_M P', n)) ∧ yF [(269, 32)] yrt P P' := by
  obtain ⟨P1, e1, f1, a1, -⟩ := zs_RputAside (P := P) (n := n) (d := d + 10) (k := 7) (by decide)
  obtain ⟨P2, -, e2, f2, k2, -⟩ := zs_Rtiloop (d := d) (n := n) hp hT.2.1 hm hw m 0 (V.2.1 p) V P1 (Nat.zero_add _) (yTR_F (by decide) f1 hT) (by rw [f1.2.1 286 (by decide)]; exact hR) hO ySm_0
  obtain ⟨P3, e3, f3, a3, b3⟩ := zs_RtakeBack (P := P2) (n := n) (d := d + 10) (k := 7) (by decide)
  have h286 : P3.2.1 286 = P.2.1 286 := by
    funext j
    by_cases q : j < 40
    · rw [a3 j q, f2.2.1 290 (by decide), a1 j q]
    · rw [b3 j (by omega), k2 j (by omega), f1.2.1 286 (by decide)]
  have f4 : yF [(269, 32)] [278, 279, 286, 288, 290] P P3 := yF_t (yF_m f1 (fun _ h => by cases h) (fun k hk => by simp only [List.mem_cons, List.not_mem_nil, or_false] at hk ⊢; omega)) (yF_t (yF_m f2 (fun _ h => h) (fun k hk => by simp only [List.mem_cons, List.not_mem_nil, or_false] at hk ⊢; omega)) (yF_m f3 (fun _ h => by cases h) (fun k hk => by simp only [List.mem_cons, List.not_mem_nil, or_false] at hk ⊢; omega)))
  refine ⟨P3, ?_, yF_x f4 (fun k hk hk' => ?_)⟩
  · rw [e_R_throwsIn, zp_Rv, Option.bind_some, show zk_sm (d + 10) m_R_putAside [.ref 269, .int 7] (zp_M P, n) = _ from e1, zs_cV, Option.bind_some]
    refine (show zk_sf (d + 11) m_R_throwsIn 11 _ [] (zp_M P1, n) = _ from e2).trans ?_
    rw [show zk_sm (d + 10) m_R_takeBack [.ref 269, .int 7] (zp_M P2, n) = _ from e3, zs_cV, Option.bind_some]
    rfl
  · have : k = 286 := by simp only [List.mem_cons, List.not_mem_nil, or_false] at hk hk'; omega
    rw [this]; exact h286
end
