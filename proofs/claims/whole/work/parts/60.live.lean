/-! SPECS 19: the reference's week -/
section
variable {P : zp} {n : Nat × Nat} {d np : Nat} {V : yV} {T : yT}
theorem zp_a283 : zp_ad 283 = (0, 2) := by decide +kernel
theorem zp_a288 : zp_ad 288 = (0, 6) := by decide +kernel
theorem zp_R22 : zk_gR (zp_M P, n) 269 12 22 = some 283 := zp_gR (by decide +kernel)
theorem zp_R31 : zk_gR (zp_M P, n) 269 12 31 = some 288 := zp_gR (by decide +kernel)
theorem zp_R32 : zk_gI (zp_M P, n) 269 12 32 = some (P.1 269 32) := zp_gI (by decide +kernel)
theorem zp_R32p {x : Int32} : zk_pf (zp_M P, n) 269 12 32 (.int x) = some (zp_M (zp_sF P 269 32 x), n) := zp_pI (by decide +kernel)
theorem yR_gall {p : Nat} {x : Int32} (hR : yR (P.2.1 286) V) (hp : p < 6) : yR ((zp_sA P 286 (32 + p) x).2.1 286) (ysg' V p x) := by
  have e : ∀ j, (zp_sA P 286 (32 + p) x).2.1 286 j = if j = 32 + p then x else P.2.1 286 j := fun j => by
    show zp_u P.2.1 286 (32 + p) x 286 j = _
    by_cases q : j = 32 + p
    · rw [if_pos q, q, zp_u9]
    · rw [if_neg q, zp_u8 q]
  refine ⟨fun k hk => ?_, fun p' hp' => ?_, ?_, ?_⟩
  · rw [e, e, e, e, if_neg (by omega), if_neg (by omega), if_neg (by omega), if_neg (by omega)]
    exact hR.1 k hk
  · rw [e]
    show _ = if p' = p then x else V.2.1 p'
    by_cases q : p' = p
    · rw [if_pos q, if_pos (by omega)]
    · rw [if_neg q, if_neg (by omega)]; exact hR.2.1 p' hp'
  · rw [e, if_neg (by omega)]; exact hR.2.2.1
  · rw [e, if_neg (by omega)]; exact hR.2.2.2
theorem yR_off {i : Nat} (hR : yR (P.2.1 286) V) (hi : i < 8) : yR ((zp_sA P 286 (4 * i + 3) 0).2.1 286) (ysp V i none) := by
  have e : ∀ j, (zp_sA P 286 (4 * i + 3) 0).2.1 286 j = if j = 4 * i + 3 then 0 else P.2.1 286 j := fun j => by
    show zp_u P.2.1 286 (4 * i + 3) 0 286 j = _
    by_cases q : j = 4 * i + 3
    · rw [if_pos q, q, zp_u9]
    · rw [if_neg q, zp_u8 q]
  refine ⟨fun k hk => ?_, fun p' hp' => ?_, ?_, ?_⟩
  · have a0 := (e (4 * k + 0)).trans (if_neg (by omega))
    have a1 := (e (4 * k + 1)).trans (if_neg (by omega))
    have a2 := (e (4 * k + 2)).trans (if_neg (by omega))
    rw [a0, a1, a2]
    show match (if k = i then none else V.1 k) with | none => _ | some (r, q, f) => _
    by_cases q : k = i
    · simp only [if_pos q]; exact (e _).trans (if_pos (by omega))
    · simp only [if_neg q]; rw [(e (4 * k + 3)).trans (if_neg (by omega))]; exact hR.1 k hk
  · rw [e, if_neg (by omega)]; exact hR.2.1 p' hp'
  · rw [e, if_neg (by omega)]; exact hR.2.2.1
  · rw [e, if_neg (by omega)]; exact hR.2.2.2
theorem yR_same {j : Nat} (hR : yR (P.2.1 286) V) : yR ((zp_sA P 286 j (P.2.1 286 j)).2.1 286) V := by
  have e : (zp_sA P 286 j (P.2.1 286 j)).2.1 286 = P.2.1 286 := by
    funext i
    show zp_u P.2.1 286 j (P.2.1 286 j) 286 i = _
    by_cases q : i = j
    · rw [q, zp_u9]
    · rw [zp_u8 q]
  rw [e]; exact hR
theorem zs_Rheal (hT : yTR P T) (hR : yR (P.2.1 286) V) {p : Nat} (hp : p < 6) : zk_sm (d + 1) m_R_heal [.ref 269, .int (zi p)] (zp_M P, n) = some (none, (zp_M (zp_sA P 286 (32 + p) (zq_max 0 (V.2.1 p - T.2.2.2.2.1))), n)) := by
  rw [e_R_heal, zp_R27, Option.bind_some, Option.bind_some, zi_32, zp_ldi zp_a286 (show 32 + p < 221 by omega) (by decide), Option.bind_some, hR.2.1 p hp, zp_R22, Option.bind_some, zp_lit (i := 0) (y := 0) zp_a283 rfl (by decide) (by decide), Option.bind_some, hT.2.2.2.1, zs_max, zs_cI, Option.bind_some, zp_sti zp_a286 (show 32 + p < 221 by omega) (by decide), Option.bind_some]
theorem zi_43 (i : Nat) : 4 * zi i + 3 = zi (4 * i + 3) := zi_4 i 3
/-- the row 'now' and who threw -/
abbrev yrk : List Nat := [278, 279, 286, 288]
theorem yTR_1 {P' : zp} (h : yF [(269, 32)] yrk P P') (hT : yTR P T) : yTR P' T := yTR_F (by decide) h hT
set_option maxHeartbeats 1000000 in
theorem zs_RthrowAll (hT : yTR P T) (hp0 : 0 < T.1) (hR : yR (P.2.1 286) V) (hO : yO T.1 V) {p : Nat} (hp : p < 6) : ∃ P', zk_sm (d + 4) m_R_throwAll [.ref 269, .int (zi p)] (zp_M P, n) = some (none, (zp_M P', n)) ∧ yR (P'.2.1 286) (ysg' (yof V p 8) p (V.2.1 p / 2)) ∧ P'.1 269 32 = P.1 269 32 ||| (1 <<< (zi p &&& 31)) ∧ yF [(269, 32)] [286] P P' ∧ (∀ j, 40 ≤ j → P'.2.1 286 j = P.2.1 286 j) := by
  have h6 := hT.2.1
  rw [e_R_throwAll, zp_R32, Option.bind_some, zp_R32p, Option.bind_some, zp_R27, Option.bind_some, zi_32, zp_ldi zp_a286 (show 32 + p < 221 by omega) (by decide), Option.bind_some, show (zp_sF P 269 32 (P.1 269 32 ||| (1 <<< (zi p &&& 31)))).2.1 286 (32 + p) = V.2.1 p from hR.2.1 p hp, zp_sti zp_a286 (show 32 + p < 221 by omega) (by decide), Option.bind_some]
  obtain ⟨P0, h0⟩ : ∃ P0, P0 = zp_sA (zp_sF P 269 32 (P.1 269 32 ||| (1 <<< (zi p &&& 31)))) 286 (32 + p) (V.2.1 p / 2) := ⟨_, rfl⟩
  rw [← h0]
  have f0 : yF [(269, 32)] [286] P P0 := by rw [h0]; exact yF_t (yF_f (by decide)) (yF_A (by decide))
  have r0 : yR (P0.2.1 286) (ysg' V p (V.2.1 p / 2)) := by rw [h0]; exact yR_gall (P := zp_sF P 269 32 (P.1 269 32 ||| (1 <<< (zi p &&& 31)))) hR hp
  have w0 : P0.1 269 32 = P.1 269 32 ||| (1 <<< (zi p &&& 31)) := by rw [h0]; exact zp_f9 (P := P) (k := 269) (j := 32)
  have k0 : ∀ j, 40 ≤ j → P0.2.1 286 j = P.2.1 286 j := fun j hj => by rw [h0]; exact zp_u8 (by omega)
  have hO' : yO T.1 (ysg' V p (V.2.1 p / 2)) := hO
  have hT0 : yTR P0 T := yTR_F (by decide) f0 hT
  refine zl_ind (m := 8) (L := fun i (a : zp) => zk_sf (d + 4) m_R_throwAll 27 [.ref 269, .int (zi p), .int (zi i)] [] (zp_M a, n)) (I := fun i a => yR (a.2.1 286) (yof (ysg' V p (V.2.1 p / 2)) p i) ∧ yF [] [286] P0 a ∧ (∀ j, 40 ≤ j → a.2.1 286 j = P.2.1 286 j)) (Q := fun x => ∃ P', x = some (none, (zp_M P', n)) ∧ yR (P'.2.1 286) (ysg' (yof V p 8) p (V.2.1 p / 2)) ∧ P'.1 269 32 = P.1 269 32 ||| (1 <<< (zi p &&& 31)) ∧ yF [(269, 32)] [286] P P' ∧ (∀ j, 40 ≤ j → P'.2.1 286 j = P.2.1 286 j)) (fun i P1 hi hI => Or.inr ?_) (fun P1 hI => ?_) (a := P0) ⟨yR_e yof_0 r0, yF_r, k0⟩
  · obtain ⟨r1, f1, k1⟩ := hI
    have hT1 : yTR P1 T := yTR_F (by decide) f1 hT0
    have h25 : 0 < P1.1 269 25 := by rw [hT1.1]; exact (zi_0 (by omega)).mpr hp0
    have hO1 : yO T.1 (yof (ysg' V p (V.2.1 p / 2)) p i) := yof_O hO'
    show ∃ a', zk_sf (d + 4) m_R_throwAll 27 [.ref 269, .int (zi p), .int (zi i)] [] (zp_M P1, n) = _ ∧ _
    rw [e_R_throwAll_27, if_pos (zi_8 hi), zp_R27, Option.bind_some, zp_Rv, Option.bind_some, zs_RisOn h25 hi, zs_cI, Option.bind_some, zp_ib, yb_ron r1 hO1 h6 hi hp, yof_o, zi_s, zi_43]
    cases h : yon (ysg' V p (V.2.1 p / 2)) i p with
    | false =>
      rw [cond_false, zp_Rv, Option.bind_some, zs_Rof (x := 3) (k := 3) (by omega) rfl, zs_cI, Option.bind_some, zp_sti zp_a286 (show 4 * i + 3 < 221 by omega) (by decide), Option.bind_some]
      exact ⟨_, rfl, yR_e (yof_n h) (yR_same r1), yF_t f1 (yF_A (by decide)), fun j hj => (zp_u8 (by omega)).trans (k1 j hj)⟩
    | true =>
      rw [cond_true, zp_sti zp_a286 (show 4 * i + 3 < 221 by omega) (by decide), Option.bind_some]
      exact ⟨_, rfl, yR_e (yof_y h) (yR_off r1 hi), yF_t f1 (yF_A (by decide)), fun j hj => (zp_u8 (by omega)).trans (k1 j hj)⟩
  · obtain ⟨r1, f1, k1⟩ := hI
    refine ⟨P1, ?_, r1, (f1.1 269 32 (by decide)).trans w0, yF_t f0 (yF_m f1 (fun _ h => by cases h) (fun _ h => h)), k1⟩
    show zk_sf (d + 4) m_R_throwAll 27 [.ref 269, .int (zi p), .int (zi 8)] [] (zp_M P1, n) = _
    rw [e_R_throwAll_27, if_neg zi_8n]
def yns (V : yV) : Int32 := (List.range 8).foldl (fun a i => bif yth V i then a ||| (1 <<< (zi i &&& 31)) else a) 0
theorem yns_R (hR : yR (P.2.1 286) V) : zr_ones P = yns V := zl_fc (fun i a hi => by rw [yb_rth hR hi]) 0
theorem yns_C {b : Nat} (hC : yC P b V) (hO : yO np V) (h6 : np ≤ 6) : zq_places P b = yns V := zl_fc (fun i a hi => by rw [yb_sad hC hO h6 hi]) 0
/-- after a week -/
noncomputable def ywk (T : yT) (V : yV) (e : Nat) : yV := ((ymd T V e T.1).1, (ymd T V e T.1).2.1, zq_min 999 (V.2.2.1 + zq_bits (yns (ymd T V e T.1))), V.2.2.2 + 1)
theorem zr_born0 (hR : yR (P.2.1 286) V) (hO : yO np V) (h6 : np ≤ 6) {p : Nat} (hp : p < 6) : zr_born P (zi p) = 0 ↔ ybr V p = false := by
  have e : zr_born P (zi p) = (List.range 8).foldl (fun a i => bif yon V i p then a ||| (1 <<< (zi i &&& 31)) else a) 0 := zl_fc (fun i a hi => by rw [yb_ron hR hO h6 hi hp]) 0
  rw [e]
  unfold ybr
  show (List.range 8).foldl (fun a i => bif yon V i p then a ||| (1 <<< (zi i &&& 31)) else a) 0 = 0 ↔ _
  rw [show List.range 8 = [0, 1, 2, 3, 4, 5, 6, 7] from rfl]
  simp only [List.foldl, List.any]
  generalize yon V 0 p = b0
  generalize yon V 1 p = b1
  generalize yon V 2 p = b2
  generalize yon V 3 p = b3
  generalize yon V 4 p = b4
  generalize yon V 5 p = b5
  generalize yon V 6 p = b6
  generalize yon V 7 p = b7
  revert b0 b1 b2 b3 b4 b5 b6 b7
  decide
set_option maxHeartbeats 4000000 in
theorem zs_Rlive (hT : yTR P T) (hp0 : 0 < T.1) (hR : yR (P.2.1 286) V) (hO : yO T.1 V) {x : Int32} {e : Nat} (he : ∀ p, p < T.1 → (zi p = x ↔ p = e)) : ∃ P', zk_sm (d + 9) m_R_live [.ref 269, .int x] (zp_M P, n) = some (none, (zp_M P', n)) ∧ yR (P'.2.1 286) (ywk T V e) ∧ P'.1 269 32 = ytw T V e ∧ yF [(269, 32)] yrk P P' ∧ (∀ j, 40 ≤ j → P'.2.1 286 j = P.2.1 286 j) := by
  have h6 := hT.2.1
  have hw := hO.2
  rw [e_R_live]
  refine zl_ind (m := T.1) (L := fun i (a : zp) => zk_sf (d + 9) m_R_live 2 [.ref 269, .int x, .int (zi i)] [] (zp_M a, n)) (I := fun i a => yF [] [278, 279, 288] P a ∧ ∀ p, p < i → a.2.1 288 p = yld T V p (V.2.1 p) V.2.2.2) (Q := fun r => ∃ P', r = some (none, (zp_M P', n)) ∧ yR (P'.2.1 286) (ywk T V e) ∧ P'.1 269 32 = ytw T V e ∧ yF [(269, 32)] yrk P P' ∧ (∀ j, 40 ≤ j → P'.2.1 286 j = P.2.1 286 j)) (fun i P1 hi hI => Or.inr ?_) (fun P1 hI => ?_) (a := P) ⟨yF_r, fun p hp => absurd hp (Nat.not_lt_zero _)⟩
  · obtain ⟨f1, l1⟩ := hI
    have hT1 : yTR P1 T := yTR_F (by decide) f1 hT
    have hR1 : yR (P1.2.1 286) V := by rw [f1.2.1 286 (by decide)]; exact hR
    obtain ⟨P2, e2, f2⟩ := zs_RloadOf (d := d) (n := n) hp0 hT1 hR1 hO hi
    refine ⟨zp_sA P2 288 i (yld T V i (V.2.1 i) V.2.2.2), ?_, yF_t f1 (yF_t (yF_m f2 (fun _ h => h) (fun k hk => by simp only [List.mem_cons, List.not_mem_nil, or_false] at hk ⊢; omega)) (yF_A (by decide))), fun p hp => ?_⟩
    · show zk_sf (d + 9) m_R_live 2 [.ref 269, .int x, .int (zi i)] [] (zp_M P1, n) = _
      rw [e_R_live_2, zp_R25, Option.bind_some, hT1.1, if_pos ((zi_l (by omega) (by omega)).mpr hi), zp_R31, Option.bind_some, zp_Rv, Option.bind_some, e2, zs_cI, Option.bind_some, zp_sti zp_a288 (show i < 6 by omega) (by decide), Option.bind_some, zi_s]
    · by_cases q : p = i
      · rw [q]; exact zp_u9
      · exact (zp_u8 q).trans (by rw [f2.2.1 288 (by decide)]; exact l1 p (by omega))
  · obtain ⟨f1, l1⟩ := hI
    have hT1 : yTR P1 T := yTR_F (by decide) f1 hT
    have hR1 : yR (P1.2.1 286) V := by rw [f1.2.1 286 (by decide)]; exact hR
    show ∃ P', zk_sf (d + 9) m_R_live 2 [.ref 269, .int x, .int (zi T.1)] [] (zp_M P1, n) = _ ∧ _
    rw [e_R_live_2, zp_R25, Option.bind_some, hT1.1, if_neg (fun z => absurd ((zi_l (by omega) (by omega)).mp z) (Nat.lt_irrefl _)), zp_R32p, Option.bind_some]
    have f2 : yF [(269, 32)] yrk P (zp_sF P1 269 32 0) := yF_t (yF_m f1 (fun _ h => by cases h) (fun k hk => by simp only [List.mem_cons, List.not_mem_nil, or_false] at hk ⊢; omega)) (yF_f (by decide))
    refine zl_ind (m := T.1) (L := fun i (a : zp) => zk_sf (d + 9) m_R_live 34 [.ref 269, .int x, .int (zi i)] [] (zp_M a, n)) (I := fun i a => yF [(269, 32)] yrk P a ∧ yR (a.2.1 286) (ymd T V e i) ∧ a.1 269 32 = (List.range i).foldl (yth1 T V e) 0 ∧ (∀ p, p < T.1 → a.2.1 288 p = yld T V p (V.2.1 p) V.2.2.2) ∧ (∀ j, 40 ≤ j → a.2.1 286 j = P.2.1 286 j)) (Q := fun r => ∃ P', r = some (none, (zp_M P', n)) ∧ yR (P'.2.1 286) (ywk T V e) ∧ P'.1 269 32 = ytw T V e ∧ yF [(269, 32)] yrk P P' ∧ (∀ j, 40 ≤ j → P'.2.1 286 j = P.2.1 286 j)) (fun i P3 hi hI => Or.inr ?_) (fun P3 hI => ?_) (a := zp_sF P1 269 32 0) ⟨f2, yR_e ymd_0 hR1, zp_f9, l1, fun j _ => by rw [← f1.2.1 286 (by decide)]; rfl⟩
    · obtain ⟨f3, r3, w3, l3, k3⟩ := hI
      have hT3 : yTR P3 T := yTR_1 f3 hT
      have hO3 : yO T.1 (ymd T V e i) := ymd_O hO
      have i6 : i < 6 := by omega
      have h25 : 0 < P3.1 269 25 := by rw [hT3.1]; exact (zi_0 (by omega)).mpr hp0
      -- the person heals
      have heal : yst1 T V e i = (zq_max 0 (V.2.1 i - T.2.2.2.2.1), false) → ∃ a', ((zk_cV (zk_sm (d + 8) m_R_heal [.ref 269, .int (zi i)] (zp_M P3, n))).bind fun t2 => zk_sf (d + 9) m_R_live 34 [.ref 269, .int x, .int (zi (i + 1))] [] t2) = zk_sf (d + 9) m_R_live 34 [.ref 269, .int x, .int (zi (i + 1))] [] (zp_M a', n) ∧ (yF [(269, 32)] yrk P a' ∧ yR (a'.2.1 286) (ymd T V e (i + 1)) ∧ a'.1 269 32 = (List.range (i + 1)).foldl (yth1 T V e) 0 ∧ (∀ p, p < T.1 → a'.2.1 288 p = yld T V p (V.2.1 p) V.2.2.2) ∧ (∀ j, 40 ≤ j → a'.2.1 286 j = P.2.1 286 j)) := by
        intro hs
        rw [zs_Rheal hT3 r3 i6, zs_cV, Option.bind_some]
        refine ⟨_, rfl, yF_t f3 (yF_A (by decide)), ?_, ?_, l3, fun j hj => (zp_u8 (by omega)).trans (k3 j hj)⟩
        · refine yR_e (ymd_s0 (by rw [hs])) ?_
          rw [hs, ymd_g]
          exact yR_gall r3 i6
        · show P3.1 269 32 = _
          rw [zl_rs, w3]
          unfold yth1
          rw [hs]; rfl
      show ∃ a', zk_sf (d + 9) m_R_live 34 [.ref 269, .int x, .int (zi i)] [] (zp_M P3, n) = _ ∧ _
      rw [e_R_live_34, zp_R25, Option.bind_some, hT3.1, if_pos ((zi_l (by omega) (by omega)).mpr hi), zi_s]
      by_cases qe : i = e
      · rw [if_pos ((he i hi).mpr qe), zp_Rv, Option.bind_some]
        exact heal (if_pos (Or.inl qe))
      · rw [if_neg (fun z => qe ((he i hi).mp z)), zp_Rv, Option.bind_some, zs_RbornBy h25, zs_cI, Option.bind_some]
        by_cases qb : ybr V i = false
        · rw [if_pos ((zr_born0 r3 hO3 h6 i6).mpr (by rw [ymd_br]; exact qb)), zp_Rv, Option.bind_some]
          exact heal (if_pos (Or.inr qb))
        · have hs0 : yst1 T V e i = if ygl T V i (V.2.1 i) V.2.2.2 < ylm T i then (ygl T V i (V.2.1 i) V.2.2.2, false) else (ygl T V i (V.2.1 i) V.2.2.2 / 2, true) := if_neg (fun z => z.elim qe qb)
          have hg3 : P3.2.1 286 (32 + i) = V.2.1 i := (r3.2.1 i i6).trans ymd_g
          rw [if_neg (fun z => qb (by have := (zr_born0 r3 hO3 h6 i6).mp z; rw [ymd_br] at this; exact this)), zp_R27, Option.bind_some, Option.bind_some, zi_32, zp_ldi zp_a286 (show 32 + i < 221 by omega) (by decide), Option.bind_some, hg3, zp_R31, Option.bind_some, zp_ldi zp_a288 i6 (by decide), Option.bind_some, l3 i hi, zs_min, zs_cI, Option.bind_some, show zq_min 99 (V.2.1 i + yld T V i (V.2.1 i) V.2.2.2) = ygl T V i (V.2.1 i) V.2.2.2 from rfl, zp_sti zp_a286 (show 32 + i < 221 by omega) (by decide), Option.bind_some]
          obtain ⟨P4, h4⟩ : ∃ P4, P4 = zp_sA P3 286 (32 + i) (ygl T V i (V.2.1 i) V.2.2.2) := ⟨_, rfl⟩
          have f4 : yF [(269, 32)] yrk P P4 := yF_t f3 (by rw [h4]; exact yF_A (by decide))
          have r4 : yR (P4.2.1 286) (ysg' (ymd T V e i) i (ygl T V i (V.2.1 i) V.2.2.2)) := by rw [h4]; exact yR_gall r3 i6
          have k4 : ∀ j, 40 ≤ j → P4.2.1 286 j = P.2.1 286 j := fun j hj => by rw [h4]; exact (zp_u8 (by omega)).trans (k3 j hj)
          have l4 : P4.2.1 288 = P3.2.1 288 := by rw [h4]; rfl
          have w4 : P4.1 269 32 = P3.1 269 32 := by rw [h4]; rfl
          have hT4 : yTR P4 T := yTR_1 f4 hT
          have g4 : P4.2.1 286 (32 + i) = ygl T V i (V.2.1 i) V.2.2.2 := by rw [h4]; exact zp_u9
          rw [← h4, zp_R27, Option.bind_some, zp_ldi zp_a286 (show 32 + i < 221 by omega) (by decide), Option.bind_some, g4, zp_Rv, Option.bind_some, ylm_R hT4 hi, zs_cI, Option.bind_some]
          by_cases q : ygl T V i (V.2.1 i) V.2.2.2 < ylm T i
          · rw [if_pos q] at hs0
            rw [if_pos q]
            refine ⟨P4, rfl, f4, ?_, ?_, fun p hp => by rw [l4]; exact l3 p hp, k4⟩
            · refine yR_e (ymd_s0 (by rw [hs0])) ?_
              rw [hs0]; exact r4
            · rw [w4, zl_rs, w3]
              unfold yth1
              rw [hs0]; rfl
          · rw [if_neg q] at hs0
            rw [if_neg q, zp_Rv, Option.bind_some]
            have hO4 : yO T.1 (ysg' (ymd T V e i) i (ygl T V i (V.2.1 i) V.2.2.2)) := hO3
            obtain ⟨P5, e5, r5, w5, f5, k5⟩ := zs_RthrowAll (d := d + 4) (n := n) hT4 hp0 r4 hO4 i6
            rw [e5, zs_cV, Option.bind_some]
            refine ⟨P5, rfl, yF_t f4 (yF_m f5 (fun _ h => h) (fun k hk => by simp only [List.mem_cons, List.not_mem_nil, or_false] at hk ⊢; omega)), ?_, ?_, fun p hp => by rw [f5.2.1 288 (by decide), l4]; exact l3 p hp, fun j hj => (k5 j hj).trans (k4 j hj)⟩
            · refine yR_e (ymd_s1 (by rw [hs0])) ?_
              rw [hs0]
              have hE : yE (ysg' (yof (ysg' (ymd T V e i) i (ygl T V i (V.2.1 i) V.2.2.2)) i 8) i ((ysg' (ymd T V e i) i (ygl T V i (V.2.1 i) V.2.2.2)).2.1 i / 2)) (ysg' (yof (ymd T V e i) i 8) i (ygl T V i (V.2.1 i) V.2.2.2 / 2)) := by
                refine ⟨fun _ _ => rfl, fun p hp => ?_, rfl⟩
                show (if p = i then (if i = i then ygl T V i (V.2.1 i) V.2.2.2 else (ymd T V e i).2.1 i) / 2 else if p = i then ygl T V i (V.2.1 i) V.2.2.2 else (ymd T V e i).2.1 p) = (if p = i then ygl T V i (V.2.1 i) V.2.2.2 / 2 else (ymd T V e i).2.1 p)
                by_cases qp : p = i
                · rw [if_pos qp, if_pos qp, if_pos rfl]
                · rw [if_neg qp, if_neg qp, if_neg qp]
              exact yR_e hE r5
            · rw [w5, w4, zl_rs, w3]
              unfold yth1
              rw [hs0]; rfl
    · obtain ⟨f3, r3, w3, l3, k3⟩ := hI
      have hT3 : yTR P3 T := yTR_1 f3 hT
      have h25 : 0 < P3.1 269 25 := by rw [hT3.1]; exact (zi_0 (by omega)).mpr hp0
      have h38 : P3.2.1 286 38 = V.2.2.1 := r3.2.2.1
      have h39 : P3.2.1 286 39 = zi V.2.2.2 := r3.2.2.2
      show ∃ P', zk_sf (d + 9) m_R_live 34 [.ref 269, .int x, .int (zi T.1)] [] (zp_M P3, n) = _ ∧ _
      rw [e_R_live_34, zp_R25, Option.bind_some, hT3.1, if_neg (fun z => absurd ((zi_l (by omega) (by omega)).mp z) (Nat.lt_irrefl _)), zp_R27, Option.bind_some, Option.bind_some, zp_lit (i := 38) (y := 38) zp_a286 rfl (by decide) (by decide), Option.bind_some, h38, zp_Rv, Option.bind_some, zs_RsaddleOnes h25, zs_cI, Option.bind_some, yns_R r3, zs_bitCount, zs_cI, Option.bind_some, zs_min, zs_cI, Option.bind_some, zp_sit (i := 38) (y := 38) zp_a286 rfl (by decide) (by decide), Option.bind_some, zp_R27, Option.bind_some, zp_lit (i := 39) (y := 39) zp_a286 rfl (by decide) (by decide), Option.bind_some, show (zp_sA P3 286 38 (zq_min 999 (V.2.2.1 + zq_bits (yns (ymd T V e T.1))))).2.1 286 39 = zi V.2.2.2 from (zp_u8 (A := P3.2.1) (k := 286) (i := 38) (j := 39) (x := zq_min 999 (V.2.2.1 + zq_bits (yns (ymd T V e T.1)))) (by decide)).trans h39, zi_s, zp_sit (i := 39) (y := 39) zp_a286 rfl (by decide) (by decide), Option.bind_some]
      have e4 : ∀ j, (zp_sA (zp_sA P3 286 38 (zq_min 999 (V.2.2.1 + zq_bits (yns (ymd T V e T.1))))) 286 39 (zi (V.2.2.2 + 1))).2.1 286 j = if j = 39 then zi (V.2.2.2 + 1) else if j = 38 then zq_min 999 (V.2.2.1 + zq_bits (yns (ymd T V e T.1))) else P3.2.1 286 j := fun j => by
        show zp_u (zp_u P3.2.1 286 38 _) 286 39 _ 286 j = _
        by_cases q : j = 39
        · rw [if_pos q, q, zp_u9]
        · rw [if_neg q, zp_u8 q]
          by_cases q2 : j = 38
          · rw [if_pos q2, q2, zp_u9]
          · rw [if_neg q2, zp_u8 q2]
      refine ⟨_, rfl, ⟨fun k hk => ?_, fun p hp => ?_, ?_, ?_⟩, w3, yF_t f3 (yF_t (yF_A (by decide)) (yF_A (by decide))), fun j hj => ?_⟩
      · rw [e4, e4, e4, e4, if_neg (by omega), if_neg (by omega), if_neg (by omega), if_neg (by omega), if_neg (by omega), if_neg (by omega), if_neg (by omega), if_neg (by omega)]
        exact r3.1 k hk
      · rw [e4, if_neg (by omega), if_neg (by omega)]
        exact r3.2.1 p hp
      · rw [e4, if_neg (by decide), if_pos rfl]; rfl
      · rw [e4, if_pos rfl]; rfl
      · rw [e4, if_neg (by omega), if_neg (by omega)]; exact k3 j hj
end
