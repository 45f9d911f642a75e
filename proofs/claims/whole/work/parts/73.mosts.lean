/-! CALLS 6: most -/
def yms (T : yT) (V : yV) (j p : Nat) : Int32 := match j with | 0 => V.2.1 p | 1 => yld T V p (V.2.1 p) V.2.2.2 | 2 => zi (ysc V p) | 3 => T.2.1 p | 4 => T.2.2.1 p | _ => T.2.2.2.1 p
/-- the foremost of the first m + 1 -/
def yfm (T : yT) (V : yV) (j m : Nat) : Nat := (List.range m).foldl (fun a i => if yms T V j a < yms T V j (i + 1) then i + 1 else a) 0
theorem yfm_b {T : yT} {V : yV} {j m : Nat} : yfm T V j m ≤ m := by
  induction m with
  | zero => exact Nat.le_refl _
  | succ m ih =>
    have e : yfm T V j (m + 1) = if yms T V j (yfm T V j m) < yms T V j (m + 1) then m + 1 else yfm T V j m := zl_rs
    rw [e]
    by_cases q : yms T V j (yfm T V j m) < yms T V j (m + 1)
    · rw [if_pos q]; exact Nat.le_refl _
    · rw [if_neg q]; omega
/-- the tightest of the first m places -/
def ytp (T : yT) (V : yV) (k : Nat) : Int32 := match V.1 k with | some (r, q, f) => yp T r q f (V.2.1 q) V.2.2.2 | none => 0
def ytg (T : yT) (V : yV) (m : Nat) : Option Nat := (List.range m).foldl (fun a i => if yth V i = true then (match a with | some k => if ytp T V k < ytp T V i then some i else some k | none => some i) else a) none
theorem ytg_b {T : yT} {V : yV} {m k : Nat} (h : ytg T V m = some k) : k < m ∧ yth V k = true := by
  induction m with
  | zero => cases h
  | succ m ih =>
    have e : ytg T V (m + 1) = if yth V m = true then (match ytg T V m with | some k => if ytp T V k < ytp T V m then some m else some k | none => some m) else ytg T V m := zl_rs
    rw [e] at h
    by_cases q : yth V m = true
    · rw [if_pos q] at h
      cases hg : ytg T V m with
      | none => rw [hg] at h; cases h; exact ⟨Nat.lt_succ_self _, q⟩
      | some k0 =>
        rw [hg] at h
        have h : (if ytp T V k0 < ytp T V m then some m else some k0) = some k := h
        by_cases z : ytp T V k0 < ytp T V m
        · rw [if_pos z] at h; cases h; exact ⟨Nat.lt_succ_self _, q⟩
        · rw [if_neg z] at h
          cases h
          obtain ⟨a1, a2⟩ := ih hg
          exact ⟨by omega, a2⟩
    · rw [if_neg q] at h
      obtain ⟨a1, a2⟩ := ih h
      exact ⟨by omega, a2⟩
theorem yp_nn {T : yT} {r q f k : Nat} {g : Int32} : (-1 : Int32) < yp T r q f g k := by
  unfold yp zq_max
  by_cases z : 0 < zq_min 30 (T.2.2.2.2.2 (T.2.1 r) (T.2.2.1 q) (zi f) (T.2.2.2.1 q) g (zi (k % 100)))
  · rw [if_pos z]; exact Int32.lt_trans (by decide) z
  · rw [if_neg z]; decide
theorem ytp_v {T : yT} {V : yV} {k r q f : Nat} (hv : V.1 k = some (r, q, f)) : ytp T V k = yp T r q f (V.2.1 q) V.2.2.2 := by unfold ytp; rw [hv]
def yfe (V : yV) (m : Nat) : Int32 := (List.range m).foldl (fun a i => bif !ybr V i then a ||| (1 <<< (zi i &&& 31)) else a) 0
def yft_ (V : yV) (m : Nat) : Int32 := (List.range m).foldl (fun a i => bif !ybr V i && decide (0 < ysc V i) then a ||| (1 <<< (zi i &&& 31)) else a) 0
theorem yft_e {np : Nat} {V : yV} (hO : yO np V) (h6 : np ≤ 6) : yfe V np &&& ysp_ V = yft_ V np := by
  refine yb_ext (fun x hx => ?_)
  have e1 : yb_t (yfe V np) x = (decide (x < np) && !ybr V x) := yb_fold (by omega) hx
  have e2 : yb_t (yft_ V np) x = (decide (x < np) && (!ybr V x && decide (0 < ysc V x))) := yb_fold (by omega) hx
  have e3 : yb_t (ysp_ V) x = decide (0 < ysc V x) := by
    rw [Bool.eq_iff_iff, ysp_t hO h6 hx, decide_eq_true_eq, ysc_p]
  rw [yb_and, e1, e2, e3, Bool.and_assoc]
/-- who is in a ring (bits) -/
def yrg_ (V : yV) (m : Nat) : Int32 := (List.range m).foldl (fun a i => bif yb_t (yab V i 6).2 i then a ||| (1 <<< (zi i &&& 31)) else a) 0
/-- do both sit on each other? -/
def ysd (V : yV) (p q : Nat) : Nat := bif (ypl V p q).isSome && (ypl V q p).isSome then 1 else 0
theorem ysd_s {V : yV} {p q : Nat} : ysd V p q = ysd V q p := by unfold ysd; rw [Bool.and_comm]
def ysA (V : yV) (np : Nat) : Nat := (List.range np).foldl (fun a p => (List.range' (p + 1) (np - (p + 1))).foldl (fun a x => a + ysd V p x) a) 0
def ysB (V : yV) (np : Nat) : Nat := (List.range np).foldl (fun a p => (List.range p).foldl (fun a x => a + ysd V p x) a) 0
theorem ysAB {V : yV} {np : Nat} (h6 : np ≤ 6) : ysA V np = ysB V np := by
  have s := @ysd_s V
  have hh : np = 0 ∨ np = 1 ∨ np = 2 ∨ np = 3 ∨ np = 4 ∨ np = 5 ∨ np = 6 := by omega
  rcases hh with rfl | rfl | rfl | rfl | rfl | rfl | rfl
  · rfl
  · rfl
  · show 0 + ysd V 0 1 = 0 + ysd V 1 0
    rw [@s 0 1]
  · show 0 + ysd V 0 1 + ysd V 0 2 + ysd V 1 2 = 0 + ysd V 1 0 + ysd V 2 0 + ysd V 2 1
    rw [@s 0 1, @s 0 2, @s 1 2]
  · show 0 + ysd V 0 1 + ysd V 0 2 + ysd V 0 3 + ysd V 1 2 + ysd V 1 3 + ysd V 2 3 = 0 + ysd V 1 0 + ysd V 2 0 + ysd V 2 1 + ysd V 3 0 + ysd V 3 1 + ysd V 3 2
    rw [@s 0 1, @s 0 2, @s 0 3, @s 1 2, @s 1 3, @s 2 3]; omega
  · show 0 + ysd V 0 1 + ysd V 0 2 + ysd V 0 3 + ysd V 0 4 + ysd V 1 2 + ysd V 1 3 + ysd V 1 4 + ysd V 2 3 + ysd V 2 4 + ysd V 3 4 = 0 + ysd V 1 0 + ysd V 2 0 + ysd V 2 1 + ysd V 3 0 + ysd V 3 1 + ysd V 3 2 + ysd V 4 0 + ysd V 4 1 + ysd V 4 2 + ysd V 4 3
    rw [@s 0 1, @s 0 2, @s 0 3, @s 0 4, @s 1 2, @s 1 3, @s 1 4, @s 2 3, @s 2 4, @s 3 4]; omega
  · show 0 + ysd V 0 1 + ysd V 0 2 + ysd V 0 3 + ysd V 0 4 + ysd V 0 5 + ysd V 1 2 + ysd V 1 3 + ysd V 1 4 + ysd V 1 5 + ysd V 2 3 + ysd V 2 4 + ysd V 2 5 + ysd V 3 4 + ysd V 3 5 + ysd V 4 5 = 0 + ysd V 1 0 + ysd V 2 0 + ysd V 2 1 + ysd V 3 0 + ysd V 3 1 + ysd V 3 2 + ysd V 4 0 + ysd V 4 1 + ysd V 4 2 + ysd V 4 3 + ysd V 5 0 + ysd V 5 1 + ysd V 5 2 + ysd V 5 3 + ysd V 5 4
    rw [@s 0 1, @s 0 2, @s 0 3, @s 0 4, @s 0 5, @s 1 2, @s 1 3, @s 1 4, @s 1 5, @s 2 3, @s 2 4, @s 2 5, @s 3 4, @s 3 5, @s 4 5]; omega
section
variable {P : zp} {n : Nat × Nat} {d nl : Nat} {V : yV} {T : yT} {L : Nat → Nat × Nat × Nat} {c0 : Int32}
theorem zs_measure (hP : yP P n.1 T V nl L c0) {j p : Nat} (hj : j < 6) (hp : p < T.1) : ∃ P', zk_sm (d + 12) m_SaddlerKnows_measure [.ref 12, .int (zi j), .int (zi p)] (zp_M P, n) = some (some (.int (yms T V j p)), (zp_M P', n)) ∧ yF [] [] P P' := by
  have hT := hP.1.1
  have h6 := hT.2.1
  have hC := hP.2.1.1
  have hO := hP.2.1.2.2.1
  have hst : ∀ r (f : Nat → Int32), (∀ p, p < T.1 → P.2.1 r p = f p) → zp_gt P r 6 (zi p) = f p := fun r f hf => (zp_gi (show p < 6 by omega) (by decide)).trans (hf p hp)
  have hj' : j = 0 ∨ j = 1 ∨ j = 2 ∨ j = 3 ∨ j = 4 ∨ j = 5 := by omega
  rcases hj' with rfl | rfl | rfl | rfl | rfl | rfl
  · refine ⟨P, ?_, yF_r⟩
    rw [e_SaddlerKnows_measure, if_pos (by decide), zp_C5, Option.bind_some, zp_s3 zs_35, Option.bind_some, zs_at (zp_sb_t zs_35).2.2.2.2 (by decide), zs_cI, Option.bind_some, yC_g hC (by omega)]
    rfl
  · obtain ⟨P1, e1, f1⟩ := zs_loadNow (d := d + 4) (n := n) zs_35 hT hC hO hp
    refine ⟨P1, ?_, f1⟩
    rw [e_SaddlerKnows_measure, if_neg (by decide), if_pos (by decide), zp_C4, Option.bind_some, zp_C5, Option.bind_some, zp_Lv, Option.bind_some, e1, zs_cI, Option.bind_some]
    rfl
  · refine ⟨P, ?_, yF_r⟩
    rw [e_SaddlerKnows_measure, if_neg (by decide), if_neg (by decide), if_pos (by decide), zp_C5, Option.bind_some, zp_sv zs_35, Option.bind_some, ysc_C zs_35 hC hO h6 (by omega), zs_cI, Option.bind_some]
    rfl
  · refine ⟨P, ?_, yF_r⟩
    rw [e_SaddlerKnows_measure, if_neg (by decide), if_neg (by decide), if_neg (by decide), if_pos (by decide), zp_C3, Option.bind_some, zp_T4, Option.bind_some, zs_at zp_a27 (by decide), zs_cI, Option.bind_some, hst 27 _ (fun p hp => (hT.2.2.1 p hp).1)]
    rfl
  · refine ⟨P, ?_, yF_r⟩
    rw [e_SaddlerKnows_measure, if_neg (by decide), if_neg (by decide), if_neg (by decide), if_neg (by decide), if_pos (by decide), zp_C3, Option.bind_some, zp_T5, Option.bind_some, zs_at zp_a28 (by decide), zs_cI, Option.bind_some, hst 28 _ (fun p hp => (hT.2.2.1 p hp).2.1)]
    rfl
  · refine ⟨P, ?_, yF_r⟩
    rw [e_SaddlerKnows_measure, if_neg (by decide), if_neg (by decide), if_neg (by decide), if_neg (by decide), if_neg (by decide), zp_C3, Option.bind_some, zp_T6, Option.bind_some, zs_at zp_a29 (by decide), zs_cI, Option.bind_some, hst 29 _ (fun p hp => (hT.2.2.1 p hp).2.2)]
    rfl
theorem zs_valueOf (hP : yP P n.1 T V nl L c0) {j p : Nat} (hj : j < 6) (hp : p < T.1) : ∃ P', zk_sm (d + 12) m_R_valueOf [.ref 269, .int (zi p), .int (zi j)] (zp_M P, n) = some (some (.int (yms T V j p)), (zp_M P', n)) ∧ yF [] [278, 279] P P' := by
  have hT := hP.1.2.1
  have h6 := hT.2.1
  have hR := hP.2.1.2.1
  have hO := hP.2.1.2.2.1
  have hj' : j = 0 ∨ j = 1 ∨ j = 2 ∨ j = 3 ∨ j = 4 ∨ j = 5 := by omega
  rcases hj' with rfl | rfl | rfl | rfl | rfl | rfl
  · refine ⟨P, ?_, yF_r⟩
    rw [e_R_valueOf, if_pos (by decide), zp_R27, Option.bind_some, zi_32, zp_ldi zp_a286 (show 32 + p < 221 by omega) (by decide), Option.bind_some, hR.2.1 p (by omega)]
    rfl
  · obtain ⟨P1, e1, f1⟩ := zs_RloadOf (d := d + 3) (n := n) (by omega) hT hR hO hp
    refine ⟨P1, ?_, f1⟩
    rw [e_R_valueOf, if_neg (by decide), if_pos (by decide), zp_Rv, Option.bind_some, e1, zs_cI, Option.bind_some]
    rfl
  · refine ⟨P, ?_, yF_r⟩
    rw [e_R_valueOf, if_neg (by decide), if_neg (by decide), if_pos (by decide), zp_Rv, Option.bind_some, ysc_R hT (by omega) hR hO (by omega), zs_cI, Option.bind_some]
    rfl
  · refine ⟨P, ?_, yF_r⟩
    rw [e_R_valueOf, if_neg (by decide), if_neg (by decide), if_neg (by decide), zp_Rv, Option.bind_some, show zk_sm (d + 11) m_R_ofPerson [.ref 269, .int (zi p), .int (zi 3 - 3)] (zp_M P, n) = _ from zs_RofS hT hp, zs_cI, Option.bind_some]
    rfl
  · refine ⟨P, ?_, yF_r⟩
    rw [e_R_valueOf, if_neg (by decide), if_neg (by decide), if_neg (by decide), zp_Rv, Option.bind_some, show zk_sm (d + 11) m_R_ofPerson [.ref 269, .int (zi p), .int (zi 4 - 3)] (zp_M P, n) = _ from zs_RofB hT hp, zs_cI, Option.bind_some]
    rfl
  · refine ⟨P, ?_, yF_r⟩
    rw [e_R_valueOf, if_neg (by decide), if_neg (by decide), if_neg (by decide), zp_Rv, Option.bind_some, show zk_sm (d + 11) m_R_ofPerson [.ref 269, .int (zi p), .int (zi 5 - 3)] (zp_M P, n) = _ from zs_RofT hT hp, zs_cI, Option.bind_some]
    rfl
theorem zs_foremost (hP : yP P n.1 T V nl L c0) (hp0 : 0 < T.1) {j : Nat} (hj : j < 6) : ∃ P', zk_sm (d + 13) m_SaddlerKnows_foremost [.ref 12, .int (zi j)] (zp_M P, n) = some (some (.int (zi (yfm T V j (T.1 - 1)))), (zp_M P', n)) ∧ yF [] [] P P' := by
  obtain ⟨P1, e1, f1⟩ := zs_measure (d := d) (n := n) (p := 0) hP hj hp0
  rw [e_SaddlerKnows_foremost, zp_Cv, Option.bind_some, show zk_sm (d + 12) m_SaddlerKnows_measure [.ref 12, .int (zi j), .int 0] (zp_M P, n) = _ from e1, zs_cI, Option.bind_some]
  refine zl_ind (m := T.1 - 1) (L := fun i (a : Nat × Value × zp) => zk_sf (d + 13) m_SaddlerKnows_foremost 12 [.ref 12, .int (zi j), .int (zi a.1), .int (yms T V j a.1), .int (zi (i + 1)), a.2.1] [] (zp_M a.2.2, n)) (I := fun i a => yF [] [] P a.2.2 ∧ a.1 = yfm T V j i) (Q := fun r => ∃ P', r = some (some (.int (zi (yfm T V j (T.1 - 1)))), (zp_M P', n)) ∧ yF [] [] P P') (fun i a hi hI => Or.inr ?_) (fun a hI => ?_) (a := (0, .retAddr 0, P1)) ⟨f1, rfl⟩
  · obtain ⟨x, v, P2⟩ := a
    obtain ⟨f2, hx⟩ := hI
    have f2 : yF [] [] P P2 := f2
    have hx : x = yfm T V j i := hx
    have hP2 := yP_F ySc_0 f2 hP
    have h6 := hP2.1.1.2.1
    obtain ⟨P3, e3, f3⟩ := zs_measure (d := d) (n := n) (p := i + 1) hP2 hj (by omega)
    have e : yfm T V j (i + 1) = if yms T V j (yfm T V j i) < yms T V j (i + 1) then i + 1 else yfm T V j i := zl_rs
    show ∃ a', zk_sf (d + 13) m_SaddlerKnows_foremost 12 [.ref 12, .int (zi j), .int (zi x), .int (yms T V j x), .int (zi (i + 1)), v] [] (zp_M P2, n) = _ ∧ _
    rw [e_SaddlerKnows_foremost_12, zp_C3, Option.bind_some, zp_T2, Option.bind_some, hP2.1.1.1, if_pos ((zi_l (by omega) (by omega)).mpr (by omega)), zp_Cv, Option.bind_some, e3, zs_cI, Option.bind_some, zi_s, hx]
    by_cases q : yms T V j (yfm T V j i) < yms T V j (i + 1)
    · rw [if_pos q]
      refine ⟨(i + 1, .int (yms T V j (i + 1)), P3), rfl, yF_t f2 f3, ?_⟩
      rw [e, if_pos q]
    · rw [if_neg q]
      refine ⟨(yfm T V j i, .int (yms T V j (i + 1)), P3), rfl, yF_t f2 f3, ?_⟩
      rw [e, if_neg q]
  · obtain ⟨x, v, P2⟩ := a
    obtain ⟨f2, hx⟩ := hI
    have f2 : yF [] [] P P2 := f2
    have hx : x = yfm T V j (T.1 - 1) := hx
    have hP2 := yP_F ySc_0 f2 hP
    have h6 := hP2.1.1.2.1
    refine ⟨P2, ?_, f2⟩
    show zk_sf (d + 13) m_SaddlerKnows_foremost 12 [.ref 12, .int (zi j), .int (zi x), .int (yms T V j x), .int (zi (T.1 - 1 + 1)), v] [] (zp_M P2, n) = _
    rw [e_SaddlerKnows_foremost_12, zp_C3, Option.bind_some, zp_T2, Option.bind_some, hP2.1.1.1, if_neg (fun z => absurd ((zi_l (by omega) (by omega)).mp z) (by omega)), hx]
theorem zs_topBy (hP : yP P n.1 T V nl L c0) (hp0 : 0 < T.1) {j : Nat} (hj : j < 6) : ∃ P', zk_sm (d + 13) m_R_topBy [.ref 269, .int (zi j)] (zp_M P, n) = some (some (.int (zi (yfm T V j (T.1 - 1)))), (zp_M P', n)) ∧ yF [] [278, 279] P P' := by
  rw [e_R_topBy]
  refine zl_ind (m := T.1 - 1) (L := fun i (a : Nat × zp) => zk_sf (d + 13) m_R_topBy 4 [.ref 269, .int (zi j), .int (zi a.1), .int (zi (i + 1))] [] (zp_M a.2, n)) (I := fun i a => yF [] [278, 279] P a.2 ∧ a.1 = yfm T V j i) (Q := fun r => ∃ P', r = some (some (.int (zi (yfm T V j (T.1 - 1)))), (zp_M P', n)) ∧ yF [] [278, 279] P P') (fun i a hi hI => Or.inr ?_) (fun a hI => ?_) (a := (0, P)) ⟨yF_r, rfl⟩
  · obtain ⟨x, P2⟩ := a
    obtain ⟨f2, hx⟩ := hI
    have f2 : yF [] [278, 279] P P2 := f2
    have hx : x = yfm T V j i := hx
    have hP2 := yP_F ySc_r f2 hP
    have h6 := hP2.1.1.2.1
    have hb := @yfm_b T V j i
    obtain ⟨P3, e3, f3⟩ := zs_valueOf (d := d) (n := n) (p := i + 1) hP2 hj (by omega)
    have hP3 := yP_F ySc_r f3 hP2
    obtain ⟨P4, e4, f4⟩ := zs_valueOf (d := d) (n := n) (p := yfm T V j i) hP3 hj (by omega)
    have e : yfm T V j (i + 1) = if yms T V j (yfm T V j i) < yms T V j (i + 1) then i + 1 else yfm T V j i := zl_rs
    show ∃ a', zk_sf (d + 13) m_R_topBy 4 [.ref 269, .int (zi j), .int (zi x), .int (zi (i + 1))] [] (zp_M P2, n) = _ ∧ _
    rw [e_R_topBy_4, zp_R25, Option.bind_some, hP2.1.2.1.1, if_pos ((zi_l (by omega) (by omega)).mpr (by omega)), zp_Rv, Option.bind_some, e3, zs_cI, Option.bind_some, zp_Rv, Option.bind_some, hx, e4, zs_cI, Option.bind_some, zi_s]
    by_cases q : yms T V j (yfm T V j i) < yms T V j (i + 1)
    · rw [if_pos q]
      refine ⟨(i + 1, P4), rfl, yF_t f2 (yF_t f3 f4), ?_⟩
      rw [e, if_pos q]
    · rw [if_neg q]
      refine ⟨(yfm T V j i, P4), rfl, yF_t f2 (yF_t f3 f4), ?_⟩
      rw [e, if_neg q]
  · obtain ⟨x, P2⟩ := a
    obtain ⟨f2, hx⟩ := hI
    have f2 : yF [] [278, 279] P P2 := f2
    have hx : x = yfm T V j (T.1 - 1) := hx
    have hP2 := yP_F ySc_r f2 hP
    have h6 := hP2.1.1.2.1
    refine ⟨P2, ?_, f2⟩
    show zk_sf (d + 13) m_R_topBy 4 [.ref 269, .int (zi j), .int (zi x), .int (zi (T.1 - 1 + 1))] [] (zp_M P2, n) = _
    rw [e_R_topBy_4, zp_R25, Option.bind_some, hP2.1.2.1.1, if_neg (fun z => absurd ((zi_l (by omega) (by omega)).mp z) (by omega)), hx]
def ytv (T : yT) (V : yV) (o : Option Nat) : Int32 := match o with | some k => ytp T V k | none => -1
theorem yth_o {V : yV} {k : Nat} (h : yth V k = true) : ∃ r q f, V.1 k = some (r, q, f) := by
  obtain ⟨⟨r, q, f⟩, hv⟩ := Option.isSome_iff_exists.mp h
  exact ⟨r, q, f, hv⟩
theorem zs_tightest (hP : yP P n.1 T V nl L c0) : ∃ P', zk_sm (d + 13) m_SaddlerKnows_tightest [.ref 12] (zp_M P, n) = some (some (.int (yfi (ytg T V 8))), (zp_M P', n)) ∧ yF [] [] P P' := by
  rw [e_SaddlerKnows_tightest]
  refine zl_ind (m := 8) (L := fun i (a : Option Nat × zp) => zk_sf (d + 13) m_SaddlerKnows_tightest 6 [.ref 12, .int (yfi a.1), .int (ytv T V a.1), .int (zi i)] [] (zp_M a.2, n)) (I := fun i a => yF [] [] P a.2 ∧ a.1 = ytg T V i) (Q := fun r => ∃ P', r = some (some (.int (yfi (ytg T V 8))), (zp_M P', n)) ∧ yF [] [] P P') (fun i a hi hI => Or.inr ?_) (fun a hI => ?_) (a := (none, P)) ⟨yF_r, rfl⟩
  · obtain ⟨x, P2⟩ := a
    obtain ⟨f2, hx⟩ := hI
    have f2 : yF [] [] P P2 := f2
    have hx : x = ytg T V i := hx
    subst hx
    have hP2 := yP_F ySc_0 f2 hP
    have hC := hP2.2.1.1
    have hO := hP2.2.1.2.2.1
    have h6 := hP2.1.1.2.1
    have e : ytg T V (i + 1) = if yth V i = true then (match ytg T V i with | some k => if ytp T V k < ytp T V i then some i else some k | none => some i) else ytg T V i := zl_rs
    show ∃ a', zk_sf (d + 13) m_SaddlerKnows_tightest 6 [.ref 12, .int (yfi (ytg T V i)), .int (ytv T V (ytg T V i)), .int (zi i)] [] (zp_M P2, n) = _ ∧ _
    rw [e_SaddlerKnows_tightest_6, if_pos (zi_8 hi), zp_C5, Option.bind_some, zp_sv zs_35, Option.bind_some, yg_sad zs_35 hC hO h6, yis_k hi, zs_cI, Option.bind_some, zp_ib, zi_s]
    cases hh : yth V i with
    | false =>
      refine ⟨(ytg T V i, P2), rfl, f2, ?_⟩
      rw [e, hh, if_neg (by decide)]
    | true =>
      obtain ⟨r, q, f, hv⟩ := yth_o hh
      obtain ⟨P3, e3, f3⟩ := zs_inPlace (d := d + 5) (n := n) zs_35 hP2.1.1 hC hO hi hv
      have hP3 := yP_F ySc_0 f3 hP2
      obtain ⟨P4, e4, f4⟩ := zs_inPlace (d := d + 5) (n := n) zs_35 hP3.1.1 hP3.2.1.1 hO hi hv
      rw [← ytp_v hv] at e3 e4
      rw [cond_true, zp_C4, Option.bind_some, zp_C5, Option.bind_some, zp_Lv, Option.bind_some, e3, zs_cI, Option.bind_some]
      have fin : (ytv T V (ytg T V i) < ytp T V i → ytg T V (i + 1) = some i) ∧ (¬ ytv T V (ytg T V i) < ytp T V i → ytg T V (i + 1) = ytg T V i) := by
        rw [e, hh, if_pos rfl]
        cases hg : ytg T V i with
        | none => exact ⟨fun _ => rfl, fun z => absurd (show (-1 : Int32) < ytp T V i by rw [ytp_v hv]; exact yp_nn) z⟩
        | some k => exact ⟨fun z => if_pos z, fun z => if_neg z⟩
      by_cases z : ytv T V (ytg T V i) < ytp T V i
      · rw [if_pos z, zp_C4, Option.bind_some, zp_C5, Option.bind_some, zp_Lv, Option.bind_some, e4, zs_cI, Option.bind_some]
        exact ⟨(some i, P4), rfl, yF_t f2 (yF_t f3 f4), (fin.1 z).symm⟩
      · rw [if_neg z]
        exact ⟨(ytg T V i, P3), rfl, yF_t f2 f3, (fin.2 z).symm⟩
  · obtain ⟨x, P2⟩ := a
    obtain ⟨f2, hx⟩ := hI
    have hx : x = ytg T V 8 := hx
    refine ⟨P2, ?_, f2⟩
    show zk_sf (d + 13) m_SaddlerKnows_tightest 6 [.ref 12, .int (yfi x), .int (ytv T V x), .int (zi 8)] [] (zp_M P2, n) = _
    rw [e_SaddlerKnows_tightest_6, if_neg zi_8n, hx]
theorem zs_Rtightest (hP : yP P n.1 T V nl L c0) : ∃ P', zk_sm (d + 13) m_R_tightest [.ref 269] (zp_M P, n) = some (some (.int (yfi (ytg T V 8))), (zp_M P', n)) ∧ yF [] [278, 279] P P' := by
  rw [e_R_tightest]
  refine zl_ind (m := 8) (L := fun i (a : Option Nat × zp) => zk_sf (d + 13) m_R_tightest 4 [.ref 269, .int (yfi a.1), .int (zi i)] [] (zp_M a.2, n)) (I := fun i a => yF [] [278, 279] P a.2 ∧ a.1 = ytg T V i) (Q := fun r => ∃ P', r = some (some (.int (yfi (ytg T V 8))), (zp_M P', n)) ∧ yF [] [278, 279] P P') (fun i a hi hI => Or.inr ?_) (fun a hI => ?_) (a := (none, P)) ⟨yF_r, rfl⟩
  · obtain ⟨x, P2⟩ := a
    obtain ⟨f2, hx⟩ := hI
    have f2 : yF [] [278, 279] P P2 := f2
    have hx : x = ytg T V i := hx
    subst hx
    have hP2 := yP_F ySc_r f2 hP
    have hR := hP2.2.1.2.1
    have hO := hP2.2.1.2.2.1
    have h6 := hP2.1.1.2.1
    have e : ytg T V (i + 1) = if yth V i = true then (match ytg T V i with | some k => if ytp T V k < ytp T V i then some i else some k | none => some i) else ytg T V i := zl_rs
    show ∃ a', zk_sf (d + 13) m_R_tightest 4 [.ref 269, .int (yfi (ytg T V i)), .int (zi i)] [] (zp_M P2, n) = _ ∧ _
    rw [e_R_tightest_4, if_pos (zi_8 hi), zp_Rv, Option.bind_some, yg_Rthere hP2.1.2.1 hR hO, yis_k hi, zs_cI, Option.bind_some, zp_ib, zi_s]
    cases hh : yth V i with
    | false =>
      refine ⟨(ytg T V i, P2), rfl, f2, ?_⟩
      rw [e, hh, if_neg (by decide)]
    | true =>
      obtain ⟨r, q, f, hv⟩ := yth_o hh
      rw [cond_true]
      cases hg : ytg T V i with
      | none =>
        refine ⟨(some i, P2), ?_, f2, ?_⟩
        · rw [if_pos (show yfi none = -1 from rfl)]; rfl
        · rw [e, hh, if_pos rfl, hg]
      | some k =>
        obtain ⟨k1, k2⟩ := ytg_b hg
        obtain ⟨r', q', f', hv'⟩ := yth_o k2
        obtain ⟨P3, e3, f3⟩ := zs_RpinchOf (d := d + 5) (n := n) hP2.1.2.1 hR hO hi hv
        have hP3 := yP_F ySc_r f3 hP2
        obtain ⟨P4, e4, f4⟩ := zs_RpinchOf (d := d + 5) (n := n) hP3.1.2.1 hP3.2.1.2.1 hO (show k < 8 by omega) hv'
        rw [← ytp_v hv] at e3
        rw [← ytp_v hv'] at e4
        rw [if_neg (show ¬ yfi (some k) = -1 from zi_n1 (by omega)), zp_Rv, Option.bind_some, e3, zs_cI, Option.bind_some, zp_Rv, Option.bind_some, show zk_sm (d + 12) m_R_pinchOf [.ref 269, .int (yfi (some k))] (zp_M P3, n) = _ from e4, zs_cI, Option.bind_some]
        by_cases z : ytp T V k < ytp T V i
        · rw [if_pos z]
          refine ⟨(some i, P4), rfl, yF_t f2 (yF_t f3 f4), ?_⟩
          rw [e, hh, if_pos rfl, hg]; exact (if_pos z).symm
        · rw [if_neg z]
          refine ⟨(some k, P4), rfl, yF_t f2 (yF_t f3 f4), ?_⟩
          rw [e, hh, if_pos rfl, hg]; exact (if_neg z).symm
  · obtain ⟨x, P2⟩ := a
    obtain ⟨f2, hx⟩ := hI
    have hx : x = ytg T V 8 := hx
    refine ⟨P2, ?_, f2⟩
    show zk_sf (d + 13) m_R_tightest 4 [.ref 269, .int (yfi x), .int (zi 8)] [] (zp_M P2, n) = _
    rw [e_R_tightest_4, if_neg zi_8n, hx]
end
