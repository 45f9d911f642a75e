/-! LOOP 1: the law's calls -/
/-- a call of the law: on to the next one, in a state where both sides stand beside each other -/
def yLk (L : Nat) (xs : Nat → Int32) (d pc i : Nat) (P : zp) (n : Nat × Nat) : Prop := ∀ v5 v6 : Value, ∃ (P2 : zp) (n1 : Nat × Nat) (v5' v6' : Value), zk_sf (d + 91) m_Law_law pc [.ref 0, .ref 12, .ref 269, .ref 299, .int (zi i), v5, v6] [] (zp_M P, n) = zk_sf (d + 91) m_Law_law 1561 [.ref 0, .ref 12, .ref 269, .ref 299, .int (zi i), v5', v6'] [] (zp_M P2, n1) ∧ yI P2 n1.1 ∧ zk_kE L xs (zp_M P2, n1) ∧ n1.1 ≤ n.1 + 3 ∧ n1.2 ≤ n.2 + 1000
section
variable {P : zp} {n : Nat × Nat} {L d i : Nat} {xs : Nat → Int32}
theorem zs_scr {j : Nat} {c : Int32} (hE : zk_kE L xs (zp_M P, n)) (hc : zi i + c = zi j) (hj : j < L) (hL : L ≤ 3072) : zk_ldI (zp_M P, n) 0 (zi i + c) = some (xs j) := by
  have e : zp_M P 0 = zk_ia 5 L xs := hE.2 0 (by decide)
  unfold zk_ldI
  show (match zp_M P 0 with | .inr (.inl (t, n, f)) => if (t = 0 ∨ t = 5) ∧ ¬ (zi i + c < 0 ∨ n ≤ (zi i + c).toNatClampNeg) then some (f (zi i + c).toNatClampNeg) else none | _ => none) = _
  rw [e]
  show (if (5 = 0 ∨ 5 = 5) ∧ ¬ (zi i + c < 0 ∨ L ≤ (zi i + c).toNatClampNeg) then some (xs (zi i + c).toNatClampNeg) else none) = _
  rw [hc, zi_c (by omega), if_pos ⟨Or.inr rfl, fun z => z.elim (zi_n (by omega)) (fun z => by omega)⟩]
theorem zi_i1 : zi i + 1 = zi (i + 1) := zi_add i 1
theorem zi_i2 : zi i + 2 = zi (i + 2) := zi_add i 2
theorem zi_i3 : zi i + 3 = zi (i + 3) := zi_add i 3
theorem zi_i4 : zi i + 4 = zi (i + 4) := zi_add i 4
theorem zi_i5 : zi i + 5 = zi (i + 5) := zi_add i 5
theorem yL_feed (hL : L ≤ 3072) (hI : yI P n.1) (hE : zk_kE L xs (zp_M P, n)) (hi : i + 6 ≤ L) : yLk L xs d 208 i P n := by
  intro v5 v6
  have h : yOK (d + 90) P n m_SaddlerKnows_feed m_R_feed [.int (xs (i + 1)), .int (xs (i + 2)), .int (xs (i + 3)), .int (xs (i + 4)), .int (xs (i + 5))] := yc_feed (d := d + 70) hI
  obtain ⟨v, P1, P2, n1, e1, e2, hI2, b1, b2⟩ := h
  have hE1 := zk_sm_k e1 hE
  refine ⟨P2, n1, v5, v6, ?_, hI2, zk_sm_k e2 hE1, b1, b2⟩
  rw [e_Law_law_208, zs_scr hE zi_i1 (show i + 1 < L by omega) hL, Option.bind_some, zs_scr hE zi_i2 (show i + 2 < L by omega) hL, Option.bind_some, zs_scr hE zi_i3 (show i + 3 < L by omega) hL, Option.bind_some, zs_scr hE zi_i4 (show i + 4 < L by omega) hL, Option.bind_some, zs_scr hE zi_i5 (show i + 5 < L by omega) hL, Option.bind_some, zz_Cv, Option.bind_some, e1, zs_cI, Option.bind_some, zs_scr hE1 zi_i1 (show i + 1 < L by omega) hL, Option.bind_some, zs_scr hE1 zi_i2 (show i + 2 < L by omega) hL, Option.bind_some, zs_scr hE1 zi_i3 (show i + 3 < L by omega) hL, Option.bind_some, zs_scr hE1 zi_i4 (show i + 4 < L by omega) hL, Option.bind_some, zs_scr hE1 zi_i5 (show i + 5 < L by omega) hL, Option.bind_some, zp_Rv, Option.bind_some, e2, zs_cI, Option.bind_some, if_pos rfl]
theorem yL_end (hL : L ≤ 3072) (hI : yI P n.1) (hE : zk_kE L xs (zp_M P, n)) (hi : i + 6 ≤ L) : yLk L xs d 281 i P n := by
  intro v5 v6
  have h : yOK (d + 90) P n m_SaddlerKnows_end m_R_end [.int (xs (i + 1))] := yc_end (d := d + 70) hI
  obtain ⟨v, P1, P2, n1, e1, e2, hI2, b1, b2⟩ := h
  have hE1 := zk_sm_k e1 hE
  refine ⟨P2, n1, v5, v6, ?_, hI2, zk_sm_k e2 hE1, b1, b2⟩
  rw [e_Law_law_281, zs_scr hE zi_i1 (show i + 1 < L by omega) hL, Option.bind_some, zz_Cv, Option.bind_some, e1, zs_cI, Option.bind_some, zs_scr hE1 zi_i1 (show i + 1 < L by omega) hL, Option.bind_some, zp_Rv, Option.bind_some, e2, zs_cI, Option.bind_some, if_pos rfl]
theorem yL_fault (hL : L ≤ 3072) (hI : yI P n.1) (hE : zk_kE L xs (zp_M P, n)) (hi : i + 6 ≤ L) : yLk L xs d 306 i P n := by
  intro v5 v6
  have h : yOK (d + 90) P n m_SaddlerKnows_fault m_R_fault [.int (xs (i + 1))] := yc_fault (d := d) (xs (i + 1)) hI hE
  obtain ⟨v, P1, P2, n1, e1, e2, hI2, b1, b2⟩ := h
  have hE1 := zk_sm_k e1 hE
  refine ⟨P2, n1, v5, v6, ?_, hI2, zk_sm_k e2 hE1, b1, b2⟩
  rw [e_Law_law_306, zs_scr hE zi_i1 (show i + 1 < L by omega) hL, Option.bind_some, zz_Cv, Option.bind_some, e1, zs_cI, Option.bind_some, zs_scr hE1 zi_i1 (show i + 1 < L by omega) hL, Option.bind_some, zp_Rv, Option.bind_some, e2, zs_cI, Option.bind_some, if_pos rfl]
theorem yL_text (hL : L ≤ 3072) (hI : yI P n.1) (hE : zk_kE L xs (zp_M P, n)) (hi : i + 6 ≤ L) : yLk L xs d 331 i P n := by
  intro v5 v6
  have h : yOK (d + 90) P n m_SaddlerKnows_text m_R_text [.int (xs (i + 1))] := yc_text (d := d) (xs (i + 1)) hI hE
  obtain ⟨v, P1, P2, n1, e1, e2, hI2, b1, b2⟩ := h
  have hE1 := zk_sm_k e1 hE
  refine ⟨P2, n1, v5, v6, ?_, hI2, zk_sm_k e2 hE1, b1, b2⟩
  rw [e_Law_law_331, zs_scr hE zi_i1 (show i + 1 < L by omega) hL, Option.bind_some, zz_Cv, Option.bind_some, e1, zs_cI, Option.bind_some, zs_scr hE1 zi_i1 (show i + 1 < L by omega) hL, Option.bind_some, zp_Rv, Option.bind_some, e2, zs_cI, Option.bind_some, if_pos rfl]
theorem yL_rule (hL : L ≤ 3072) (hI : yI P n.1) (hE : zk_kE L xs (zp_M P, n)) (hi : i + 6 ≤ L) : yLk L xs d 356 i P n := by
  intro v5 v6
  have h : yOK (d + 90) P n m_SaddlerKnows_rule m_R_rule [.int (xs (i + 1))] := yc_rule (d := d + 70) hI
  obtain ⟨v, P1, P2, n1, e1, e2, hI2, b1, b2⟩ := h
  have hE1 := zk_sm_k e1 hE
  refine ⟨P2, n1, v5, v6, ?_, hI2, zk_sm_k e2 hE1, b1, b2⟩
  rw [e_Law_law_356, zs_scr hE zi_i1 (show i + 1 < L by omega) hL, Option.bind_some, zz_Cv, Option.bind_some, e1, zs_cI, Option.bind_some, zs_scr hE1 zi_i1 (show i + 1 < L by omega) hL, Option.bind_some, zp_Rv, Option.bind_some, e2, zs_cI, Option.bind_some, if_pos rfl]
theorem yL_saddle (hL : L ≤ 3072) (hI : yI P n.1) (hE : zk_kE L xs (zp_M P, n)) (hi : i + 6 ≤ L) : yLk L xs d 449 i P n := by
  intro v5 v6
  have h : yOK (d + 90) P n m_SaddlerKnows_saddle m_R_saddle [.int (xs (i + 1)), .int (xs (i + 2))] := yc_saddle (d := d + 70) hI
  obtain ⟨v, P1, P2, n1, e1, e2, hI2, b1, b2⟩ := h
  have hE1 := zk_sm_k e1 hE
  refine ⟨P2, n1, v5, v6, ?_, hI2, zk_sm_k e2 hE1, b1, b2⟩
  rw [e_Law_law_449, zs_scr hE zi_i1 (show i + 1 < L by omega) hL, Option.bind_some, zs_scr hE zi_i2 (show i + 2 < L by omega) hL, Option.bind_some, zz_Cv, Option.bind_some, e1, zs_cI, Option.bind_some, zs_scr hE1 zi_i1 (show i + 1 < L by omega) hL, Option.bind_some, zs_scr hE1 zi_i2 (show i + 2 < L by omega) hL, Option.bind_some, zp_Rv, Option.bind_some, e2, zs_cI, Option.bind_some, if_pos rfl]
theorem yL_law (hL : L ≤ 3072) (hI : yI P n.1) (hE : zk_kE L xs (zp_M P, n)) (hi : i + 6 ≤ L) : yLk L xs d 486 i P n := by
  intro v5 v6
  have h : yOK (d + 90) P n m_SaddlerKnows_law m_R_law [.int (xs (i + 1))] := yc_law (d := d + 70) hI
  obtain ⟨v, P1, P2, n1, e1, e2, hI2, b1, b2⟩ := h
  have hE1 := zk_sm_k e1 hE
  refine ⟨P2, n1, v5, v6, ?_, hI2, zk_sm_k e2 hE1, b1, b2⟩
  rw [e_Law_law_486, zs_scr hE zi_i1 (show i + 1 < L by omega) hL, Option.bind_some, zz_Cv, Option.bind_some, e1, zs_cI, Option.bind_some, zs_scr hE1 zi_i1 (show i + 1 < L by omega) hL, Option.bind_some, zp_Rv, Option.bind_some, e2, zs_cI, Option.bind_some, if_pos rfl]
theorem yL_weeks (hL : L ≤ 3072) (hI : yI P n.1) (hE : zk_kE L xs (zp_M P, n)) (hi : i + 6 ≤ L) : yLk L xs d 511 i P n := by
  intro v5 v6
  have h : yOK (d + 90) P n m_SaddlerKnows_weeks m_R_weeks [.int (xs (i + 1))] := yc_weeks (d := d + 70) hI
  obtain ⟨v, P1, P2, n1, e1, e2, hI2, b1, b2⟩ := h
  have hE1 := zk_sm_k e1 hE
  refine ⟨P2, n1, v5, v6, ?_, hI2, zk_sm_k e2 hE1, b1, b2⟩
  rw [e_Law_law_511, zs_scr hE zi_i1 (show i + 1 < L by omega) hL, Option.bind_some, zz_Cv, Option.bind_some, e1, zs_cI, Option.bind_some, zs_scr hE1 zi_i1 (show i + 1 < L by omega) hL, Option.bind_some, zp_Rv, Option.bind_some, e2, zs_cI, Option.bind_some, if_pos rfl]
theorem yL_makes (hL : L ≤ 3072) (hI : yI P n.1) (hE : zk_kE L xs (zp_M P, n)) (hi : i + 6 ≤ L) : yLk L xs d 536 i P n := by
  intro v5 v6
  have h : yOK (d + 90) P n m_SaddlerKnows_makes m_R_makes [.int (xs (i + 1)), .int (xs (i + 2)), .int (xs (i + 3))] := yc_makes (d := d + 70) hI
  obtain ⟨v, P1, P2, n1, e1, e2, hI2, b1, b2⟩ := h
  have hE1 := zk_sm_k e1 hE
  refine ⟨P2, n1, v5, v6, ?_, hI2, zk_sm_k e2 hE1, b1, b2⟩
  rw [e_Law_law_536, zs_scr hE zi_i1 (show i + 1 < L by omega) hL, Option.bind_some, zs_scr hE zi_i2 (show i + 2 < L by omega) hL, Option.bind_some, zs_scr hE zi_i3 (show i + 3 < L by omega) hL, Option.bind_some, zz_Cv, Option.bind_some, e1, zs_cI, Option.bind_some, zs_scr hE1 zi_i1 (show i + 1 < L by omega) hL, Option.bind_some, zs_scr hE1 zi_i2 (show i + 2 < L by omega) hL, Option.bind_some, zs_scr hE1 zi_i3 (show i + 3 < L by omega) hL, Option.bind_some, zp_Rv, Option.bind_some, e2, zs_cI, Option.bind_some, if_pos rfl]
theorem yL_stitch (hL : L ≤ 3072) (hI : yI P n.1) (hE : zk_kE L xs (zp_M P, n)) (hi : i + 6 ≤ L) : yLk L xs d 585 i P n := by
  intro v5 v6
  have h : yOK (d + 90) P n m_SaddlerKnows_stitch m_R_stitch [.int (xs (i + 1)), .int (xs (i + 2))] := yc_stitch (d := d + 70) hI
  obtain ⟨v, P1, P2, n1, e1, e2, hI2, b1, b2⟩ := h
  have hE1 := zk_sm_k e1 hE
  refine ⟨P2, n1, v5, v6, ?_, hI2, zk_sm_k e2 hE1, b1, b2⟩
  rw [e_Law_law_585, zs_scr hE zi_i1 (show i + 1 < L by omega) hL, Option.bind_some, zs_scr hE zi_i2 (show i + 2 < L by omega) hL, Option.bind_some, zz_Cv, Option.bind_some, e1, zs_cI, Option.bind_some, zs_scr hE1 zi_i1 (show i + 1 < L by omega) hL, Option.bind_some, zs_scr hE1 zi_i2 (show i + 2 < L by omega) hL, Option.bind_some, zp_Rv, Option.bind_some, e2, zs_cI, Option.bind_some, if_pos rfl]
theorem yL_off (hL : L ≤ 3072) (hI : yI P n.1) (hE : zk_kE L xs (zp_M P, n)) (hi : i + 6 ≤ L) : yLk L xs d 622 i P n := by
  intro v5 v6
  have h : yOK (d + 90) P n m_SaddlerKnows_off m_R_off [.int (xs (i + 1))] := yc_off (d := d + 70) hI
  obtain ⟨v, P1, P2, n1, e1, e2, hI2, b1, b2⟩ := h
  have hE1 := zk_sm_k e1 hE
  refine ⟨P2, n1, v5, v6, ?_, hI2, zk_sm_k e2 hE1, b1, b2⟩
  rw [e_Law_law_622, zs_scr hE zi_i1 (show i + 1 < L by omega) hL, Option.bind_some, zz_Cv, Option.bind_some, e1, zs_cI, Option.bind_some, zs_scr hE1 zi_i1 (show i + 1 < L by omega) hL, Option.bind_some, zp_Rv, Option.bind_some, e2, zs_cI, Option.bind_some, if_pos rfl]
theorem yL_salve (hL : L ≤ 3072) (hI : yI P n.1) (hE : zk_kE L xs (zp_M P, n)) (hi : i + 6 ≤ L) : yLk L xs d 647 i P n := by
  intro v5 v6
  have h : yOK (d + 90) P n m_SaddlerKnows_salve m_R_salve [.int (xs (i + 1))] := yc_salve (d := d + 70) hI
  obtain ⟨v, P1, P2, n1, e1, e2, hI2, b1, b2⟩ := h
  have hE1 := zk_sm_k e1 hE
  refine ⟨P2, n1, v5, v6, ?_, hI2, zk_sm_k e2 hE1, b1, b2⟩
  rw [e_Law_law_647, zs_scr hE zi_i1 (show i + 1 < L by omega) hL, Option.bind_some, zz_Cv, Option.bind_some, e1, zs_cI, Option.bind_some, zs_scr hE1 zi_i1 (show i + 1 < L by omega) hL, Option.bind_some, zp_Rv, Option.bind_some, e2, zs_cI, Option.bind_some, if_pos rfl]
theorem yL_give (hL : L ≤ 3072) (hI : yI P n.1) (hE : zk_kE L xs (zp_M P, n)) (hi : i + 6 ≤ L) : yLk L xs d 672 i P n := by
  intro v5 v6
  have h : yOK (d + 90) P n m_SaddlerKnows_give m_R_give [.int (xs (i + 1))] := yc_give (d := d + 70) hI
  obtain ⟨v, P1, P2, n1, e1, e2, hI2, b1, b2⟩ := h
  have hE1 := zk_sm_k e1 hE
  refine ⟨P2, n1, v5, v6, ?_, hI2, zk_sm_k e2 hE1, b1, b2⟩
  rw [e_Law_law_672, zs_scr hE zi_i1 (show i + 1 < L by omega) hL, Option.bind_some, zz_Cv, Option.bind_some, e1, zs_cI, Option.bind_some, zs_scr hE1 zi_i1 (show i + 1 < L by omega) hL, Option.bind_some, zp_Rv, Option.bind_some, e2, zs_cI, Option.bind_some, if_pos rfl]
theorem yL_rest (hL : L ≤ 3072) (hI : yI P n.1) (hE : zk_kE L xs (zp_M P, n)) (hi : i + 6 ≤ L) : yLk L xs d 697 i P n := by
  intro v5 v6
  have h : yOK (d + 90) P n m_SaddlerKnows_rest m_R_rest [.int (xs (i + 1))] := yc_rest (d := d + 70) hI
  obtain ⟨v, P1, P2, n1, e1, e2, hI2, b1, b2⟩ := h
  have hE1 := zk_sm_k e1 hE
  refine ⟨P2, n1, v5, v6, ?_, hI2, zk_sm_k e2 hE1, b1, b2⟩
  rw [e_Law_law_697, zs_scr hE zi_i1 (show i + 1 < L by omega) hL, Option.bind_some, zz_Cv, Option.bind_some, e1, zs_cI, Option.bind_some, zs_scr hE1 zi_i1 (show i + 1 < L by omega) hL, Option.bind_some, zp_Rv, Option.bind_some, e2, zs_cI, Option.bind_some, if_pos rfl]
theorem yL_years (hL : L ≤ 3072) (hI : yI P n.1) (hE : zk_kE L xs (zp_M P, n)) (hi : i + 6 ≤ L) : yLk L xs d 722 i P n := by
  intro v5 v6
  have h : yOK (d + 90) P n m_SaddlerKnows_years m_R_years [.int (xs (i + 1)), .long (((Int32.toInt64 (xs (i + 2))) <<< (Int32.toInt64 32 &&& 63)) ||| ((Int32.toInt64 (xs (i + 3))) &&& 4294967295))] := yc_years (d := d + 70) hI
  obtain ⟨v, P1, P2, n1, e1, e2, hI2, b1, b2⟩ := h
  have hE1 := zk_sm_k e1 hE
  refine ⟨P2, n1, v5, v6, ?_, hI2, zk_sm_k e2 hE1, b1, b2⟩
  rw [e_Law_law_722, zs_scr hE zi_i1 (show i + 1 < L by omega) hL, Option.bind_some, zs_scr hE zi_i2 (show i + 2 < L by omega) hL, Option.bind_some, zs_scr hE zi_i3 (show i + 3 < L by omega) hL, Option.bind_some, zz_Cv, Option.bind_some, e1, zs_cI, Option.bind_some, zs_scr hE1 zi_i1 (show i + 1 < L by omega) hL, Option.bind_some, zs_scr hE1 zi_i2 (show i + 2 < L by omega) hL, Option.bind_some, zs_scr hE1 zi_i3 (show i + 3 < L by omega) hL, Option.bind_some, zp_Rv, Option.bind_some, e2, zs_cI, Option.bind_some, if_pos rfl]
theorem yL_status (hL : L ≤ 3072) (hI : yI P n.1) (hE : zk_kE L xs (zp_M P, n)) (hi : i + 6 ≤ L) : yLk L xs d 791 i P n := by
  intro v5 v6
  have h : yOK (d + 90) P n m_SaddlerKnows_status m_R_status [.int (xs (i + 1))] := yc_status (d := d + 70) hI
  obtain ⟨v, P1, P2, n1, e1, e2, hI2, b1, b2⟩ := h
  have hE1 := zk_sm_k e1 hE
  refine ⟨P2, n1, v5, v6, ?_, hI2, zk_sm_k e2 hE1, b1, b2⟩
  rw [e_Law_law_791, zs_scr hE zi_i1 (show i + 1 < L by omega) hL, Option.bind_some, zz_Cv, Option.bind_some, e1, zs_cI, Option.bind_some, zs_scr hE1 zi_i1 (show i + 1 < L by omega) hL, Option.bind_some, zp_Rv, Option.bind_some, e2, zs_cI, Option.bind_some, if_pos rfl]
theorem yL_undo (hL : L ≤ 3072) (hI : yI P n.1) (hE : zk_kE L xs (zp_M P, n)) (hi : i + 6 ≤ L) : yLk L xs d 816 i P n := by
  intro v5 v6
  have h : yOK (d + 90) P n m_SaddlerKnows_undo m_R_undo [] := yc_undo (d := d + 70) hI
  obtain ⟨v, P1, P2, n1, e1, e2, hI2, b1, b2⟩ := h
  have hE1 := zk_sm_k e1 hE
  refine ⟨P2, n1, v5, v6, ?_, hI2, zk_sm_k e2 hE1, b1, b2⟩
  rw [e_Law_law_816, zz_Cv, Option.bind_some, e1, zs_cI, Option.bind_some, zp_Rv, Option.bind_some, e2, zs_cI, Option.bind_some, if_pos rfl]
theorem yL_log (hL : L ≤ 3072) (hI : yI P n.1) (hE : zk_kE L xs (zp_M P, n)) (hi : i + 6 ≤ L) : yLk L xs d 829 i P n := by
  intro v5 v6
  have h : yOK (d + 90) P n m_SaddlerKnows_log m_R_log [.int (xs (i + 1)), .int (xs (i + 2))] := yc_log (d := d + 70) hI
  obtain ⟨v, P1, P2, n1, e1, e2, hI2, b1, b2⟩ := h
  have hE1 := zk_sm_k e1 hE
  refine ⟨P2, n1, v5, v6, ?_, hI2, zk_sm_k e2 hE1, b1, b2⟩
  rw [e_Law_law_829, zs_scr hE zi_i1 (show i + 1 < L by omega) hL, Option.bind_some, zs_scr hE zi_i2 (show i + 2 < L by omega) hL, Option.bind_some, zz_Cv, Option.bind_some, e1, zs_cI, Option.bind_some, zs_scr hE1 zi_i1 (show i + 1 < L by omega) hL, Option.bind_some, zs_scr hE1 zi_i2 (show i + 2 < L by omega) hL, Option.bind_some, zp_Rv, Option.bind_some, e2, zs_cI, Option.bind_some, if_pos rfl]
theorem yL_limit (hL : L ≤ 3072) (hI : yI P n.1) (hE : zk_kE L xs (zp_M P, n)) (hi : i + 6 ≤ L) : yLk L xs d 866 i P n := by
  intro v5 v6
  have h : yOK (d + 90) P n m_SaddlerKnows_limit m_R_limit [.int (xs (i + 1))] := yc_limit (d := d + 70) hI
  obtain ⟨v, P1, P2, n1, e1, e2, hI2, b1, b2⟩ := h
  have hE1 := zk_sm_k e1 hE
  refine ⟨P2, n1, v5, v6, ?_, hI2, zk_sm_k e2 hE1, b1, b2⟩
  rw [e_Law_law_866, zs_scr hE zi_i1 (show i + 1 < L by omega) hL, Option.bind_some, zz_Cv, Option.bind_some, e1, zs_cI, Option.bind_some, zs_scr hE1 zi_i1 (show i + 1 < L by omega) hL, Option.bind_some, zp_Rv, Option.bind_some, e2, zs_cI, Option.bind_some, if_pos rfl]
theorem yL_pinch (hL : L ≤ 3072) (hI : yI P n.1) (hE : zk_kE L xs (zp_M P, n)) (hi : i + 6 ≤ L) : yLk L xs d 891 i P n := by
  intro v5 v6
  have h : yOK (d + 90) P n m_SaddlerKnows_pinch m_R_pinch [.int (xs (i + 1)), .int (xs (i + 2)), .int (xs (i + 3))] := yc_pinch (d := d + 70) hI
  obtain ⟨v, P1, P2, n1, e1, e2, hI2, b1, b2⟩ := h
  have hE1 := zk_sm_k e1 hE
  refine ⟨P2, n1, v5, v6, ?_, hI2, zk_sm_k e2 hE1, b1, b2⟩
  rw [e_Law_law_891, zs_scr hE zi_i1 (show i + 1 < L by omega) hL, Option.bind_some, zs_scr hE zi_i2 (show i + 2 < L by omega) hL, Option.bind_some, zs_scr hE zi_i3 (show i + 3 < L by omega) hL, Option.bind_some, zz_Cv, Option.bind_some, e1, zs_cI, Option.bind_some, zs_scr hE1 zi_i1 (show i + 1 < L by omega) hL, Option.bind_some, zs_scr hE1 zi_i2 (show i + 2 < L by omega) hL, Option.bind_some, zs_scr hE1 zi_i3 (show i + 3 < L by omega) hL, Option.bind_some, zp_Rv, Option.bind_some, e2, zs_cI, Option.bind_some, if_pos rfl]
theorem yL_best (hL : L ≤ 3072) (hI : yI P n.1) (hE : zk_kE L xs (zp_M P, n)) (hi : i + 6 ≤ L) : yLk L xs d 940 i P n := by
  intro v5 v6
  have h : yOK (d + 90) P n m_SaddlerKnows_best m_R_best [.int (xs (i + 1)), .int (xs (i + 2))] := yc_best (d := d + 70) hI
  obtain ⟨v, P1, P2, n1, e1, e2, hI2, b1, b2⟩ := h
  have hE1 := zk_sm_k e1 hE
  refine ⟨P2, n1, v5, v6, ?_, hI2, zk_sm_k e2 hE1, b1, b2⟩
  rw [e_Law_law_940, zs_scr hE zi_i1 (show i + 1 < L by omega) hL, Option.bind_some, zs_scr hE zi_i2 (show i + 2 < L by omega) hL, Option.bind_some, zz_Cv, Option.bind_some, e1, zs_cI, Option.bind_some, zs_scr hE1 zi_i1 (show i + 1 < L by omega) hL, Option.bind_some, zs_scr hE1 zi_i2 (show i + 2 < L by omega) hL, Option.bind_some, zp_Rv, Option.bind_some, e2, zs_cI, Option.bind_some, if_pos rfl]
theorem yL_throwing (hL : L ≤ 3072) (hI : yI P n.1) (hE : zk_kE L xs (zp_M P, n)) (hi : i + 6 ≤ L) : yLk L xs d 977 i P n := by
  intro v5 v6
  have h : yOK (d + 90) P n m_SaddlerKnows_throwing m_R_throwing [.int (xs (i + 1))] := yc_throwing (d := d + 70) hI
  obtain ⟨v, P1, P2, n1, e1, e2, hI2, b1, b2⟩ := h
  have hE1 := zk_sm_k e1 hE
  refine ⟨P2, n1, v5, v6, ?_, hI2, zk_sm_k e2 hE1, b1, b2⟩
  rw [e_Law_law_977, zs_scr hE zi_i1 (show i + 1 < L by omega) hL, Option.bind_some, zz_Cv, Option.bind_some, e1, zs_cI, Option.bind_some, zs_scr hE1 zi_i1 (show i + 1 < L by omega) hL, Option.bind_some, zp_Rv, Option.bind_some, e2, zs_cI, Option.bind_some, if_pos rfl]
theorem yL_bears (hL : L ≤ 3072) (hI : yI P n.1) (hE : zk_kE L xs (zp_M P, n)) (hi : i + 6 ≤ L) : yLk L xs d 1002 i P n := by
  intro v5 v6
  have h : yOK (d + 90) P n m_SaddlerKnows_bears m_R_bears [.int (xs (i + 1)), .int (xs (i + 2)), .int (xs (i + 3))] := yc_bears (d := d + 70) hI
  obtain ⟨v, P1, P2, n1, e1, e2, hI2, b1, b2⟩ := h
  have hE1 := zk_sm_k e1 hE
  refine ⟨P2, n1, v5, v6, ?_, hI2, zk_sm_k e2 hE1, b1, b2⟩
  rw [e_Law_law_1002, zs_scr hE zi_i1 (show i + 1 < L by omega) hL, Option.bind_some, zs_scr hE zi_i2 (show i + 2 < L by omega) hL, Option.bind_some, zs_scr hE zi_i3 (show i + 3 < L by omega) hL, Option.bind_some, zz_Cv, Option.bind_some, e1, zs_cI, Option.bind_some, zs_scr hE1 zi_i1 (show i + 1 < L by omega) hL, Option.bind_some, zs_scr hE1 zi_i2 (show i + 2 < L by omega) hL, Option.bind_some, zs_scr hE1 zi_i3 (show i + 3 < L by omega) hL, Option.bind_some, zp_Rv, Option.bind_some, e2, zs_cI, Option.bind_some, if_pos rfl]
theorem yL_ring (hL : L ≤ 3072) (hI : yI P n.1) (hE : zk_kE L xs (zp_M P, n)) (hi : i + 6 ≤ L) : yLk L xs d 1051 i P n := by
  intro v5 v6
  have h : yOK (d + 90) P n m_SaddlerKnows_ring m_R_ring [] := yc_ring (d := d + 70) hI
  obtain ⟨v, P1, P2, n1, e1, e2, hI2, b1, b2⟩ := h
  have hE1 := zk_sm_k e1 hE
  refine ⟨P2, n1, v5, v6, ?_, hI2, zk_sm_k e2 hE1, b1, b2⟩
  rw [e_Law_law_1051, zz_Cv, Option.bind_some, e1, zs_cI, Option.bind_some, zp_Rv, Option.bind_some, e2, zs_cI, Option.bind_some, if_pos rfl]
theorem yL_chain (hL : L ≤ 3072) (hI : yI P n.1) (hE : zk_kE L xs (zp_M P, n)) (hi : i + 6 ≤ L) : yLk L xs d 1064 i P n := by
  intro v5 v6
  have h : yOK (d + 90) P n m_SaddlerKnows_chain m_R_chain [.int (xs (i + 1)), .int (xs (i + 2))] := yc_chain (d := d + 70) hI
  obtain ⟨v, P1, P2, n1, e1, e2, hI2, b1, b2⟩ := h
  have hE1 := zk_sm_k e1 hE
  refine ⟨P2, n1, v5, v6, ?_, hI2, zk_sm_k e2 hE1, b1, b2⟩
  rw [e_Law_law_1064, zs_scr hE zi_i1 (show i + 1 < L by omega) hL, Option.bind_some, zs_scr hE zi_i2 (show i + 2 < L by omega) hL, Option.bind_some, zz_Cv, Option.bind_some, e1, zs_cI, Option.bind_some, zs_scr hE1 zi_i1 (show i + 1 < L by omega) hL, Option.bind_some, zs_scr hE1 zi_i2 (show i + 2 < L by omega) hL, Option.bind_some, zp_Rv, Option.bind_some, e2, zs_cI, Option.bind_some, if_pos rfl]
theorem yL_seats (hL : L ≤ 3072) (hI : yI P n.1) (hE : zk_kE L xs (zp_M P, n)) (hi : i + 6 ≤ L) : yLk L xs d 1101 i P n := by
  intro v5 v6
  have h : yOK (d + 90) P n m_SaddlerKnows_seats m_R_seats [.int (xs (i + 1))] := yc_seats (d := d + 70) hI
  obtain ⟨v, P1, P2, n1, e1, e2, hI2, b1, b2⟩ := h
  have hE1 := zk_sm_k e1 hE
  refine ⟨P2, n1, v5, v6, ?_, hI2, zk_sm_k e2 hE1, b1, b2⟩
  rw [e_Law_law_1101, zs_scr hE zi_i1 (show i + 1 < L by omega) hL, Option.bind_some, zz_Cv, Option.bind_some, e1, zs_cI, Option.bind_some, zs_scr hE1 zi_i1 (show i + 1 < L by omega) hL, Option.bind_some, zp_Rv, Option.bind_some, e2, zs_cI, Option.bind_some, if_pos rfl]
theorem yL_fits (hL : L ≤ 3072) (hI : yI P n.1) (hE : zk_kE L xs (zp_M P, n)) (hi : i + 6 ≤ L) : yLk L xs d 1203 i P n := by
  intro v5 v6
  have h : yOK (d + 90) P n m_SaddlerKnows_fits m_R_fits [.int (xs (i + 1)), .int (xs (i + 2))] := yc_fits (d := d + 70) hI
  obtain ⟨v, P1, P2, n1, e1, e2, hI2, b1, b2⟩ := h
  have hE1 := zk_sm_k e1 hE
  refine ⟨P2, n1, v5, v6, ?_, hI2, zk_sm_k e2 hE1, b1, b2⟩
  rw [e_Law_law_1203, zs_scr hE zi_i1 (show i + 1 < L by omega) hL, Option.bind_some, zs_scr hE zi_i2 (show i + 2 < L by omega) hL, Option.bind_some, zz_Cv, Option.bind_some, e1, zs_cI, Option.bind_some, zs_scr hE1 zi_i1 (show i + 1 < L by omega) hL, Option.bind_some, zs_scr hE1 zi_i2 (show i + 2 < L by omega) hL, Option.bind_some, zp_Rv, Option.bind_some, e2, zs_cI, Option.bind_some, if_pos rfl]
theorem yL_ask (hL : L ≤ 3072) (hI : yI P n.1) (hE : zk_kE L xs (zp_M P, n)) (hi : i + 6 ≤ L) : yLk L xs d 1240 i P n := by
  intro v5 v6
  have h : yOK (d + 90) P n m_SaddlerKnows_ask m_R_ask [.int (xs (i + 1)), .int (xs (i + 2))] := yc_ask (d := d + 70) hI
  obtain ⟨v, P1, P2, n1, e1, e2, hI2, b1, b2⟩ := h
  have hE1 := zk_sm_k e1 hE
  refine ⟨P2, n1, v5, v6, ?_, hI2, zk_sm_k e2 hE1, b1, b2⟩
  rw [e_Law_law_1240, zs_scr hE zi_i1 (show i + 1 < L by omega) hL, Option.bind_some, zs_scr hE zi_i2 (show i + 2 < L by omega) hL, Option.bind_some, zz_Cv, Option.bind_some, e1, zs_cI, Option.bind_some, zs_scr hE1 zi_i1 (show i + 1 < L by omega) hL, Option.bind_some, zs_scr hE1 zi_i2 (show i + 2 < L by omega) hL, Option.bind_some, zp_Rv, Option.bind_some, e2, zs_cI, Option.bind_some, if_pos rfl]
theorem yL_waiting (hL : L ≤ 3072) (hI : yI P n.1) (hE : zk_kE L xs (zp_M P, n)) (hi : i + 6 ≤ L) : yLk L xs d 1277 i P n := by
  intro v5 v6
  have h : yOK (d + 90) P n m_SaddlerKnows_waiting m_R_waiting [.int (xs (i + 1)), .int (xs (i + 2)), .int (xs (i + 3)), .int (xs (i + 4)), .int (xs (i + 5))] := yc_waiting (d := d + 70) hI
  obtain ⟨v, P1, P2, n1, e1, e2, hI2, b1, b2⟩ := h
  have hE1 := zk_sm_k e1 hE
  refine ⟨P2, n1, v5, v6, ?_, hI2, zk_sm_k e2 hE1, b1, b2⟩
  rw [e_Law_law_1277, zs_scr hE zi_i1 (show i + 1 < L by omega) hL, Option.bind_some, zs_scr hE zi_i2 (show i + 2 < L by omega) hL, Option.bind_some, zs_scr hE zi_i3 (show i + 3 < L by omega) hL, Option.bind_some, zs_scr hE zi_i4 (show i + 4 < L by omega) hL, Option.bind_some, zs_scr hE zi_i5 (show i + 5 < L by omega) hL, Option.bind_some, zz_Cv, Option.bind_some, e1, zs_cI, Option.bind_some, zs_scr hE1 zi_i1 (show i + 1 < L by omega) hL, Option.bind_some, zs_scr hE1 zi_i2 (show i + 2 < L by omega) hL, Option.bind_some, zs_scr hE1 zi_i3 (show i + 3 < L by omega) hL, Option.bind_some, zs_scr hE1 zi_i4 (show i + 4 < L by omega) hL, Option.bind_some, zs_scr hE1 zi_i5 (show i + 5 < L by omega) hL, Option.bind_some, zp_Rv, Option.bind_some, e2, zs_cI, Option.bind_some, if_pos rfl]
theorem yL_rests (hL : L ≤ 3072) (hI : yI P n.1) (hE : zk_kE L xs (zp_M P, n)) (hi : i + 6 ≤ L) : yLk L xs d 1350 i P n := by
  intro v5 v6
  have h : yOK (d + 90) P n m_SaddlerKnows_rests m_R_rests [.int (xs (i + 1)), .int (xs (i + 2)), .int (xs (i + 3))] := yc_rests (d := d + 70) hI
  obtain ⟨v, P1, P2, n1, e1, e2, hI2, b1, b2⟩ := h
  have hE1 := zk_sm_k e1 hE
  refine ⟨P2, n1, v5, v6, ?_, hI2, zk_sm_k e2 hE1, b1, b2⟩
  rw [e_Law_law_1350, zs_scr hE zi_i1 (show i + 1 < L by omega) hL, Option.bind_some, zs_scr hE zi_i2 (show i + 2 < L by omega) hL, Option.bind_some, zs_scr hE zi_i3 (show i + 3 < L by omega) hL, Option.bind_some, zz_Cv, Option.bind_some, e1, zs_cI, Option.bind_some, zs_scr hE1 zi_i1 (show i + 1 < L by omega) hL, Option.bind_some, zs_scr hE1 zi_i2 (show i + 2 < L by omega) hL, Option.bind_some, zs_scr hE1 zi_i3 (show i + 3 < L by omega) hL, Option.bind_some, zp_Rv, Option.bind_some, e2, zs_cI, Option.bind_some, if_pos rfl]
theorem yL_odds (hL : L ≤ 3072) (hI : yI P n.1) (hE : zk_kE L xs (zp_M P, n)) (hi : i + 6 ≤ L) : yLk L xs d 1399 i P n := by
  intro v5 v6
  have h : yOK (d + 90) P n m_SaddlerKnows_odds m_R_odds [.int (xs (i + 1)), .int (xs (i + 2)), .int (xs (i + 3))] := yc_odds (d := d + 70) hI
  obtain ⟨v, P1, P2, n1, e1, e2, hI2, b1, b2⟩ := h
  have hE1 := zk_sm_k e1 hE
  refine ⟨P2, n1, v5, v6, ?_, hI2, zk_sm_k e2 hE1, b1, b2⟩
  rw [e_Law_law_1399, zs_scr hE zi_i1 (show i + 1 < L by omega) hL, Option.bind_some, zs_scr hE zi_i2 (show i + 2 < L by omega) hL, Option.bind_some, zs_scr hE zi_i3 (show i + 3 < L by omega) hL, Option.bind_some, zz_Cv, Option.bind_some, e1, zs_cI, Option.bind_some, zs_scr hE1 zi_i1 (show i + 1 < L by omega) hL, Option.bind_some, zs_scr hE1 zi_i2 (show i + 2 < L by omega) hL, Option.bind_some, zs_scr hE1 zi_i3 (show i + 3 < L by omega) hL, Option.bind_some, zp_Rv, Option.bind_some, e2, zs_cI, Option.bind_some, if_pos rfl]
theorem yL_shares (hL : L ≤ 3072) (hI : yI P n.1) (hE : zk_kE L xs (zp_M P, n)) (hi : i + 6 ≤ L) : yLk L xs d 1448 i P n := by
  intro v5 v6
  have h : yOK (d + 90) P n m_SaddlerKnows_shares m_R_shares [.int (xs (i + 1)), .int (xs (i + 2))] := yc_shares (d := d + 70) hI
  obtain ⟨v, P1, P2, n1, e1, e2, hI2, b1, b2⟩ := h
  have hE1 := zk_sm_k e1 hE
  refine ⟨P2, n1, v5, v6, ?_, hI2, zk_sm_k e2 hE1, b1, b2⟩
  rw [e_Law_law_1448, zs_scr hE zi_i1 (show i + 1 < L by omega) hL, Option.bind_some, zs_scr hE zi_i2 (show i + 2 < L by omega) hL, Option.bind_some, zz_Cv, Option.bind_some, e1, zs_cI, Option.bind_some, zs_scr hE1 zi_i1 (show i + 1 < L by omega) hL, Option.bind_some, zs_scr hE1 zi_i2 (show i + 2 < L by omega) hL, Option.bind_some, zp_Rv, Option.bind_some, e2, zs_cI, Option.bind_some, if_pos rfl]
theorem yL_most (hL : L ≤ 3072) (hI : yI P n.1) (hE : zk_kE L xs (zp_M P, n)) (hi : i + 6 ≤ L) : yLk L xs d 1485 i P n := by
  intro v5 v6
  have h : yOK (d + 90) P n m_SaddlerKnows_most m_R_most [.int (xs (i + 1))] := yc_most (d := d + 70) hI
  obtain ⟨v, P1, P2, n1, e1, e2, hI2, b1, b2⟩ := h
  have hE1 := zk_sm_k e1 hE
  refine ⟨P2, n1, v5, v6, ?_, hI2, zk_sm_k e2 hE1, b1, b2⟩
  rw [e_Law_law_1485, zs_scr hE zi_i1 (show i + 1 < L by omega) hL, Option.bind_some, zz_Cv, Option.bind_some, e1, zs_cI, Option.bind_some, zs_scr hE1 zi_i1 (show i + 1 < L by omega) hL, Option.bind_some, zp_Rv, Option.bind_some, e2, zs_cI, Option.bind_some, if_pos rfl]
theorem yL_image (hL : L ≤ 3072) (hI : yI P n.1) (hE : zk_kE L xs (zp_M P, n)) (hi : i + 6 ≤ L) : yLk L xs d 1510 i P n := by
  intro v5 v6
  have h : yOK (d + 90) P n m_SaddlerKnows_image m_R_image [] := yc_image (d := d + 70) hI
  obtain ⟨v, P1, P2, n1, e1, e2, hI2, b1, b2⟩ := h
  have hE1 := zk_sm_k e1 hE
  refine ⟨P2, n1, v5, v6, ?_, hI2, zk_sm_k e2 hE1, b1, b2⟩
  rw [e_Law_law_1510, zz_Cv, Option.bind_some, e1, zs_cI, Option.bind_some, zp_Rv, Option.bind_some, e2, zs_cI, Option.bind_some, if_pos rfl]
theorem yL_back (hL : L ≤ 3072) (hI : yI P n.1) (hE : zk_kE L xs (zp_M P, n)) (hi : i + 6 ≤ L) : yLk L xs d 1523 i P n := by
  intro v5 v6
  have h : yOK (d + 90) P n m_SaddlerKnows_back m_R_back [] := yc_back (d := d + 70) hI
  obtain ⟨v, P1, P2, n1, e1, e2, hI2, b1, b2⟩ := h
  have hE1 := zk_sm_k e1 hE
  refine ⟨P2, n1, v5, v6, ?_, hI2, zk_sm_k e2 hE1, b1, b2⟩
  rw [e_Law_law_1523, zz_Cv, Option.bind_some, e1, zs_cI, Option.bind_some, zp_Rv, Option.bind_some, e2, zs_cI, Option.bind_some, if_pos rfl]
theorem yL_count (hL : L ≤ 3072) (hI : yI P n.1) (hE : zk_kE L xs (zp_M P, n)) (hi : i + 6 ≤ L) : yLk L xs d 1536 i P n := by
  intro v5 v6
  have h : yOK (d + 90) P n m_SaddlerKnows_count m_R_count [.int (xs (i + 1))] := yc_count (d := d + 70) hI
  obtain ⟨v, P1, P2, n1, e1, e2, hI2, b1, b2⟩ := h
  have hE1 := zk_sm_k e1 hE
  refine ⟨P2, n1, v5, v6, ?_, hI2, zk_sm_k e2 hE1, b1, b2⟩
  rw [e_Law_law_1536, zs_scr hE zi_i1 (show i + 1 < L by omega) hL, Option.bind_some, zz_Cv, Option.bind_some, e1, zs_cI, Option.bind_some, zs_scr hE1 zi_i1 (show i + 1 < L by omega) hL, Option.bind_some, zp_Rv, Option.bind_some, e2, zs_cI, Option.bind_some, if_pos rfl]
theorem yL_seen (hL : L ≤ 3072) (hI : yI P n.1) (hE : zk_kE L xs (zp_M P, n)) (hi : i + 6 ≤ L) : yLk L xs d 1126 i P n := by
  intro v5 v6
  have h : ∀ b : Int32, yOK (d + 90) P n m_SaddlerKnows_seen m_R_seen [.int (xs (i + 1)), .int (xs (i + 2)), .int (xs (i + 3)), .int b] := fun b => yc_seen (d := d + 70) hI
  by_cases z : xs (i + 4) = 0
  · obtain ⟨v, P1, P2, n1, e1, e2, hI2, b1, b2⟩ := h 0
    have hE1 := zk_sm_k e1 hE
    refine ⟨P2, n1, v5, v6, ?_, hI2, zk_sm_k e2 hE1, b1, b2⟩
    rw [e_Law_law_1126, zs_scr hE zi_i1 (show i + 1 < L by omega) hL, Option.bind_some, zs_scr hE zi_i2 (show i + 2 < L by omega) hL, Option.bind_some, zs_scr hE zi_i3 (show i + 3 < L by omega) hL, Option.bind_some, zs_scr hE zi_i4 (show i + 4 < L by omega) hL, Option.bind_some, if_pos z, zz_Cv, Option.bind_some, e1, zs_cI, Option.bind_some, zs_scr hE1 zi_i1 (show i + 1 < L by omega) hL, Option.bind_some, zs_scr hE1 zi_i2 (show i + 2 < L by omega) hL, Option.bind_some, zs_scr hE1 zi_i3 (show i + 3 < L by omega) hL, Option.bind_some, zs_scr hE1 zi_i4 (show i + 4 < L by omega) hL, Option.bind_some, if_pos z, zp_Rv, Option.bind_some, e2, zs_cI, Option.bind_some, if_pos rfl]
  · obtain ⟨v, P1, P2, n1, e1, e2, hI2, b1, b2⟩ := h 1
    have hE1 := zk_sm_k e1 hE
    refine ⟨P2, n1, v5, v6, ?_, hI2, zk_sm_k e2 hE1, b1, b2⟩
    rw [e_Law_law_1126, zs_scr hE zi_i1 (show i + 1 < L by omega) hL, Option.bind_some, zs_scr hE zi_i2 (show i + 2 < L by omega) hL, Option.bind_some, zs_scr hE zi_i3 (show i + 3 < L by omega) hL, Option.bind_some, zs_scr hE zi_i4 (show i + 4 < L by omega) hL, Option.bind_some, if_neg z, zz_Cv, Option.bind_some, e1, zs_cI, Option.bind_some, zs_scr hE1 zi_i1 (show i + 1 < L by omega) hL, Option.bind_some, zs_scr hE1 zi_i2 (show i + 2 < L by omega) hL, Option.bind_some, zs_scr hE1 zi_i3 (show i + 3 < L by omega) hL, Option.bind_some, zs_scr hE1 zi_i4 (show i + 4 < L by omega) hL, Option.bind_some, if_neg z, zp_Rv, Option.bind_some, e2, zs_cI, Option.bind_some, if_pos rfl]
end
