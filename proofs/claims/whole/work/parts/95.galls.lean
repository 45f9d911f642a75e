/-! CALLS 22: galls by weeks, from as told, by the reference -/
noncomputable def yev (T : yT) (V : yV) : Nat → yV
  | 0 => V
  | w + 1 => ywk T (yev T V w) 99
def ytf (nl : Nat) (L : Nat → Nat × Nat × Nat) (c0 : Int32) (i f : Nat) : yV := ysp (ytd nl L c0) i (some ((L i).1, (L i).2.1, f))
theorem ytd_O {np nl : Nat} {L : Nat → Nat × Nat × Nat} {c0 : Int32} (h : ∀ l, l < nl → (L l).1 < np ∧ (L l).2.1 < np ∧ (L l).1 ≠ (L l).2.1 ∧ (L l).2.2 < 10) : yO np (ytd nl L c0) := by
  refine ⟨fun k r q f _ hv => ?_, Nat.zero_le _⟩
  have hv : (if k < nl then some (L k) else none) = some (r, q, f) := hv
  by_cases z : k < nl
  · rw [if_pos z] at hv
    have e : L k = (r, q, f) := Option.some.inj hv
    have := h k z
    rw [e] at this
    exact this
  · rw [if_neg z] at hv; cases hv
theorem ytf_O {np nl i f : Nat} {L : Nat → Nat × Nat × Nat} {c0 : Int32} (h : ∀ l, l < nl → (L l).1 < np ∧ (L l).2.1 < np ∧ (L l).1 ≠ (L l).2.1 ∧ (L l).2.2 < 10) (hi : i < nl) (hf : f < 10) : yO np (ytf nl L c0 i f) := yO_sp (ytd_O h) (fun r q f' e => by
  cases e
  obtain ⟨a, b, c, -⟩ := h i hi
  exact ⟨a, b, c, hf⟩)
theorem yev_O {T : yT} {V : yV} (hO : yO T.1 V) (h0 : V.2.2.2 = 0) : ∀ w, w ≤ 20 → yO T.1 (yev T V w) ∧ (yev T V w).2.2.2 = w
  | 0, _ => ⟨hO, h0⟩
  | w + 1, hw => by
    obtain ⟨a, b⟩ := yev_O hO h0 w (by omega)
    refine ⟨ywk_O a (by omega), ?_⟩
    show (yev T V w).2.2.2 + 1 = w + 1
    rw [b]
section
variable {P : zp} {n : Nat × Nat} {d nl : Nat} {T : yT} {V : yV} {L : Nat → Nat × Nat × Nat} {c0 : Int32}
theorem zs_Rlg31 {w : Nat} {x y : Int32} (hw : w ≤ 9) : ∃ P1, zk_sf (d + 1) m_R_layGalls 31 [.ref 269, .int x, .int y, .int (zi w), .int 0] [] (zp_M P, n) = ((zk_cV (zk_sm d m_R_live [.ref 269, .int (-1)] (zp_M P1, n))).bind fun t5 => zk_sf (d + 1) m_R_layGalls 22 [.ref 269, .int x, .int y, .int (zi (w + 1)), .int (zi 6)] [] t5) ∧ (∀ p, p < 6 → P1.2.1 296 (6 * w + p) = P.2.1 286 (32 + p)) ∧ (∀ j, j < 6 * w → P1.2.1 296 j = P.2.1 296 j) ∧ yF [] [296] P P1 := by
  refine zl_ind (m := 6) (L := fun i (a : zp) => zk_sf (d + 1) m_R_layGalls 31 [.ref 269, .int x, .int y, .int (zi w), .int (zi i)] [] (zp_M a, n)) (I := fun i a => (∀ p, p < i → a.2.1 296 (6 * w + p) = P.2.1 286 (32 + p)) ∧ (∀ j, j < 6 * w → a.2.1 296 j = P.2.1 296 j) ∧ yF [] [296] P a) (Q := fun r => ∃ P1, r = ((zk_cV (zk_sm d m_R_live [.ref 269, .int (-1)] (zp_M P1, n))).bind fun t5 => zk_sf (d + 1) m_R_layGalls 22 [.ref 269, .int x, .int y, .int (zi (w + 1)), .int (zi 6)] [] t5) ∧ (∀ p, p < 6 → P1.2.1 296 (6 * w + p) = P.2.1 286 (32 + p)) ∧ (∀ j, j < 6 * w → P1.2.1 296 j = P.2.1 296 j) ∧ yF [] [296] P P1) (fun i a hi hI => Or.inr ?_) (fun a hI => ?_) (a := P) ⟨fun p hp => absurd hp (Nat.not_lt_zero p), fun _ _ => rfl, yF_r⟩
  · obtain ⟨a1, a2, fa⟩ := hI
    refine ⟨zp_sA a 296 (6 * w + i) (P.2.1 286 (32 + i)), ?_, fun p hp => ?_, fun j hj => (zp_a8 (by omega)).trans (a2 j hj), yF_t fa (yF_A (by decide))⟩
    · show zk_sf (d + 1) m_R_layGalls 31 [.ref 269, .int x, .int y, .int (zi w), .int (zi i)] [] (zp_M a, n) = _
      rw [e_R_layGalls_31, if_pos (show zi i < 6 from (zi_l (m := 6) (by omega) (by decide)).mpr hi), zp_R47, Option.bind_some, zp_R27, Option.bind_some, zi_32, zp_ldi zp_a286 (show 32 + i < 221 by omega) (by decide), Option.bind_some, zi_6c, zp_sti zp_a296 (show 6 * w + i < 60 by omega) (by decide), Option.bind_some, zi_s, fa.2.1 286 (by decide)]
    · by_cases z : p = i
      · rw [z]; exact zp_a9
      · exact (zp_a8 (by omega)).trans (a1 p (by omega))
  · obtain ⟨a1, a2, fa⟩ := hI
    refine ⟨a, ?_, a1, a2, fa⟩
    show zk_sf (d + 1) m_R_layGalls 31 [.ref 269, .int x, .int y, .int (zi w), .int (zi 6)] [] (zp_M a, n) = _
    rw [e_R_layGalls_31, if_neg (by decide), zp_Rv, Option.bind_some, zi_s]
abbrev yr6 : List Nat := [278, 279, 286, 288, 290, 296]
set_option maxHeartbeats 1000000 in
theorem zs_RlayGalls (hT : yTR P T) (hp0 : 0 < T.1) (hr : yTr P nl L c0) (hL : ∀ l, l < nl → (L l).1 < T.1 ∧ (L l).2.1 < T.1 ∧ (L l).1 ≠ (L l).2.1 ∧ (L l).2.2 < 10) {i f : Nat} (hi : i < nl) (hf : f < 10) : ∃ P', zk_sm (d + 10) m_R_layGalls [.ref 269, .int (zi i), .int (zi f)] (zp_M P, n) = some (none, (zp_M P', n)) ∧ (∀ w p, w ≤ 9 → p < 6 → P'.2.1 296 (6 * w + p) = (yev T (ytf nl L c0 i f) w).2.1 p) ∧ yF [(269, 32)] [278, 279, 288, 290, 296] P P' := by
  have h8 : nl ≤ 8 := hr.2.1
  obtain ⟨P1, e1, f1, a1, b1⟩ := zs_RputAside (P := P) (n := n) (d := d + 9) (k := 0) (by decide)
  have hr1 : yTr P1 nl L c0 := by
    obtain ⟨r1, r2, r3, r4⟩ := hr
    refine ⟨(f1.1 269 26 (fun z => by cases z)).trans r1, r2, fun l hl => ?_, ?_⟩
    · rw [f1.2.1 285 (by decide)]; exact r3 l hl
    · rw [f1.2.1 283 (by decide)]; exact r4
  obtain ⟨P2, e2, r2, f2, k2⟩ := zs_RlayTold (n := n) (d := d + 9) hr1
  obtain ⟨P3, hP3⟩ : ∃ P3, P3 = zp_sA P2 286 (4 * i + 2) (zi f) := ⟨_, rfl⟩
  have f3 : yF [] [286] P2 P3 := by rw [hP3]; exact yF_A (by decide)
  have k3 : ∀ j, 40 ≤ j → P3.2.1 286 j = P.2.1 286 j := fun j hj => by rw [hP3, zp_a8 (by omega), k2 j hj, f1.2.1 286 (by decide)]
  have hv : (ytd nl L c0).1 i = some ((L i).1, (L i).2.1, (L i).2.2) := by
    show (if i < nl then some (L i) else none) = _
    rw [if_pos hi]
  have r3 : yR (P3.2.1 286) (ytf nl L c0 i f) := by rw [hP3]; exact yR_fit (f' := f) r2 (by omega) hv
  have hO := ytf_O (c0 := c0) hL hi hf
  have F13 : yF [(269, 32)] yr6 P P3 := yF_t (yF_m f1 (fun _ h => by cases h) (fun k hk => by simp only [List.mem_cons, List.not_mem_nil, or_false] at hk ⊢; omega)) (yF_t (yF_m f2 (fun _ h => by cases h) (fun k hk => by simp only [List.mem_cons, List.not_mem_nil, or_false] at hk ⊢; omega)) (yF_m f3 (fun _ h => by cases h) (fun k hk => by simp only [List.mem_cons, List.not_mem_nil, or_false] at hk ⊢; omega)))
  have s3 : ∀ j, j < 40 → P3.2.1 290 (40 * 0 + j) = P.2.1 286 j := fun j hj => by rw [f3.2.1 290 (by decide), f2.2.1 290 (by decide), a1 j hj]
  have e42 : 4 * zi i + 2 = zi (4 * i + 2) := zi_4 i 2
  rw [e_R_layGalls, zp_Rv, Option.bind_some, show zk_sm (d + 9) m_R_putAside [.ref 269, .int 0] (zp_M P, n) = _ from e1, zs_cV, Option.bind_some, zp_Rv, Option.bind_some, e2, zs_cV, Option.bind_some, zp_R27, Option.bind_some, e42, zp_sti zp_a286 (show 4 * i + 2 < 221 by omega) (by decide), Option.bind_some, ← hP3]
  refine zl_ind (m := 10) (L := fun w (a : zp × Value) => zk_sf (d + 10) m_R_layGalls 22 [.ref 269, .int (zi i), .int (zi f), .int (zi w), a.2] [] (zp_M a.1, n)) (I := fun w a => yR (a.1.2.1 286) (yev T (ytf nl L c0 i f) w) ∧ (∀ w' p, w' < w → p < 6 → a.1.2.1 296 (6 * w' + p) = (yev T (ytf nl L c0 i f) w').2.1 p) ∧ a.1.2.1 290 = P3.2.1 290 ∧ (∀ j, 40 ≤ j → a.1.2.1 286 j = P.2.1 286 j) ∧ yF [(269, 32)] yr6 P a.1) (Q := fun r => ∃ P', r = some (none, (zp_M P', n)) ∧ (∀ w p, w ≤ 9 → p < 6 → P'.2.1 296 (6 * w + p) = (yev T (ytf nl L c0 i f) w).2.1 p) ∧ yF [(269, 32)] [278, 279, 288, 290, 296] P P') (fun w a hw hI => Or.inr ?_) (fun a hI => ?_) (a := (P3, .retAddr 0)) ⟨r3, fun w' p hw' => absurd hw' (Nat.not_lt_zero _), rfl, k3, F13⟩
  · obtain ⟨a, v⟩ := a
    obtain ⟨ra, ga, sa, ka, fa⟩ := hI
    have ra : yR (a.2.1 286) (yev T (ytf nl L c0 i f) w) := ra
    have ga : ∀ w' p, w' < w → p < 6 → a.2.1 296 (6 * w' + p) = (yev T (ytf nl L c0 i f) w').2.1 p := ga
    have fa : yF [(269, 32)] yr6 P a := fa
    obtain ⟨oe, -⟩ := yev_O (T := T) hO rfl w (by omega)
    obtain ⟨Q1, q1, g1, g2, fq⟩ := zs_Rlg31 (P := a) (n := n) (d := d + 9) (x := zi i) (y := zi f) (w := w) (by omega)
    have Rq : yR (Q1.2.1 286) (yev T (ytf nl L c0 i f) w) := by rw [fq.2.1 286 (by decide)]; exact ra
    have Tq : yTR Q1 T := yTR_F (by decide) fq (yTR_F (by decide) fa hT)
    obtain ⟨Q2, q2, r5, w5, f5, k5⟩ := zs_Rlive (d := d) (n := n) (x := -1) (e := 99) Tq hp0 Rq oe (fun p hp => ⟨fun z => absurd z (zi_n1 (by have := hT.2.1; omega)), fun z => by have := hT.2.1; omega⟩)
    refine ⟨(Q2, .int (zi 6)), ?_, r5, fun w' p hw' hp => ?_, ?_, fun j hj => ?_, yF_t fa (yF_t (yF_m fq (fun _ h => by cases h) (fun k hk => by simp only [List.mem_cons, List.not_mem_nil, or_false] at hk ⊢; omega)) (yF_m f5 (fun _ h => h) (fun k hk => by simp only [List.mem_cons, List.not_mem_nil, or_false] at hk ⊢; omega)))⟩
    · show zk_sf (d + 10) m_R_layGalls 22 [.ref 269, .int (zi i), .int (zi f), .int (zi w), v] [] (zp_M a, n) = _
      rw [e_R_layGalls_22, if_neg (show ¬ (9 : Int32) < zi w from fun z => absurd ((zi_l (i := 9) (by decide) (by omega)).mp z) (by omega)), q1, show zk_sm (d + 9) m_R_live [.ref 269, .int (-1)] (zp_M Q1, n) = _ from q2, zs_cV, Option.bind_some]
    · show Q2.2.1 296 (6 * w' + p) = _
      rw [f5.2.1 296 (by decide)]
      by_cases z : w' = w
      · rw [z, g1 p hp]; exact ra.2.1 p hp
      · rw [g2 _ (by omega)]; exact ga w' p (by omega) hp
    · show Q2.2.1 290 = _
      rw [f5.2.1 290 (by decide), fq.2.1 290 (by decide)]; exact sa
    · show Q2.2.1 286 j = _
      rw [k5 j hj, fq.2.1 286 (by decide)]; exact ka j hj
  · obtain ⟨a, v⟩ := a
    obtain ⟨ra, ga, sa, ka, fa⟩ := hI
    have ga : ∀ w' p, w' < 10 → p < 6 → a.2.1 296 (6 * w' + p) = (yev T (ytf nl L c0 i f) w').2.1 p := ga
    have sa : a.2.1 290 = P3.2.1 290 := sa
    have ka : ∀ j, 40 ≤ j → a.2.1 286 j = P.2.1 286 j := ka
    have fa : yF [(269, 32)] yr6 P a := fa
    obtain ⟨P4, e4, f4, a4, b4⟩ := zs_RtakeBack (P := a) (n := n) (d := d + 9) (k := 0) (by decide)
    have h286 : P4.2.1 286 = P.2.1 286 := by
      funext j
      by_cases q : j < 40
      · rw [a4 j q, sa, s3 j q]
      · rw [b4 j (by omega), ka j (by omega)]
    have f5 : yF [(269, 32)] yr6 P P4 := yF_t fa (yF_m f4 (fun _ h => by cases h) (fun k hk => by simp only [List.mem_cons, List.not_mem_nil, or_false] at hk ⊢; omega))
    refine ⟨P4, ?_, fun w p hw hp => by rw [f4.2.1 296 (by decide)]; exact ga w p (by omega) hp, yF_x f5 (fun k hk hk' => ?_)⟩
    · show zk_sf (d + 10) m_R_layGalls 22 [.ref 269, .int (zi i), .int (zi f), .int (zi 10), v] [] (zp_M a, n) = _
      rw [e_R_layGalls_22, if_pos (by decide), zp_Rv, Option.bind_some, show zk_sm (d + 9) m_R_takeBack [.ref 269, .int 0] (zp_M a, n) = _ from e4, zs_cV, Option.bind_some]
    · have : k = 286 := by simp only [List.mem_cons, List.not_mem_nil, or_false] at hk hk'; omega
      rw [this]; exact h286
end
