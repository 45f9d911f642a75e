/-! CALLS 31: ask, by both sides -/
noncomputable def ygx (U : Nat → Nat → yV) (nn : Nat) (N : yNo) (m q f : Nat) : Int32 := if yok (U f) nn N = true then (U f m).2.1 q else -1
theorem yev_B {T : yT} {V : yV} {h : Nat} (hB : yB T.1 V) (hh : h ≤ 9) (he : T.2.2.2.2.1 = zi h) (hO : yO T.1 V) (h0 : V.2.2.2 = 0) : ∀ w, w ≤ 20 → yB T.1 (yev T V w)
  | 0, _ => hB
  | w + 1, hw => yB_wk (yev_B hB hh he hO h0 w (by omega)) hh he (by rw [(yev_O hO h0 w (by omega)).2]; omega)
theorem ytf_B {np nl i f : Nat} {L : Nat → Nat × Nat × Nat} {c0 : Int32} : yB np (ytf nl L c0 i f) := ⟨fun _ _ => ⟨show ¬ (0 : Int32) < 0 by decide, show ¬ (99 : Int32) < 0 by decide⟩, fun _ _ _ => rfl, Nat.zero_le _⟩
theorem ybt_0 {U : Nat → Nat → yV} {nn : Nat} {N : yNo} : ybt U nn N 10 = 0 ↔ ¬ ∃ f, f < 10 ∧ yok (U f) nn N = true := by
  constructor
  · rintro h ⟨f, hf, e⟩
    have := ybt_b (U := U) (nn := nn) (N := N) hf
    rw [h, e] at this
    exact absurd this (by
      show ¬ (0 : Int32).toBitVec.getLsbD f = true
      rw [show (0 : Int32).toBitVec = 0#32 from rfl, BitVec.getLsbD_zero]
      exact Bool.false_ne_true)
  · intro h
    have e : ybt U nn N 10 = (List.range 10).foldl (fun a (_ : Nat) => a) (0 : Int32) := zl_fc (fun i a hi => if_neg (fun z => h ⟨i, hi, z⟩)) 0
    rw [e]; rfl
theorem ySc_g7 : ySc [(269, 32)] [278, 279, 288, 290, 296, 297] := ⟨by decide, by decide, by decide, by decide, by decide, by decide⟩
section
variable {P : zp} {n : Nat × Nat} {d nl nn : Nat} {T : yT} {L : Nat → Nat × Nat × Nat} {c0 : Int32} {N : yNo}
theorem zp_R48 : zk_gR (zp_M P, n) 269 12 48 = some 297 := zp_gR (by decide +kernel)
theorem zp_R24 : zk_gR (zp_M P, n) 269 12 24 = some 285 := zp_gR (by decide +kernel)
theorem zp_a297 : zp_ad 297 = (0, 10) := by decide +kernel
theorem zp_a285 : zp_ad 285 = (0, 24) := by decide +kernel
abbrev yg7 : List Nat := [278, 279, 288, 290, 296, 297]
theorem yTr_h {P' : zp} (f : yF [(269, 32)] yg7 P P') (h : yTr P nl L c0) : yTr P' nl L c0 := by
  obtain ⟨s1, s2, s3, s4⟩ := h
  refine ⟨(f.1 269 26 (by decide)).trans s1, s2, fun l hl => ?_, ?_⟩
  · rw [f.2.1 285 (by decide)]; exact s3 l hl
  · rw [f.2.1 283 (by decide)]; exact s4
theorem yNR_h {P' : zp} (f : yF [(269, 32)] yg7 P P') (h : yNR P nn N) : yNR P' nn N := by
  obtain ⟨n1, n2, n3⟩ := h
  refine ⟨(f.1 269 46 (by decide)).trans n1, n2, fun i hi => ?_⟩
  rw [f.2.1 292 (by decide), f.2.1 293 (by decide), f.2.1 294 (by decide), f.2.1 295 (by decide)]
  exact n3 i hi
theorem zs_Rask31 (hp0 : 0 < T.1) (hB : yNB T.1 nn N) (hL : ∀ l, l < nl → (L l).1 < T.1 ∧ (L l).2.1 < T.1 ∧ (L l).1 ≠ (L l).2.1 ∧ (L l).2.2 < 10) {h : Nat} (hh : h ≤ 9) (he : T.2.2.2.2.1 = zi h) (h6 : T.1 ≤ 6) {i m : Nat} (hi : i < nl) (hm : m ≤ 9) : ∀ (j f c : Nat) (P : zp), f + j = 10 → c ≤ f → yTR P T → yTr P nl L c0 → yNR P nn N → (∀ f', f' < f → P.2.1 297 f' = ygx (fun f => yev T (ytf nl L c0 i f)) nn N m (L i).2.1 f') → (0 < c ↔ ∃ f', f' < f ∧ yok (yev T (ytf nl L c0 i f')) nn N = true) → ∃ P' c', zk_sf (d + 12) m_R_ask 31 [.ref 269, .int (zi i), .int (zi m), .int (zi c), .int (-1), .int 0, .int (zi f), .retAddr 0, .retAddr 0] [] (zp_M P, n) = zk_sf (d + 12) m_R_ask 107 [.ref 269, .int (zi i), .int (zi m), .int (zi c'), .int (-1), .int 0, .int 0, .retAddr 0, .retAddr 0] [] (zp_M P', n) ∧ c' ≤ 10 ∧ (0 < c' ↔ ∃ f', f' < 10 ∧ yok (yev T (ytf nl L c0 i f')) nn N = true) ∧ (∀ f', f' < 10 → P'.2.1 297 f' = ygx (fun f => yev T (ytf nl L c0 i f)) nn N m (L i).2.1 f') ∧ yF [(269, 32)] yg7 P P'
  | 0, f, c, P, hf, hc, hT, hr, hN, hg, hcc => by
    have hf : f = 10 := hf
    subst hf
    exact ⟨P, c, by rw [e_R_ask_31, if_pos (by decide)], hc, hcc, hg, yF_r⟩
  | j + 1, f, c, P, hf, hc, hT, hr, hN, hg, hcc => by
    obtain ⟨P1, e1, g1, f1⟩ := zs_RisFit (d := d) (n := n) hT hp0 hr hN hB hL hi (f := f) (by omega)
    have F1 : yF [(269, 32)] yg7 P P1 := yF_m f1 (fun _ z => z) (fun k hk => by simp only [List.mem_cons, List.not_mem_nil, or_false] at hk ⊢; omega)
    have u297 : P1.2.1 297 = P.2.1 297 := f1.2.1 297 (by decide)
    have h8 : nl ≤ 8 := hr.2.1
    have hs := e_R_ask_31 (d + 11) 269 (zi i) (zi m) (zi c) (-1) 0 (zi f) (zp_M P, n)
    rw [if_neg (show ¬ (9 : Int32) < zi f from zi_9 (by omega)), zp_R48, Option.bind_some, zp_Rv, Option.bind_some, e1, zs_cI, Option.bind_some, zp_ib] at hs
    have fin : ∀ (x : Int32) (c2 : Nat) (P2 : zp), P2 = zp_sA P1 297 f x → x = ygx (fun f => yev T (ytf nl L c0 i f)) nn N m (L i).2.1 f → c2 ≤ f + 1 → (0 < c2 ↔ ∃ f', f' < f + 1 ∧ yok (yev T (ytf nl L c0 i f')) nn N = true) → zk_sf (d + 12) m_R_ask 31 [.ref 269, .int (zi i), .int (zi m), .int (zi c), .int (-1), .int 0, .int (zi f), .retAddr 0, .retAddr 0] [] (zp_M P, n) = zk_sf (d + 12) m_R_ask 31 [.ref 269, .int (zi i), .int (zi m), .int (zi c2), .int (-1), .int 0, .int (zi (f + 1)), .retAddr 0, .retAddr 0] [] (zp_M P2, n) → ∃ P' c', zk_sf (d + 12) m_R_ask 31 [.ref 269, .int (zi i), .int (zi m), .int (zi c), .int (-1), .int 0, .int (zi f), .retAddr 0, .retAddr 0] [] (zp_M P, n) = zk_sf (d + 12) m_R_ask 107 [.ref 269, .int (zi i), .int (zi m), .int (zi c'), .int (-1), .int 0, .int 0, .retAddr 0, .retAddr 0] [] (zp_M P', n) ∧ c' ≤ 10 ∧ (0 < c' ↔ ∃ f', f' < 10 ∧ yok (yev T (ytf nl L c0 i f')) nn N = true) ∧ (∀ f', f' < 10 → P'.2.1 297 f' = ygx (fun f => yev T (ytf nl L c0 i f)) nn N m (L i).2.1 f') ∧ yF [(269, 32)] yg7 P P' := fun x c2 P2 hP2 hx hc2 hcc2 e => by
      have F2 : yF [(269, 32)] yg7 P1 P2 := by rw [hP2]; exact yF_A (by decide)
      have F12 := yF_t F1 F2
      obtain ⟨P3, c3, e3, a3, b3, g3, F3⟩ := zs_Rask31 hp0 hB hL hh he h6 hi hm j (f + 1) c2 P2 (by omega) hc2 (yTR_F (by decide) F12 hT) (yTr_h F12 hr) (yNR_h F12 hN) (fun f' hf' => by
        rw [hP2]
        by_cases z : f' = f
        · rw [z, zp_a9]; exact hx
        · rw [zp_a8 z, u297]; exact hg f' (by omega)) hcc2
      exact ⟨P3, c3, e.trans e3, a3, b3, g3, yF_t F12 F3⟩
    cases hb : yok (yev T (ytf nl L c0 i f)) nn N with
    | false =>
      rw [hb, cond_false, zp_sti zp_a297 (show f < 10 by omega) (by decide), Option.bind_some, zp_R48, Option.bind_some, zp_ldi zp_a297 (show f < 10 by omega) (by decide), Option.bind_some, zp_a9, if_pos rfl, zi_p, zi_s] at hs
      refine fin _ c _ rfl ?_ (by omega) ?_ hs
      · unfold ygx; rw [hb, if_neg Bool.false_ne_true]
      · rw [hcc]
        constructor
        · rintro ⟨f', a, b⟩; exact ⟨f', by omega, b⟩
        · rintro ⟨f', a, b⟩
          refine ⟨f', ?_, b⟩
          by_cases z : f' = f
          · rw [z, hb] at b; cases b
          · omega
    | true =>
      have r1 := yTr_g f1 hr
      have hq6 : (L i).2.1 < 6 := by have := (hL i hi).2.1; omega
      have gB := (yev_B (h := h) (ytf_B (c0 := c0) (L := L) (nl := nl) (i := i) (f := f)) hh he (ytf_O hL hi (by omega)) rfl m (by omega)).1 (L i).2.1 hq6
      have hne : ¬ (yev T (ytf nl L c0 i f) m).2.1 (L i).2.1 = -1 := fun z => gB.1 (by rw [z]; decide)
      rw [hb, cond_true, zp_R47, Option.bind_some, zp_R24, Option.bind_some, show 3 * zi i + 1 = zi (3 * i + 1) from zi_3c i 1, zp_ldi zp_a285 (show 3 * i + 1 < 24 by omega) (by decide), Option.bind_some, (r1.2.2.1 i hi).2.1, zi_6c, zp_ldi zp_a296 (show 6 * m + (L i).2.1 < 60 by omega) (by decide), Option.bind_some, g1 m _ hm hq6, zp_sti zp_a297 (show f < 10 by omega) (by decide), Option.bind_some, zp_R48, Option.bind_some, zp_ldi zp_a297 (show f < 10 by omega) (by decide), Option.bind_some, zp_a9, if_neg hne, zi_s, zi_s] at hs
      refine fin _ (c + 1) _ rfl ?_ (by omega) ?_ hs
      · unfold ygx; rw [hb, if_pos rfl]
      · exact ⟨fun _ => ⟨f, by omega, hb⟩, fun _ => by omega⟩
/-- the fairest mark, by the reference -/
theorem zs_Rask124 {B : Nat → Bool} {G : Nat → Int32} (hG : ∀ f, f < 10 → B f = true → ¬ G f = -1) (hg : ∀ f, f < 10 → P.2.1 297 f = if B f = true then G f else -1) {x y c b l : Int32} {m : Nat} : zk_sf (d + 1) m_R_ask 124 [.ref 269, .int x, .int y, .int c, .int b, .int l, .int (zi m), .int 0, .int (zi 0)] [] (zp_M P, n) = zk_sf (d + 1) m_R_ask 124 [.ref 269, .int x, .int y, .int c, .int b, .int l, .int (zi m), .int (yap_ B G m), .int (zi 10)] [] (zp_M P, n) := by
  refine zl_ind (m := 10) (L := fun f (a : Int32) => zk_sf (d + 1) m_R_ask 124 [.ref 269, .int x, .int y, .int c, .int b, .int l, .int (zi m), .int a, .int (zi f)] [] (zp_M P, n)) (I := fun f a => a = (List.range f).foldl (fun a f => if B f = true then (if G f < zi m then a + (-1) else a + 1) else a) 0) (Q := fun r => r = zk_sf (d + 1) m_R_ask 124 [.ref 269, .int x, .int y, .int c, .int b, .int l, .int (zi m), .int (yap_ B G m), .int (zi 10)] [] (zp_M P, n)) (fun f a hf hI => Or.inr ?_) (fun a hI => ?_) (a := 0) rfl
  · show ∃ a', zk_sf (d + 1) m_R_ask 124 [.ref 269, .int x, .int y, .int c, .int b, .int l, .int (zi m), .int a, .int (zi f)] [] (zp_M P, n) = _ ∧ a' = _
    rw [zl_rs, ← hI, e_R_ask_124, if_neg (zi_9 hf), zp_R48, Option.bind_some, zp_ldi zp_a297 hf (by decide), Option.bind_some, hg f hf, zi_s]
    cases hb : B f with
    | false => exact ⟨a, by rw [if_neg Bool.false_ne_true, if_pos rfl, zi_p], by rw [if_neg Bool.false_ne_true]⟩
    | true =>
      rw [if_pos rfl, if_pos rfl, if_neg (hG f hf hb), Option.bind_some, zp_ldi zp_a297 hf (by decide), Option.bind_some, hg f hf, hb, if_pos rfl]
      by_cases z : G f < zi m
      · exact ⟨a + (-1), by rw [if_pos z], by rw [if_pos z]⟩
      · exact ⟨a + 1, by rw [if_neg z], by rw [if_neg z]⟩
  · show zk_sf (d + 1) m_R_ask 124 [.ref 269, .int x, .int y, .int c, .int b, .int l, .int (zi m), .int a, .int (zi 10)] [] (zp_M P, n) = _
    rw [hI]; rfl
theorem zs_Rask107 {B : Nat → Bool} {G : Nat → Int32} (hG : ∀ f, f < 10 → B f = true → ¬ G f = -1) (hg : ∀ f, f < 10 → P.2.1 297 f = if B f = true then G f else -1) {x y : Int32} {c : Nat} (hc : c ≤ 10) : zk_sf (d + 1) m_R_ask 107 [.ref 269, .int x, .int y, .int (zi c), .int (-1), .int 0, .int 0, .retAddr 0, .retAddr 0] [] (zp_M P, n) = some (some (.int (if 0 < c then ((List.range 100).foldl (yfmk B G) (-1, 0)).1 else -1)), (zp_M P, n)) := by
  by_cases q : 0 < c
  · rw [if_pos q]
    refine zl_ind (m := 100) (L := fun m (a : Int32 × Int32 × Value × Value) => zk_sf (d + 1) m_R_ask 107 [.ref 269, .int x, .int y, .int (zi c), .int a.1, .int a.2.1, .int (zi m), a.2.2.1, a.2.2.2] [] (zp_M P, n)) (I := fun m a => (a.1, a.2.1) = (List.range m).foldl (yfmk B G) (-1, 0)) (Q := fun r => r = some (some (.int ((List.range 100).foldl (yfmk B G) (-1, 0)).1), (zp_M P, n))) (fun m a hm hI => Or.inr ?_) (fun a hI => ?_) (a := (-1, 0, .retAddr 0, .retAddr 0)) rfl
    · obtain ⟨b, l, v, v'⟩ := a
      have hI : (b, l) = (List.range m).foldl (yfmk B G) (-1, 0) := hI
      show ∃ a' : Int32 × Int32 × Value × Value, zk_sf (d + 1) m_R_ask 107 [.ref 269, .int x, .int y, .int (zi c), .int b, .int l, .int (zi m), v, v'] [] (zp_M P, n) = _ ∧ (a'.1, a'.2.1) = _
      rw [zl_rs, ← hI, e_R_ask_107, if_neg (show ¬ (99 : Int32) < zi m from fun z => absurd ((zi_l (i := 99) (by decide) (by omega)).mp z) (by omega)), if_pos ((zi_0 (by omega)).mpr q), show zk_sf (d + 1) m_R_ask 124 [.ref 269, .int x, .int y, .int (zi c), .int b, .int l, .int (zi m), .int 0, .int 0] [] (zp_M P, n) = _ from zs_Rask124 hG hg, e_R_ask_124, if_pos zi_9n, zs_abs, zs_cI, Option.bind_some, zi_s]
      show ∃ a' : Int32 × Int32 × Value × Value, _ ∧ (a'.1, a'.2.1) = (if b = -1 then (zi m, zq_abs (yap_ B G m)) else if zq_abs (yap_ B G m) < l then (zi m, zq_abs (yap_ B G m)) else (b, l))
      by_cases z : b = -1
      · exact ⟨(zi m, zq_abs (yap_ B G m), .int (yap_ B G m), .int (zi 10)), by rw [if_pos z], by rw [if_pos z]⟩
      · rw [if_neg z, if_neg z, Option.bind_some]
        by_cases w : zq_abs (yap_ B G m) < l
        · exact ⟨(zi m, zq_abs (yap_ B G m), .int (yap_ B G m), .int (zi 10)), by rw [if_pos w, zs_abs, zs_cI, Option.bind_some], by rw [if_pos w]⟩
        · exact ⟨(b, l, .int (yap_ B G m), .int (zi 10)), by rw [if_neg w], by rw [if_neg w]⟩
    · obtain ⟨b, l, v, v'⟩ := a
      have hI : (b, l) = (List.range 100).foldl (yfmk B G) (-1, 0) := hI
      show zk_sf (d + 1) m_R_ask 107 [.ref 269, .int x, .int y, .int (zi c), .int b, .int l, .int (zi 100), v, v'] [] (zp_M P, n) = _
      rw [e_R_ask_107, if_pos (by decide), ← hI]
  · rw [if_neg q, e_R_ask_107, if_neg (by decide), if_neg (fun z => q ((zi_0 (by omega)).mp z))]
theorem yc_ask (hI : yI P n.1) {x k : Int32} : yOK (d + 20) P n m_SaddlerKnows_ask m_R_ask [.int x, .int k] := by
  obtain ⟨h0, T, V, nl, L, c0, hP⟩ := id hI
  have hT := hP.1.1
  have hR := hP.1.2.1
  have h6 := hT.2.1
  obtain ⟨sC, sR⟩ := yX_s hP.1.2.2.1
  obtain ⟨hh, hh9, heh⟩ := hP.1.2.2.1.2.2.2.2.2.2.2
  have he : T.2.2.2.2.1 = zi hh := hT.2.2.2.1.symm.trans heh
  have hL := hP.1.2.2.1.2.2.2.2.1
  have h8 : nl ≤ 8 := sC.2.1
  have hz : T.1 = 0 → nl = 0 := fun z => by
    rcases Nat.eq_zero_or_pos nl with y | y
    · exact y
    · have := (hL 0 y).1; omega
  obtain ⟨nn, N, nC, nR, nB⟩ := yN_o h6 hP.1.2.2.2.2.1
  have hin9 : ∀ s : zk_S, zk_sm (d + 19) m_R_in [.int k, .int 1, .int 9] s = some (some (.int (zp_b (!decide (k < 1) && !decide (9 < k)))), s) := fun s => zs_Rin
  cases hx : yrg nl x with
  | false =>
    refine yOK_q (v := -1) (P1 := P) (P2 := P) ?_ ?_ hI
    · rw [e_SaddlerKnows_ask, zp_Cv, Option.bind_some, yg_told sC.1 h8, hx, zs_cI, Option.bind_some, zp_ib, cond_false]
    · rw [e_R_ask, zp_Rv, Option.bind_some, yg_Rtold hR sR.1 h8 hz, hx, zs_cI, Option.bind_some, zp_ib, cond_false]
  | true =>
    by_cases q1 : k < 1
    · refine yOK_q (v := -1) (P1 := P) (P2 := P) ?_ ?_ hI
      · rw [e_SaddlerKnows_ask, zp_Cv, Option.bind_some, yg_told sC.1 h8, hx, zs_cI, Option.bind_some, zp_ib, cond_true, if_pos q1]
      · rw [e_R_ask, zp_Rv, Option.bind_some, yg_Rtold hR sR.1 h8 hz, hx, zs_cI, Option.bind_some, zp_ib, cond_true, hin9, decide_eq_true q1, zs_cI, Option.bind_some, zp_ib, Bool.not_true, Bool.false_and, cond_false]
    · by_cases q2 : 9 < k
      · refine yOK_q (v := -1) (P1 := P) (P2 := P) ?_ ?_ hI
        · rw [e_SaddlerKnows_ask, zp_Cv, Option.bind_some, yg_told sC.1 h8, hx, zs_cI, Option.bind_some, zp_ib, cond_true, if_neg q1, if_pos q2]
        · rw [e_R_ask, zp_Rv, Option.bind_some, yg_Rtold hR sR.1 h8 hz, hx, zs_cI, Option.bind_some, zp_ib, cond_true, hin9, decide_eq_false q1, decide_eq_true q2, zs_cI, Option.bind_some, zp_ib, Bool.not_true, Bool.and_false, cond_false]
      · obtain ⟨i, hi, rfl⟩ := yrg_o hx
        have hp0 : 0 < T.1 := by have := (hL i hi).1; omega
        obtain ⟨m, hm, rfl⟩ := zi_r (show ¬ k < 0 from fun y => q1 (Int32.lt_trans y (by decide)))
        have hm1 : 1 ≤ m := by
          by_cases y : 1 ≤ m
          · exact y
          · exact absurd ((zi_l (m := 1) hm (by decide)).mpr (by omega)) q1
        have hm9 : m ≤ 9 := by
          by_cases y : m ≤ 9
          · exact y
          · exact absurd ((zi_l (i := 9) (by decide) hm).mpr (by omega)) q2
        obtain ⟨P1, e1, b1, g1, F1⟩ := zs_tryFits (d := d + 9) (n := n) (m := m) hT nC sC nB hL hi hm9
        have hP1 := yP_F ySc_ff F1 hP
        have eC : zk_sm (d + 20) m_SaddlerKnows_ask [.ref 12, .int (zi i), .int (zi m)] (zp_M P, n) = some (some (.int (if P1.1 249 8 = 0 then -1 else ((List.range 100).foldl (yfmk (fun f => yok (yev T (ytf nl L c0 i f)) nn N) (fun f => (yev T (ytf nl L c0 i f) m).2.1 (L i).2.1)) (-1, 0)).1)), (zp_M P1, n)) := by
          rw [e_SaddlerKnows_ask, zp_Cv, Option.bind_some, yg_told sC.1 h8, hx, zs_cI, Option.bind_some, zp_ib, cond_true, if_neg q1, if_neg q2, zp_C7, Option.bind_some, zp_Nv, Option.bind_some, show zk_sm (d + 19) m_Seeing_tryFits [.ref 249, .int (zi i), .int (zi m)] (zp_M P, n) = _ from e1, zs_cV, Option.bind_some, zp_C7, Option.bind_some, zp_Nv, Option.bind_some, show zk_sm (d + 19) m_Seeing_fairestMark [.ref 249] (zp_M P1, n) = _ from zs_fairest (d := d + 17) (B := fun f => yok (yev T (ytf nl L c0 i f)) nn N) (G := fun f => (yev T (ytf nl L c0 i f) m).2.1 (L i).2.1) (fun f hf => by rw [b1]; exact ybt_b hf) (fun f hf ho => g1 f hf ho hm1), zs_cI, Option.bind_some]
        have sR1 := (yX_s hP1.1.2.2.1).2
        have nR1 : yNR P1 nn N := by
          obtain ⟨n1, n2, n3⟩ := nR
          refine ⟨(F1.1 269 46 (by decide)).trans n1, n2, fun j hj => ?_⟩
          rw [F1.2.1 292 (by decide), F1.2.1 293 (by decide), F1.2.1 294 (by decide), F1.2.1 295 (by decide)]
          exact n3 j hj
        obtain ⟨P2, c2, e2, a2, d2, g2, F2⟩ := zs_Rask31 (d := d + 8) (n := n) hp0 nB hL hh9 he h6 hi hm9 10 0 0 P1 rfl (Nat.le_refl _) hP1.1.2.1 sR1 nR1 (fun f' z => absurd z (Nat.not_lt_zero f')) ⟨fun z => absurd z (Nat.lt_irrefl 0), fun ⟨f', z, _⟩ => absurd z (Nat.not_lt_zero f')⟩
        have hq6 : (L i).2.1 < 6 := by have := (hL i hi).2.1; omega
        have e3 := zs_Rask107 (P := P2) (n := n) (d := d + 19) (B := fun f => yok (yev T (ytf nl L c0 i f)) nn N) (G := fun f => (yev T (ytf nl L c0 i f) m).2.1 (L i).2.1) (fun f hf _ => by
          have gB := (yev_B (h := hh) (ytf_B (c0 := c0) (L := L) (nl := nl) (i := i) (f := f)) hh9 he (ytf_O hL hi hf) rfl m (by omega)).1 (L i).2.1 hq6
          exact fun z => gB.1 (by rw [z]; decide)) g2 (x := zi i) (y := zi m) a2
        refine yOK_q (v := if 0 < c2 then ((List.range 100).foldl (yfmk (fun f => yok (yev T (ytf nl L c0 i f)) nn N) (fun f => (yev T (ytf nl L c0 i f) m).2.1 (L i).2.1)) (-1, 0)).1 else -1) (P1 := P1) (P2 := P2) (eC.trans ?_) ?_ ⟨h0, T, V, nl, L, c0, yP_F ySc_g7 F2 hP1⟩
        · by_cases z : 0 < c2
          · rw [if_pos z, if_neg (fun w => by rw [b1] at w; exact ybt_0.mp w (d2.mp z))]
          · rw [if_neg z, if_pos (by rw [b1]; exact ybt_0.mpr (fun w => z (d2.mpr w)))]
        · rw [e_R_ask, zp_Rv, Option.bind_some, yg_Rtold hP1.1.2.1 sR1.1 h8 hz, hx, zs_cI, Option.bind_some, zp_ib, cond_true, hin9, decide_eq_false q1, decide_eq_false q2, zs_cI, Option.bind_some, zp_ib, Bool.not_false, Bool.true_and, cond_true]
          exact e2.trans e3
end
