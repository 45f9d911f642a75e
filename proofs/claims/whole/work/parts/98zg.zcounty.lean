/-! PARSING 22: counties: all the clauses -/
def yovd (o : yPd) : Int32 := match o.2 with | some _ => -1 | none => zi o.1
/-- a county from here on, by both sides -/
def yZw (n : Nat × Nat) (L : Nat) (xs : Nat → Int32) (B : Nat → Nat) (len : Nat) (D : yD) (m k : Nat) (o : yPd) : Prop := (o.1 ≤ len ∧ ∀ D', o.2 = some D' → yDv D' ∧ yWh D') ∧
  (∀ (P : zp) (e : Nat), 22 ≤ e → yTp P B len → P.1 13 1 = zi m → zk_kE L xs (zp_M P, n) → yDp P D → ∃ P', zk_sf (e + 1) m_CountyReader_firstFault 38 [.ref 15, .int (zi k)] [] (zp_M P, n) = some (some (.int (yovd o)), (zp_M P', n)) ∧ yF yfZ ykZ P P' ∧ ∀ D', o.2 = some D' → yDp P' D') ∧
  ∀ (Q : zp) (e : Nat) (v3 : Value), 22 ≤ e → yTq Q B len → Q.1 269 3 = zi m → Q.1 269 4 = -1 → yDq Q D → ∃ Q', zk_sf (e + 1) m_R_readCounty 49 [.ref 269, .int (zp_b D.1.2.2), .int 1, v3] [] (zp_M Q, n) = some (some (.int (yovd o)), (zp_M Q', n)) ∧ yF yfY ykY Q Q' ∧ ∀ D', o.2 = some D' → yDq Q' D'
section
variable {n : Nat × Nat} {L len : Nat} {xs : Nat → Int32} {B : Nat → Nat}
/-- no semicolon follows: the loop ends -/
theorem zs_R214 {Q : zp} {e p : Nat} {tf c : Int32} (hT : yTq Q B len) (hp : Q.1 269 3 = zi p) (hp2 : ysk B len p = p) (hl : p ≤ len) (hw : Q.1 269 4 = -1) (h59 : yhb B len p ≠ 59) : ∃ Q', zk_sf (e + 2) m_R_readCounty 214 [.ref 269, .int tf, .int 1, .int c] [] (zp_M Q, n) = zk_sf (e + 2) m_R_readCounty 49 [.ref 269, .int tf, .int 0, .int c] [] (zp_M Q', n) ∧ Q'.1 269 3 = zi p ∧ yF [(269, 3)] [] Q Q' := by
  obtain ⟨Q1, e1, g1, f1⟩ := zs_Rlook (d := e) (n := n) hT hp (by omega)
  rw [hp2] at e1 g1
  refine ⟨zp_sF Q1 269 3 (zi p), ?_, zp_f9, yF_t f1 (yF_f (by decide))⟩
  rw [e_R_readCounty_214, zp_R4', Option.bind_some, hw, if_pos rfl, zp_Rv, Option.bind_some, e1, zs_cI, Option.bind_some, if_neg (show ¬ yhb B len p = 59 from h59), e_R_readCounty_235, e_R_readCounty_236, zp_R3', Option.bind_some, g1, if_pos rfl, e_R_readCounty_251, zi_p, zp_R3p, Option.bind_some]
/-- a fault that was written -/
theorem zs_R214w {Q : zp} {e p : Nat} {tf c : Int32} (hw : Q.1 269 4 = zi p) (hl : p ≤ 240) : zk_sf (e + 1) m_R_readCounty 214 [.ref 269, .int tf, .int 1, .int c] [] (zp_M Q, n) = some (some (.int (zi p)), (zp_M (zp_sF Q 269 3 (Q.1 269 3)), n)) := by
  have h : ¬ zi p = -1 := zi_n1 (by omega)
  rw [e_R_readCounty_214, zp_R4', Option.bind_some, hw, if_neg h, e_R_readCounty_235, e_R_readCounty_236, zp_R3', Option.bind_some, if_pos rfl, e_R_readCounty_251, zi_p, zp_R3p, Option.bind_some, e_R_readCounty_49, if_pos rfl, zp_R4', Option.bind_some, show (zp_sF Q 269 3 (Q.1 269 3)).1 269 4 = zi p from (zp_f8 (by decide)).trans hw, if_neg h, Option.bind_some]
theorem zs_R49b {Q : zp} {e p : Nat} {tf c : Int32} (hT : yTq Q B len) (hp : Q.1 269 3 = zi p) (hp2 : ysk B len p = p) (hl : p ≤ len) (hw : Q.1 269 4 = -1) (hb : yhb B len p ≠ -1) : ∃ Q', zk_sf (e + 2) m_R_readCounty 49 [.ref 269, .int tf, .int 0, .int c] [] (zp_M Q, n) = some (some (.int (zi p)), (zp_M Q', n)) ∧ yF yfY ykY Q Q' := by
  obtain ⟨Q1, e1, g1, f1⟩ := zs_Rlook (d := e) (n := n) hT hp (by omega)
  rw [hp2] at e1 g1
  refine ⟨zp_sF Q1 269 4 (zi p), ?_, yF_t (yF_Y1 f1) (yF_f (by decide))⟩
  rw [e_R_readCounty_49, if_pos rfl, zp_R4', Option.bind_some, hw, if_pos rfl, zp_Rv, Option.bind_some, e1, zs_cI, Option.bind_some, if_neg (show ¬ yhb B len p = -1 from hb), zp_Rv, Option.bind_some, zs_Rbad g1 ((f1.1 269 4 (by decide)).trans hw), zs_cV, Option.bind_some, zp_R4', Option.bind_some, show (zp_sF Q1 269 4 (zi p)).1 269 4 = zi p from zp_f9]
set_option maxHeartbeats 1000000 in
theorem yZ_w (hB : ∀ i, i < len → 1 ≤ B i ∧ B i < 256) (h240 : len ≤ 240) : ∀ (j m k : Nat) (D : yD), len - m = j → m ≤ len → k ≤ m → yDv D → ∃ o, yZw n L xs B len D m k o := by
  intro j
  induction j using Nat.strongRecOn with
  | _ j ih =>
  intro m k D hj hm hk hv
  obtain ⟨o1, ⟨o2, o3⟩, oC, oR⟩ := yZ_clause (n := n) (L := L) (xs := xs) (D := D) hB h240 hv hm
  have h240' : ¬ (240 : Int32) < zi k := fun z => absurd ((zi_l (i := 240) (by decide) (by omega)).mp z) (by omega)
  -- the class up to its clause
  have CC : ∀ (P : zp) (e : Nat), 22 ≤ e → yTp P B len → P.1 13 1 = zi m → zk_kE L xs (zp_M P, n) → yDp P D → ∃ P', yF yfZ ykZ P P' ∧ P'.1 13 1 = zi o1.1 ∧ zk_kE L xs (zp_M P', n) ∧ (∀ D', o1.2 = some D' → yDp P' D') ∧ zk_sf (e + 1) m_CountyReader_firstFault 38 [.ref 15, .int (zi k)] [] (zp_M P, n) = if yobd o1 = 0 then some (some (.int (zi o1.1)), (zp_M P', n)) else (zk_cI (zk_sm e m_Tape_sign [.ref 13] (zp_M P', n))).bind fun p7 => if p7.1 = (-1) then (zk_gR p7.2 15 0 0).bind fun b8 => (zk_rv p7.2 b8 10).bind fun _ => (zk_cI (zk_sm e m_Told_isWhole [.ref b8] p7.2)).bind fun p9 => if p9.1 = 0 then (zk_gR p9.2 15 0 1).bind fun b10 => (zk_gI p9.2 b10 9 1).bind fun x11 => some (some (.int x11), p9.2) else some (some (.int (-1)), p9.2) else (zk_gR p7.2 15 0 1).bind fun b12 => (zk_rv p7.2 b12 9).bind fun _ => (zk_cI (zk_sm e m_Tape_takes [.ref b12, .int 59] p7.2)).bind fun p13 => if p13.1 = 0 then (zk_gR p13.2 15 0 1).bind fun b14 => (zk_gI p13.2 b14 9 1).bind fun x15 => some (some (.int x15), p13.2) else zk_sf (e + 1) m_CountyReader_firstFault 38 [.ref 15, .int (zi (k + 1))] [] p13.2 := by
    intro P e he hT hmk hE hD
    obtain ⟨P', e1, F1, g1, E1, X1⟩ := oC P e (by omega) hT hmk hE hD
    refine ⟨P', F1, g1, E1, X1, ?_⟩
    rw [e_CountyReader_firstFault_38, if_neg h240', zp_Zv, Option.bind_some, e1, zs_cI, Option.bind_some, zp_Z1, Option.bind_some, Option.bind_some, zp_P1, Option.bind_some, g1, zp_Pv', Option.bind_some, zi_s]
  cases ho : o1.2 with
  | none =>
    refine ⟨(o1.1, none), ⟨o2, fun D' h => by cases h⟩, fun P e he hT hmk hE hD => ?_, fun Q e v3 he hT hmk hw hD => ?_⟩
    · obtain ⟨P', F1, g1, E1, X1, ea⟩ := CC P e he hT hmk hE hD
      refine ⟨P', ea.trans (if_pos ?_), F1, fun D' h => by cases h⟩
      unfold yobd; rw [ho]
    · obtain ⟨e, rfl⟩ : ∃ e', e = e' + 1 := ⟨e - 1, by omega⟩
      obtain ⟨Q1, c, tf, e1, F1, s1⟩ := oR Q (e + 1) v3 (by omega) hT hmk hw hD
      unfold yqd at s1
      rw [ho] at s1
      have T1 := yTq_F (by decide) (by decide) F1 hT
      rcases s1 with s1 | ⟨w1, g1, p1, b1, c1⟩
      · exact ⟨_, e1.trans (zs_R214w s1 (by omega)), yF_t F1 (yF_f (by decide)), fun D' h => by cases h⟩
      · obtain ⟨Q2, e2, g2, f2⟩ := zs_R214 (n := n) (e := e) (tf := tf) (c := c) T1 g1 p1 o2 w1 c1
        obtain ⟨Q3, e3, F3⟩ := zs_R49b (n := n) (e := e) (tf := tf) (c := c) (yTq_F (by decide) (by decide) f2 T1) g2 p1 o2 ((f2.1 269 4 (by decide)).trans w1) b1
        exact ⟨Q3, (e1.trans e2).trans e3, yF_t F1 (yF_t (yF_Y1 f2) F3), fun D' h => by cases h⟩
  | some D1 =>
    obtain ⟨k1, k2, k3⟩ := o3 D1 ho
    have hob : ¬ yobd o1 = 0 := by unfold yobd; rw [ho]; exact zi_1n
    by_cases hend : yhb B len o1.1 = -1
    · -- the tape ends
      have CE : ∀ (v : Int32) (o : yPd), yovd o = v → (∀ D', o.2 = some D' → D' = D1) → (∀ (P : zp) (d : Nat), yDp P D1 → zk_sm (d + 2) m_Told_isWhole [.ref 16] (zp_M P, n) = some (some (.int (if v = -1 then 1 else 0)), (zp_M P, n))) → (v = -1 ∨ v = zi o1.1) → (∀ (Q : zp) (d : Nat), yDq Q D1 → zk_sm d m_R_isWhole [.ref 269] (zp_M Q, n) = some (some (.int (if v = -1 then 1 else 0)), (zp_M Q, n))) → (o.1 ≤ len ∧ ∀ D', o.2 = some D' → yDv D' ∧ yWh D') → yZw n L xs B len D m k o := by
        intro v o hvo hDo hwC hv1 hwR hp
        refine ⟨hp, fun P e he hT hmk hE hD => ?_, fun Q e v3 he hT hmk hw hD => ?_⟩
        · obtain ⟨P1, F1, g1, E1, X1, ea⟩ := CC P e he hT hmk hE hD
          obtain ⟨e, rfl⟩ : ∃ e', e = e' + 2 := ⟨e - 2, by omega⟩
          obtain ⟨P2, e2, g2, f2⟩ := zs_sign (d := e + 2) (n := n) (yTp_F (by decide) (by decide) F1 hT) g1 o2
          rw [k2] at e2 g2
          have D2 := yDp_F (by decide) (by decide) f2 (X1 D1 ho)
          refine ⟨P2, ?_, yF_t F1 (yF_Z1 f2), fun D' h => by rw [hDo D' h]; exact D2⟩
          rw [ea, if_neg hob, e2, zs_cI, Option.bind_some, if_pos (show yhb B len o1.1 = -1 from hend), zp_Z0, Option.bind_some, zz_Tv, Option.bind_some, hwC P2 e D2, zs_cI, Option.bind_some]
          by_cases z : v = -1
          · rw [if_pos z, if_neg zi_1n, hvo, z]
          · rw [if_neg z, if_pos rfl, zp_Z1, Option.bind_some, zp_P1, Option.bind_some, g2, hvo, hv1.resolve_left z]
        · obtain ⟨e, rfl⟩ : ∃ e', e = e' + 1 := ⟨e - 1, by omega⟩
          obtain ⟨Q1, c, tf, e1, F1, s1⟩ := oR Q (e + 1) v3 (by omega) hT hmk hw hD
          unfold yqd at s1
          rw [ho] at s1
          obtain ⟨s1, s2, s3, s4⟩ := s1
          have T1 := yTq_F (by decide) (by decide) F1 hT
          obtain ⟨Q2, e2, g2, f2⟩ := zs_R214 (n := n) (e := e) (tf := tf) (c := c) T1 s1 k2 o2 s2 (fun z => absurd (hend.symm.trans z) (by decide))
          have T2 := yTq_F (by decide) (by decide) f2 T1
          obtain ⟨Q3, e3, g3, f3⟩ := zs_Rlook (d := e) (n := n) T2 g2 (by omega)
          rw [k2] at e3 g3
          have D3 := yDq_F (by decide) (by decide) f3 (yDq_F (by decide) (by decide) f2 s3)
          have w2 : Q2.1 269 4 = -1 := (f2.1 269 4 (by decide)).trans s2
          have w3 : Q3.1 269 4 = -1 := (f3.1 269 4 (by decide)).trans w2
          have F3 : yF yfY ykY Q Q3 := yF_t F1 (yF_t (yF_Y1 f2) (yF_Y1 f3))
          have hs := e_R_readCounty_49 (e + 1) 269 tf 0 (.int c) (zp_M Q2, n)
          rw [if_pos rfl, zp_R4', Option.bind_some, w2, if_pos rfl, zp_Rv, Option.bind_some, e3, zs_cI, Option.bind_some, if_pos (show yhb B len o1.1 = -1 from hend), zp_Rv, Option.bind_some, hwR Q3 _ D3, zs_cI, Option.bind_some] at hs
          by_cases z : v = -1
          · rw [if_pos z, if_neg zi_1n, zp_R4', Option.bind_some, w3] at hs
            refine ⟨Q3, ((e1.trans e2).trans hs).trans ?_, F3, fun D' h => by rw [hDo D' h]; exact D3⟩
            rw [hvo, z]
          · rw [if_neg z, if_pos rfl, zp_Rv, Option.bind_some, zs_Rbad g3 w3, zs_cV, Option.bind_some, zp_R4', Option.bind_some, show (zp_sF Q3 269 4 (zi o1.1)).1 269 4 = zi o1.1 from zp_f9] at hs
            refine ⟨zp_sF Q3 269 4 (zi o1.1), ((e1.trans e2).trans hs).trans ?_, yF_t F3 (yF_f (by decide)), fun D' h => by rw [hDo D' h]; exact yDq_F (fs := [(269, 4)]) (ks := []) (by decide) (by decide) (yF_f (by decide)) D3⟩
            rw [hvo, hv1.resolve_left z]
      by_cases hW : yWh D1
      · exact ⟨(o1.1, some D1), CE (-1) _ rfl (fun D' h => by cases h; rfl) (fun P d h => (zs_whole k3 h).1 hW) (Or.inl rfl) (fun Q d h => (zs_Rwhole k3 h).1 hW) ⟨o2, fun D' h => by cases h; exact ⟨k3, hW⟩⟩⟩
      · have h : ¬ zi o1.1 = -1 := zi_n1 (by omega)
        refine ⟨(o1.1, none), CE (zi o1.1) _ rfl (fun D' h => by cases h) (fun P d h' => ?_) (Or.inr rfl) (fun Q d h' => ?_) ⟨o2, fun D' h => by cases h⟩⟩
        · rw [if_neg h]; exact (zs_whole k3 h').2 hW
        · rw [if_neg h]; exact (zs_Rwhole k3 h').2 hW
    · by_cases h59 : yhb B len o1.1 = 59
      · -- a semicolon
        have hlt : o1.1 < len := yhb_lt h59 (by decide)
        obtain ⟨o, ⟨p1, p2⟩, pC, pR⟩ := ih (len - (o1.1 + 1)) (by omega) (o1.1 + 1) (k + 1) D1 rfl hlt (by omega) k3
        refine ⟨o, ⟨p1, p2⟩, fun P e he hT hmk hE hD => ?_, fun Q e v3 he hT hmk hw hD => ?_⟩
        · obtain ⟨P1, F1, g1, E1, X1, ea⟩ := CC P e he hT hmk hE hD
          obtain ⟨e, rfl⟩ : ∃ e', e = e' + 1 := ⟨e - 1, by omega⟩
          have T1 := yTp_F (by decide) (by decide) F1 hT
          obtain ⟨P2, e2, g2, f2⟩ := zs_sign (d := e + 1) (n := n) T1 g1 o2
          rw [k2] at e2 g2
          have T2 := yTp_F (by decide) (by decide) f2 T1
          obtain ⟨P3, e3, g3, f3⟩ := zs_takes (d := e) (n := n) (c := 59) T2 g2 o2
          rw [k2, decide_eq_true h59] at e3
          rw [k2, if_pos h59] at g3
          have D3 := yDp_F (by decide) (by decide) f3 (yDp_F (by decide) (by decide) f2 (X1 D1 ho))
          obtain ⟨P4, e4, F4, X4⟩ := pC P3 (e + 1) (by omega) (yTp_F (by decide) (by decide) f3 T2) g3 (zk_sm_k e3 (zk_sm_k e2 E1)) D3
          refine ⟨P4, ?_, yF_t F1 (yF_t (yF_Z1 f2) (yF_t (yF_Z1 f3) F4)), X4⟩
          rw [ea, if_neg hob, e2, zs_cI, Option.bind_some, if_neg (show ¬ yhb B len o1.1 = -1 from hend), zp_Z1, Option.bind_some, zp_Pv', Option.bind_some, e3, zs_cI, Option.bind_some, if_neg (show ¬ zp_b true = 0 by decide)]
          exact e4
        · obtain ⟨e, rfl⟩ : ∃ e', e = e' + 1 := ⟨e - 1, by omega⟩
          obtain ⟨Q1, c, tf, e1, F1, s1⟩ := oR Q (e + 1) v3 (by omega) hT hmk hw hD
          unfold yqd at s1
          rw [ho] at s1
          obtain ⟨s1, s2, s3, s4⟩ := s1
          have T1 := yTq_F (by decide) (by decide) F1 hT
          obtain ⟨Q2, e2, g2, f2⟩ := zs_Rlook (d := e) (n := n) T1 s1 (by omega)
          rw [k2] at e2 g2
          have f3 : yF [(269, 3)] [] Q2 (zp_sF Q2 269 3 (zi (o1.1 + 1))) := yF_f (by decide)
          have F3 := yF_t f2 f3
          have T3 := yTq_F (by decide) (by decide) F3 T1
          have D3 := yDq_F (by decide) (by decide) F3 s3
          obtain ⟨Q4, e4, F4, X4⟩ := pR (zp_sF Q2 269 3 (zi (o1.1 + 1))) (e + 1) (.int c) (by omega) T3 zp_f9 ((F3.1 269 4 (by decide)).trans s2) D3
          refine ⟨Q4, e1.trans ?_, yF_t F1 (yF_t (yF_Y1 F3) F4), X4⟩
          rw [e_R_readCounty_214, zp_R4', Option.bind_some, s2, if_pos rfl, zp_Rv, Option.bind_some, e2, zs_cI, Option.bind_some, if_pos (show yhb B len o1.1 = 59 from h59), e_R_readCounty_236, zp_R3', Option.bind_some, g2, if_neg zi_1n, e_R_readCounty_251, zi_s, zp_R3p, Option.bind_some, s4]
          exact e4
      · -- something else
        refine ⟨(o1.1, none), ⟨o2, fun D' h => by cases h⟩, fun P e he hT hmk hE hD => ?_, fun Q e v3 he hT hmk hw hD => ?_⟩
        · obtain ⟨P1, F1, g1, E1, X1, ea⟩ := CC P e he hT hmk hE hD
          obtain ⟨e, rfl⟩ : ∃ e', e = e' + 1 := ⟨e - 1, by omega⟩
          have T1 := yTp_F (by decide) (by decide) F1 hT
          obtain ⟨P2, e2, g2, f2⟩ := zs_sign (d := e + 1) (n := n) T1 g1 o2
          rw [k2] at e2 g2
          have T2 := yTp_F (by decide) (by decide) f2 T1
          obtain ⟨P3, e3, g3, f3⟩ := zs_takes (d := e) (n := n) (c := 59) T2 g2 o2
          rw [k2, decide_eq_false h59] at e3
          rw [k2, if_neg h59] at g3
          refine ⟨P3, ?_, yF_t F1 (yF_t (yF_Z1 f2) (yF_Z1 f3)), fun D' h => by cases h⟩
          rw [ea, if_neg hob, e2, zs_cI, Option.bind_some, if_neg (show ¬ yhb B len o1.1 = -1 from hend), zp_Z1, Option.bind_some, zp_Pv', Option.bind_some, e3, zs_cI, Option.bind_some, if_pos (show zp_b false = 0 from rfl), zp_Z1, Option.bind_some, zp_P1, Option.bind_some, g3]
          rfl
        · obtain ⟨e, rfl⟩ : ∃ e', e = e' + 1 := ⟨e - 1, by omega⟩
          obtain ⟨Q1, c, tf, e1, F1, s1⟩ := oR Q (e + 1) v3 (by omega) hT hmk hw hD
          unfold yqd at s1
          rw [ho] at s1
          obtain ⟨s1, s2, s3, s4⟩ := s1
          have T1 := yTq_F (by decide) (by decide) F1 hT
          obtain ⟨Q2, e2, g2, f2⟩ := zs_R214 (n := n) (e := e) (tf := tf) (c := c) T1 s1 k2 o2 s2 h59
          obtain ⟨Q3, e3, F3⟩ := zs_R49b (n := n) (e := e) (tf := tf) (c := c) (yTq_F (by decide) (by decide) f2 T1) g2 k2 o2 ((f2.1 269 4 (by decide)).trans s2) hend
          exact ⟨Q3, (e1.trans e2).trans e3, yF_t F1 (yF_t (yF_Y1 f2) F3), fun D' h => by cases h⟩
end
