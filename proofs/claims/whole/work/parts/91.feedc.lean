/-! CALLS 20: feed, by both sides -/
theorem ybn_l : ∀ bs : List Int32, ybn bs ≤ bs.length
  | [] => Nat.le_refl _
  | b :: bs => by
    show (if b = 0 then 0 else 1) + ybn bs ≤ bs.length + 1
    have := ybn_l bs
    by_cases z : b = 0
    · rw [if_pos z]; omega
    · rw [if_neg z]; omega
theorem yb20_d {w0 w1 w2 w3 w4 : Int32} {k : Nat} (hk : k < 20) : (yb20 w0 w1 w2 w3 w4).drop k = (yb20 w0 w1 w2 w3 w4).getD k 0 :: (yb20 w0 w1 w2 w3 w4).drop (k + 1) := by
  have hl : k < (yb20 w0 w1 w2 w3 w4).length := hk
  rw [List.drop_eq_getElem_cons hl, List.getD_eq_getElem?_getD, List.getElem?_eq_getElem hl, Option.getD_some]
theorem yb20_b {w0 w1 w2 w3 w4 : Int32} : ∀ b, b ∈ yb20 w0 w1 w2 w3 w4 → ∃ c, c < 256 ∧ b = zi c := by
  have h : ∀ w b, b ∈ ybs w → ∃ c, c < 256 ∧ b = zi c := fun w b hb => by
    unfold ybs at hb
    simp only [List.mem_cons, List.not_mem_nil, or_false] at hb
    rcases hb with rfl | rfl | rfl | rfl <;> exact yby_b w _
  intro b hb
  unfold yb20 at hb
  simp only [List.mem_append] at hb
  rcases hb with hb | hb | hb | hb | hb
  · exact h _ _ hb
  · exact h _ _ hb
  · exact h _ _ hb
  · exact h _ _ hb
  · exact h _ _ hb
section
variable {P : zp} {n : Nat × Nat} {d : Nat}
theorem zs_Rfc {w0 w1 w2 w3 w4 : Int32} {S : zk_S} : ∀ (j k a : Nat), k + j = 20 → zk_sf (d + 1) m_R_feed 6 [.ref 269, .int w0, .int w1, .int w2, .int w3, .int w4, .int (zi a), .int (zi k), .retAddr 0] [] S = zk_sf (d + 1) m_R_feed 6 [.ref 269, .int w0, .int w1, .int w2, .int w3, .int w4, .int (zi (a + ybn ((yb20 w0 w1 w2 w3 w4).drop k))), .int (zi 20), .retAddr 0] [] S
  | 0, k, a, h => by
    have h : k = 20 := h
    subst h
    rfl
  | j + 1, k, a, h => by
    have hk : k < 20 := by omega
    have ih := fun a => zs_Rfc (w0 := w0) (w1 := w1) (w2 := w2) (w3 := w3) (w4 := w4) (S := S) j (k + 1) a (by omega)
    rw [yb20_d hk, e_R_feed_6, if_pos (show zi k < 20 from (zi_l (m := 20) (by omega) (by decide)).mpr hk), zs_byteOf k hk, zs_cI, Option.bind_some, zi_s]
    show _ = zk_sf (d + 1) m_R_feed 6 [.ref 269, .int w0, .int w1, .int w2, .int w3, .int w4, .int (zi (a + ((if (yb20 w0 w1 w2 w3 w4).getD k 0 = 0 then 0 else 1) + ybn ((yb20 w0 w1 w2 w3 w4).drop (k + 1))))), .int (zi 20), .retAddr 0] [] S
    by_cases z : (yb20 w0 w1 w2 w3 w4).getD k 0 = 0
    · rw [if_pos z, if_pos z, Int32.add_zero, ih a, Nat.zero_add]
    · rw [if_neg z, if_neg z, zi_s, ih (a + 1), Nat.add_assoc]
theorem zs_Rfp {w0 w1 w2 w3 w4 i6 : Int32} : ∀ (j k len : Nat) (P : zp) (v : Value), k + j = 20 → P.1 269 2 = zi len → len + ybn ((yb20 w0 w1 w2 w3 w4).drop k) ≤ 240 → ∃ v', zk_sf (d + 1) m_R_feed 62 [.ref 269, .int w0, .int w1, .int w2, .int w3, .int w4, .int i6, .int (zi k), v] [] (zp_M P, n) = zk_sf (d + 1) m_R_feed 62 [.ref 269, .int w0, .int w1, .int w2, .int w3, .int w4, .int i6, .int (zi 20), v'] [] (zp_M (yapR P len ((yb20 w0 w1 w2 w3 w4).drop k)).1, n)
  | 0, k, len, P, v, h, hl, h2 => by
    have h : k = 20 := h
    subst h
    exact ⟨v, rfl⟩
  | j + 1, k, len, P, v, h, hl, h2 => by
    have hk : k < 20 := by omega
    rw [yb20_d hk] at h2 ⊢
    have h2 : len + ((if (yb20 w0 w1 w2 w3 w4).getD k 0 = 0 then 0 else 1) + ybn ((yb20 w0 w1 w2 w3 w4).drop (k + 1))) ≤ 240 := h2
    rw [e_R_feed_62, if_pos (show zi k < 20 from (zi_l (m := 20) (by omega) (by decide)).mpr hk), zs_byteOf k hk, zs_cI, Option.bind_some, zi_s]
    show ∃ v', _ = zk_sf (d + 1) m_R_feed 62 [.ref 269, .int w0, .int w1, .int w2, .int w3, .int w4, .int i6, .int (zi 20), v'] [] (zp_M (if (yb20 w0 w1 w2 w3 w4).getD k 0 = 0 then yapR P len ((yb20 w0 w1 w2 w3 w4).drop (k + 1)) else yapR (zp_sF (zp_sA P 270 len ((yb20 w0 w1 w2 w3 w4).getD k 0)) 269 2 (zi (len + 1))) (len + 1) ((yb20 w0 w1 w2 w3 w4).drop (k + 1))).1, n)
    by_cases z : (yb20 w0 w1 w2 w3 w4).getD k 0 = 0
    · rw [if_pos z] at h2
      rw [if_pos z, if_pos z]
      exact zs_Rfp j (k + 1) len P _ (by omega) hl (by omega)
    · rw [if_neg z] at h2
      obtain ⟨v', e⟩ := zs_Rfp (w0 := w0) (w1 := w1) (w2 := w2) (w3 := w3) (w4 := w4) (i6 := i6) j (k + 1) (len + 1) (zp_sF (zp_sA P 270 len ((yb20 w0 w1 w2 w3 w4).getD k 0)) 269 2 (zi (len + 1))) (.int ((yb20 w0 w1 w2 w3 w4).getD k 0)) (by omega) zp_f9 (by omega)
      refine ⟨v', ?_⟩
      rw [if_neg z, if_neg z, zp_R1, Option.bind_some, zp_R2, Option.bind_some, hl, zp_sti zp_a270 (show len < 240 by omega) (by decide), Option.bind_some, zp_R2, Option.bind_some, show (zp_sA P 270 len ((yb20 w0 w1 w2 w3 w4).getD k 0)).1 269 2 = zi len from hl, zi_s, zp_R2p, Option.bind_some, e]
theorem yc_feed (hI : yI P n.1) {w0 w1 w2 w3 w4 : Int32} : yOK (d + 20) P n m_SaddlerKnows_feed m_R_feed [.int w0, .int w1, .int w2, .int w3, .int w4] := by
  obtain ⟨h0, T, V, nl, L, c0, hP⟩ := id hI
  obtain ⟨k1, k2, len, l1, l2, l3, l4⟩ := hP.2.2
  obtain ⟨tot, ht⟩ : ∃ tot, tot = ybn (yb20 w0 w1 w2 w3 w4) := ⟨_, rfl⟩
  have h20 : tot ≤ 20 := by rw [ht]; exact ybn_l _
  have hsum : ybn (ybs w0) + ybn (ybs w1) + ybn (ybs w2) + ybn (ybs w3) + ybn (ybs w4) = tot := by
    rw [ht]
    unfold yb20
    rw [ybn_a, ybn_a, ybn_a, ybn_a]
    omega
  have eC : zi len + ((((zi (ybn (ybs w0)) + zi (ybn (ybs w1))) + zi (ybn (ybs w2))) + zi (ybn (ybs w3))) + zi (ybn (ybs w4))) = zi (len + tot) := by
    rw [zi_add, zi_add, zi_add, zi_add, zi_add, hsum]
  have eR : ∀ P' : zp, P'.1 269 2 = zi len → ∀ r, (if 240 < zi (len + tot) then (some (some (.int (-1)), (zp_M P', n)) : Option zk_R) else zk_sf (d + 20) m_R_feed 62 [.ref 269, .int w0, .int w1, .int w2, .int w3, .int w4, .int (zi tot), .int 0, .retAddr 0] [] (zp_M P', n)) = r → zk_sm (d + 20) m_R_feed [.ref 269, .int w0, .int w1, .int w2, .int w3, .int w4] (zp_M P', n) = r := fun P' h r hr => by
    rw [e_R_feed, show zk_sf (d + 20) m_R_feed 6 [.ref 269, .int w0, .int w1, .int w2, .int w3, .int w4, .int 0, .int 0, .retAddr 0] [] (zp_M P', n) = _ from zs_Rfc (d := d + 19) 20 0 0 rfl, Nat.zero_add, List.drop_zero, ← ht, e_R_feed_6, if_neg (by decide), zp_R2, Option.bind_some, h, zi_add]
    exact hr
  by_cases q : len + tot ≤ 240
  · have nq : ¬ 240 < zi (len + tot) := fun z => absurd ((zi_l (i := 240) (by decide) (by omega)).mp z) (by omega)
    obtain ⟨a1, a2, a3⟩ := yapC_n (ybs w0) P len l2
    obtain ⟨b1, b2, b3⟩ := yapC_n (ybs w1) _ _ a2
    obtain ⟨c1, c2, c3⟩ := yapC_n (ybs w2) _ _ b2
    obtain ⟨d1, d2, d3⟩ := yapC_n (ybs w3) _ _ c2
    obtain ⟨g1, g2, g3⟩ := yapC_n (ybs w4) _ _ d2
    obtain ⟨P1, hP1⟩ : ∃ P1, P1 = (yapC P len (yb20 w0 w1 w2 w3 w4)).1 := ⟨_, rfl⟩
    have ey : P1 = (yapC (yapC (yapC (yapC (yapC P len (ybs w0)).1 (len + ybn (ybs w0)) (ybs w1)).1 (len + ybn (ybs w0) + ybn (ybs w1)) (ybs w2)).1 (len + ybn (ybs w0) + ybn (ybs w1) + ybn (ybs w2)) (ybs w3)).1 (len + ybn (ybs w0) + ybn (ybs w1) + ybn (ybs w2) + ybn (ybs w3)) (ybs w4)).1 := by
      rw [hP1]
      unfold yb20
      rw [yapC_a, a1, yapC_a, b1, yapC_a, c1, yapC_a, d1]
    obtain ⟨-, m2, m3⟩ := yapC_n (yb20 w0 w1 w2 w3 w4) P len l2
    rw [← hP1, ← ht] at m2
    rw [← hP1] at m3
    have l3' : P1.1 269 2 = zi len := (m3.1 269 2 (by decide)).trans l3
    obtain ⟨r2, r3⟩ := yapR_n (yb20 w0 w1 w2 w3 w4) P1 len l3'
    have hx := yap_x (yb20 w0 w1 w2 w3 w4) P P1 len yb20_b (fun i hi => by rw [m3.2.1 270 (by decide)]; exact l4 i hi)
    obtain ⟨P2, hP2⟩ : ∃ P2, P2 = (yapR P1 len (yb20 w0 w1 w2 w3 w4)).1 := ⟨_, rfl⟩
    rw [← hP2, ← ht] at r2
    rw [← hP2] at r3
    rw [← hP1, ← hP2, ← ht] at hx
    have f : yF [(13, 0), (269, 2)] [14, 270] P P2 := yF_t (yF_m m3 (fun x hx => by simp only [List.mem_cons, List.not_mem_nil, or_false] at hx ⊢; exact Or.inl hx) (fun k hk => by simp only [List.mem_cons, List.not_mem_nil, or_false] at hk ⊢; exact Or.inl hk)) (yF_m r3 (fun x hx => by simp only [List.mem_cons, List.not_mem_nil, or_false] at hx ⊢; exact Or.inr hx) (fun k hk => by simp only [List.mem_cons, List.not_mem_nil, or_false] at hk ⊢; exact Or.inr hk))
    refine yOK_q (v := zi (len + tot)) (P1 := P1) (P2 := P2) ?_ (eR P1 l3' _ ?_) ⟨h0, T, V, nl, L, c0, yP_K (by decide) (by decide) (by decide) (by decide) f hP ⟨fun j hj => ?_, ?_, len + tot, q, ?_, r2, fun i hi => ?_⟩⟩
    · rw [e_SaddlerKnows_feed, zs_bytesOf, zs_cI, Option.bind_some, zs_bytesOf, zs_cI, Option.bind_some, zs_bytesOf, zs_cI, Option.bind_some, zs_bytesOf, zs_cI, Option.bind_some, zs_bytesOf, zs_cI, Option.bind_some, zp_C0, Option.bind_some, zp_P0, Option.bind_some, l2]
      show (if 240 < zi len + ((((zi (ybn (ybs w0)) + zi (ybn (ybs w1))) + zi (ybn (ybs w2))) + zi (ybn (ybs w3))) + zi (ybn (ybs w4))) then _ else _) = _
      rw [eC, if_neg nq]
      show ((zk_gR (zp_M P, n) 12 11 0).bind fun b8 => _) = _
      rw [zp_C0, Option.bind_some, zp_Pv, Option.bind_some, zs_append l2 (by omega), zs_cV, Option.bind_some, zp_C0, Option.bind_some, zp_Pv, Option.bind_some, zs_append a2 (by omega), zs_cV, Option.bind_some, zp_C0, Option.bind_some, zp_Pv, Option.bind_some, zs_append b2 (by omega), zs_cV, Option.bind_some, zp_C0, Option.bind_some, zp_Pv, Option.bind_some, zs_append c2 (by omega), zs_cV, Option.bind_some, zp_C0, Option.bind_some, zp_Pv, Option.bind_some, zs_append d2 (by omega), zs_cV, Option.bind_some, ← ey, zp_C0, Option.bind_some, zp_P0, Option.bind_some, m2]
    · rw [if_neg nq]
      obtain ⟨v', e'⟩ := zs_Rfp (d := d + 19) (n := n) (w0 := w0) (w1 := w1) (w2 := w2) (w3 := w3) (w4 := w4) (i6 := zi tot) 20 0 len P1 (.retAddr 0) rfl l3' (by rw [List.drop_zero, ← ht]; exact q)
      rw [List.drop_zero, ← hP2] at e'
      refine (show zk_sf (d + 20) m_R_feed 62 [.ref 269, .int w0, .int w1, .int w2, .int w3, .int w4, .int (zi tot), .int 0, .retAddr 0] [] (zp_M P1, n) = _ from e').trans ?_
      rw [e_R_feed_62, if_neg (by decide), zp_R2, Option.bind_some, r2]
    · rw [f.2.1 268 (by decide), f.2.1 287 (by decide)]; exact k1 j hj
    · rw [f.1 12 11 (by decide), f.1 269 30 (by decide)]; exact k2
    · exact (r3.1 13 0 (by decide)).trans m2
    · rw [r3.2.1 14 (by decide)]; exact hx i hi
  · have nq : 240 < zi (len + tot) := (zi_l (i := 240) (by decide) (by omega)).mpr (by omega)
    refine yOK_q (v := -1) (P1 := P) (P2 := P) ?_ (eR P l3 _ (if_pos nq)) hI
    rw [e_SaddlerKnows_feed, zs_bytesOf, zs_cI, Option.bind_some, zs_bytesOf, zs_cI, Option.bind_some, zs_bytesOf, zs_cI, Option.bind_some, zs_bytesOf, zs_cI, Option.bind_some, zs_bytesOf, zs_cI, Option.bind_some, zp_C0, Option.bind_some, zp_P0, Option.bind_some, l2]
    show (if 240 < zi len + ((((zi (ybn (ybs w0)) + zi (ybn (ybs w1))) + zi (ybn (ybs w2))) + zi (ybn (ybs w3))) + zi (ybn (ybs w4))) then _ else _) = _
    rw [eC, if_pos nq]
end
