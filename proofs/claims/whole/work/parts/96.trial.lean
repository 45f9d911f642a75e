/-! CALLS 23: one fit tried -/
def yok (U : Nat → yV) (nn : Nat) (N : yNo) : Bool := !(List.range nn).any (fun j => !yag ((U (N j).2.1).2.1 (N j).1) (N j).2.2.1 (N j).2.2.2)
theorem yok_t {U : Nat → yV} {np nn : Nat} {N : yNo} (hB : yNB np nn N) (h : ∀ w, w ≤ 9 → (List.range nn).any (ybad (U w) N w) = false) : yok U nn N = true := by
  unfold yok
  rw [Bool.not_eq_true', Bool.eq_false_iff]
  intro z
  obtain ⟨j, hj, e⟩ := List.any_eq_true.mp z
  obtain ⟨-, -, b3⟩ := hB j (List.mem_range.mp hj)
  have := h (N j).2.1 b3
  rw [Bool.eq_false_iff] at this
  refine this (List.any_eq_true.mpr ⟨j, hj, ?_⟩)
  unfold ybad
  rw [decide_eq_true rfl, Bool.true_and]
  exact e
theorem yok_f {U : Nat → yV} {nn w : Nat} {N : yNo} (h : (List.range nn).any (ybad (U w) N w) = true) : yok U nn N = false := by
  obtain ⟨j, hj, e⟩ := List.any_eq_true.mp h
  unfold ybad at e
  rw [Bool.and_eq_true] at e
  obtain ⟨e1, e2⟩ := e
  have e1 := of_decide_eq_true e1
  unfold yok
  rw [List.any_eq_true.mpr ⟨j, hj, by rw [e1]; exact e2⟩]
  rfl
section
variable {P : zp} {n : Nat × Nat} {d nl nn : Nat} {T : yT} {V : yV} {L : Nat → Nat × Nat × Nat} {c0 : Int32} {N : yNo}
theorem zp_N0 : zk_gR (zp_M P, n) 249 6 0 = some 26 := zp_gR (by decide +kernel)
theorem zp_N1 : zk_gR (zp_M P, n) 249 6 1 = some 33 := zp_gR (by decide +kernel)
theorem zp_N7 : zk_gR (zp_M P, n) 249 6 7 = some 259 := zp_gR (by decide +kernel)
theorem zp_N8 : zk_gI (zp_M P, n) 249 6 8 = some (P.1 249 8) := zp_gI (by decide +kernel)
theorem zp_N8p {x : Int32} : zk_pf (zp_M P, n) 249 6 8 (.int x) = some (zp_M (zp_sF P 249 8 x), n) := zp_pI (by decide +kernel)
theorem zp_a259 : zp_ad 259 = (0, 10) := by decide +kernel
theorem zp_a31 : zp_ad 31 = (0, 8) := by decide +kernel
theorem zp_TT8 : zk_gR (zp_M P, n) 26 10 8 = some 31 := zp_gR (by decide +kernel)
abbrev yff : List (Nat × Nat) := [(249, 8), (250, 4), (250, 5)]
abbrev yfk : List Nat := [251, 252, 253, 254, 259]
theorem yks_wc {U : yV} {c : Int32} : ywc T (yks U c) 99 = yks (ywk T U 99) c := rfl
theorem yks_O {np : Nat} {U : yV} {c : Int32} (h : yO np U) : yO np (yks U c) := h
theorem yTC_f {P' : zp} (f : yF yff yfk P P') (hT : yTC P T) : yTC P' T := yTC_F (by decide) (by decide) f hT
theorem yNC_f {P' : zp} (f : yF yff yfk P P') (h : yNC P nn N) : yNC P' nn N := by
  obtain ⟨n1, n2, n3⟩ := h
  refine ⟨(f.1 249 9 (by decide)).trans n1, n2, fun i hi => ?_⟩
  rw [f.2.1 255 (by decide), f.2.1 256 (by decide), f.2.1 257 (by decide), f.2.1 258 (by decide)]
  exact n3 i hi
theorem yTs_f {P' : zp} (f : yF yff yfk P P') (h : yTs P nl L c0) : yTs P' nl L c0 := by
  obtain ⟨s1, s2, s3, s4⟩ := h
  refine ⟨(f.1 26 3 (by decide)).trans s1, s2, fun l hl => ?_, (f.1 26 1 (by decide)).trans s4⟩
  rw [f.2.1 30 (by decide), f.2.1 31 (by decide), f.2.1 32 (by decide)]
  exact s3 l hl
set_option maxHeartbeats 1000000 in
theorem zs_tf42 (hO : yO T.1 V) (hV0 : V.2.2.2 = 0) (h6 : T.1 ≤ 6) (hB : yNB T.1 nn N) {i m f q : Nat} (hi : i < nl) (hm : m ≤ 9) (hf : f < 10) (hq : q < T.1) (hqi : (L i).2.1 = q) : ∀ (j w : Nat) (b : Bool) (P : zp) , w + j = 9 → yTC P T → yNC P nn N → yTs P nl L c0 → yC P 250 (yks (yev T V w) c0) → (b = true → ∀ w', w' ≤ w → (List.range nn).any (ybad (yev T V w') N w') = false) → (b = false → yok (yev T V) nn N = false) → (1 ≤ m → m ≤ w → P.2.1 259 f = (yev T V m).2.1 q) → ∃ P' v v', zk_sf (d + 10) m_Seeing_tryFits 42 [.ref 249, .int (zi i), .int (zi m), .int (zi f), .int (zp_b b), .int (zi (w + 1))] [] (zp_M P, n) = zk_sf (d + 10) m_Seeing_tryFits 7 [.ref 249, .int (zi i), .int (zi m), .int (zi (f + 1)), v, v'] [] (zp_M P', n) ∧ P'.1 249 8 = (if yok (yev T V) nn N = true then P.1 249 8 ||| (1 <<< (zi f &&& 31)) else P.1 249 8) ∧ (yok (yev T V) nn N = true → 1 ≤ m → P'.2.1 259 f = (yev T V m).2.1 q) ∧ (∀ k, k ≠ f → P'.2.1 259 k = P.2.1 259 k) ∧ yF yff yfk P P'
  | 0, w, b, P, hw, hT, hN, hs, hC, hb1, hb0, hmk => by
    have hw : w = 9 := hw
    subst hw
    cases b with
    | false =>
      have ho := hb0 rfl
      refine ⟨P, .int (zp_b false), .int (zi (9 + 1)), ?_, by rw [if_neg (by rw [ho]; exact Bool.false_ne_true)], fun z => (by rw [ho] at z; cases z), fun _ _ => rfl, yF_r⟩
      rw [e_Seeing_tryFits_42, if_pos (by decide), if_pos (show zp_b false = 0 from rfl), zi_s]
    | true =>
      have ho := yok_t hB (hb1 rfl)
      refine ⟨zp_sF P 249 8 (P.1 249 8 ||| (1 <<< (zi f &&& 31))), .int (zp_b true), .int (zi (9 + 1)), ?_, by rw [if_pos ho]; exact zp_f9, fun _ h1 => hmk h1 hm, fun _ _ => rfl, yF_f (by decide)⟩
      rw [e_Seeing_tryFits_42, if_pos (by decide), if_neg (show ¬ zp_b true = 0 by decide), zp_N8, Option.bind_some, zp_N8p, Option.bind_some, zi_s]
  | j + 1, w, b, P, hw, hT, hN, hs, hC, hb1, hb0, hmk => by
    have n9 : ¬ (9 : Int32) < zi (w + 1) := fun z => absurd ((zi_l (i := 9) (by decide) (by omega)).mp z) (by omega)
    cases b with
    | false =>
      have ho := hb0 rfl
      refine ⟨P, .int (zp_b false), .int (zi (w + 1)), ?_, by rw [if_neg (by rw [ho]; exact Bool.false_ne_true)], fun z => (by rw [ho] at z; cases z), fun _ _ => rfl, yF_r⟩
      rw [e_Seeing_tryFits_42, if_neg n9, if_pos (show zp_b false = 0 from rfl), if_pos (show zp_b false = 0 from rfl), zi_s]
    | true =>
      obtain ⟨oe, we⟩ := yev_O (T := T) hO hV0 w (by omega)
      obtain ⟨P1, e1, c1, f1⟩ := zs_pass (d := d + 1) (n := n) zs_250 hT hC (yks_O oe)
      rw [yks_wc] at c1
      have c1 : yC P1 250 (yks (yev T V (w + 1)) c0) := c1
      have F1 : yF yff yfk P P1 := yF_m f1 (fun x hx => by simp only [List.mem_cons, List.not_mem_nil, or_false] at hx ⊢; exact Or.inr hx) (fun k hk => by simp only [List.mem_cons, List.not_mem_nil, or_false] at hk ⊢; omega)
      have T1 := yTC_f F1 hT
      have N1 := yNC_f F1 hN
      have s1 := yTs_f F1 hs
      have e2 := zs_agrees (d := d + 8) (n := n) (w := w + 1) h6 c1 N1 hB (by omega)
      have hnb : (List.range nn).any (ybad (yks (yev T V (w + 1)) c0) N (w + 1)) = (List.range nn).any (ybad (yev T V (w + 1)) N (w + 1)) := rfl
      rw [hnb] at e2
      have u8 : P1.1 249 8 = P.1 249 8 := f1.1 249 8 (by simp)
      have u259 : P1.2.1 259 = P.2.1 259 := f1.2.1 259 (by simp)
      have hb1' : (!(List.range nn).any (ybad (yev T V (w + 1)) N (w + 1))) = true → ∀ w', w' ≤ w + 1 → (List.range nn).any (ybad (yev T V w') N w') = false := fun h w' hw' => by
        by_cases z : w' = w + 1
        · rw [z]; rw [Bool.not_eq_true'] at h; exact h
        · exact hb1 rfl w' (by omega)
      have hb0' : (!(List.range nn).any (ybad (yev T V (w + 1)) N (w + 1))) = false → yok (yev T V) nn N = false := fun h => yok_f (w := w + 1) (by rw [Bool.not_eq_false'] at h; exact h)
      have hs0 := e_Seeing_tryFits_42 (d + 9) 249 (zi i) (zi m) (zi f) (zp_b true) (zi (w + 1)) (zp_M P, n)
      rw [if_neg n9, if_neg (show ¬ zp_b true = 0 by decide), zp_N1, Option.bind_some, zp_N2, Option.bind_some, zp_Lv, Option.bind_some, show zk_sm (d + 9) m_Pinches_pass [.ref 33, .ref 250] (zp_M P, n) = _ from e1, zs_cI, Option.bind_some, zp_Nv, Option.bind_some, show zk_sm (d + 9) m_Seeing_agreesBehind [.ref 249, .int (zi (w + 1))] (zp_M P1, n) = _ from e2, zs_cI, Option.bind_some] at hs0
      by_cases z : w + 1 = m
      · have eq1 : P1.2.1 31 i = zi q := by rw [← hqi]; exact (s1.2.2.1 i hi).2.1
        have h8 : nl ≤ 8 := hs.2.1
        rw [if_pos (by rw [z]), zp_N7, Option.bind_some, zp_N2, Option.bind_some, zp_s3 zs_250, Option.bind_some, zp_N0, Option.bind_some, zp_TT8, Option.bind_some, zs_at zp_a31 (by decide), zs_cI, Option.bind_some, zp_gi (show i < 8 by omega) (by decide), eq1, zs_at (zp_sb_t zs_250).2.2.2.2 (by decide), zs_cI, Option.bind_some, yC_g c1 (show q < 6 by omega), zs_put zp_a259 (by decide), zs_cV, Option.bind_some, zp_pi hf (by decide), zi_s] at hs0
        obtain ⟨P2, hP2⟩ : ∃ P2, P2 = zp_sA P1 259 f ((yks (yev T V (w + 1)) c0).2.1 q) := ⟨_, rfl⟩
        rw [← hP2] at hs0
        have F2 : yF yff yfk P1 P2 := by rw [hP2]; exact yF_A (by decide)
        have C2 : yC P2 250 (yks (yev T V (w + 1)) c0) := yC_F (ks := [259]) (fs := []) (fun j0 h0 h5 z => by simp only [List.mem_cons, List.not_mem_nil, or_false] at z; omega) (fun z => by cases z) (fun z => by cases z) (by rw [hP2]; exact yF_A (by decide)) c1
        obtain ⟨P3, v, v', e3, a8, am, ak, F3⟩ := zs_tf42 hO hV0 h6 hB hi hm hf hq hqi j (w + 1) (!(List.range nn).any (ybad (yev T V (w + 1)) N (w + 1))) P2 (by omega) (yTC_f F2 T1) (yNC_f F2 N1) (yTs_f F2 s1) C2 hb1' hb0' (fun _ hmw => by rw [hP2, ← z]; exact zp_a9)
        refine ⟨P3, v, v', hs0.trans e3, ?_, am, fun k hk => ?_, yF_t F1 (yF_t F2 F3)⟩
        · rw [a8, show P2.1 249 8 = P.1 249 8 by rw [hP2]; exact u8]
        · rw [ak k hk, hP2, zp_a8 hk, u259]
      · rw [if_neg (fun y => z ((zi_eq (by omega) (by omega)).mp y)), zi_s] at hs0
        obtain ⟨P3, v, v', e3, a8, am, ak, F3⟩ := zs_tf42 hO hV0 h6 hB hi hm hf hq hqi j (w + 1) (!(List.range nn).any (ybad (yev T V (w + 1)) N (w + 1))) P1 (by omega) T1 N1 s1 c1 hb1' hb0' (fun h1 hmw => by rw [u259]; exact hmk h1 (by omega))
        refine ⟨P3, v, v', hs0.trans e3, ?_, am, fun k hk => ?_, yF_t F1 F3⟩
        · rw [a8, u8]
        · rw [ak k hk, u259]
end
