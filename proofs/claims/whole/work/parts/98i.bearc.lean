/-! CALLS 33: bears, by the class -/
section
variable {P : zp} {n : Nat × Nat} {d : Nat} {V U : yV} {T : yT} {p w : Nat}
theorem zp_X0 : zk_gR (zp_M P, n) 260 8 0 = some 33 := zp_gR (by decide +kernel)
theorem zp_X1 : zk_gR (zp_M P, n) 260 8 1 = some 261 := zp_gR (by decide +kernel)
theorem zp_X2 : zk_gI (zp_M P, n) 260 8 2 = some (P.1 260 2) := zp_gI (by decide +kernel)
theorem zp_X3 : zk_gI (zp_M P, n) 260 8 3 = some (P.1 260 3) := zp_gI (by decide +kernel)
theorem zp_X4 : zk_gI (zp_M P, n) 260 8 4 = some (P.1 260 4) := zp_gI (by decide +kernel)
theorem zp_X5 : zk_gI (zp_M P, n) 260 8 5 = some (P.1 260 5) := zp_gI (by decide +kernel)
theorem zp_X2p {x : Int32} : zk_pf (zp_M P, n) 260 8 2 (.int x) = some (zp_M (zp_sF P 260 2 x), n) := zp_pI (by decide +kernel)
theorem zp_X3p {x : Int32} : zk_pf (zp_M P, n) 260 8 3 (.int x) = some (zp_M (zp_sF P 260 3 x), n) := zp_pI (by decide +kernel)
theorem zp_X4p {x : Int32} : zk_pf (zp_M P, n) 260 8 4 (.int x) = some (zp_M (zp_sF P 260 4 x), n) := zp_pI (by decide +kernel)
theorem zp_X5p {x : Int32} : zk_pf (zp_M P, n) 260 8 5 (.int x) = some (zp_M (zp_sF P 260 5 x), n) := zp_pI (by decide +kernel)
theorem zp_Xv : zk_rv (zp_M P, n) 260 8 = some () := zp_rv (by decide +kernel)
theorem zp_C8 : zk_gR (zp_M P, n) 12 11 8 = some 260 := zp_gR (by decide +kernel)
theorem zs_261 : zp_sb 261 := Or.inl (Or.inr (Or.inr (Or.inr rfl)))
theorem zi_c10 (c q : Nat) : zi c * 10 + zi q = zi (10 * c + q) := by rw [Int32.mul_comm]; exact zi_10c c q
theorem zs_fitsTold (hC : yC P 261 U) (hO : yO T.1 U) (h6 : T.1 ≤ 6) (hp : p < 6) (h2 : P.1 260 2 = zi p) : zk_sm (d + 3) m_Stitching_fitsTold [.ref 260] (zp_M P, n) = some (some (.int (zi (ycd U p))), (zp_M P, n)) := by
  rw [e_Stitching_fitsTold]
  refine zl_ind (m := 8) (L := fun i (a : Nat) => zk_sf (d + 3) m_Stitching_fitsTold 4 [.ref 260, .int (zi a), .int (zi i)] [] (zp_M P, n)) (I := fun i a => a = (List.range i).foldl (ycd1 U p) 0) (Q := fun r => r = some (some (.int (zi (ycd U p))), (zp_M P, n))) (fun i a hi hI => Or.inr ?_) (fun a hI => ?_) (a := 0) rfl
  · show ∃ a' : Nat, zk_sf (d + 3) m_Stitching_fitsTold 4 [.ref 260, .int (zi a), .int (zi i)] [] (zp_M P, n) = _ ∧ a' = _
    rw [zl_rs, ← hI, e_Stitching_fitsTold_4, if_pos (zi_8 hi), zp_X1, Option.bind_some, zp_X2, Option.bind_some, zp_sv zs_261, Option.bind_some, zs_isOn zs_261, zs_cI, Option.bind_some, zp_ib, h2, yb_on hC hO h6 hi hp, zi_s]
    unfold ycd1
    cases ho : yon U i p with
    | false => exact ⟨a, by rw [cond_false], by rw [if_neg Bool.false_ne_true]⟩
    | true =>
      obtain ⟨r, hr⟩ := yon_t ho
      refine ⟨10 * a + yfo U i, ?_, by rw [if_pos rfl]⟩
      rw [cond_true, zp_X1, Option.bind_some, zp_s2 zs_261, Option.bind_some, zs_at (zp_sb_t zs_261).2.2.2.1 (by decide), zs_cI, Option.bind_some, zp_gi hi (by decide), (yC_p hC hi hr).2.2, zi_c10]
  · show zk_sf (d + 3) m_Stitching_fitsTold 4 [.ref 260, .int (zi a), .int (zi 8)] [] (zp_M P, n) = _
    rw [e_Stitching_fitsTold_4, if_neg zi_8n, show a = _ from hI]
    rfl
noncomputable abbrev yfL (T : yT) (p w : Nat) : Option Nat → yV → Option Nat := ymn (yok2 T p w) (fun U => ycd U p)
def yBn (o : Option Nat) : Prop := ∀ c, o = some c → c < 100000000
theorem yBn_m {o : Option Nat} (h : yBn o) (hO : yO T.1 U) : yBn (yfL T p w o U) := by
  intro c hc
  have := (ymn_g (ok := yok2 T p w) (key := fun U => ycd U p) [U] o).2 c hc
  rcases this.1 with z | ⟨x, x1, x2, x3⟩
  · exact h c z
  · rw [List.mem_singleton.mp x1] at x3
    have := ycd_b (p := p) hO
    have x3 : ycd U p = c := x3
    omega
theorem yTC_x {P' : zp} (f : yF [(260, 5)] [264] P P') (hT : yTC P T) : yTC P' T := yTC_F (by decide) (by decide) f hT
/-- the last step: is it less, and does he bear it -/
theorem zs_sleaf {o : Option Nat} (hT : yTC P T) (hC : yC P 261 U) (hO : yO T.1 U) (hp : p < T.1) (hw : w ≤ 30) (h2 : P.1 260 2 = zi p) (h3 : P.1 260 3 = zi w) (h5 : P.1 260 5 = yfi o) (hb : yBn o) {x y : Int32} : ∃ P', zk_sm (d + 8) m_Stitching_searchFrom [.ref 260, .int x, .int 0, .int y] (zp_M P, n) = some (none, (zp_M P', n)) ∧ yC P' 261 U ∧ P'.1 260 5 = yfi (yfL T p w o U) ∧ yBn (yfL T p w o U) ∧ yF [(260, 5)] [264] P P' := by
  have h6 := hT.2.1
  have hbn := yBn_m (T := T) (p := p) (w := w) hb hO
  have hcb := ycd_b (p := p) hO
  have eft := zs_fitsTold (n := n) (d := d + 4) hC hO h6 (by omega) h2
  obtain ⟨P1, e1, f1⟩ := zs_firstThrow (d := d) (n := n) (m := w) zs_261 hT hC hO hp (by omega)
  have F1 : yF [(260, 5)] [264] P P1 := yF_m f1 (fun _ h => by cases h) (fun _ h => by cases h)
  have C1 := yC_0 f1 zs_261 hC
  have hs := e_Stitching_searchFrom (d + 7) 260 x 0 y (zp_M P, n)
  rw [if_pos rfl, zp_Xv, Option.bind_some, show zk_sm (d + 7) m_Stitching_fitsTold [.ref 260] (zp_M P, n) = _ from eft, zs_cI, Option.bind_some, zp_X5, Option.bind_some, h5] at hs
  have out : (∀ c', o = some c' → ycd U p < c') → zk_sm (d + 8) m_Stitching_searchFrom [.ref 260, .int x, .int 0, .int y] (zp_M P, n) = (if yfi (yfr T U p w) = -1 then (zk_pf (zp_M P1, n) 260 8 5 (.int (zi (ycd U p)))).bind fun t => some (none, t) else some (none, (zp_M P1, n))) → ∃ P', zk_sm (d + 8) m_Stitching_searchFrom [.ref 260, .int x, .int 0, .int y] (zp_M P, n) = some (none, (zp_M P', n)) ∧ yC P' 261 U ∧ P'.1 260 5 = yfi (yfL T p w o U) ∧ yBn (yfL T p w o U) ∧ yF [(260, 5)] [264] P P' := fun hlt h => by
    have hlo : ylo o (ycd U p) = true := by
      cases o with
      | none => rfl
      | some c' => exact decide_eq_true (hlt c' rfl)
    by_cases z : yfi (yfr T U p w) = -1
    · rw [if_pos z, zp_X5p, Option.bind_some] at h
      have e : yfL T p w o U = some (ycd U p) := by
        unfold yfL ymn yok2
        rw [hlo, decide_eq_true z]; rfl
      refine ⟨_, h, yC_F (fs := [(260, 5)]) (ks := []) (fun _ _ _ z => by cases z) (by decide) (by decide) (yF_f (by decide)) C1, ?_, hbn, yF_t F1 (yF_f (by decide))⟩
      rw [e]; exact zp_f9
    · rw [if_neg z] at h
      have e : yfL T p w o U = o := by
        unfold yfL ymn yok2
        rw [hlo, decide_eq_false z]; rfl
      refine ⟨P1, h, C1, ?_, hbn, F1⟩
      rw [e]; exact (f1.1 260 5 (fun z => by cases z)).trans h5
  cases o with
  | none =>
    refine out (fun c' z => by cases z) (hs.trans ?_)
    rw [if_pos (show (yfi none : Int32) = -1 from rfl), zp_X0, Option.bind_some, zp_X1, Option.bind_some, zp_X2, Option.bind_some, h2, zp_X3, Option.bind_some, h3, zp_Lv, Option.bind_some, e1, zs_cI, Option.bind_some]
  | some c' =>
    have hc' := hb c' rfl
    have hne : ¬ (yfi (some c') : Int32) = -1 := zi_n1 (by omega)
    rw [if_neg hne, Option.bind_some] at hs
    by_cases q : ycd U p < c'
    · refine out (fun c'' z => by cases z; exact q) (hs.trans ?_)
      rw [if_pos (show zi (ycd U p) < yfi (some c') from (zi_l (by omega) (by omega)).mpr q), zp_X0, Option.bind_some, zp_X1, Option.bind_some, zp_X2, Option.bind_some, h2, zp_X3, Option.bind_some, h3, zp_Lv, Option.bind_some, e1, zs_cI, Option.bind_some]
    · rw [if_neg (show ¬ zi (ycd U p) < yfi (some c') from fun z => q ((zi_l (by omega) (by omega)).mp z))] at hs
      have e : yfL T p w (some c') U = some c' := by
        show (bif decide (ycd U p < c') && yok2 T p w U then some (ycd U p) else some c') = some c'
        rw [decide_eq_false q]; rfl
      exact ⟨P, hs, hC, by rw [e]; exact h5, hbn, yF_r⟩
/-- the search from a place on, with so many that may still be stitched -/
def ySF (n : Nat × Nat) (T : yT) (p w m e : Nat) : Prop := ∀ (pl l : Nat) (U : yV) (o : Option Nat) (P : zp), pl ≤ 8 → l ≤ 18 → yTC P T → yC P 261 U → yO T.1 U → P.1 260 2 = zi p → P.1 260 3 = zi w → P.1 260 5 = yfi o → yBn o → ∃ P', zk_sm e m_Stitching_searchFrom [.ref 260, .int (zi pl), .int (zi l), .int (zi m)] (zp_M P, n) = some (none, (zp_M P', n)) ∧ yC P' 261 U ∧ P'.1 260 5 = yfi ((ycl p m U pl l).foldl (yfL T p w) o) ∧ yBn ((ycl p m U pl l).foldl (yfL T p w) o) ∧ yF [(260, 5)] [264] P P'
def yc1 (p m : Nat) (U : yV) (l k f : Nat) : List yV := if 0 < ydi f (yfo U k) ∧ ydi f (yfo U k) ≤ l then ycl p m (ysf U k f) (k + 1) (l - ydi f (yfo U k)) else []
def yc2 (p m : Nat) (U : yV) (l k : Nat) : List yV := if yon U k p = true then (List.range 10).flatMap (yc1 p m U l k) else []
theorem ydi_z : ∀ a, a < 10 → ∀ b, b < 10 → zq_abs (zi a - zi b) = zi (ydi a b) := by decide +kernel
theorem yC_fit3 {k r q f f' : Nat} (hC : yC P 261 U) (hk : k < 8) (hv : U.1 k = some (r, q, f)) : yC (zp_sA P 264 k (zi f')) 261 (ysf U k f') := by
  obtain ⟨c1, c2, c3⟩ := yC_p hC hk hv
  refine ⟨fun k' hk' => ?_, fun p hp => ?_, hC.2.2.1, hC.2.2.2⟩
  · by_cases z : k' = k
    · rw [ysf_s z, hv, z]
      show (zp_sA P 264 k (zi f')).2.1 262 k = zi r ∧ (zp_sA P 264 k (zi f')).2.1 263 k = zi q ∧ (zp_sA P 264 k (zi f')).2.1 264 k = zi f'
      rw [zp_a7 (show 262 ≠ 264 by decide), zp_a7 (show 263 ≠ 264 by decide)]
      exact ⟨c1, c2, zp_a9⟩
    · rw [ysf_n z]
      show match U.1 k' with | none => (zp_sA P 264 k (zi f')).2.1 262 k' = -1 | some (r, q, f) => (zp_sA P 264 k (zi f')).2.1 262 k' = zi r ∧ (zp_sA P 264 k (zi f')).2.1 263 k' = zi q ∧ (zp_sA P 264 k (zi f')).2.1 264 k' = zi f
      rw [zp_a7 (show 262 ≠ 264 by decide), zp_a7 (show 263 ≠ 264 by decide), zp_a8 z]
      exact hC.1 k' hk'
  · show (zp_sA P 264 k (zi f')).2.1 265 p = _
    rw [zp_a7 (by decide)]; exact hC.2.1 p hp
set_option maxHeartbeats 1000000 in
theorem zs_sf100 {m : Nat} (ih : ySF n T p w m (d + 8)) (hp : p < T.1) (h6 : T.1 ≤ 6) {k l : Nat} (hk : k < 8) (hl : l ≤ 18) (hO : yO T.1 U) (ho : yon U k p = true) {x : Int32} : ∀ (j f : Nat) (o : Option Nat) (P : zp) (v : Value), f + j = 10 → yTC P T → yC P 261 U → P.1 260 2 = zi p → P.1 260 3 = zi w → P.1 260 5 = yfi o → yBn o → ∃ P' v', zk_sf (d + 9) m_Stitching_searchFrom 100 [.ref 260, .int x, .int (zi l), .int (zi (m + 1)), .int (zi k), .int (zi (yfo U k)), .int (zi f), v] [] (zp_M P, n) = zk_sf (d + 9) m_Stitching_searchFrom 72 [.ref 260, .int x, .int (zi l), .int (zi (m + 1)), .int (zi (k + 1)), .int (zi (yfo U k)), .int (zi 10), v'] [] (zp_M P', n) ∧ yC P' 261 U ∧ P'.1 260 5 = yfi ((List.range' f j).foldl (fun o f => (yc1 p m U l k f).foldl (yfL T p w) o) o) ∧ yBn ((List.range' f j).foldl (fun o f => (yc1 p m U l k f).foldl (yfL T p w) o) o) ∧ yF [(260, 5)] [264] P P'
  | 0, f, o, P, v, hf, hT, hC, h2, h3, h5, hb => by
    have hf : f = 10 := hf
    subst hf
    exact ⟨P, v, by rw [e_Stitching_searchFrom_100, if_neg zi_10n, zi_s], hC, h5, hb, yF_r⟩
  | j + 1, f, o, P, v, hf, hT, hC, h2, h3, h5, hb => by
    obtain ⟨r, hr⟩ := yon_t ho
    have bo := yfo_b hO hk
    have bf : f < 10 := by omega
    have hs := e_Stitching_searchFrom_100 (d + 8) 260 x (zi l) (zi (m + 1)) (zi k) (zi (yfo U k)) (zi f) v (zp_M P, n)
    rw [if_pos (zi_10 bf), zp_X1, Option.bind_some, zp_X2, Option.bind_some, zp_sv zs_261, Option.bind_some, show zk_sm (d + 8) m_Stand_isOn [.ref 261, .int (zi k), .int (P.1 260 2)] (zp_M P, n) = _ from zs_isOn (d := d + 6) zs_261, zs_cI, Option.bind_some, zp_ib, h2, yb_on hC hO h6 hk (by omega), ho, cond_true, zs_abs, zs_cI, Option.bind_some, ydi_z f bf _ bo, zi_s f] at hs
    have d9 := ydi_9 bf bo
    show ∃ P' v', _ ∧ yC P' 261 U ∧ P'.1 260 5 = yfi ((List.range' (f + 1) j).foldl (fun o f => (yc1 p m U l k f).foldl (yfL T p w) o) ((yc1 p m U l k f).foldl (yfL T p w) o)) ∧ yBn ((List.range' (f + 1) j).foldl (fun o f => (yc1 p m U l k f).foldl (yfL T p w) o) ((yc1 p m U l k f).foldl (yfL T p w) o)) ∧ yF [(260, 5)] [264] P P'
    by_cases q0 : 0 < ydi f (yfo U k)
    · rw [if_pos ((zi_0 (by omega)).mpr q0)] at hs
      by_cases q1 : ydi f (yfo U k) ≤ l
      · rw [if_neg (fun z => absurd ((zi_l (by omega) (by omega)).mp z) (by omega)), zp_X1, Option.bind_some, zp_s2 zs_261, Option.bind_some, zs_put (zp_sb_t zs_261).2.2.2.1 (by decide), zs_cV, Option.bind_some, zp_pi hk (by decide), zp_Xv, Option.bind_some, zi_sub q1, zi_d (show 0 < m + 1 by omega), Nat.add_sub_cancel, zi_s k] at hs
        obtain ⟨P1, hP1⟩ : ∃ P1, P1 = zp_sA P 264 k (zi f) := ⟨_, rfl⟩
        rw [show zp_sA P (261 + 3) k (zi f) = P1 from hP1.symm] at hs
        have F1 : yF [(260, 5)] [264] P P1 := by rw [hP1]; exact yF_A (by decide)
        have C1 : yC P1 261 (ysf U k f) := by rw [hP1]; exact yC_fit3 hC hk hr
        obtain ⟨P2, e2, C2, g2, b2, F2⟩ := ih (k + 1) (l - ydi f (yfo U k)) (ysf U k f) o P1 (by omega) (by omega) (yTC_x F1 hT) C1 (ysf_O hO bf) ((F1.1 260 2 (by decide)).trans h2) ((F1.1 260 3 (by decide)).trans h3) (by rw [hP1]; exact h5) hb
        obtain ⟨P3, hP3⟩ : ∃ P3, P3 = zp_sA P2 264 k (zi (yfo U k)) := ⟨_, rfl⟩
        have F3 : yF [(260, 5)] [264] P2 P3 := by rw [hP3]; exact yF_A (by decide)
        have hv2 : (ysf U k f).1 k = some (r, p, f) := by rw [ysf_s rfl, hr]; rfl
        have C3 : yC P3 261 U := by
          have := yC_fit3 (f' := yfo U k) C2 hk hv2
          rw [ysf_2, ysf_o] at this
          rw [hP3]; exact this
        rw [e2, zs_cV, Option.bind_some, zp_X1, Option.bind_some, zp_s2 zs_261, Option.bind_some, zs_put (zp_sb_t zs_261).2.2.2.1 (by decide), zs_cV, Option.bind_some, zp_pi hk (by decide), show zp_sA P2 (261 + 3) k (zi (yfo U k)) = P3 from hP3.symm] at hs
        have F13 := yF_t F1 (yF_t F2 F3)
        have e1 : yc1 p m U l k f = ycl p m (ysf U k f) (k + 1) (l - ydi f (yfo U k)) := if_pos ⟨q0, q1⟩
        rw [e1]
        obtain ⟨P4, v', e4, C4, g4, b4, F4⟩ := zs_sf100 ih hp h6 hk hl hO ho j (f + 1) ((ycl p m (ysf U k f) (k + 1) (l - ydi f (yfo U k))).foldl (yfL T p w) o) P3 (.int (zi (ydi f (yfo U k)))) (by omega) (yTC_x F13 hT) C3 ((F13.1 260 2 (by decide)).trans h2) ((F13.1 260 3 (by decide)).trans h3) (by rw [hP3]; exact g2) b2
        exact ⟨P4, v', hs.trans e4, C4, g4, b4, yF_t F13 F4⟩
      · rw [if_pos ((zi_l (by omega) (by omega)).mpr (by omega))] at hs
        have e1 : yc1 p m U l k f = [] := if_neg (fun z => q1 z.2)
        rw [e1]
        obtain ⟨P4, v', e4, C4, g4, b4, F4⟩ := zs_sf100 ih hp h6 hk hl hO ho j (f + 1) o P (.int (zi (ydi f (yfo U k)))) (by omega) hT hC h2 h3 h5 hb
        exact ⟨P4, v', hs.trans e4, C4, g4, b4, F4⟩
    · rw [if_neg (fun z => q0 ((zi_0 (by omega)).mp z))] at hs
      have e1 : yc1 p m U l k f = [] := if_neg (fun z => q0 z.1)
      rw [e1]
      obtain ⟨P4, v', e4, C4, g4, b4, F4⟩ := zs_sf100 ih hp h6 hk hl hO ho j (f + 1) o P (.int (zi (ydi f (yfo U k)))) (by omega) hT hC h2 h3 h5 hb
      exact ⟨P4, v', hs.trans e4, C4, g4, b4, F4⟩
set_option maxHeartbeats 1000000 in
theorem zs_sf72 {m : Nat} (ih : ySF n T p w m (d + 8)) (hp : p < T.1) (h6 : T.1 ≤ 6) {l : Nat} (hl : l ≤ 18) (hm : m < 100) (hO : yO T.1 U) {x : Int32} : ∀ (j k : Nat) (o : Option Nat) (P : zp) (v5 v6 v7 : Value), k + j = 8 → yTC P T → yC P 261 U → P.1 260 2 = zi p → P.1 260 3 = zi w → P.1 260 5 = yfi o → yBn o → ∃ P', zk_sf (d + 9) m_Stitching_searchFrom 72 [.ref 260, .int x, .int (zi l), .int (zi (m + 1)), .int (zi k), v5, v6, v7] [] (zp_M P, n) = some (none, (zp_M P', n)) ∧ yC P' 261 U ∧ P'.1 260 5 = yfi ((List.range' k j).foldl (fun o k => (yc2 p m U l k).foldl (yfL T p w) o) o) ∧ yBn ((List.range' k j).foldl (fun o k => (yc2 p m U l k).foldl (yfL T p w) o) o) ∧ yF [(260, 5)] [264] P P'
  | 0, k, o, P, v5, v6, v7, hk, hT, hC, h2, h3, h5, hb => by
    have hk : k = 8 := hk
    subst hk
    exact ⟨P, by rw [e_Stitching_searchFrom_72, if_neg zi_8n], hC, h5, hb, yF_r⟩
  | j + 1, k, o, P, v5, v6, v7, hk, hT, hC, h2, h3, h5, hb => by
    have k8 : k < 8 := by omega
    have hs := e_Stitching_searchFrom_72 (d + 8) 260 x (zi l) (zi (m + 1)) (zi k) v5 v6 v7 (zp_M P, n)
    rw [if_pos (zi_8 k8), if_pos ((zi_0 (by omega)).mpr (Nat.succ_pos m)), zp_X1, Option.bind_some, zp_s2 zs_261, Option.bind_some, zs_at (zp_sb_t zs_261).2.2.2.1 (by decide), zs_cI, Option.bind_some, zp_gi k8 (by decide)] at hs
    show ∃ P', _ ∧ yC P' 261 U ∧ P'.1 260 5 = yfi ((List.range' (k + 1) j).foldl (fun o k => (yc2 p m U l k).foldl (yfL T p w) o) ((yc2 p m U l k).foldl (yfL T p w) o)) ∧ yBn ((List.range' (k + 1) j).foldl (fun o k => (yc2 p m U l k).foldl (yfL T p w) o) ((yc2 p m U l k).foldl (yfL T p w) o)) ∧ yF [(260, 5)] [264] P P'
    cases ho : yon U k p with
    | false =>
      have e2 : yc2 p m U l k = [] := if_neg (by rw [ho]; exact Bool.false_ne_true)
      rw [e2]
      have hs1 := e_Stitching_searchFrom_100 (d + 8) 260 x (zi l) (zi (m + 1)) (zi k) (P.2.1 264 k) 0 v7 (zp_M P, n)
      rw [if_pos (by decide), zp_X1, Option.bind_some, zp_X2, Option.bind_some, zp_sv zs_261, Option.bind_some, show zk_sm (d + 8) m_Stand_isOn [.ref 261, .int (zi k), .int (P.1 260 2)] (zp_M P, n) = _ from zs_isOn (d := d + 6) zs_261, zs_cI, Option.bind_some, zp_ib, h2, yb_on hC hO h6 k8 (by omega), ho, cond_false, zi_s k] at hs1
      obtain ⟨P4, e4, C4, g4, b4, F4⟩ := zs_sf72 ih hp h6 hl hm hO j (k + 1) o P (.int (P.2.1 264 k)) (.int 0) v7 (by omega) hT hC h2 h3 h5 hb
      exact ⟨P4, hs.trans (hs1.trans e4), C4, g4, b4, F4⟩
    | true =>
      obtain ⟨r, hr⟩ := yon_t ho
      rw [show P.2.1 (261 + 3) k = zi (yfo U k) from (yC_p hC k8 hr).2.2] at hs
      obtain ⟨P3, v', e3, C3, g3, b3, F3⟩ := zs_sf100 ih hp h6 k8 hl hO ho (x := x) 10 0 o P v7 rfl hT hC h2 h3 h5 hb
      have e2 : yc2 p m U l k = (List.range 10).flatMap (yc1 p m U l k) := if_pos ho
      have e5 : (yc2 p m U l k).foldl (yfL T p w) o = (List.range' 0 10).foldl (fun o f => (yc1 p m U l k f).foldl (yfL T p w) o) o := by
        rw [e2, zl_ff, List.range_eq_range']
      rw [e5]
      obtain ⟨P4, e4, C4, g4, b4, F4⟩ := zs_sf72 ih hp h6 hl hm hO j (k + 1) _ P3 (.int (zi (yfo U k))) (.int (zi 10)) v' (by omega) (yTC_x F3 hT) C3 ((F3.1 260 2 (by decide)).trans h2) ((F3.1 260 3 (by decide)).trans h3) g3 b3
      exact ⟨P4, hs.trans (e3.trans e4), C4, g4, b4, yF_t F3 F4⟩
theorem zs_searchFrom (hp : p < T.1) (h6 : T.1 ≤ 6) (hw : w ≤ 30) : ∀ m, m < 100 → ySF n T p w m (d + m + 8)
  | 0, _ => fun pl l U o P hpl hl hT hC hO h2 h3 h5 hb => by
    by_cases l0 : l = 0
    · subst l0
      exact zs_sleaf hT hC hO hp hw h2 h3 h5 hb
    · have e : ycl p 0 U pl l = [] := if_neg l0
      rw [e]
      refine ⟨P, ?_, hC, h5, hb, yF_r⟩
      show zk_sm (d + 8) m_Stitching_searchFrom [.ref 260, .int (zi pl), .int (zi l), .int (zi 0)] (zp_M P, n) = _
      rw [e_Stitching_searchFrom, if_neg (show ¬ zi l = 0 from fun z => l0 ((zi_eq (b := 0) (by omega) (by decide)).mp z)), e_Stitching_searchFrom_72]
      by_cases z : pl < 8
      · rw [if_pos (zi_8 z), if_neg (by decide)]
      · rw [if_neg (show ¬ zi pl < 8 from fun y => z ((zi_l (m := 8) (by omega) (by decide)).mp y))]
  | m + 1, hm => fun pl l U o P hpl hl hT hC hO h2 h3 h5 hb => by
    by_cases l0 : l = 0
    · subst l0
      exact zs_sleaf (d := d + (m + 1)) hT hC hO hp hw h2 h3 h5 hb
    · have ih := zs_searchFrom hp h6 hw m (by omega)
      obtain ⟨P', e', C', g', b', F'⟩ := zs_sf72 (d := d + m) ih hp h6 hl (by omega) hO (x := zi pl) (8 - pl) pl o P (.retAddr 0) (.retAddr 0) (.retAddr 0) (by omega) hT hC h2 h3 h5 hb
      have e : ycl p (m + 1) U pl l = (List.range' pl (8 - pl)).flatMap (yc2 p m U l) := if_neg l0
      rw [e, zl_ff]
      refine ⟨P', ?_, C', g', b', F'⟩
      show zk_sm (d + m + 9) m_Stitching_searchFrom [.ref 260, .int (zi pl), .int (zi l), .int (zi (m + 1))] (zp_M P, n) = _
      rw [e_Stitching_searchFrom, if_neg (show ¬ zi l = 0 from fun z => l0 ((zi_eq (b := 0) (by omega) (by decide)).mp z))]
      exact e'
/-- costs rising -/
def yfi2 (P : zp) (o : Option (Nat × Nat)) : Prop := match o with | none => P.1 260 4 = -1 ∧ P.1 260 5 = -1 | some (c, r) => P.1 260 4 = zi c ∧ P.1 260 5 = zi r
theorem zs_st46 (hp : p < T.1) (h6 : T.1 ≤ 6) (hw : w ≤ 30) (hO : yO T.1 U) {x y : Int32} {b : Nat} : ∀ (j c : Nat) (P : zp), c + j = 19 → yTC P T → yC P 261 U → P.1 260 2 = zi p → P.1 260 3 = zi w → P.1 260 4 = -1 → P.1 260 5 = -1 → ∃ P', zk_sf (d + 11) m_Stitching_search 46 [.ref 260, .ref b, .int x, .int y, .int (zi c)] [] (zp_M P, n) = some (none, (zp_M P', n)) ∧ yfi2 P' (ysr T U p w j c) ∧ yF [(260, 4), (260, 5)] [264] P P'
  | 0, c, P, hc, hT, hC, h2, h3, h4, h5 => by
    have hc : c = 19 := hc
    subst hc
    exact ⟨P, by rw [e_Stitching_search_46, if_pos (by decide)], ⟨h4, h5⟩, yF_r⟩
  | j + 1, c, P, hc, hT, hC, h2, h3, h4, h5 => by
    have n18 : ∀ c, c ≤ 18 → ¬ (18 : Int32) < zi c := fun c hc z => absurd ((zi_l (i := 18) (by decide) (by omega)).mp z) (by omega)
    obtain ⟨P1, e1, C1, g1, b1, F1⟩ := zs_searchFrom (d := d) (n := n) hp h6 hw 2 (by decide) 0 c U none P (by decide) (by omega) hT hC hO h2 h3 h5 (fun _ z => by cases z)
    have F1' : yF [(260, 4), (260, 5)] [264] P P1 := yF_m F1 (fun x hx => List.mem_cons_of_mem _ hx) (fun _ h => h)
    have hs := e_Stitching_search_46 (d + 10) 260 b x y (zi c) (zp_M P, n)
    rw [if_neg (n18 c (by omega)), zp_X4, Option.bind_some, if_pos h4, zp_Xv, Option.bind_some, show zk_sm (d + 10) m_Stitching_searchFrom [.ref 260, .int 0, .int (zi c), .int 2] (zp_M P, n) = _ from e1, zs_cV, Option.bind_some, zp_X5, Option.bind_some, g1] at hs
    show ∃ P', _ ∧ yfi2 P' (match yfc T U p w c with | some r => some (c, r) | none => ysr T U p w j (c + 1)) ∧ _
    have ec : (ycl p 2 U 0 c).foldl (yfL T p w) none = yfc T U p w c := rfl
    rw [ec] at hs b1 g1
    cases hr : yfc T U p w c with
    | none =>
      rw [hr] at hs g1
      rw [if_pos (show (yfi none : Int32) = -1 from rfl), zi_s] at hs
      obtain ⟨P2, e2, g2, F2⟩ := zs_st46 hp h6 hw hO (x := x) (y := y) (b := b) j (c + 1) P1 (by omega) (yTC_x F1 hT) C1 ((F1.1 260 2 (by decide)).trans h2) ((F1.1 260 3 (by decide)).trans h3) ((F1.1 260 4 (by decide)).trans h4) g1
      exact ⟨P2, hs.trans e2, g2, yF_t F1' F2⟩
    | some r =>
      rw [hr] at hs g1 b1
      have hr8 := b1 r rfl
      rw [if_neg (show ¬ (yfi (some r) : Int32) = -1 from zi_n1 (by omega)), zp_X4p, Option.bind_some, zi_s] at hs
      have g4 : (zp_sF P1 260 4 (zi c)).1 260 4 = zi c := zp_f9
      refine ⟨zp_sF P1 260 4 (zi c), hs.trans ?_, ⟨g4, (zp_f8 (by decide)).trans g1⟩, yF_t F1' (yF_f (by decide))⟩
      rw [e_Stitching_search_46]
      by_cases z : (18 : Int32) < zi (c + 1)
      · rw [if_pos z]
      · rw [if_neg z, zp_X4, Option.bind_some, g4, if_neg (zi_n1 (by omega))]
abbrev ys6 : List (Nat × Nat) := [(260, 2), (260, 3), (260, 4), (260, 5), (261, 4), (261, 5)]
abbrev ys7 : List Nat := [262, 263, 264, 265]
theorem zs_stsearch (hT : yTC P T) (hC : yC P 35 V) (hO : yO T.1 V) (hp : p < T.1) (hw : w ≤ 30) : ∃ P', zk_sm (d + 11) m_Stitching_search [.ref 260, .ref 35, .int (zi p), .int (zi w)] (zp_M P, n) = some (none, (zp_M P', n)) ∧ (ybr V p = false → P'.1 260 4 = 0 ∧ P'.1 260 5 = -1) ∧ (ybr V p = true → yfi2 P' (ysr T V p w 19 0)) ∧ yF ys6 ys7 P P' := by
  have h6 := hT.2.1
  obtain ⟨C0, f0⟩ := yC_copy (P := P) zs_261 zs_35 (by decide) hC
  obtain ⟨Z, hZ⟩ : ∃ Z, Z = zq_copy P 261 35 := ⟨_, rfl⟩
  rw [← hZ] at C0 f0
  have F0 : yF ys6 ys7 P Z := yF_m f0 (fun x hx => by simp only [List.mem_cons, List.not_mem_nil, or_false] at hx ⊢; rcases hx with rfl | rfl <;> simp) (fun k hk => by simp only [List.mem_cons, List.not_mem_nil, or_false] at hk ⊢; omega)
  obtain ⟨Y, hY⟩ : ∃ Y, Y = zp_sF (zp_sF Z 260 2 (zi p)) 260 3 (zi w) := ⟨_, rfl⟩
  have FY : yF [(260, 2), (260, 3), (260, 4), (260, 5)] [] Z Y := by rw [hY]; exact yF_t (yF_f (by decide)) (yF_f (by decide))
  have CY : yC Y 261 V := yC_F (fun _ _ _ z => by cases z) (by decide) (by decide) FY C0
  have FY' : yF ys6 ys7 Z Y := yF_m FY (fun x hx => by simp only [List.mem_cons, List.not_mem_nil, or_false] at hx ⊢; rcases hx with rfl | rfl | rfl | rfl <;> simp) (fun _ h => by cases h)
  have g2 : Y.1 260 2 = zi p := by rw [hY]; exact (zp_f8 (by decide)).trans zp_f9
  have g3 : Y.1 260 3 = zi w := by rw [hY]; exact zp_f9
  have F0Y := yF_t F0 FY'
  have hs := e_Stitching_search (d + 10) 260 35 (zi p) (zi w) (zp_M P, n)
  rw [zp_X1, Option.bind_some, zp_sv zs_261, Option.bind_some, zs_copy zs_261 zs_35, zs_cV, Option.bind_some, ← hZ, zp_X2p, Option.bind_some, zp_X3p, Option.bind_some, ← hY, zp_X1, Option.bind_some, zp_sv zs_261, Option.bind_some, show zk_sm (d + 10) m_Stand_bearsAny [.ref 261, .int (zi p)] (zp_M Y, n) = _ from zs_bears (d := d + 7) zs_261 CY hO h6 (by omega), zs_cI, Option.bind_some, zp_ib] at hs
  cases hb : ybr V p with
  | false =>
    rw [hb, cond_false, zp_X4p, Option.bind_some, zp_X5p, Option.bind_some] at hs
    refine ⟨zp_sF (zp_sF Y 260 4 0) 260 5 (-1), hs.trans ?_, fun _ => ⟨(zp_f8 (by decide)).trans zp_f9, zp_f9⟩, fun z => (by cases z), yF_t F0Y (yF_t (yF_f (by decide)) (yF_f (by decide)))⟩
    rw [e_Stitching_search_46, if_neg (by decide), zp_X4, Option.bind_some, show (zp_sF (zp_sF Y 260 4 0) 260 5 (-1)).1 260 4 = 0 from (zp_f8 (by decide)).trans zp_f9, if_neg (by decide)]
  | true =>
    rw [hb, cond_true, zp_X4p, Option.bind_some, zp_X5p, Option.bind_some] at hs
    obtain ⟨X, hX⟩ : ∃ X, X = zp_sF (zp_sF Y 260 4 (-1)) 260 5 (-1) := ⟨_, rfl⟩
    rw [← hX] at hs
    have FX : yF [(260, 4), (260, 5)] [] Y X := by rw [hX]; exact yF_t (yF_f (by decide)) (yF_f (by decide))
    have FX' : yF ys6 ys7 Y X := yF_m FX (fun x hx => by simp only [List.mem_cons, List.not_mem_nil, or_false] at hx ⊢; rcases hx with rfl | rfl <;> simp) (fun _ h => by cases h)
    have F0X := yF_t F0Y FX'
    obtain ⟨P', e', g', F'⟩ := zs_st46 (d := d) (n := n) (U := V) (x := zi p) (y := zi w) (b := 35) hp h6 hw hO 19 0 X rfl (yTC_F (by decide) (by decide) F0X hT) (yC_F (fun _ _ _ z => by cases z) (by decide) (by decide) FX CY) ((FX.1 260 2 (by decide)).trans g2) ((FX.1 260 3 (by decide)).trans g3) (by rw [hX]; exact (zp_f8 (by decide)).trans zp_f9) (by rw [hX]; exact zp_f9)
    refine ⟨P', hs.trans e', fun z => (by cases z), fun _ => g', yF_t F0X (yF_m F' (fun x hx => by simp only [List.mem_cons, List.not_mem_nil, or_false] at hx ⊢; rcases hx with rfl | rfl <;> simp) (fun k hk => by simp only [List.mem_cons, List.not_mem_nil, or_false] at hk ⊢; omega))⟩
end
