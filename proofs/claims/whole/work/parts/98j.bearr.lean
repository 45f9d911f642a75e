/-! CALLS 34: bears, by the reference; bears, by both sides -/
noncomputable abbrev yfRR (T : yT) (p w : Nat) : Option Nat → Nat × yV → Option Nat := ymn (fun x => yok2 T p w x.2) (fun x => 100000000 * x.1 + ycd x.2 p)
def yfi3 (P : zp) (o : Option Nat) : Prop := match o with | none => P.1 269 37 = -1 ∧ P.1 269 38 = -1 | some K => K < 1900000000 ∧ P.1 269 37 = zi (K / 100000000) ∧ P.1 269 38 = zi (K % 100000000)
theorem ysf_c {U : yV} {a b x y : Nat} (h : a ≠ b) : ysf (ysf U a x) b y = ysf (ysf U b y) a x := by
  refine Prod.ext (funext fun k => ?_) rfl
  by_cases za : k = a
  · have zb : k ≠ b := fun z => h (za.symm.trans z)
    rw [ysf_n zb, ysf_s za, ysf_s za, ysf_n h]
  · by_cases zb : k = b
    · rw [ysf_s zb, ysf_n za, ysf_s zb, ysf_n (fun z => h z.symm)]
    · rw [ysf_n zb, ysf_n za, ysf_n za, ysf_n zb]
theorem zi_md8 {k : Nat} (h : k < 2 ^ 31) : zi k - zi k / 8 * 8 = zi (k % 8) := by
  have e1 : zi k / 8 = zi (k / 8) := (Int32.ofNat_div h (by decide : 8 < 2 ^ 31)).symm
  have e2 : zi (k / 8) * 8 = zi (k / 8 * 8) := (Int32.ofNat_mul (k / 8) 8).symm
  rw [e1, e2, zi_sub (by omega)]
  congr 1
  omega
abbrev ybF : List (Nat × Nat) := [(269, 32), (269, 37), (269, 38)]
abbrev ybK : List Nat := [278, 279, 286, 288, 290]
section
variable {P : zp} {n : Nat × Nat} {d : Nat} {V U : yV} {T : yT} {p w : Nat}
theorem zp_R37 : zk_gI (zp_M P, n) 269 12 37 = some (P.1 269 37) := zp_gI (by decide +kernel)
theorem zp_R38 : zk_gI (zp_M P, n) 269 12 38 = some (P.1 269 38) := zp_gI (by decide +kernel)
theorem zp_R37p {x : Int32} : zk_pf (zp_M P, n) 269 12 37 (.int x) = some (zp_M (zp_sF P 269 37 x), n) := zp_pI (by decide +kernel)
theorem zp_R38p {x : Int32} : zk_pf (zp_M P, n) 269 12 38 (.int x) = some (zp_M (zp_sF P 269 38 x), n) := zp_pI (by decide +kernel)
theorem zs_RfitsOf (hT : yTR P T) (hR : yR (P.2.1 286) U) (hO : yO T.1 U) (hp : p < T.1) : zk_sm (d + 3) m_R_fitsOf [.ref 269, .int (zi p)] (zp_M P, n) = some (some (.int (zi (ycd U p))), (zp_M P, n)) := by
  have h6 := hT.2.1
  have h25 : 0 < P.1 269 25 := by rw [hT.1]; exact (zi_0 (by omega)).mpr (by omega)
  rw [e_R_fitsOf]
  refine zl_ind (m := 8) (L := fun i (a : Nat) => zk_sf (d + 3) m_R_fitsOf 4 [.ref 269, .int (zi p), .int (zi a), .int (zi i)] [] (zp_M P, n)) (I := fun i a => a = (List.range i).foldl (ycd1 U p) 0) (Q := fun r => r = some (some (.int (zi (ycd U p))), (zp_M P, n))) (fun i a hi hI => Or.inr ?_) (fun a hI => ?_) (a := 0) rfl
  · show ∃ a' : Nat, zk_sf (d + 3) m_R_fitsOf 4 [.ref 269, .int (zi p), .int (zi a), .int (zi i)] [] (zp_M P, n) = _ ∧ a' = _
    rw [zl_rs, ← hI, e_R_fitsOf_4, if_pos (zi_8 hi), zp_Rv, Option.bind_some, zs_RisOn h25 hi, zs_cI, Option.bind_some, zp_ib, yb_ron hR hO h6 hi (by omega), zi_s]
    unfold ycd1
    cases ho : yon U i p with
    | false => exact ⟨a, by rw [cond_false], by rw [if_neg Bool.false_ne_true]⟩
    | true =>
      obtain ⟨r, hr⟩ := yon_t ho
      refine ⟨10 * a + yfo U i, ?_, by rw [if_pos rfl]⟩
      rw [cond_true, zp_Rv, Option.bind_some, zs_Rof (x := 2) (k := 2) (by omega) rfl, zs_cI, Option.bind_some, (yR_p hR hi hr).2.2.1, zi_10c]
  · show zk_sf (d + 3) m_R_fitsOf 4 [.ref 269, .int (zi p), .int (zi a), .int (zi 8)] [] (zp_M P, n) = _
    rw [e_R_fitsOf_4, if_neg zi_8n, show a = _ from hI]
    rfl
set_option maxHeartbeats 1000000 in
theorem zs_RtryFits {o : Option Nat} (hT : yTR P T) (hR : yR (P.2.1 286) U) (hO : yO T.1 U) (hp : p < T.1) (hw : w ≤ 30) (hk : U.2.2.2 ≤ 999) (h3 : yfi3 P o) {c : Nat} (hc : c ≤ 18) : ∃ P', zk_sm (d + 12) m_R_tryFits [.ref 269, .int (zi p), .int (zi w), .int (zi c)] (zp_M P, n) = some (none, (zp_M P', n)) ∧ yfi3 P' (yfRR T p w o (c, U)) ∧ yF ybF yrt P P' := by
  have hcb := ycd_b (p := p) hO
  have hf := zs_RfitsOf (d := d + 8) (n := n) hT hR hO hp
  have hf : zk_sm (d + 11) m_R_fitsOf [.ref 269, .int (zi p)] (zp_M P, n) = _ := hf
  obtain ⟨P1, e1, f1⟩ := zs_RthrowsIn (d := d) (n := n) (m := w) hT hR hO hp (by omega) (by omega)
  have F1 : yF ybF yrt P P1 := yF_m f1 (fun x hx => by simp only [List.mem_cons, List.not_mem_nil, or_false] at hx ⊢; exact Or.inl hx) (fun _ h => h)
  have hs := e_R_tryFits (d + 11) 269 (zi p) (zi w) (zi c) (zp_M P, n)
  have h3' : yfi3 P1 o := by
    unfold yfi3 at h3 ⊢
    rw [f1.1 269 37 (by decide), f1.1 269 38 (by decide)]; exact h3
  have out : ylo o (100000000 * c + ycd U p) = true → zk_sm (d + 12) m_R_tryFits [.ref 269, .int (zi p), .int (zi w), .int (zi c)] (zp_M P, n) = (if yfi (yfr T U p w) = -1 then (zk_pf (zp_M P1, n) 269 12 37 (.int (zi c))).bind fun t => (zk_pf t 269 12 38 (.int (zi (ycd U p)))).bind fun t => some (none, t) else some (none, (zp_M P1, n))) → ∃ P', zk_sm (d + 12) m_R_tryFits [.ref 269, .int (zi p), .int (zi w), .int (zi c)] (zp_M P, n) = some (none, (zp_M P', n)) ∧ yfi3 P' (yfRR T p w o (c, U)) ∧ yF ybF yrt P P' := fun hlo h => by
    by_cases z : yfi (yfr T U p w) = -1
    · rw [if_pos z, zp_R37p, Option.bind_some, zp_R38p, Option.bind_some] at h
      have e : yfRR T p w o (c, U) = some (100000000 * c + ycd U p) := by
        unfold yfRR ymn yok2
        show (bif ylo o (100000000 * c + ycd U p) && decide (yfi (yfr T U p w) = -1) then some (100000000 * c + ycd U p) else o) = _
        rw [hlo, decide_eq_true z]; rfl
      refine ⟨_, h, ?_, yF_t F1 (yF_t (yF_f (by decide)) (yF_f (by decide)))⟩
      rw [e]
      refine ⟨by omega, ?_, ?_⟩
      · rw [show (100000000 * c + ycd U p) / 100000000 = c by omega]
        exact (zp_f8 (by decide)).trans zp_f9
      · rw [show (100000000 * c + ycd U p) % 100000000 = ycd U p by omega]
        exact zp_f9
    · rw [if_neg z] at h
      have e : yfRR T p w o (c, U) = o := by
        unfold yfRR ymn yok2
        show (bif ylo o (100000000 * c + ycd U p) && decide (yfi (yfr T U p w) = -1) then some (100000000 * c + ycd U p) else o) = _
        rw [hlo, decide_eq_false z]; rfl
      exact ⟨P1, h, by rw [e]; exact h3', F1⟩
  have skip : ylo o (100000000 * c + ycd U p) = false → zk_sm (d + 12) m_R_tryFits [.ref 269, .int (zi p), .int (zi w), .int (zi c)] (zp_M P, n) = some (none, (zp_M P, n)) → ∃ P', zk_sm (d + 12) m_R_tryFits [.ref 269, .int (zi p), .int (zi w), .int (zi c)] (zp_M P, n) = some (none, (zp_M P', n)) ∧ yfi3 P' (yfRR T p w o (c, U)) ∧ yF ybF yrt P P' := fun hlo h => by
    have e : yfRR T p w o (c, U) = o := by
      unfold yfRR ymn
      show (bif ylo o (100000000 * c + ycd U p) && yok2 T p w U then some (100000000 * c + ycd U p) else o) = _
      rw [hlo]; rfl
    exact ⟨P, h, by rw [e]; exact h3, yF_r⟩
  cases o with
  | none =>
    obtain ⟨g1, g2⟩ := h3
    rw [zp_R37, Option.bind_some, if_pos g1, zp_Rv, Option.bind_some, hf, zs_cI, Option.bind_some, zp_R37, Option.bind_some, if_pos g1, zp_Rv, Option.bind_some, e1, zs_cI, Option.bind_some] at hs
    exact out rfl hs
  | some K =>
    obtain ⟨g0, g1, g2⟩ := h3
    have hne : ¬ P.1 269 37 = -1 := by rw [g1]; exact zi_n1 (by omega)
    rw [zp_R37, Option.bind_some, if_neg hne, Option.bind_some, g1] at hs
    by_cases q1 : K / 100000000 < c
    · rw [if_pos ((zi_l (by omega) (by omega)).mpr q1)] at hs
      exact skip (decide_eq_false (by omega)) hs
    · rw [if_neg (fun z => q1 ((zi_l (by omega) (by omega)).mp z)), zp_Rv, Option.bind_some, hf, zs_cI, Option.bind_some, zp_R37, Option.bind_some, if_neg hne, Option.bind_some, g1] at hs
      by_cases q2 : c < K / 100000000
      · rw [if_pos ((zi_l (by omega) (by omega)).mpr q2), zp_Rv, Option.bind_some, e1, zs_cI, Option.bind_some] at hs
        exact out (decide_eq_true (by omega)) hs
      · rw [if_neg (fun z => q2 ((zi_l (by omega) (by omega)).mp z)), zp_R38, Option.bind_some, g2] at hs
        by_cases q3 : ycd U p < K % 100000000
        · rw [if_pos ((zi_l (by omega) (by omega)).mpr q3), zp_Rv, Option.bind_some, e1, zs_cI, Option.bind_some] at hs
          exact out (decide_eq_true (by omega)) hs
        · rw [if_neg (fun z => q3 ((zi_l (by omega) (by omega)).mp z))] at hs
          exact skip (decide_eq_false (by omega)) hs
theorem yR_sf {k f : Nat} (hR : yR (P.2.1 286) U) (hk : k < 8) (ho : yon U k p = true) : yR ((zp_sA P 286 (4 * k + 2) (zi f)).2.1 286) (ysf U k f) := by
  obtain ⟨r, hr⟩ := yon_t ho
  rw [ysf_e hr]
  exact yR_fit hR hk hr
theorem yfi3_A {o : Option Nat} {k i : Nat} {x : Int32} : yfi3 (zp_sA P k i x) o ↔ yfi3 P o := Iff.rfl
set_option maxHeartbeats 2000000 in
theorem zs_RtryTwo {o : Option Nat} (hT : yTR P T) (hR : yR (P.2.1 286) U) (hO : yO T.1 U) (hp : p < T.1) (hw : w ≤ 30) (hk : U.2.2.2 ≤ 999) (h3 : yfi3 P o) {a b : Nat} (ha : a < 8) (hb : b < 8) (oa : yon U a p = true) (ob : yon U b p = true) : ∃ P', zk_sm (d + 13) m_R_tryTwo [.ref 269, .int (zi p), .int (zi w), .int (zi a), .int (zi b)] (zp_M P, n) = some (none, (zp_M P', n)) ∧ yfi3 P' (((List.range 100).flatMap (yca2 U a b)).foldl (yfRR T p w) o) ∧ P'.2.1 286 = P.2.1 286 ∧ yF ybF ybK P P' := by
  obtain ⟨ra, hra⟩ := yon_t oa
  obtain ⟨rb, hrb⟩ := yon_t ob
  have ga : P.2.1 286 (4 * a + 2) = zi (yfo U a) := (yR_p hR ha hra).2.2.1
  have gb : P.2.1 286 (4 * b + 2) = zi (yfo U b) := (yR_p hR hb hrb).2.2.1
  have ba := yfo_b hO ha
  have bb := yfo_b hO hb
  rw [e_R_tryTwo, zp_Rv, Option.bind_some, zs_Rof (x := 2) (k := 2) (by omega) rfl, zs_cI, Option.bind_some, ga, zp_Rv, Option.bind_some, zs_Rof (x := 2) (k := 2) (by omega) rfl, zs_cI, Option.bind_some, gb, zl_ff]
  refine zl_ind (m := 100) (L := fun i (s : zp × Value × Value) => zk_sf (d + 13) m_R_tryTwo 20 [.ref 269, .int (zi p), .int (zi w), .int (zi a), .int (zi b), .int (zi (yfo U a)), .int (zi (yfo U b)), .int (zi i), s.2.1, s.2.2] [] (zp_M s.1, n)) (I := fun i s => yfi3 s.1 ((List.range i).foldl (fun o i => (yca2 U a b i).foldl (yfRR T p w) o) o) ∧ s.1.2.1 286 = P.2.1 286 ∧ yF ybF ybK P s.1) (Q := fun r => ∃ P', r = some (none, (zp_M P', n)) ∧ yfi3 P' ((List.range 100).foldl (fun o i => (yca2 U a b i).foldl (yfRR T p w) o) o) ∧ P'.2.1 286 = P.2.1 286 ∧ yF ybF ybK P P') (fun i s hi hI => Or.inr ?_) (fun s hI => ?_) (a := (P, .retAddr 0, .retAddr 0)) ⟨h3, rfl, yF_r⟩
  · obtain ⟨s, v8, v9⟩ := s
    obtain ⟨s3, s286, fs⟩ := hI
    have s3 : yfi3 s ((List.range i).foldl (fun o i => (yca2 U a b i).foldl (yfRR T p w) o) o) := s3
    have s286 : s.2.1 286 = P.2.1 286 := s286
    have fs : yF ybF ybK P s := fs
    show ∃ s' : zp × Value × Value, zk_sf (d + 13) m_R_tryTwo 20 [.ref 269, .int (zi p), .int (zi w), .int (zi a), .int (zi b), .int (zi (yfo U a)), .int (zi (yfo U b)), .int (zi i), v8, v9] [] (zp_M s, n) = _ ∧ yfi3 s'.1 _ ∧ _
    rw [zl_rs]
    have hs := e_R_tryTwo_20 (d + 12) 269 (zi p) (zi w) (zi a) (zi b) (zi (yfo U a)) (zi (yfo U b)) (zi i) v8 v9 (zp_M s, n)
    rw [if_pos (show zi i < 100 from (zi_l (m := 100) (by omega) (by decide)).mpr hi), zi_md10 (by omega), show zi i / 10 = zi (i / 10) from zi_div (a := i) (b := 10) (by omega) (by decide), zi_s i] at hs
    obtain ⟨W1, hW1⟩ : ∃ W1, W1 = zp_sA s 286 (4 * a + 2) (zi (i / 10)) := ⟨_, rfl⟩
    obtain ⟨W2, hW2⟩ : ∃ W2, W2 = zp_sA W1 286 (4 * b + 2) (zi (i % 10)) := ⟨_, rfl⟩
    have FW : yF ybF ybK P W2 := yF_t fs (yF_t (P' := W1) (by rw [hW1]; exact yF_A (by decide)) (by rw [hW2]; exact yF_A (by decide)))
    have R1 : yR (W1.2.1 286) (ysf U a (i / 10)) := by rw [hW1]; exact yR_sf (by rw [s286]; exact hR) ha oa
    have R2 : yR (W2.2.1 286) (ysf (ysf U a (i / 10)) b (i % 10)) := by rw [hW2]; exact yR_sf R1 hb (yon_sf.trans ob)
    have O2 : yO T.1 (ysf (ysf U a (i / 10)) b (i % 10)) := ysf_O (ysf_O hO (by omega)) (by omega)
    have d1 := ydi_9 (a := i / 10) (by omega) ba
    have d2 := ydi_9 (a := i % 10) (by omega) bb
    have st1 : zk_stI (zp_M s, n) 286 (4 * zi a + 2) (zi (i / 10)) = some (zp_M W1, n) := by
      rw [show 4 * zi a + 2 = zi (4 * a + 2) from zi_4 a 2, zp_sti zp_a286 (show 4 * a + 2 < 221 by omega) (by decide), hW1]
    have st2 : zk_stI (zp_M W1, n) 286 (4 * zi b + 2) (zi (i % 10)) = some (zp_M W2, n) := by
      rw [show 4 * zi b + 2 = zi (4 * b + 2) from zi_4 b 2, zp_sti zp_a286 (show 4 * b + 2 < 221 by omega) (by decide), hW2]
    have w3 : yfi3 W2 ((List.range i).foldl (fun o i => (yca2 U a b i).foldl (yfRR T p w) o) o) := by rw [hW2, hW1]; exact s3
    have TW : yTR W2 T := yTR_F (by decide) FW hT
    have body : ∀ c, c ≤ 18 → c = (yca U a b (i / 10) (i % 10)).1 → ∃ P4 P5, zk_sm (d + 12) m_R_tryFits [.ref 269, .int (zi p), .int (zi w), .int (zi c)] (zp_M W2, n) = some (none, (zp_M P4, n)) ∧ (zk_stI (zp_M P4, n) 286 (4 * zi a + 2) (zi (yfo U a)) = some (zp_M (zp_sA P4 286 (4 * a + 2) (zi (yfo U a))), n)) ∧ (zk_stI (zp_M (zp_sA P4 286 (4 * a + 2) (zi (yfo U a))), n) 286 (4 * zi b + 2) (zi (yfo U b)) = some (zp_M P5, n)) ∧ yfi3 P5 (yfRR T p w ((List.range i).foldl (fun o i => (yca2 U a b i).foldl (yfRR T p w) o) o) (yca U a b (i / 10) (i % 10))) ∧ P5.2.1 286 = P.2.1 286 ∧ yF ybF ybK P P5 := fun c hc hce => by
      obtain ⟨P4, e4, g4, F4⟩ := zs_RtryFits (d := d) (n := n) TW R2 O2 hp hw hk w3 hc
      refine ⟨P4, zp_sA (zp_sA P4 286 (4 * a + 2) (zi (yfo U a))) 286 (4 * b + 2) (zi (yfo U b)), e4, ?_, ?_, ?_, ?_, yF_t FW (yF_t (yF_m F4 (fun _ h => h) (fun k hk => by simp only [List.mem_cons, List.not_mem_nil, or_false] at hk ⊢; omega)) (yF_t (yF_A (by decide)) (yF_A (by decide))))⟩
      · rw [show 4 * zi a + 2 = zi (4 * a + 2) from zi_4 a 2, zp_sti zp_a286 (show 4 * a + 2 < 221 by omega) (by decide)]
      · rw [show 4 * zi b + 2 = zi (4 * b + 2) from zi_4 b 2, zp_sti zp_a286 (show 4 * b + 2 < 221 by omega) (by decide)]
      · rw [yfi3_A, yfi3_A]
        have ey : (c, ysf (ysf U a (i / 10)) b (i % 10)) = yca U a b (i / 10) (i % 10) := by rw [hce]; rfl
        rw [← ey]; exact g4
      · funext j
        by_cases zb : j = 4 * b + 2
        · rw [zb, zp_a9, gb]
        · rw [zp_a8 zb]
          by_cases za : j = 4 * a + 2
          · rw [za, zp_a9, ga]
          · rw [zp_a8 za, F4.2.1 286 (by decide), hW2, zp_a8 zb, hW1, zp_a8 za, s286]
    by_cases hab : a = b
    · rw [if_pos (show zi a = zi b by rw [hab])] at hs
      by_cases hxy : i / 10 = i % 10
      · have ec : yca2 U a b i = [yca U a b (i / 10) (i % 10)] := if_pos (Or.inr hxy)
        obtain ⟨P4, P5, e4, t4, t5, g5, r5, F5⟩ := body (ydi (i / 10) (yfo U a)) (by omega) (by unfold yca; rw [if_pos hab]; rfl)
        refine ⟨(P5, .int (zi (i / 10)), .int (zi (i % 10))), ?_, by rw [ec]; exact g5, r5, F5⟩
        rw [if_pos (show zi (i / 10) = zi (i % 10) by rw [← hxy]), zp_R27, Option.bind_some, st1, Option.bind_some, zp_R27, Option.bind_some, st2, Option.bind_some, zs_abs, zs_cI, Option.bind_some, ydi_z _ (by omega) _ ba, if_pos (show zi a = zi b by rw [hab]), zp_Rv, Option.bind_some, zi_p, e4, zs_cV, Option.bind_some, zp_R27, Option.bind_some, t4, Option.bind_some, zp_R27, Option.bind_some, t5, Option.bind_some] at hs
        exact hs
      · have ec : yca2 U a b i = [] := if_neg (fun z => z.elim (fun y => y hab) hxy)
        refine ⟨(s, .int (zi (i / 10)), .int (zi (i % 10))), ?_, by rw [ec]; exact s3, s286, fs⟩
        rw [if_neg (fun z => hxy ((zi_eq (by omega) (by omega)).mp z))] at hs
        exact hs
    · have hn : ¬ zi a = zi b := fun z => hab ((zi_eq (by omega) (by omega)).mp z)
      have ec : yca2 U a b i = [yca U a b (i / 10) (i % 10)] := if_pos (Or.inl hab)
      obtain ⟨P4, P5, e4, t4, t5, g5, r5, F5⟩ := body (ydi (i / 10) (yfo U a) + ydi (i % 10) (yfo U b)) (by omega) (by unfold yca; rw [if_neg hab])
      refine ⟨(P5, .int (zi (i / 10)), .int (zi (i % 10))), ?_, by rw [ec]; exact g5, r5, F5⟩
      rw [if_neg hn, zp_R27, Option.bind_some, st1, Option.bind_some, zp_R27, Option.bind_some, st2, Option.bind_some, zs_abs, zs_cI, Option.bind_some, ydi_z _ (by omega) _ ba, if_neg hn, zs_abs, zs_cI, Option.bind_some, ydi_z _ (by omega) _ bb, zp_Rv, Option.bind_some, zi_add, e4, zs_cV, Option.bind_some, zp_R27, Option.bind_some, t4, Option.bind_some, zp_R27, Option.bind_some, t5, Option.bind_some] at hs
      exact hs
  · obtain ⟨s, v8, v9⟩ := s
    obtain ⟨s3, s286, fs⟩ := hI
    refine ⟨s, ?_, s3, s286, fs⟩
    show zk_sf (d + 13) m_R_tryTwo 20 [.ref 269, .int (zi p), .int (zi w), .int (zi a), .int (zi b), .int (zi (yfo U a)), .int (zi (yfo U b)), .int (zi 100), v8, v9] [] (zp_M s, n) = _
    rw [e_R_tryTwo_20, if_neg (by decide)]
theorem zs_Rbears64 {o : Option Nat} (hT : yTR P T) (hR : yR (P.2.1 286) U) (hO : yO T.1 U) (hp : p < T.1) (hw : w ≤ 30) (hk : U.2.2.2 ≤ 999) (h3 : yfi3 P o) {S x : Int32} (hS : ∀ i, i < 8 → yb_t S i = yon U i p) : ∃ P', zk_sf (d + 14) m_R_bears 64 [.ref 269, .int (zi p), .int (zi w), .int x, .int S, .int 0] [] (zp_M P, n) = some (some (.int (if x = 0 then P'.1 269 37 else P'.1 269 38)), (zp_M P', n)) ∧ yfi3 P' ((ycr U p).foldl (yfRR T p w) o) ∧ P'.2.1 286 = P.2.1 286 ∧ yF ybF ybK P P' := by
  have ef : (ycr U p).foldl (yfRR T p w) o = (List.range 64).foldl (fun o k => (yca3 U p k).foldl (yfRR T p w) o) o := zl_ff _ _ _ _
  rw [ef]
  refine zl_ind (m := 64) (L := fun i (s : zp) => zk_sf (d + 14) m_R_bears 64 [.ref 269, .int (zi p), .int (zi w), .int x, .int S, .int (zi i)] [] (zp_M s, n)) (I := fun i s => yfi3 s ((List.range i).foldl (fun o k => (yca3 U p k).foldl (yfRR T p w) o) o) ∧ s.2.1 286 = P.2.1 286 ∧ yF ybF ybK P s) (Q := fun r => ∃ P', r = some (some (.int (if x = 0 then P'.1 269 37 else P'.1 269 38)), (zp_M P', n)) ∧ yfi3 P' ((List.range 64).foldl (fun o k => (yca3 U p k).foldl (yfRR T p w) o) o) ∧ P'.2.1 286 = P.2.1 286 ∧ yF ybF ybK P P') (fun i s hi hI => Or.inr ?_) (fun s hI => ?_) (a := P) ⟨h3, rfl, yF_r⟩
  · obtain ⟨s3, s286, fs⟩ := hI
    show ∃ s' : zp, zk_sf (d + 14) m_R_bears 64 [.ref 269, .int (zi p), .int (zi w), .int x, .int S, .int (zi i)] [] (zp_M s, n) = _ ∧ yfi3 s' _ ∧ _
    rw [zl_rs]
    have hs := e_R_bears_64 (d + 13) 269 (zi p) (zi w) x S (zi i) (zp_M s, n)
    rw [if_pos (show zi i < 64 from (zi_l (m := 64) (by omega) (by decide)).mpr hi), zi_md8 (by omega), show zi i / 8 = zi (i / 8) from zi_div (a := i) (b := 8) (by omega) (by decide), zi_s i, zs_Rhas, zs_cI, Option.bind_some, zp_ib, yb_has (by omega), hS _ (by omega)] at hs
    have skip : ¬ ((yon U (i / 8) p = true ∧ yon U (i % 8) p = true) ∧ i / 8 ≤ i % 8) → zk_sf (d + 14) m_R_bears 64 [.ref 269, .int (zi p), .int (zi w), .int x, .int S, .int (zi i)] [] (zp_M s, n) = zk_sf (d + 14) m_R_bears 64 [.ref 269, .int (zi p), .int (zi w), .int x, .int S, .int (zi (i + 1))] [] (zp_M s, n) → ∃ s' : zp, zk_sf (d + 14) m_R_bears 64 [.ref 269, .int (zi p), .int (zi w), .int x, .int S, .int (zi i)] [] (zp_M s, n) = zk_sf (d + 14) m_R_bears 64 [.ref 269, .int (zi p), .int (zi w), .int x, .int S, .int (zi (i + 1))] [] (zp_M s', n) ∧ yfi3 s' ((yca3 U p i).foldl (yfRR T p w) ((List.range i).foldl (fun o k => (yca3 U p k).foldl (yfRR T p w) o) o)) ∧ s'.2.1 286 = P.2.1 286 ∧ yF ybF ybK P s' := fun hn h => by
      have ec : yca3 U p i = [] := if_neg hn
      exact ⟨s, h, by rw [ec]; exact s3, s286, fs⟩
    cases o1 : yon U (i / 8) p with
    | false =>
      rw [o1, cond_false] at hs
      exact skip (fun z => by rw [o1] at z; cases z.1.1) hs
    | true =>
      rw [o1, cond_true, zs_Rhas, zs_cI, Option.bind_some, zp_ib, yb_has (by omega), hS _ (by omega)] at hs
      cases o2 : yon U (i % 8) p with
      | false =>
        rw [o2, cond_false] at hs
        exact skip (fun z => by rw [o2] at z; cases z.1.2) hs
      | true =>
        rw [o2, cond_true] at hs
        by_cases q : i % 8 < i / 8
        · rw [if_pos ((zi_l (by omega) (by omega)).mpr q)] at hs
          exact skip (fun z => by have := z.2; omega) hs
        · rw [if_neg (fun z => q ((zi_l (by omega) (by omega)).mp z)), zp_Rv, Option.bind_some] at hs
          obtain ⟨P4, e4, g4, r4, F4⟩ := zs_RtryTwo (d := d) (n := n) (a := i / 8) (b := i % 8) (yTR_F (by decide) fs hT) (by rw [s286]; exact hR) hO hp hw hk s3 (by omega) (by omega) o1 o2
          rw [e4, zs_cV, Option.bind_some] at hs
          have ec : yca3 U p i = (List.range 100).flatMap (yca2 U (i / 8) (i % 8)) := if_pos ⟨⟨o1, o2⟩, by omega⟩
          exact ⟨P4, hs, by rw [ec]; exact g4, r4.trans s286, yF_t fs F4⟩
  · obtain ⟨s3, s286, fs⟩ := hI
    refine ⟨s, ?_, s3, s286, fs⟩
    show zk_sf (d + 14) m_R_bears 64 [.ref 269, .int (zi p), .int (zi w), .int x, .int S, .int (zi 64)] [] (zp_M s, n) = _
    rw [e_R_bears_64, if_neg (by decide)]
    by_cases z : x = 0
    · rw [if_pos z, zp_R37, Option.bind_some, if_pos z]
    · rw [if_neg z, zp_R38, Option.bind_some, if_neg z]
theorem ySc_b6 : ySc ys6 ys7 := ⟨by decide, by decide, by decide, by decide, by decide, by decide⟩
theorem ySc_bF : ySc ybF [278, 279, 288, 290] := ⟨by decide, by decide, by decide, by decide, by decide, by decide⟩
theorem yc_bears (hI : yI P n.1) {x k y : Int32} : yOK (d + 20) P n m_SaddlerKnows_bears m_R_bears [.int x, .int k, .int y] := by
  obtain ⟨h0, T, V, nl, L, c0, hP⟩ := id hI
  have hT := hP.1.1
  have hR := hP.1.2.1
  have h6 := hT.2.1
  have hC := hP.2.1.1
  have hO := hP.2.1.2.2.1
  have hB := hP.2.1.2.2.2.1
  have hin30 : ∀ s : zk_S, zk_sm (d + 19) m_R_in [.int k, .int 1, .int 30] s = some (some (.int (zp_b (!decide (k < 1) && !decide (30 < k)))), s) := fun s => zs_Rin
  cases hx : yrg T.1 x with
  | false =>
    refine yOK_q (v := -1) (P1 := P) (P2 := P) ?_ ?_ hI
    · rw [e_SaddlerKnows_bears, zp_Cv, Option.bind_some, yg_pers hT, hx, zs_cI, Option.bind_some, zp_ib, cond_false]
    · rw [e_R_bears, zp_Rv, Option.bind_some, yg_Rpers hR, hx, zs_cI, Option.bind_some, zp_ib, cond_false]
  | true =>
    by_cases q1 : k < 1
    · refine yOK_q (v := -1) (P1 := P) (P2 := P) ?_ ?_ hI
      · rw [e_SaddlerKnows_bears, zp_Cv, Option.bind_some, yg_pers hT, hx, zs_cI, Option.bind_some, zp_ib, cond_true, if_pos q1]
      · rw [e_R_bears, zp_Rv, Option.bind_some, yg_Rpers hR, hx, zs_cI, Option.bind_some, zp_ib, cond_true, hin30, decide_eq_true q1, zs_cI, Option.bind_some, zp_ib, Bool.not_true, Bool.false_and, cond_false]
    · by_cases q2 : 30 < k
      · refine yOK_q (v := -1) (P1 := P) (P2 := P) ?_ ?_ hI
        · rw [e_SaddlerKnows_bears, zp_Cv, Option.bind_some, yg_pers hT, hx, zs_cI, Option.bind_some, zp_ib, cond_true, if_neg q1, if_pos q2]
        · rw [e_R_bears, zp_Rv, Option.bind_some, yg_Rpers hR, hx, zs_cI, Option.bind_some, zp_ib, cond_true, hin30, decide_eq_false q1, decide_eq_true q2, zs_cI, Option.bind_some, zp_ib, Bool.not_true, Bool.and_false, cond_false]
      · obtain ⟨p, hp, rfl⟩ := yrg_o hx
        obtain ⟨w, hw, rfl⟩ := zi_r (show ¬ k < 0 from fun z => q1 (Int32.lt_trans z (by decide)))
        have hw30 : w ≤ 30 := by
          by_cases z : w ≤ 30
          · exact z
          · exact absurd ((zi_l (i := 30) (by decide) hw).mpr (by omega)) q2
        cases hy : yrg 2 y with
        | false =>
          have y0 : ¬ y = 0 := fun z => by rw [z] at hy; exact absurd hy (by decide)
          have y1 : ¬ y = 1 := fun z => by rw [z] at hy; exact absurd hy (by decide)
          refine yOK_q (v := -1) (P1 := P) (P2 := P) ?_ ?_ hI
          · rw [e_SaddlerKnows_bears, zp_Cv, Option.bind_some, yg_pers hT, hx, zs_cI, Option.bind_some, zp_ib, cond_true, if_neg q1, if_neg q2, if_neg y0, if_neg y1]
          · rw [e_R_bears, zp_Rv, Option.bind_some, yg_Rpers hR, hx, zs_cI, Option.bind_some, zp_ib, cond_true, hin30, decide_eq_false q1, decide_eq_false q2, zs_cI, Option.bind_some, zp_ib, Bool.not_false, Bool.true_and, cond_true, yg_Rin (m := 2) (by decide) (by decide) (by decide), hy, zs_cI, Option.bind_some, zp_ib, cond_false]
        | true =>
          obtain ⟨P1, e1, g0, g1, f1⟩ := zs_stsearch (d := d + 8) (n := n) hT hC hO hp hw30
          have hP1 := yP_F ySc_b6 f1 hP
          have hR1 := hP1.1.2.1
          have r1 := hP1.2.1.2.1
          have h25 : 0 < P1.1 269 25 := by rw [hR1.1]; exact (zi_0 (by omega)).mpr (by omega)
          have y01 : ¬ y = 0 → y = 1 := fun z => by
            obtain ⟨j, hj, e⟩ := yrg_o hy
            rcases Nat.lt_or_ge j 1 with w | w
            · exact absurd (by rw [e, show j = 0 by omega]; rfl) z
            · rw [e, show j = 1 by omega]; rfl
          have eC : zk_sm (d + 20) m_SaddlerKnows_bears [.ref 12, .int (zi p), .int (zi w), .int y] (zp_M P, n) = some (some (.int (if y = 0 then P1.1 260 4 else P1.1 260 5)), (zp_M P1, n)) := by
            rw [e_SaddlerKnows_bears, zp_Cv, Option.bind_some, yg_pers hT, hx, zs_cI, Option.bind_some, zp_ib, cond_true, if_neg q1, if_neg q2]
            by_cases y0 : y = 0
            · rw [if_pos y0, zp_C8, Option.bind_some, zp_C5, Option.bind_some, zp_Xv, Option.bind_some, show zk_sm (d + 19) m_Stitching_search [.ref 260, .ref 35, .int (zi p), .int (zi w)] (zp_M P, n) = _ from e1, zs_cV, Option.bind_some, if_pos y0, zp_C8, Option.bind_some, zp_X4, Option.bind_some, if_pos y0]
            · rw [if_neg y0, if_pos (y01 y0), zp_C8, Option.bind_some, zp_C5, Option.bind_some, zp_Xv, Option.bind_some, show zk_sm (d + 19) m_Stitching_search [.ref 260, .ref 35, .int (zi p), .int (zi w)] (zp_M P, n) = _ from e1, zs_cV, Option.bind_some, if_neg y0, zp_C8, Option.bind_some, zp_X5, Option.bind_some, if_neg y0]
          have eR := e_R_bears (d + 19) 269 (zi p) (zi w) y (zp_M P1, n)
          rw [zp_Rv, Option.bind_some, yg_Rpers hR1, hx, zs_cI, Option.bind_some, zp_ib, cond_true, hin30, decide_eq_false q1, decide_eq_false q2, zs_cI, Option.bind_some, zp_ib, Bool.not_false, Bool.true_and, cond_true, yg_Rin (m := 2) (by decide) (by decide) (by decide), hy, zs_cI, Option.bind_some, zp_ib, cond_true, zp_Rv, Option.bind_some, show zk_sm (d + 19) m_R_bornBy [.ref 269, .int (zi p)] (zp_M P1, n) = _ from zs_RbornBy (d := d + 16) h25, zs_cI, Option.bind_some] at eR
          cases hb : ybr V p with
          | false =>
            obtain ⟨c4, c5⟩ := g0 hb
            rw [if_pos ((zr_born0 r1 hO h6 (by omega)).mpr hb)] at eR
            refine yOK_q (v := if y = 0 then 0 else -1) (P1 := P1) (P2 := P1) ?_ ?_ ⟨h0, T, V, nl, L, c0, hP1⟩
            · rw [eC, c4, c5]
            · rw [eR]
              by_cases y0 : y = 0
              · rw [if_pos y0, if_pos y0]
              · rw [if_neg y0, if_neg y0]
          | true =>
            rw [if_neg (fun z => by have := (zr_born0 r1 hO h6 (by omega)).mp z; rw [hb] at this; cases this), zp_R37p, Option.bind_some, zp_R38p, Option.bind_some] at eR
            obtain ⟨P0, hP0⟩ : ∃ P0, P0 = zp_sF (zp_sF P1 269 37 (-1)) 269 38 (-1) := ⟨_, rfl⟩
            have f0 : yF ybF [278, 279, 288, 290] P1 P0 := by rw [hP0]; exact yF_t (yF_f (by decide)) (yF_f (by decide))
            have hP0' := yP_F ySc_bF f0 hP1
            obtain ⟨P2, e2, s2, r2, f2⟩ := zs_Rbears64 (d := d + 6) (n := n) (o := none) (S := zr_born P1 (zi p)) (x := y) hP0'.1.2.1 hP0'.2.1.2.1 hO hp hw30 hB.2.2 (by rw [hP0]; exact ⟨(zp_f8 (by decide)).trans zp_f9, zp_f9⟩) (fun i hi => by
              have e := yb_fold (B := fun i => zr_on P1 i (zi p)) (m := 8) (p := i) (by decide) (by omega)
              rw [decide_eq_true hi, Bool.true_and] at e
              exact e.trans (yb_ron r1 hO h6 hi (by omega)))
            have f2' : yF ybF [278, 279, 288, 290] P0 P2 := yF_x f2 (fun k hk hk' => by
              have : k = 286 := by simp only [List.mem_cons, List.not_mem_nil, or_false] at hk hk'; omega
              rw [this]; exact r2)
            have hP2 := yP_F ySc_bF f2' hP0'
            rw [← hP0] at eR
            have hex : ∃ a, a < 8 ∧ yon V a p = true := by
              obtain ⟨a, ha, e⟩ := List.any_eq_true.mp hb
              exact ⟨a, List.mem_range.mp ha, e⟩
            have hybe := ybe (T := T) (p := p) (w := w) hO hex
            have g1 := g1 hb
            have s2 : yfi3 P2 (ybrr T V p w) := s2
            refine yOK_q (v := if y = 0 then P2.1 269 37 else P2.1 269 38) (P1 := P1) (P2 := P2) (eC.trans ?_) (eR.trans e2) ⟨h0, T, V, nl, L, c0, hP2⟩
            rw [hybe] at g1
            cases hr : ybrr T V p w with
            | none =>
              rw [hr] at g1 s2
              obtain ⟨a1, a2⟩ := g1
              obtain ⟨b1, b2⟩ := s2
              rw [a1, a2, b1, b2]
            | some K =>
              rw [hr] at g1 s2
              obtain ⟨a1, a2⟩ := g1
              obtain ⟨-, b1, b2⟩ := s2
              rw [a1, a2, b1, b2]
end
