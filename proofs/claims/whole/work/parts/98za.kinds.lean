/-! PARSING 17: counties: the three kinds of clauses -/
section
variable {n : Nat × Nat} {L len : Nat} {xs : Nat → Int32} {B : Nat → Nat}
theorem yS_kind {a b : Nat} {bs : List Int32} {f : Nat → Int32} (ha : a < 12) (hb : b < 12) (hA : zk_E L xs a = zk_ob 13 [.ref b, .int 0]) (hM : zk_E L xs b = zk_ia 1 bs.length f) (hf : ∀ i x, bs[i]? = some x → f i = x) (hl : bs.length < 100) (h0 : 0 < bs.length) (P : zp) (c : Int32) (d : Nat) (hE : zk_kE L xs (zp_M P, n)) (c0 : ¬ c < 0) (c2 : ¬ 255 < c) : zk_rv (zp_M P, n) a 13 = some () ∧ zk_sm (d + 3) m_String_indexOf_I [.ref a, .int c] (zp_M P, n) = some (some (.int (yix bs 0 c)), (zp_M P, n)) ∧ zk_sm (d + 1) m_String_length [.ref a] (zp_M P, n) = some (some (.int (zi bs.length)), (zp_M P, n)) := by
  have eA := (zk_kE_p hE ha).trans hA
  have eM := (zk_kE_p hE hb).trans hM
  refine ⟨?_, zs_indexOf eA eM hf hl h0 c0 c2, zs_slen eA eM⟩
  unfold zk_rv
  show (match zp_M P a with | .inl (c', _) => if c' = 13 then some () else none | .inr _ => none) = _
  rw [eA]; exact if_pos rfl
def yh1 (i : Nat) : Int32 := match i with | 0 => 9 | 1 => 99 | _ => 0
def yh2 (_ : Nat) : Int32 := 9
def yh3 (i : Nat) : Int32 := match i with | 0 => 5 | 1 => 5 | _ => 9
theorem yK_1 : yKd L xs n 4 1 115 [104, 107] yh1 := by
  refine ⟨Or.inl rfl, fun P c d hE c0 c2 => yS_kind (b := 8) (f := zk_ef xs 8) (by decide) (by decide) rfl rfl (fun i x h => ?_) (by decide) (by decide) P c d hE c0 c2, fun P i d hE hi => ?_, fun b hb => ?_, fun d s => ?_, fun i d s hi => ?_, by decide⟩
  · match i, h with
    | 0, h => cases h; rfl
    | 1, h => cases h; rfl
    | i + 2, h => cases h
  · have e := zs_at5 (d := d) (n := n) (P := P) (k := 1) (m := 3) (i := i) (f := zk_ef xs 1) ((zk_kE_p hE (by decide)).trans rfl) (Nat.lt_of_lt_of_le hi (by decide)) (by decide)
    rw [e]
    match i, hi with
    | 0, _ => rfl
    | 1, _ => rfl
  · have h : (List.range 256).all (fun b => decide (yix [104, 107] 0 (zi b) = if zi b = 104 then 0 else if zi b = 107 then 1 else -1)) = true := by decide +kernel
    have h1 := of_decide_eq_true (List.all_eq_true.mp h b (List.mem_range.mpr hb))
    rw [h1]
    refine ⟨?_, fun d s => ?_⟩
    · by_cases z : zi b = 104
      · rw [if_pos z]; exact Or.inr ⟨0, by decide, rfl⟩
      · rw [if_neg z]
        by_cases y : zi b = 107
        · rw [if_pos y]; exact Or.inr ⟨1, by decide, rfl⟩
        · rw [if_neg y]; exact Or.inl rfl
    · rw [e_R_itemOf, if_neg (by decide), if_pos rfl]
      by_cases z : zi b = 104
      · rw [if_pos z, if_pos z]
      · rw [if_neg z, if_neg z]
        by_cases y : zi b = 107
        · rw [if_pos y, if_pos y]
        · rw [if_neg y, if_neg y]
  · rw [e_R_itemOf]; rfl
  · rw [e_R_highest]
    match i, hi with
    | 0, _ => rfl
    | 1, _ => rfl
theorem yK_2 : yKd L xs n 5 2 112 [115, 98, 116] yh2 := by
  refine ⟨Or.inr rfl, fun P c d hE c0 c2 => yS_kind (b := 9) (f := zk_ef xs 9) (by decide) (by decide) rfl rfl (fun i x h => ?_) (by decide) (by decide) P c d hE c0 c2, fun P i d hE hi => ?_, fun b hb => ?_, fun d s => ?_, fun i d s hi => ?_, by decide⟩
  · match i, h with
    | 0, h => cases h; rfl
    | 1, h => cases h; rfl
    | 2, h => cases h; rfl
    | i + 3, h => cases h
  · have e := zs_at5 (d := d) (n := n) (P := P) (k := 2) (m := 3) (i := i) (f := zk_ef xs 2) ((zk_kE_p hE (by decide)).trans rfl) (Nat.lt_of_lt_of_le hi (by decide)) (by decide)
    rw [e]
    match i, hi with
    | 0, _ => rfl
    | 1, _ => rfl
    | 2, _ => rfl
  · have h : (List.range 256).all (fun b => decide (yix [115, 98, 116] 0 (zi b) = if zi b = 115 then 0 else if zi b = 98 then 1 else if zi b = 116 then 2 else -1)) = true := by decide +kernel
    have h1 := of_decide_eq_true (List.all_eq_true.mp h b (List.mem_range.mpr hb))
    rw [h1]
    refine ⟨?_, fun d s => ?_⟩
    · by_cases z : zi b = 115
      · rw [if_pos z]; exact Or.inr ⟨0, by decide, rfl⟩
      · rw [if_neg z]
        by_cases y : zi b = 98
        · rw [if_pos y]; exact Or.inr ⟨1, by decide, rfl⟩
        · rw [if_neg y]
          by_cases w : zi b = 116
          · rw [if_pos w]; exact Or.inr ⟨2, by decide, rfl⟩
          · rw [if_neg w]; exact Or.inl rfl
    · rw [e_R_itemOf, if_pos rfl]
      by_cases z : zi b = 115
      · rw [if_pos z, if_pos z]
      · rw [if_neg z, if_neg z]
        by_cases y : zi b = 98
        · rw [if_pos y, if_pos y]
        · rw [if_neg y, if_neg y]
          by_cases w : zi b = 116
          · rw [if_pos w, if_pos w]
          · rw [if_neg w, if_neg w]
  · rw [e_R_itemOf]; rfl
  · rw [e_R_highest]
    match i, hi with
    | 0, _ => rfl
    | 1, _ => rfl
    | 2, _ => rfl
theorem yK_3 : yKd L xs n 6 3 108 [114, 117, 102] yh3 := by
  refine ⟨Or.inr rfl, fun P c d hE c0 c2 => yS_kind (b := 10) (f := zk_ef xs 10) (by decide) (by decide) rfl rfl (fun i x h => ?_) (by decide) (by decide) P c d hE c0 c2, fun P i d hE hi => ?_, fun b hb => ?_, fun d s => ?_, fun i d s hi => ?_, by decide⟩
  · match i, h with
    | 0, h => cases h; rfl
    | 1, h => cases h; rfl
    | 2, h => cases h; rfl
    | i + 3, h => cases h
  · have e := zs_at5 (d := d) (n := n) (P := P) (k := 3) (m := 3) (i := i) (f := zk_ef xs 3) ((zk_kE_p hE (by decide)).trans rfl) (Nat.lt_of_lt_of_le hi (by decide)) (by decide)
    rw [e]
    match i, hi with
    | 0, _ => rfl
    | 1, _ => rfl
    | 2, _ => rfl
  · have h : (List.range 256).all (fun b => decide (yix [114, 117, 102] 0 (zi b) = if zi b = 114 then 0 else if zi b = 117 then 1 else if zi b = 102 then 2 else -1)) = true := by decide +kernel
    have h1 := of_decide_eq_true (List.all_eq_true.mp h b (List.mem_range.mpr hb))
    rw [h1]
    refine ⟨?_, fun d s => ?_⟩
    · by_cases z : zi b = 114
      · rw [if_pos z]; exact Or.inr ⟨0, by decide, rfl⟩
      · rw [if_neg z]
        by_cases y : zi b = 117
        · rw [if_pos y]; exact Or.inr ⟨1, by decide, rfl⟩
        · rw [if_neg y]
          by_cases w : zi b = 102
          · rw [if_pos w]; exact Or.inr ⟨2, by decide, rfl⟩
          · rw [if_neg w]; exact Or.inl rfl
    · rw [e_R_itemOf, if_neg (by decide), if_neg (by decide)]
      by_cases z : zi b = 114
      · rw [if_pos z, if_pos z]
      · rw [if_neg z, if_neg z]
        by_cases y : zi b = 117
        · rw [if_pos y, if_pos y]
        · rw [if_neg y, if_neg y]
          by_cases w : zi b = 102
          · rw [if_pos w, if_pos w]
          · rw [if_neg w, if_neg w]
  · rw [e_R_itemOf]; rfl
  · rw [e_R_highest]
    match i, hi with
    | 0, _ => rfl
    | 1, _ => rfl
    | 2, _ => rfl
/-- what items are without any -/
def yus (cl : Int32) (i : Nat) : Int32 := if cl = 112 then (if i = 2 then 3 else 4) else if cl = 115 then (if i = 0 then 2 else if i = 1 then 20 else 0) else (if i = 0 then 0 else if i = 1 then 1 else 5)
theorem zs_usual {cl : Int32} {i d : Nat} {s : zk_S} (hcl : cl = 115 ∧ i < 2 ∨ cl = 112 ∧ i < 3 ∨ cl = 108 ∧ i < 3) : zk_sm d m_R_usual [.int cl, .int (zi i)] s = some (some (.int (yus cl i)), s) := by
  rw [e_R_usual]
  rcases hcl with ⟨rfl, hi⟩ | ⟨rfl, hi⟩ | ⟨rfl, hi⟩
  · match i, hi with
    | 0, _ => rfl
    | 1, _ => rfl
  · match i, hi with
    | 0, _ => rfl
    | 1, _ => rfl
    | 2, _ => rfl
  · match i, hi with
    | 0, _ => rfl
    | 1, _ => rfl
    | 2, _ => rfl
/-- a clause's beginning and its items -/
theorem yR_bi {m a hc to fr tm : Nat} {cl : Int32} {bs : List Int32} {hf : Nat → Int32} (hB : ∀ i, i < len → 1 ≤ B i ∧ B i < 256) (h240 : len ≤ 240) (hK : yKd L xs n a hc cl bs hf) (hcl : cl = 115 ∧ bs.length = 2 ∨ cl = 112 ∧ bs.length = 3 ∨ cl = 108 ∧ bs.length = 3) (hto : zp_ad to = (0, tm)) (htm : tm < 100) (hfr : fr + bs.length ≤ tm) (hn270 : to ≠ 270) (hm : m < len) : ∃ o : yPi, (o.1 ≤ len ∧ ∀ w, o.2 = some w → m < o.1 ∧ ysk B len o.1 = o.1 ∧ ∀ i, i < bs.length → w i = yus cl i ∨ (¬ hf i < w i ∧ ∃ x, x < 10000 ∧ w i = zi x)) ∧
    (∀ (P : zp) (e : Nat), 8 ≤ e → yTp P B len → P.1 13 1 = zi m → zk_kE L xs (zp_M P, n) → ∃ P1 P', zk_sm e m_CountyReader_begin [.ref 15, .int (yus cl 0), .int (yus cl 1), .int (yus cl 2)] (zp_M P, n) = some (none, (zp_M P1, n)) ∧ zk_sm e m_CountyReader_readsItems [.ref 15, .ref a, .ref hc] (zp_M P1, n) = some (some (.int (yobi o)), (zp_M P', n)) ∧ yF [(13, 1)] [23] P P' ∧ P'.1 13 1 = zi o.1 ∧ zk_kE L xs (zp_M P', n) ∧ ∀ w, o.2 = some w → ∀ i, i < bs.length → P'.2.1 23 i = w i) ∧
    ∀ (Q : zp) (e : Nat), 8 ≤ e → yTq Q B len → Q.1 269 3 = zi (m + 1) → Q.1 269 4 = -1 → ∃ Q', zk_sm e m_R_items [.ref 269, .int cl, .ref to, .int (zi fr), .int (zi bs.length)] (zp_M Q, n) = some (none, (zp_M Q', n)) ∧ yF [(269, 3), (269, 4)] [to] Q Q' ∧ (∀ i, i < fr ∨ fr + bs.length ≤ i → Q'.2.1 to i = Q.2.1 to i) ∧ yqi B len to fr bs.length o Q' := by
  have h3 : bs.length ≤ 3 := by omega
  have hct : yct bs.length 0 = bs.length := by
    rcases hK.1 with z | z
    · rw [z]; rfl
    · rw [z]; rfl
  obtain ⟨o, ⟨o1, o2⟩, oC, oR⟩ := yR_items (n := n) (L := L) (xs := xs) (B := B) hB h240 hK hto htm hfr hn270 bs.length (m + 1) 0 0 (yus cl) hct (Nat.zero_add _) hm
  refine ⟨o, ⟨o1, fun w hw => ?_⟩, fun P e he hT hmk hE => ?_, fun Q e he hT hmk hw => ?_⟩
  · obtain ⟨a1, a2, a3⟩ := o2 w hw
    exact ⟨by omega, a2, a3⟩
  · obtain ⟨e, rfl⟩ : ∃ e', e = e' + 1 := ⟨e - 1, by omega⟩
    obtain ⟨P1, hP1⟩ : ∃ P1, P1 = zp_sA (zp_sA (zp_sA (zp_sF P 13 1 (zi (m + 1))) 23 0 (yus cl 0)) 23 1 (yus cl 1)) 23 2 (yus cl 2) := ⟨_, rfl⟩
    have f1 : yF [(13, 1)] [23] P P1 := by rw [hP1]; exact yF_t (yF_f (by decide)) (yF_t (yF_A (by decide)) (yF_t (yF_A (by decide)) (yF_A (by decide))))
    have e1 : zk_sm (e + 1) m_CountyReader_begin [.ref 15, .int (yus cl 0), .int (yus cl 1), .int (yus cl 2)] (zp_M P, n) = some (none, (zp_M P1, n)) := by
      rw [e_CountyReader_begin, zp_Z1, Option.bind_some, zp_Pv', Option.bind_some, zs_step hmk, zs_cV, Option.bind_some, zp_Z2, Option.bind_some, show zk_sm e m_SaddlerKnows_put [.ref 23, .int 0, .int (yus cl 0)] (zp_M (zp_sF P 13 1 (zi (m + 1))), n) = _ from zs_put (i := zi 0) zp_a23 (by decide), zs_cV, Option.bind_some, zp_pi (show 0 < 3 by decide) (by decide), zp_Z2, Option.bind_some, show zk_sm e m_SaddlerKnows_put [.ref 23, .int 1, .int (yus cl 1)] (zp_M (zp_sA (zp_sF P 13 1 (zi (m + 1))) 23 0 (yus cl 0)), n) = _ from zs_put (i := zi 1) zp_a23 (by decide), zs_cV, Option.bind_some, zp_pi (show 1 < 3 by decide) (by decide), zp_Z2, Option.bind_some, show zk_sm e m_SaddlerKnows_put [.ref 23, .int 2, .int (yus cl 2)] (zp_M (zp_sA (zp_sA (zp_sF P 13 1 (zi (m + 1))) 23 0 (yus cl 0)) 23 1 (yus cl 1)), n) = _ from zs_put (i := zi 2) zp_a23 (by decide), zs_cV, Option.bind_some, zp_pi (show 2 < 3 by decide) (by decide), ← hP1]
    have row : ∀ i, i < 3 → P1.2.1 23 i = yus cl i := fun i hi => by
      rw [hP1]
      match i, hi with
      | 0, _ => rw [zp_a8 (by decide), zp_a8 (by decide)]; exact zp_a9
      | 1, _ => rw [zp_a8 (by decide)]; exact zp_a9
      | 2, _ => exact zp_a9
    obtain ⟨P', e2, F2, g2, E2, X2⟩ := oC P1 e (.retAddr 0) (.retAddr 0) (.retAddr 0) (by omega) (yTp_F (by decide) (by decide) f1 hT) (by rw [hP1]; exact (zp_f9 : (zp_sF P 13 1 (zi (m + 1))).1 13 1 = zi (m + 1))) (zk_sm_k e1 hE) (fun i hi => row i (by omega))
    refine ⟨P1, P', e1, ?_, yF_t f1 F2, g2, E2, X2⟩
    rw [e_CountyReader_readsItems]
    exact e2
  · obtain ⟨e, rfl⟩ : ∃ e', e = e' + 2 := ⟨e - 2, by omega⟩
    obtain ⟨hm23, -, -, kI, kI1, -, -⟩ := hK
    have hlen : ∃ j, bs.length = j := ⟨_, rfl⟩
    -- the usual ones are laid
    have lay : ∃ Q1, zk_sm (e + 2) m_R_items [.ref 269, .int cl, .ref to, .int (zi fr), .int (zi bs.length)] (zp_M Q, n) = zk_sf (e + 2) m_R_items 3 [.ref 269, .int cl, .ref to, .int (zi fr), .int (zi bs.length), .int (zi bs.length), .retAddr 0] [] (zp_M Q1, n) ∧ yF [] [to] Q Q1 ∧ (∀ i, i < fr ∨ fr + bs.length ≤ i → Q1.2.1 to i = Q.2.1 to i) ∧ ∀ i, i < bs.length → Q1.2.1 to (fr + i) = yus cl i := by
      rw [e_R_items]
      refine zl_ind (m := bs.length) (L := fun i (s : zp) => zk_sf (e + 2) m_R_items 3 [.ref 269, .int cl, .ref to, .int (zi fr), .int (zi bs.length), .int (zi i), .retAddr 0] [] (zp_M s, n)) (I := fun i s => yF [] [to] Q s ∧ (∀ y, y < fr ∨ fr + bs.length ≤ y → s.2.1 to y = Q.2.1 to y) ∧ ∀ y, y < i → s.2.1 to (fr + y) = yus cl y) (Q := fun r => ∃ Q1, r = zk_sf (e + 2) m_R_items 3 [.ref 269, .int cl, .ref to, .int (zi fr), .int (zi bs.length), .int (zi bs.length), .retAddr 0] [] (zp_M Q1, n) ∧ yF [] [to] Q Q1 ∧ (∀ i, i < fr ∨ fr + bs.length ≤ i → Q1.2.1 to i = Q.2.1 to i) ∧ ∀ i, i < bs.length → Q1.2.1 to (fr + i) = yus cl i) (fun i s hi hI => Or.inr ?_) (fun s hI => ⟨s, rfl, hI⟩) (a := Q) ⟨yF_r, fun _ _ => rfl, fun y hy => absurd hy (Nat.not_lt_zero y)⟩
      obtain ⟨i1, i2, i3⟩ := hI
      refine ⟨zp_sA s to (fr + i) (yus cl i), ?_, yF_t i1 (yF_A (List.mem_singleton.mpr rfl)), fun y hy => (zp_a8 (by omega)).trans (i2 y hy), fun y hy => ?_⟩
      · show zk_sf (e + 2) m_R_items 3 [.ref 269, .int cl, .ref to, .int (zi fr), .int (zi bs.length), .int (zi i), .retAddr 0] [] (zp_M s, n) = _
        rw [e_R_items_3, if_pos ((zi_l (by omega) (by omega)).mpr hi), zs_usual (by rcases hcl with ⟨a, b⟩ | ⟨a, b⟩ | ⟨a, b⟩; exact Or.inl ⟨a, by omega⟩; exact Or.inr (Or.inl ⟨a, by omega⟩); exact Or.inr (Or.inr ⟨a, by omega⟩)), zs_cI, Option.bind_some, zi_add, zp_sti hto (show fr + i < tm by omega) (by omega), Option.bind_some, zi_s]
      · by_cases z : y = i
        · rw [z]; exact zp_a9
        · exact (zp_a8 (by omega)).trans (i3 y (by omega))
    obtain ⟨Q1, e1, f1, k1, r1⟩ := lay
    have T1 : yTq Q1 B len := yTq_F (fun z => by cases z) (fun z => hn270 (List.mem_singleton.mp z).symm) f1 hT
    obtain ⟨Q2, e2, g2, f2⟩ := zs_Rlook (d := e) (n := n) T1 ((f1.1 269 3 (fun z => by cases z)).trans hmk) (by omega)
    have eit : zk_sm (e + 1) m_R_itemOf [.int cl, .int (yhb B len (ysk B len (m + 1)))] (zp_M Q2, n) = some (some (.int (yim bs (yhb B len (ysk B len (m + 1))))), (zp_M Q2, n)) := by
      unfold yim
      by_cases z : yhb B len (ysk B len (m + 1)) = -1
      · rw [z, if_pos rfl]; exact kI1 _ _
      · rw [if_neg z]
        have hlt2 : ysk B len (m + 1) < len := by
          by_cases y : ysk B len (m + 1) < len
          · exact y
          · exact absurd (if_neg y) z
        rw [show yhb B len (ysk B len (m + 1)) = zi (B (ysk B len (m + 1))) from if_pos hlt2]
        exact (kI _ (hB _ hlt2).2).2 _ _
    have F2 : yF [(269, 3), (269, 4)] [to] Q Q2 := yF_t (yF_m f1 (fun _ h => by cases h) (fun _ h => h)) (yF_m f2 (fun x hx => by simp only [List.mem_cons, List.not_mem_nil, or_false] at hx ⊢; exact Or.inl hx) (fun _ h => by cases h))
    obtain ⟨Q3, e3, F3, K3, s3⟩ := oR Q2 (e + 1) (zi bs.length) (by omega) (yTq_F (by decide) (fun z => hn270 (List.mem_singleton.mp z).symm) F2 hT) g2 (((f2.1 269 4 (by decide)).trans (f1.1 269 4 (fun z => by cases z))).trans hw) (fun i hi => by rw [f2.2.1 to (fun z => by cases z)]; exact r1 i hi)
    refine ⟨Q3, ?_, yF_t F2 F3, fun i hi => by rw [K3 i hi, f2.2.1 to (fun z => by cases z), k1 i hi], s3⟩
    rw [e1, e_R_items_3, if_neg (fun z => absurd ((zi_l (by omega) (by omega)).mp z) (Nat.lt_irrefl _)), zp_Rv, Option.bind_some, e2, zs_cI, Option.bind_some, eit, zs_cI, Option.bind_some]
    exact e3
end
