/-! SPECS 23: who and what there is, by both sides -/
/-- one of the first m numbers -/
def yrg (m : Nat) (x : Int32) : Bool := (List.range m).any (fun k => decide (x = zi k))
theorem yrg_o {m : Nat} {x : Int32} (h : yrg m x = true) : ∃ k, k < m ∧ x = zi k := by
  obtain ⟨k, hk, e⟩ := List.any_eq_true.mp h
  exact ⟨k, List.mem_range.mp hk, of_decide_eq_true e⟩
theorem yrg_i {m k : Nat} (h : k < m) : yrg m (zi k) = true := List.any_eq_true.mpr ⟨k, List.mem_range.mpr h, decide_eq_true rfl⟩
theorem zi_r {x : Int32} (h : ¬ x < 0) : ∃ k, k < 2 ^ 31 ∧ x = zi k := by
  refine ⟨x.toNatClampNeg, ?_, ?_⟩
  · have := x.toInt_lt
    show x.toInt.toNat < 2 ^ 31
    omega
  · exact (Int32.ofNat_toNatClampNeg x (Int32.not_lt.mp h)).symm
theorem yrg_e {m : Nat} {x : Int32} (hm : m < 2 ^ 31) : yrg m x = (!decide (x < 0) && decide (x < zi m)) := by
  rw [Bool.eq_iff_iff, Bool.and_eq_true, Bool.not_eq_true', decide_eq_false_iff_not, decide_eq_true_eq]
  constructor
  · intro h
    obtain ⟨k, hk, rfl⟩ := yrg_o h
    exact ⟨zi_n (by omega), (zi_l (by omega) hm).mpr hk⟩
  · rintro ⟨h1, h2⟩
    obtain ⟨k, hk, rfl⟩ := zi_r h1
    exact yrg_i ((zi_l hk hm).mp h2)
theorem yrg_in {m : Nat} {x y : Int32} (hm : m < 2 ^ 31) (hy : y + 1 = zi m) (h0 : m = 0 → y < 0) : zr_in x 0 y = yrg m x := by
  rw [yrg_e hm]
  unfold zr_in
  by_cases q : x < 0
  · rw [decide_eq_true q]; rfl
  · obtain ⟨k, hk, rfl⟩ := zi_r q
    rw [decide_eq_false q, Bool.not_false, Bool.true_and, Bool.true_and]
    rcases Nat.eq_zero_or_pos m with z | z
    · subst z
      rw [decide_eq_true (show y < zi k from by
        have := h0 rfl
        exact Int32.lt_iff_toInt_lt.mpr (by
          have h1 := Int32.lt_iff_toInt_lt.mp this
          have h2 : (zi k).toInt = (k : Int) := Int32.toInt_ofNat_small hk
          have h3 : (0 : Int32).toInt = 0 := by decide
          omega)), decide_eq_false (fun w => absurd ((zi_l hk (by decide)).mp w) (Nat.not_lt_zero k))]
      rfl
    · have hy' : y = zi (m - 1) := by
        rw [← zi_d z, ← hy]; exact (Int32.add_sub_cancel _ _).symm
      rw [hy', Bool.eq_iff_iff, Bool.not_eq_true', decide_eq_false_iff_not, decide_eq_true_eq, zi_l (by omega) hk, zi_l hk hm]
      omega
/-- a saddle's place -/
def yis (V : yV) (x : Int32) : Bool := (List.range 8).any (fun k => decide (x = zi k) && yth V k)
theorem yis_o {V : yV} {x : Int32} (h : yis V x = true) : ∃ k r q f, k < 8 ∧ x = zi k ∧ V.1 k = some (r, q, f) := by
  obtain ⟨k, hk, e⟩ := List.any_eq_true.mp h
  rw [Bool.and_eq_true] at e
  obtain ⟨⟨r, q, f⟩, hv⟩ := Option.isSome_iff_exists.mp e.2
  exact ⟨k, r, q, f, List.mem_range.mp hk, of_decide_eq_true e.1, hv⟩
theorem yis_e {V : yV} {x : Int32} : yis V x = (yrg 8 x && yth V x.toNatClampNeg) := by
  cases h : yrg 8 x with
  | false =>
    rw [Bool.false_and]
    cases h2 : yis V x with
    | false => rfl
    | true =>
      obtain ⟨k, r, q, f, hk, rfl, -⟩ := yis_o h2
      rw [yrg_i hk] at h; cases h
  | true =>
    obtain ⟨k, hk, rfl⟩ := yrg_o h
    rw [Bool.true_and, zi_c (by omega)]
    cases h2 : yth V k with
    | true => exact List.any_eq_true.mpr ⟨k, List.mem_range.mpr hk, by rw [h2, decide_eq_true rfl]; rfl⟩
    | false =>
      cases h3 : yis V (zi k) with
      | false => rfl
      | true =>
        obtain ⟨k', r, q, f, hk', e, hv⟩ := yis_o h3
        have := (zi_eq (by omega) (by omega)).mp e
        subst this
        unfold yth at h2
        rw [hv] at h2; cases h2
section
variable {P : zp} {n : Nat × Nat} {b d : Nat} {V : yV} {T : yT}
theorem yg_pers (hT : yTC P T) {p : Int32} : zk_sm d m_SaddlerKnows_isPerson [.ref 12, .int p] (zp_M P, n) = some (some (Value.int (zp_b (yrg T.1 p))), (zp_M P, n)) := by
  have h6 := hT.2.1
  rw [zs_isPerson]
  unfold zq_pers
  rw [hT.1, yrg_e (by omega)]
theorem yg_Rpers (hT : yTR P T) {p : Int32} : zk_sm (d + 1) m_R_isPerson [.ref 269, .int p] (zp_M P, n) = some (some (Value.int (zp_b (yrg T.1 p))), (zp_M P, n)) := by
  have h6 := hT.2.1
  rw [zs_RisPerson, hT.1, yrg_in (m := T.1) (by omega) (Int32.sub_add_cancel _ _) (fun z => by rw [z]; decide)]
theorem yg_sad (h : zp_sb b) (hC : yC P b V) (hO : yO T.1 V) (h6 : T.1 ≤ 6) {i : Int32} : zk_sm (d + 1) m_Stand_isSaddle [.ref b, .int i] (zp_M P, n) = some (some (Value.int (zp_b (yis V i))), (zp_M P, n)) := by
  rw [zs_isSaddle h, yis_e]
  by_cases q : i < 0
  · unfold zq_sad
    rw [decide_eq_true q, show yrg 8 i = false by rw [yrg_e (by decide), decide_eq_true q]; rfl]; rfl
  · obtain ⟨k, hk, rfl⟩ := zi_r q
    by_cases q8 : k < 8
    · rw [yb_sad hC hO h6 q8, yrg_i q8, zi_c hk]; rfl
    · unfold zq_sad
      rw [decide_eq_false (show ¬ zi k < 8 from fun z => q8 ((zi_l (m := 8) hk (by decide)).mp z)), show yrg 8 (zi k) = false by rw [yrg_e (by decide), decide_eq_false (show ¬ zi k < zi 8 from fun z => q8 ((zi_l (m := 8) hk (by decide)).mp z)), Bool.and_false], decide_eq_false q]; rfl
theorem yO_0 {k : Nat} (hO : yO 0 V) (hk : k < 8) : V.1 k = none := by
  cases hv : V.1 k with
  | none => rfl
  | some x => obtain ⟨r, q, f⟩ := x; exact absurd (hO.1 k r q f hk hv).1 (Nat.not_lt_zero _)
theorem yg_Rthere (hT : yTR P T) (hR : yR (P.2.1 286) V) (hO : yO T.1 V) {i : Int32} : zk_sm (d + 1) m_R_isThere [.ref 269, .int i] (zp_M P, n) = some (some (Value.int (zp_b (yis V i))), (zp_M P, n)) := by
  have h6 := hT.2.1
  by_cases q0 : 0 < P.1 269 25
  · cases h : yrg 8 i with
    | true =>
      obtain ⟨k, hk, rfl⟩ := yrg_o h
      rw [zs_RisThere q0 hk, yis_e, h, Bool.true_and, zi_c (by omega), yb_rth hR hk]
    | false =>
      rw [e_R_isThere, zp_R25, Option.bind_some, if_pos q0, zs_Rin, zs_cI, Option.bind_some, zp_ib, yrg_in (m := 8) (by decide) (by decide) (fun z => absurd z (by decide)), yis_e, h]
      rfl
  · have hz : T.1 = 0 := by
      rw [hT.1] at q0
      by_cases z : 0 < T.1
      · exact absurd ((zi_0 (by omega)).mpr z) q0
      · omega
    rw [e_R_isThere, zp_R25, Option.bind_some, if_neg q0]
    rw [hz] at hO
    cases h : yis V i with
    | false => rfl
    | true =>
      obtain ⟨k, r, q, f, hk, -, hv⟩ := yis_o h
      rw [yO_0 hO hk] at hv; cases hv
theorem yg_fit {f : Int32} {s : zk_S} : zk_sm d m_SaddlerKnows_isFit [.int f] s = some (some (Value.int (zp_b (yrg 10 f))), s) := by
  rw [zs_isFit]
  unfold zq_fit
  rw [yrg_e (by decide)]; rfl
theorem yg_Rin {f : Int32} {m : Nat} {y : Int32} {s : zk_S} (hm : m < 2 ^ 31) (hy : y + 1 = zi m) (h0 : m ≠ 0) : zk_sm d m_R_in [.int f, .int 0, .int y] s = some (some (Value.int (zp_b (yrg m f))), s) := by
  rw [zs_Rin, yrg_in hm hy (fun z => absurd z h0)]
theorem yg_cnt (hT : yTC P T) : zk_sm d m_SaddlerKnows_hasCounty [.ref 12] (zp_M P, n) = some (some (Value.int (zp_b (decide (0 < T.1)))), (zp_M P, n)) := by
  have h6 := hT.2.1
  rw [zs_hasCounty, hT.1, show decide ((0 : Int32) < zi T.1) = decide (0 < T.1) from decide_eq_decide.mpr (zi_0 (by omega))]
def ypr (np : Nat) (p q : Int32) : Bool := yrg np p && (yrg np q && !decide (p = q))
theorem ypr_o {np : Nat} {p q : Int32} (h : ypr np p q = true) : ∃ a c, a < np ∧ c < np ∧ a ≠ c ∧ p = zi a ∧ q = zi c := by
  unfold ypr at h
  rw [Bool.and_eq_true, Bool.and_eq_true, Bool.not_eq_true', decide_eq_false_iff_not] at h
  obtain ⟨a, ha, rfl⟩ := yrg_o h.1
  obtain ⟨c, hc, rfl⟩ := yrg_o h.2.1
  exact ⟨a, c, ha, hc, fun z => h.2.2 (by rw [z]), rfl, rfl⟩
theorem yg_pair (hT : yTC P T) {p q : Int32} : zk_sm (d + 1) m_SaddlerKnows_arePair [.ref 12, .int p, .int q] (zp_M P, n) = some (some (Value.int (zp_b (ypr T.1 p q))), (zp_M P, n)) := by
  have h6 := hT.2.1
  rw [zs_arePair]
  unfold zq_pair ypr zq_pers
  rw [hT.1, yrg_e (by omega), yrg_e (by omega)]
theorem yg_Rtwo (hT : yTR P T) {p q : Int32} : zk_sm (d + 2) m_R_areTwo [.ref 269, .int p, .int q] (zp_M P, n) = some (some (Value.int (zp_b (ypr T.1 p q))), (zp_M P, n)) := by
  rw [e_R_areTwo, zp_Rv, Option.bind_some, yg_Rpers hT, zs_cI, Option.bind_some, zp_ib, zp_Rv, Option.bind_some, yg_Rpers hT, zs_cI, Option.bind_some, zp_ib]
  unfold ypr
  cases yrg T.1 p with
  | false => rfl
  | true =>
    cases yrg T.1 q with
    | false => rfl
    | true =>
      by_cases h : p = q
      · rw [h, if_pos rfl, decide_eq_true rfl]; rfl
      · rw [if_neg h, decide_eq_false h]; rfl
end
/-- a call: both sides answer alike, and stand beside each other again -/
def yOK (d : Nat) (P : zp) (n : Nat × Nat) (c r : Nat) (as : List Value) : Prop := ∃ (v : Int32) (P1 P2 : zp) (n1 : Nat × Nat), zk_sm d c (.ref 12 :: as) (zp_M P, n) = some (some (Value.int v), (zp_M P1, n1)) ∧ zk_sm d r (.ref 269 :: as) (zp_M P1, n1) = some (some (Value.int v), (zp_M P2, n1)) ∧ yI P2 n1.1 ∧ n1.1 ≤ n.1 + 3 ∧ n1.2 ≤ n.2 + 1000
theorem yOK_q {d : Nat} {P : zp} {n : Nat × Nat} {c r : Nat} {as : List Value} {v : Int32} {P1 P2 : zp} (h1 : zk_sm d c (.ref 12 :: as) (zp_M P, n) = some (some (Value.int v), (zp_M P1, n))) (h2 : zk_sm d r (.ref 269 :: as) (zp_M P1, n) = some (some (Value.int v), (zp_M P2, n))) (hI : yI P2 n.1) : yOK d P n c r as := ⟨v, P1, P2, n, h1, h2, hI, Nat.le_add_right _ _, Nat.le_add_right _ _⟩
