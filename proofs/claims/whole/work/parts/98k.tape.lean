/-! PARSING 1: the tape, by both sides -/
def yhb (B : Nat → Nat) (len m : Nat) : Int32 := if m < len then zi (B m) else -1
def ysk' (B : Nat → Nat) (len : Nat) : Nat → Nat → Nat
  | 0, m => m
  | j + 1, m => if m < len ∧ B m = 32 then ysk' B len j (m + 1) else m
def ysk (B : Nat → Nat) (len m : Nat) : Nat := ysk' B len (len - m) m
def yTp (P : zp) (B : Nat → Nat) (len : Nat) : Prop := P.1 13 0 = zi len ∧ len ≤ 240 ∧ ∀ i, i < len → P.2.1 14 i = zi (B i) ∧ 1 ≤ B i ∧ B i < 256
def yTq (Q : zp) (B : Nat → Nat) (len : Nat) : Prop := Q.1 269 2 = zi len ∧ len ≤ 240 ∧ ∀ i, i < len → Q.2.1 270 i = zi (B i) ∧ 1 ≤ B i ∧ B i < 256
section
variable {B : Nat → Nat} {len m : Nat}
theorem ysk_s (h : m < len ∧ B m = 32) : ysk B len m = ysk B len (m + 1) := by
  unfold ysk
  obtain ⟨j, hj⟩ : ∃ j, len - m = j + 1 := ⟨len - m - 1, by omega⟩
  rw [hj, show len - (m + 1) = j by omega]
  exact if_pos h
theorem ysk_n (h : ¬ (m < len ∧ B m = 32)) : ysk B len m = m := by
  unfold ysk
  cases len - m with
  | zero => rfl
  | succ j => exact if_neg h
theorem ysk_i : ∀ (j m : Nat), len - m = j → m ≤ ysk B len m ∧ (m ≤ len → ysk B len m ≤ len) ∧ ¬ (ysk B len m < len ∧ B (ysk B len m) = 32)
  | 0, m, h => by
    rw [ysk_n (fun z => by omega)]
    exact ⟨Nat.le_refl m, fun h => h, fun z => by omega⟩
  | j + 1, m, h => by
    by_cases z : m < len ∧ B m = 32
    · rw [ysk_s z]
      obtain ⟨a, b, c⟩ := ysk_i j (m + 1) (by omega)
      exact ⟨by omega, fun _ => b (by omega), c⟩
    · rw [ysk_n z]
      exact ⟨Nat.le_refl m, fun h => h, z⟩
theorem ysk_ge : m ≤ ysk B len m := (ysk_i _ m rfl).1
theorem ysk_le (h : m ≤ len) : ysk B len m ≤ len := (ysk_i _ m rfl).2.1 h
theorem ysk_b : ¬ (ysk B len m < len ∧ B (ysk B len m) = 32) := (ysk_i _ m rfl).2.2
theorem ysk_2 : ysk B len (ysk B len m) = ysk B len m := ysk_n ysk_b
theorem yhb_lt {c : Int32} (h : yhb B len m = c) (hc : c ≠ -1) : m < len := by
  unfold yhb at h
  by_cases z : m < len
  · exact z
  · rw [if_neg z] at h; exact absurd h.symm hc
end
section
variable {P : zp} {n : Nat × Nat} {d len m : Nat} {B : Nat → Nat}
theorem zp_P1 : zk_gI (zp_M P, n) 13 9 1 = some (P.1 13 1) := zp_gI (by decide +kernel)
theorem zp_P1p {x : Int32} : zk_pf (zp_M P, n) 13 9 1 (.int x) = some (zp_M (zp_sF P 13 1 x), n) := zp_pI (by decide +kernel)
theorem zp_P2' : zk_gR (zp_M P, n) 13 9 2 = some 14 := zp_gR (by decide +kernel)
theorem zp_Pv' : zk_rv (zp_M P, n) 13 9 = some () := zp_rv (by decide +kernel)
theorem zp_a14' : zp_ad 14 = (0, 240) := by decide +kernel
theorem zp_a270' : zp_ad 270 = (0, 240) := by decide +kernel
theorem zp_R1' : zk_gR (zp_M P, n) 269 12 1 = some 270 := zp_gR (by decide +kernel)
theorem zp_R3' : zk_gI (zp_M P, n) 269 12 3 = some (P.1 269 3) := zp_gI (by decide +kernel)
theorem zp_R3p {x : Int32} : zk_pf (zp_M P, n) 269 12 3 (.int x) = some (zp_M (zp_sF P 269 3 x), n) := zp_pI (by decide +kernel)
theorem zp_R4' : zk_gI (zp_M P, n) 269 12 4 = some (P.1 269 4) := zp_gI (by decide +kernel)
theorem zp_R4p {x : Int32} : zk_pf (zp_M P, n) 269 12 4 (.int x) = some (zp_M (zp_sF P 269 4 x), n) := zp_pI (by decide +kernel)
theorem zp_R5' : zk_gI (zp_M P, n) 269 12 5 = some (P.1 269 5) := zp_gI (by decide +kernel)
theorem zp_R5p {x : Int32} : zk_pf (zp_M P, n) 269 12 5 (.int x) = some (zp_M (zp_sF P 269 5 x), n) := zp_pI (by decide +kernel)
theorem yTp_F {P' : zp} {fs : List (Nat × Nat)} {ks : List Nat} (hf : (13, 0) ∉ fs) (hk : 14 ∉ ks) (f : yF fs ks P P') (h : yTp P B len) : yTp P' B len := by
  obtain ⟨a, b, c⟩ := h
  exact ⟨(f.1 13 0 hf).trans a, b, fun i hi => by rw [f.2.1 14 hk]; exact c i hi⟩
theorem yTq_F {P' : zp} {fs : List (Nat × Nat)} {ks : List Nat} (hf : (269, 2) ∉ fs) (hk : 270 ∉ ks) (f : yF fs ks P P') (h : yTq P B len) : yTq P' B len := by
  obtain ⟨a, b, c⟩ := h
  exact ⟨(f.1 269 2 hf).trans a, b, fun i hi => by rw [f.2.1 270 hk]; exact c i hi⟩
/-- the byte at the mark -/
theorem zs_byteHere (hT : yTp P B len) (hm : P.1 13 1 = zi m) (hl : m ≤ len) : zk_sm d m_Tape_byteHere [.ref 13] (zp_M P, n) = some (some (.int (yhb B len m)), (zp_M P, n)) := by
  obtain ⟨t1, t2, t3⟩ := hT
  rw [e_Tape_byteHere, zp_P1, Option.bind_some, hm, if_neg (zi_n (by omega)), Option.bind_some, zp_P0, Option.bind_some, t1]
  unfold yhb
  by_cases z : m < len
  · rw [if_pos ((zi_l (by omega) (by omega)).mpr z), if_pos z, Option.bind_some, zp_P2', Option.bind_some, zp_al zp_a14' (by decide), Option.bind_some, if_pos ((zi_nI (by omega) (by decide)).mpr (by omega)), Option.bind_some, Option.bind_some, zp_ldi zp_a14' (show m < 240 by omega) (by decide), Option.bind_some, (t3 m z).1]
  · rw [if_neg (fun y => z ((zi_l (by omega) (by omega)).mp y)), if_neg z]
theorem zs_sign0 : ∀ (j m : Nat) (P : zp), len - m = j → m ≤ len → yTp P B len → P.1 13 1 = zi m → ∃ P', zk_sf d m_Tape_sign 0 [.ref 13] [] (zp_M P, n) = some (some (.int (yhb B len (ysk B len m))), (zp_M P', n)) ∧ P'.1 13 1 = zi (ysk B len m) ∧ yF [(13, 1)] [] P P'
  | j, m, P, hj, hl, hT, hm => by
    obtain ⟨t1, t2, t3⟩ := id hT
    have hs := e_Tape_sign_0 d 13 (zp_M P, n)
    rw [zp_P1, Option.bind_some, hm, if_neg (zi_n (by omega)), Option.bind_some, zp_P0, Option.bind_some, t1] at hs
    by_cases z : m < len
    · rw [if_pos ((zi_l (by omega) (by omega)).mpr z), Option.bind_some, zp_P2', Option.bind_some, zp_al zp_a14' (by decide), Option.bind_some, if_pos ((zi_nI (by omega) (by decide)).mpr (by omega)), Option.bind_some, Option.bind_some, zp_ldi zp_a14' (show m < 240 by omega) (by decide), Option.bind_some, (t3 m z).1] at hs
      by_cases y : B m = 32
      · rw [if_pos (show zi (B m) = 32 by rw [y]; rfl), Option.bind_some, zp_P1p, Option.bind_some, zi_s] at hs
        match j, hj with
        | 0, hj => omega
        | j + 1, hj =>
          obtain ⟨P', e', g', F'⟩ := zs_sign0 j (m + 1) (zp_sF P 13 1 (zi (m + 1))) (by omega) (by omega) hT zp_f9
          rw [ysk_s ⟨z, y⟩]
          exact ⟨P', hs.trans e', g', yF_t (yF_f (by decide)) F'⟩
      · rw [if_neg (show ¬ zi (B m) = 32 from fun w => y ((zi_eq (b := 32) (by have := (t3 m z).2.2; omega) (by decide)).mp w)), Option.bind_some, if_neg (zi_n (by omega)), Option.bind_some, Option.bind_some, if_pos ((zi_l (by omega) (by omega)).mpr z), Option.bind_some, Option.bind_some, zp_al zp_a14' (by decide), Option.bind_some, if_pos ((zi_nI (i := m) (m := 240) (by omega) (by decide)).mpr (by omega)), Option.bind_some, Option.bind_some, zp_ldi zp_a14' (show m < 240 by omega) (by decide), Option.bind_some, (t3 m z).1] at hs
        rw [ysk_n (fun w => y w.2)]
        refine ⟨P, hs.trans ?_, hm, yF_r⟩
        unfold yhb
        rw [if_pos z]
    · rw [if_neg (fun y => z ((zi_l (by omega) (by omega)).mp y)), Option.bind_some, if_neg (zi_n (by omega)), Option.bind_some, Option.bind_some, if_neg (fun y => z ((zi_l (by omega) (by omega)).mp y))] at hs
      rw [ysk_n (fun w => z w.1)]
      refine ⟨P, hs.trans ?_, hm, yF_r⟩
      unfold yhb
      rw [if_neg z]
theorem zs_sign (hT : yTp P B len) (hm : P.1 13 1 = zi m) (hl : m ≤ len) : ∃ P', zk_sm d m_Tape_sign [.ref 13] (zp_M P, n) = some (some (.int (yhb B len (ysk B len m))), (zp_M P', n)) ∧ P'.1 13 1 = zi (ysk B len m) ∧ yF [(13, 1)] [] P P' := by
  obtain ⟨P', e', g', F'⟩ := zs_sign0 (d := d) (n := n) (len - m) m P rfl hl hT hm
  exact ⟨P', ((e_Tape_sign d 13 (zp_M P, n)).trans (e_Tape_sign_0 d 13 (zp_M P, n)).symm).trans e', g', F'⟩
theorem zs_step (hm : P.1 13 1 = zi m) : zk_sm d m_Tape_step [.ref 13] (zp_M P, n) = some (none, (zp_M (zp_sF P 13 1 (zi (m + 1))), n)) := by
  rw [e_Tape_step, zp_P1, Option.bind_some, hm, zi_s, zp_P1p, Option.bind_some]
theorem zs_takes (hT : yTp P B len) (hm : P.1 13 1 = zi m) (hl : m ≤ len) {c : Int32} : ∃ P', zk_sm (d + 1) m_Tape_takes [.ref 13, .int c] (zp_M P, n) = some (some (.int (zp_b (decide (yhb B len (ysk B len m) = c)))), (zp_M P', n)) ∧ P'.1 13 1 = zi (if yhb B len (ysk B len m) = c then ysk B len m + 1 else ysk B len m) ∧ yF [(13, 1)] [] P P' := by
  obtain ⟨P1, e1, g1, f1⟩ := zs_sign (d := d) (n := n) hT hm hl
  rw [e_Tape_takes, zp_Pv', Option.bind_some, e1, zs_cI, Option.bind_some]
  by_cases z : yhb B len (ysk B len m) = c
  · refine ⟨zp_sF P1 13 1 (zi (ysk B len m + 1)), ?_, by rw [if_pos z]; exact zp_f9, yF_t f1 (yF_f (by decide))⟩
    rw [if_pos z, zp_P1, Option.bind_some, g1, zi_s, zp_P1p, Option.bind_some, decide_eq_true z]; rfl
  · refine ⟨P1, ?_, by rw [if_neg z]; exact g1, f1⟩
    rw [if_neg z, decide_eq_false z]; rfl
/-- digits -/
def ydgt (c : Int32) : Bool := !decide (c < 48) && !decide (57 < c)
theorem zs_dig {c : Int32} {s : zk_S} : zk_sm d m_Tape_isDigit [.int c] s = some (some (.int (zp_b (ydgt c))), s) := by
  rw [e_Tape_isDigit]
  unfold ydgt
  by_cases z : c < 48
  · rw [if_pos z, decide_eq_true z]; rfl
  · rw [if_neg z, decide_eq_false z]
    by_cases y : 57 < c
    · rw [if_pos y, decide_eq_true y]; rfl
    · rw [if_neg y, decide_eq_false y]; rfl
theorem zs_Rdig {c : Int32} {s : zk_S} : zk_sm d m_R_isDigit [.int c] s = some (some (.int (zp_b (ydgt c))), s) := by
  rw [e_R_isDigit]
  unfold ydgt
  by_cases z : c < 48
  · rw [if_pos z, decide_eq_true z]; rfl
  · rw [if_neg z, decide_eq_false z]
    by_cases y : 57 < c
    · rw [if_pos y, decide_eq_true y]; rfl
    · rw [if_neg y, decide_eq_false y]; rfl
theorem ydgt_m1 : ydgt (-1) = false := by decide
theorem ydgt_o (hB : ∀ i, i < len → 1 ≤ B i ∧ B i < 256) (h : ydgt (yhb B len m) = true) : m < len ∧ 48 ≤ B m ∧ B m ≤ 57 ∧ yhb B len m = zi (B m) := by
  unfold yhb at h ⊢
  by_cases z : m < len
  · rw [if_pos z] at h ⊢
    have hb := hB m z
    unfold ydgt at h
    rw [Bool.and_eq_true, Bool.not_eq_true', Bool.not_eq_true', decide_eq_false_iff_not, decide_eq_false_iff_not] at h
    refine ⟨z, ?_, ?_, rfl⟩
    · by_cases y : 48 ≤ B m
      · exact y
      · exact absurd ((zi_l (m := 48) (by omega) (by decide)).mpr (by omega)) h.1
    · by_cases y : B m ≤ 57
      · exact y
      · exact absurd ((zi_l (i := 57) (by decide) (by omega)).mpr (by omega)) h.2
  · rw [if_neg z, ydgt_m1] at h; cases h
/-- so many digits at most: the mark behind them, the number -/
def ynu (B : Nat → Nat) (len : Nat) : Nat → Nat → Nat → Nat × Nat
  | 0, m, v => (m, v)
  | j + 1, m, v => bif ydgt (yhb B len m) then ynu B len j (m + 1) (10 * v + (B m - 48)) else (m, v)
def ynr (B : Nat → Nat) (len : Nat) (hi : Int32) (x : Nat × Nat) : Int32 × Nat := if ydgt (yhb B len x.1) = true then (-1, x.1) else if hi < zi x.2 then (-1, x.1 - 1) else (zi x.2, x.1)
def yno (B : Nat → Nat) (len D : Nat) (hi : Int32) (m : Nat) : Int32 × Nat := if ydgt (yhb B len (ysk B len m)) = true then ynr B len hi (ynu B len D (ysk B len m) 0) else (-1, ysk B len m)
theorem ynu_b (hB : ∀ i, i < len → 1 ≤ B i ∧ B i < 256) : ∀ (j k m v : Nat), v < 10 ^ k → m ≤ len → m ≤ (ynu B len j m v).1 ∧ (ynu B len j m v).1 ≤ len ∧ (ynu B len j m v).2 < 10 ^ (k + j)
  | 0, k, m, v, hv, hl => ⟨Nat.le_refl m, hl, hv⟩
  | j + 1, k, m, v, hv, hl => by
    show m ≤ (bif ydgt (yhb B len m) then ynu B len j (m + 1) (10 * v + (B m - 48)) else (m, v)).1 ∧ (bif ydgt (yhb B len m) then ynu B len j (m + 1) (10 * v + (B m - 48)) else (m, v)).1 ≤ len ∧ (bif ydgt (yhb B len m) then ynu B len j (m + 1) (10 * v + (B m - 48)) else (m, v)).2 < 10 ^ (k + (j + 1))
    cases hd : ydgt (yhb B len m) with
    | false =>
      refine ⟨Nat.le_refl m, hl, Nat.lt_of_lt_of_le hv (Nat.pow_le_pow_right (by decide) (by omega))⟩
    | true =>
      obtain ⟨h1, h2, h3, -⟩ := ydgt_o hB hd
      obtain ⟨a, b, c⟩ := ynu_b hB j (k + 1) (m + 1) (10 * v + (B m - 48)) (by rw [Nat.pow_succ]; omega) h1
      rw [show k + 1 + j = k + (j + 1) by omega] at c
      exact ⟨by rw [cond_true]; omega, b, c⟩
theorem ynu_1 (hB : ∀ i, i < len → 1 ≤ B i ∧ B i < 256) {j v : Nat} (hd : ydgt (yhb B len m) = true) : m < (ynu B len (j + 1) m v).1 := by
  obtain ⟨h1, -, -, -⟩ := ydgt_o hB hd
  have e : ynu B len (j + 1) m v = ynu B len j (m + 1) (10 * v + (B m - 48)) := by
    show (bif ydgt (yhb B len m) then ynu B len j (m + 1) (10 * v + (B m - 48)) else (m, v)) = _
    rw [hd]; rfl
  rw [e]
  obtain ⟨k, hk⟩ : ∃ k, 10 * v + (B m - 48) < 10 ^ k := ⟨10 * v + (B m - 48), Nat.lt_pow_self (by decide)⟩
  exact (ynu_b hB j k (m + 1) _ hk h1).1
theorem yTp_B (hT : yTp P B len) : ∀ i, i < len → 1 ≤ B i ∧ B i < 256 := fun i hi => (hT.2.2 i hi).2
theorem yTq_B (hT : yTq P B len) : ∀ i, i < len → 1 ≤ B i ∧ B i < 256 := fun i hi => (hT.2.2 i hi).2
theorem zi_dig {v b : Nat} (hb : 48 ≤ b) (hv : v < 10000) (hb2 : b < 256) : zi v * 10 + zi b - 48 = zi (10 * v + (b - 48)) := by
  rw [zi_c10, show (48 : Int32) = zi 48 from rfl, zi_sub (by omega), show 10 * v + b - 48 = 10 * v + (b - 48) by omega]
theorem zs_num17 {D : Nat} (hD : D ≤ 4) {hi : Int32} : ∀ (j k m v : Nat) (P : zp), k + j = D → v < 10 ^ k → m ≤ len → 1 ≤ m ∨ ydgt (yhb B len m) = true ∧ j ≠ 0 → yTp P B len → P.1 13 1 = zi m → ∃ P', zk_sf (d + 1) m_Tape_number 17 [.ref 13, .int (zi D), .int hi, .int (zi v), .int (zi k)] [] (zp_M P, n) = some (some (.int (ynr B len hi (ynu B len j m v)).1), (zp_M P', n)) ∧ P'.1 13 1 = zi (ynr B len hi (ynu B len j m v)).2 ∧ yF [(13, 1)] [] P P' := by
  have fin : ∀ (m v : Nat) (P : zp), v < 10000 → 1 ≤ m → m ≤ len → yTp P B len → P.1 13 1 = zi m → ∃ P', ((zk_rv (zp_M P, n) 13 9).bind fun _ => (zk_cI (zk_sm d m_Tape_byteHere [Value.ref 13] (zp_M P, n))).bind fun p3 => (zk_cI (zk_sm d m_Tape_isDigit [Value.int p3.1] p3.2)).bind fun p4 => if p4.1 = 0 then (if hi < zi v then (zk_gI p4.2 13 9 1).bind fun x5 => (zk_pf p4.2 13 9 1 (Value.int (x5 - 1))).bind fun t6 => some (some (Value.int (-1)), t6) else some (some (Value.int (zi v)), p4.2)) else some (some (Value.int (-1)), p4.2)) = some (some (Value.int (ynr B len hi (m, v)).1), (zp_M P', n)) ∧ P'.1 13 1 = zi (ynr B len hi (m, v)).2 ∧ yF [(13, 1)] [] P P' := by
    intro m v P hv h1 hl hT hm
    rw [zp_Pv', Option.bind_some, zs_byteHere hT hm hl, zs_cI, Option.bind_some, zs_dig, zs_cI, Option.bind_some, zp_ib]
    unfold ynr
    cases hd : ydgt (yhb B len m) with
    | true => exact ⟨P, by rw [cond_true, if_pos rfl], by rw [if_pos rfl]; exact hm, yF_r⟩
    | false =>
      rw [cond_false, if_neg Bool.false_ne_true]
      by_cases z : hi < zi v
      · refine ⟨zp_sF P 13 1 (zi (m - 1)), ?_, by rw [if_pos z]; exact zp_f9, yF_f (by decide)⟩
        rw [if_pos z, if_pos z, zp_P1, Option.bind_some, hm, zi_d h1, zp_P1p, Option.bind_some]
      · exact ⟨P, by rw [if_neg z, if_neg z], by rw [if_neg z]; exact hm, yF_r⟩
  intro j
  induction j with
  | zero =>
    intro k m v P hk hv hl h1 hT hm
    have hk : k = D := hk
    subst hk
    have h1 : 1 ≤ m := h1.elim (fun z => z) (fun z => absurd rfl z.2)
    rw [e_Tape_number_17, if_neg (fun z => absurd ((zi_l (by omega) (by omega)).mp z) (Nat.lt_irrefl _))]
    exact fin m v P (Nat.lt_of_lt_of_le hv (Nat.pow_le_pow_right (by decide) hD)) h1 hl hT hm
  | succ j ih =>
    intro k m v P hk hv hl h1 hT hm
    have hv4 : v < 1000 := Nat.lt_of_lt_of_le hv (Nat.pow_le_pow_right (by decide) (by omega : k ≤ 3))
    have hs := e_Tape_number_17 d 13 (zi D) hi (zi v) (zi k) (zp_M P, n)
    rw [if_pos ((zi_l (by omega) (by omega)).mpr (by omega)), zp_Pv', Option.bind_some, zs_byteHere hT hm hl, zs_cI, Option.bind_some, zs_dig, zs_cI, Option.bind_some, zp_ib] at hs
    have e0 : ynu B len (j + 1) m v = bif ydgt (yhb B len m) then ynu B len j (m + 1) (10 * v + (B m - 48)) else (m, v) := rfl
    rw [e0]
    cases hd : ydgt (yhb B len m) with
    | false =>
      rw [hd, cond_false] at hs
      rw [cond_false, hs]
      exact fin m v P (by omega) (h1.elim (fun z => z) (fun z => by rw [hd] at z; cases z.1)) hl hT hm
    | true =>
      obtain ⟨d1, d2, d3, d4⟩ := ydgt_o (yTp_B hT) hd
      rw [hd, cond_true, zp_Pv', Option.bind_some, zs_byteHere hT hm hl, zs_cI, Option.bind_some, zp_P1, Option.bind_some, hm, zi_s m, zp_P1p, Option.bind_some, d4, zi_dig d2 (by omega) (by omega), zi_s k] at hs
      obtain ⟨P', e', g', F'⟩ := ih (k + 1) (m + 1) (10 * v + (B m - 48)) (zp_sF P 13 1 (zi (m + 1))) (by omega) (by rw [Nat.pow_succ]; omega) d1 (Or.inl (by omega)) hT zp_f9
      exact ⟨P', hs.trans e', g', yF_t (yF_f (by decide)) F'⟩
theorem zs_number (hT : yTp P B len) (hm : P.1 13 1 = zi m) (hl : m ≤ len) {D : Nat} (hD : D ≤ 4) (hD1 : 1 ≤ D) {hi : Int32} : ∃ P', zk_sm (d + 1) m_Tape_number [.ref 13, .int (zi D), .int hi] (zp_M P, n) = some (some (.int (yno B len D hi m).1), (zp_M P', n)) ∧ P'.1 13 1 = zi (yno B len D hi m).2 ∧ yF [(13, 1)] [] P P' := by
  obtain ⟨P1, e1, g1, f1⟩ := zs_sign (d := d) (n := n) hT hm hl
  rw [e_Tape_number, zp_Pv', Option.bind_some, e1, zs_cI, Option.bind_some, zs_dig, zs_cI, Option.bind_some, zp_ib]
  unfold yno
  cases hd : ydgt (yhb B len (ysk B len m)) with
  | false => exact ⟨P1, by rw [cond_false, if_neg Bool.false_ne_true], by rw [if_neg Bool.false_ne_true]; exact g1, f1⟩
  | true =>
    rw [cond_true, if_pos rfl]
    obtain ⟨P', e', g', F'⟩ := zs_num17 (d := d) (n := n) (B := B) (len := len) hD (hi := hi) D 0 (ysk B len m) 0 P1 (Nat.zero_add _) (by decide) (ysk_le hl) (Or.inr ⟨hd, by omega⟩) (yTp_F (by decide) (by decide) f1 hT) g1
    exact ⟨P', e', g', yF_t f1 F'⟩
end
