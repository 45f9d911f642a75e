/-! PARSING 2: the tape, by the reference -/
section
variable {Q : zp} {n : Nat × Nat} {d len m : Nat} {B : Nat → Nat}
theorem zs_Rhere (hT : yTq Q B len) (hm : Q.1 269 3 = zi m) (hl : m ≤ len + 20) : zk_sm d m_R_here [.ref 269] (zp_M Q, n) = some (some (.int (yhb B len m)), (zp_M Q, n)) := by
  obtain ⟨t1, t2, t3⟩ := hT
  rw [e_R_here, zp_R3', Option.bind_some, hm, zp_R2, Option.bind_some, t1]
  unfold yhb
  by_cases z : m < len
  · rw [if_pos ((zi_l (by omega) (by omega)).mpr z), if_pos z, zp_R1', Option.bind_some, Option.bind_some, zp_ldi zp_a270' (show m < 240 by omega) (by decide), Option.bind_some, (t3 m z).1]
  · rw [if_neg (fun y => z ((zi_l (by omega) (by omega)).mp y)), if_neg z]
theorem zs_Rlook0 : ∀ (j m : Nat) (Q : zp), len - m = j → m ≤ len + 20 → yTq Q B len → Q.1 269 3 = zi m → ∃ Q', zk_sf (d + 1) m_R_look 0 [.ref 269] [] (zp_M Q, n) = some (some (.int (yhb B len (ysk B len m))), (zp_M Q', n)) ∧ Q'.1 269 3 = zi (ysk B len m) ∧ yF [(269, 3)] [] Q Q'
  | j, m, Q, hj, hl, hT, hm => by
    obtain ⟨t1, t2, t3⟩ := id hT
    have hs := e_R_look_0 d 269 (zp_M Q, n)
    rw [zp_Rv, Option.bind_some, zs_Rhere hT hm hl, zs_cI, Option.bind_some] at hs
    by_cases z : m < len ∧ B m = 32
    · have e : yhb B len m = 32 := by unfold yhb; rw [if_pos z.1, z.2]; rfl
      rw [if_pos e, zp_R3', Option.bind_some, hm, zi_s, zp_R3p, Option.bind_some] at hs
      match j, hj with
      | 0, hj => omega
      | j + 1, hj =>
        obtain ⟨Q', e', g', F'⟩ := zs_Rlook0 j (m + 1) (zp_sF Q 269 3 (zi (m + 1))) (by omega) (by omega) hT zp_f9
        rw [ysk_s z]
        exact ⟨Q', hs.trans e', g', yF_t (yF_f (by decide)) F'⟩
    · have e : ¬ yhb B len m = 32 := fun y => z (by
        have h1 := yhb_lt y (by decide)
        refine ⟨h1, ?_⟩
        unfold yhb at y
        rw [if_pos h1] at y
        exact (zi_eq (b := 32) (by have := (t3 m h1).2.2; omega) (by decide)).mp y)
      rw [if_neg e, zp_Rv, Option.bind_some, zs_Rhere hT hm hl, zs_cI, Option.bind_some] at hs
      rw [ysk_n z]
      exact ⟨Q, hs, hm, yF_r⟩
theorem zs_Rlook (hT : yTq Q B len) (hm : Q.1 269 3 = zi m) (hl : m ≤ len + 20) : ∃ Q', zk_sm (d + 1) m_R_look [.ref 269] (zp_M Q, n) = some (some (.int (yhb B len (ysk B len m))), (zp_M Q', n)) ∧ Q'.1 269 3 = zi (ysk B len m) ∧ yF [(269, 3)] [] Q Q' := by
  obtain ⟨Q', e', g', F'⟩ := zs_Rlook0 (d := d) (n := n) (len - m) m Q rfl hl hT hm
  exact ⟨Q', ((e_R_look d 269 (zp_M Q, n)).trans (e_R_look_0 d 269 (zp_M Q, n)).symm).trans e', g', F'⟩
/-- a fault is the first one -/
theorem zs_Rbad (hm : Q.1 269 3 = zi m) (hw : Q.1 269 4 = -1) : zk_sm d m_R_bad [.ref 269] (zp_M Q, n) = some (none, (zp_M (zp_sF Q 269 4 (zi m)), n)) := by
  rw [e_R_bad, zp_R4', Option.bind_some, hw, if_pos rfl, zp_R3', Option.bind_some, hm, zp_R4p, Option.bind_some]
theorem zs_Rbad2 {q : Nat} (hw : Q.1 269 4 = zi q) (hq : q < 1000) : ∃ Q', zk_sm d m_R_bad [.ref 269] (zp_M Q, n) = some (none, (zp_M Q', n)) ∧ Q'.1 269 4 = zi q ∧ yF [(269, 4)] [] Q Q' ∧ Q'.1 269 3 = Q.1 269 3 := by
  refine ⟨zp_sF Q 269 4 (zi q), ?_, zp_f9, yF_f (by decide), zp_f8 (by decide)⟩
  rw [e_R_bad, zp_R4', Option.bind_some, hw, if_neg (zi_n1 (by omega)), Option.bind_some, zp_R4p, Option.bind_some]
/-- four digits at most -/
theorem zs_Rplain4 : ∀ (j k m v : Nat) (Q : zp), k + j = 4 → v < 10 ^ k → m ≤ len → yTq Q B len → Q.1 269 3 = zi m → Q.1 269 4 = -1 → ∃ Q', zk_sf (d + 1) m_R_plainNumber 4 [.ref 269, .int (zi v), .int (zi k)] [] (zp_M Q, n) = some (some (.int (zi (ynu B len j m v).2)), (zp_M Q', n)) ∧ Q'.1 269 3 = zi (ynu B len j m v).1 ∧ Q'.1 269 4 = (if ydgt (yhb B len (ynu B len j m v).1) = true then zi (ynu B len j m v).1 else -1) ∧ yF [(269, 3), (269, 4)] [] Q Q' := by
  have fin : ∀ (m v : Nat) (Q : zp), m ≤ len → yTq Q B len → Q.1 269 3 = zi m → Q.1 269 4 = -1 → ∃ Q', ((zk_rv (zp_M Q, n) 269 12).bind fun _ => (zk_cI (zk_sm d m_R_here [Value.ref 269] (zp_M Q, n))).bind fun p3 => (zk_cI (zk_sm d m_R_isDigit [Value.int p3.1] p3.2)).bind fun p4 => if p4.1 = 0 then some (some (Value.int (zi v)), p4.2) else (zk_rv p4.2 269 12).bind fun _ => (zk_cV (zk_sm d m_R_bad [Value.ref 269] p4.2)).bind fun t5 => some (some (Value.int (zi v)), t5)) = some (some (Value.int (zi v)), (zp_M Q', n)) ∧ Q'.1 269 3 = zi m ∧ Q'.1 269 4 = (if ydgt (yhb B len m) = true then zi m else -1) ∧ yF [(269, 3), (269, 4)] [] Q Q' := by
    intro m v Q hl hT hm hw
    rw [zp_Rv, Option.bind_some, zs_Rhere hT hm (by omega), zs_cI, Option.bind_some, zs_Rdig, zs_cI, Option.bind_some, zp_ib]
    cases hd : ydgt (yhb B len m) with
    | false => exact ⟨Q, by rw [cond_false], hm, by rw [if_neg Bool.false_ne_true]; exact hw, yF_r⟩
    | true => exact ⟨zp_sF Q 269 4 (zi m), by rw [cond_true, zp_Rv, Option.bind_some, zs_Rbad hm hw, zs_cV, Option.bind_some], (zp_f8 (by decide)).trans hm, by rw [if_pos rfl]; exact zp_f9, yF_f (by decide)⟩
  intro j
  induction j with
  | zero =>
    intro k m v Q hk hv hl hT hm hw
    have hk : k = 4 := hk
    subst hk
    rw [e_R_plainNumber_4, if_neg (by decide)]
    exact fin m v Q hl hT hm hw
  | succ j ih =>
    intro k m v Q hk hv hl hT hm hw
    have hv4 : v < 1000 := Nat.lt_of_lt_of_le hv (Nat.pow_le_pow_right (by decide) (by omega : k ≤ 3))
    have hs := e_R_plainNumber_4 d 269 (zi v) (zi k) (zp_M Q, n)
    rw [if_pos (show zi k < 4 from (zi_l (m := 4) (by omega) (by decide)).mpr (by omega)), zp_Rv, Option.bind_some, zs_Rhere hT hm (by omega), zs_cI, Option.bind_some, zs_Rdig, zs_cI, Option.bind_some, zp_ib] at hs
    have e0 : ynu B len (j + 1) m v = bif ydgt (yhb B len m) then ynu B len j (m + 1) (10 * v + (B m - 48)) else (m, v) := rfl
    rw [e0]
    cases hd : ydgt (yhb B len m) with
    | false =>
      rw [hd, cond_false] at hs
      rw [cond_false, hs]
      exact fin m v Q hl hT hm hw
    | true =>
      obtain ⟨d1, d2, d3, d4⟩ := ydgt_o (yTq_B hT) hd
      have e1 : 10 * zi v + zi (B m) - 48 = zi (10 * v + (B m - 48)) := by rw [Int32.mul_comm]; exact zi_dig d2 (by omega) (by omega)
      rw [hd, cond_true, zp_Rv, Option.bind_some, zs_Rhere hT hm (by omega), zs_cI, Option.bind_some, zp_R3', Option.bind_some, hm, zi_s m, zp_R3p, Option.bind_some, d4, e1, zi_s k] at hs
      obtain ⟨Q', e', g', w', F'⟩ := ih (k + 1) (m + 1) (10 * v + (B m - 48)) (zp_sF Q 269 3 (zi (m + 1))) (by omega) (by rw [Nat.pow_succ]; omega) d1 hT zp_f9 ((zp_f8 (by decide)).trans hw)
      exact ⟨Q', hs.trans e', g', w', yF_t (yF_f (by decide)) F'⟩
theorem zs_Rplain (hT : yTq Q B len) (hm : Q.1 269 3 = zi m) (hw : Q.1 269 4 = -1) (hl : m ≤ len) : ∃ Q', zk_sm (d + 1) m_R_plainNumber [.ref 269] (zp_M Q, n) = some (some (.int (zi (ynu B len 4 m 0).2)), (zp_M Q', n)) ∧ Q'.1 269 3 = zi (ynu B len 4 m 0).1 ∧ Q'.1 269 4 = (if ydgt (yhb B len (ynu B len 4 m 0).1) = true then zi (ynu B len 4 m 0).1 else -1) ∧ yF [(269, 3), (269, 4)] [] Q Q' := by
  rw [e_R_plainNumber]
  exact zs_Rplain4 4 0 m 0 Q rfl (by decide) hl hT hm hw
/-- a county's number -/
theorem zs_Rnumber (hT : yTq Q B len) (hm : Q.1 269 3 = zi m) (hw : Q.1 269 4 = -1) (hl : m ≤ len) {hi : Int32} : ∃ Q' x, zk_sm (d + 2) m_R_number [.ref 269, .int hi] (zp_M Q, n) = some (some (.int x), (zp_M Q', n)) ∧ Q'.1 269 3 = zi (yno B len 2 hi m).2 ∧ ((yno B len 2 hi m).1 = -1 → Q'.1 269 4 = zi (yno B len 2 hi m).2) ∧ ((yno B len 2 hi m).1 ≠ -1 → Q'.1 269 4 = -1 ∧ x = (yno B len 2 hi m).1) ∧ yF [(269, 3), (269, 4)] [] Q Q' := by
  obtain ⟨Q1, e1, g1, f1⟩ := zs_Rlook (d := d) (n := n) hT hm (by omega)
  have hB := yTq_B hT
  have T1 : yTq Q1 B len := yTq_F (by decide) (by decide) f1 hT
  have w1 : Q1.1 269 4 = -1 := (f1.1 269 4 (by decide)).trans hw
  have F1 : yF [(269, 3), (269, 4)] [] Q Q1 := yF_m f1 (fun x hx => by simp only [List.mem_cons, List.not_mem_nil, or_false] at hx ⊢; exact Or.inl hx) (fun _ h => h)
  have sl := ysk_le (B := B) hl
  have hs := e_R_number (d + 1) 269 hi (zp_M Q, n)
  rw [zp_Rv, Option.bind_some, e1, zs_cI, Option.bind_some, zs_Rdig, zs_cI, Option.bind_some, zp_ib] at hs
  -- how it ends, with v behind the mark m'
  have fin : ∀ (m' v : Nat) (Q2 : zp), v < 1000 → 1 ≤ m' → m' ≤ len → yTq Q2 B len → Q2.1 269 3 = zi m' → Q2.1 269 4 = -1 → yF [(269, 3), (269, 4)] [] Q Q2 → ynr B len hi (m', v) = yno B len 2 hi m → ∃ Q' x, ((zk_rv (zp_M Q2, n) 269 12).bind fun _ => (zk_cI (zk_sm (d + 1) m_R_here [Value.ref 269] (zp_M Q2, n))).bind fun p9 => (zk_cI (zk_sm (d + 1) m_R_isDigit [Value.int p9.1] p9.2)).bind fun p10 => if p10.1 = 0 then (if hi < zi v then (zk_gI p10.2 269 12 3).bind fun x11 => (zk_pf p10.2 269 12 3 (Value.int (x11 - 1))).bind fun t12 => (zk_rv t12 269 12).bind fun _ => (zk_cV (zk_sm (d + 1) m_R_bad [Value.ref 269] t12)).bind fun t13 => some (some (Value.int (zi v)), t13) else some (some (Value.int (zi v)), p10.2)) else (zk_rv p10.2 269 12).bind fun _ => (zk_cV (zk_sm (d + 1) m_R_bad [Value.ref 269] p10.2)).bind fun t14 => some (some (Value.int (zi v)), t14)) = some (some (Value.int x), (zp_M Q', n)) ∧ Q'.1 269 3 = zi (yno B len 2 hi m).2 ∧ ((yno B len 2 hi m).1 = -1 → Q'.1 269 4 = zi (yno B len 2 hi m).2) ∧ ((yno B len 2 hi m).1 ≠ -1 → Q'.1 269 4 = -1 ∧ x = (yno B len 2 hi m).1) ∧ yF [(269, 3), (269, 4)] [] Q Q' := by
    intro m' v Q2 hv h1 hl' T2 m2 w2 F2 hy
    rw [zp_Rv, Option.bind_some, zs_Rhere T2 m2 (by omega), zs_cI, Option.bind_some, zs_Rdig, zs_cI, Option.bind_some, zp_ib, ← hy]
    unfold ynr
    cases hd : ydgt (yhb B len m') with
    | true =>
      refine ⟨zp_sF Q2 269 4 (zi m'), zi v, ?_, ?_, ?_, ?_, yF_t F2 (yF_f (by decide))⟩
      · rw [cond_true, zp_Rv, Option.bind_some, zs_Rbad m2 w2, zs_cV, Option.bind_some]
      · rw [if_pos rfl]; exact (zp_f8 (by decide)).trans m2
      · rw [if_pos rfl]; exact fun _ => zp_f9
      · rw [if_pos rfl]; exact fun z => absurd rfl z
    | false =>
      rw [if_neg Bool.false_ne_true, cond_false]
      by_cases z : hi < zi v
      · rw [if_pos z, if_pos z]
        have m3 : (zp_sF Q2 269 3 (zi (m' - 1))).1 269 3 = zi (m' - 1) := zp_f9
        have w3 : (zp_sF Q2 269 3 (zi (m' - 1))).1 269 4 = -1 := (zp_f8 (by decide)).trans w2
        refine ⟨zp_sF (zp_sF Q2 269 3 (zi (m' - 1))) 269 4 (zi (m' - 1)), zi v, ?_, (zp_f8 (by decide)).trans m3, fun _ => zp_f9, fun z => absurd rfl z, yF_t F2 (yF_t (yF_f (by decide)) (yF_f (by decide)))⟩
        rw [zp_R3', Option.bind_some, m2, zi_d h1, zp_R3p, Option.bind_some, zp_Rv, Option.bind_some, zs_Rbad m3 w3, zs_cV, Option.bind_some]
      · rw [if_neg z, if_neg z]
        exact ⟨Q2, zi v, rfl, m2, fun y => absurd y (zi_n1 (by omega)), fun _ => ⟨w2, rfl⟩, F2⟩
  cases hd : ydgt (yhb B len (ysk B len m)) with
  | false =>
    have hy : yno B len 2 hi m = (-1, ysk B len m) := by unfold yno; rw [hd, if_neg Bool.false_ne_true]
    rw [hd, cond_false, zp_Rv, Option.bind_some, zs_Rbad g1 w1, zs_cV, Option.bind_some] at hs
    rw [hy]
    exact ⟨_, _, hs, (zp_f8 (by decide)).trans g1, fun _ => zp_f9, fun z => absurd rfl z, yF_t F1 (yF_f (by decide))⟩
  | true =>
    obtain ⟨d1, d2, d3, d4⟩ := ydgt_o hB hd
    have hy : yno B len 2 hi m = ynr B len hi (ynu B len 2 (ysk B len m) 0) := by unfold yno; rw [hd, if_pos rfl]
    have hy2 : ynu B len 2 (ysk B len m) 0 = bif ydgt (yhb B len (ysk B len m + 1)) then (ysk B len m + 1 + 1, 10 * (B (ysk B len m) - 48) + (B (ysk B len m + 1) - 48)) else (ysk B len m + 1, B (ysk B len m) - 48) := by
      show (bif ydgt (yhb B len (ysk B len m)) then (bif ydgt (yhb B len (ysk B len m + 1)) then (ysk B len m + 1 + 1, 10 * (10 * 0 + (B (ysk B len m) - 48)) + (B (ysk B len m + 1) - 48)) else (ysk B len m + 1, 10 * 0 + (B (ysk B len m) - 48))) else (ysk B len m, 0)) = _
      rw [hd, cond_true, Nat.mul_zero, Nat.zero_add]
    have e48 : zi (B (ysk B len m)) - 48 = zi (B (ysk B len m) - 48) := zi_sub (b := 48) d2
    obtain ⟨Q2, hQ2⟩ : ∃ Q2, Q2 = zp_sF Q1 269 3 (zi (ysk B len m + 1)) := ⟨_, rfl⟩
    have m2 : Q2.1 269 3 = zi (ysk B len m + 1) := by rw [hQ2]; exact zp_f9
    have w2 : Q2.1 269 4 = -1 := by rw [hQ2]; exact (zp_f8 (by decide)).trans w1
    have F2 : yF [(269, 3), (269, 4)] [] Q Q2 := yF_t F1 (by rw [hQ2]; exact yF_f (by decide))
    have T2 : yTq Q2 B len := yTq_F (by decide) (by decide) F2 hT
    rw [hd, cond_true, zp_Rv, Option.bind_some, zs_Rhere T1 g1 (by omega), zs_cI, Option.bind_some, zp_R3', Option.bind_some, g1, zi_s (ysk B len m), zp_R3p, Option.bind_some, ← hQ2, d4, e48, zp_Rv, Option.bind_some, zs_Rhere T2 m2 (by omega), zs_cI, Option.bind_some, zs_Rdig, zs_cI, Option.bind_some, zp_ib] at hs
    cases hd2 : ydgt (yhb B len (ysk B len m + 1)) with
    | false =>
      rw [hd2, cond_false] at hy2
      rw [hd2, cond_false] at hs
      rw [hs]
      exact fin (ysk B len m + 1) (B (ysk B len m) - 48) Q2 (by omega) (by omega) (by omega) T2 m2 w2 F2 (by rw [hy, hy2])
    | true =>
      obtain ⟨c1, c2, c3, c4⟩ := ydgt_o hB hd2
      rw [hd2, cond_true] at hy2
      obtain ⟨Q3, hQ3⟩ : ∃ Q3, Q3 = zp_sF Q2 269 3 (zi (ysk B len m + 1 + 1)) := ⟨_, rfl⟩
      have m3 : Q3.1 269 3 = zi (ysk B len m + 1 + 1) := by rw [hQ3]; exact zp_f9
      have w3 : Q3.1 269 4 = -1 := by rw [hQ3]; exact (zp_f8 (by decide)).trans w2
      have F3 : yF [(269, 3), (269, 4)] [] Q Q3 := yF_t F2 (by rw [hQ3]; exact yF_f (by decide))
      have T3 : yTq Q3 B len := yTq_F (by decide) (by decide) F3 hT
      have e1 : 10 * zi (B (ysk B len m) - 48) + zi (B (ysk B len m + 1)) - 48 = zi (10 * (B (ysk B len m) - 48) + (B (ysk B len m + 1) - 48)) := by rw [Int32.mul_comm]; exact zi_dig c2 (by omega) (by omega)
      rw [hd2, cond_true, zp_Rv, Option.bind_some, zs_Rhere T2 m2 (by omega), zs_cI, Option.bind_some, zp_R3', Option.bind_some, m2, zi_s (ysk B len m + 1), zp_R3p, Option.bind_some, ← hQ3, c4, e1] at hs
      rw [hs]
      exact fin (ysk B len m + 1 + 1) (10 * (B (ysk B len m) - 48) + (B (ysk B len m + 1) - 48)) Q3 (by omega) (by omega) (by omega) T3 m3 w3 F3 (by rw [hy, hy2])
end
