/-! PARSING 16: counties: a clause's items -/
abbrev yPi : Type := Nat × Option (Nat → Int32)
theorem yno_b {B : Nat → Nat} {len m D : Nat} {hi : Int32} (hB : ∀ i, i < len → 1 ≤ B i ∧ B i < 256) (hl : m ≤ len) (hD : D ≤ 4) (hD1 : 1 ≤ D) : (yno B len D hi m).2 ≤ len ∧ ((yno B len D hi m).1 ≠ -1 → m < (yno B len D hi m).2 ∧ ¬ hi < (yno B len D hi m).1 ∧ ∃ v, v < 10000 ∧ (yno B len D hi m).1 = zi v) := by
  have sg := @ysk_ge B len m
  have sl := ysk_le (B := B) hl
  unfold yno
  cases hd : ydgt (yhb B len (ysk B len m)) with
  | false =>
    rw [if_neg Bool.false_ne_true]
    exact ⟨sl, fun z => absurd rfl z⟩
  | true =>
    rw [if_pos rfl]
    obtain ⟨D', rfl⟩ : ∃ D', D = D' + 1 := ⟨D - 1, by omega⟩
    obtain ⟨-, a, b⟩ := ynu_b hB (D' + 1) 0 (ysk B len m) 0 (by decide) sl
    have c := ynu_1 (v := 0) (j := D') hB hd
    have b' : (ynu B len (D' + 1) (ysk B len m) 0).2 < 10000 := Nat.lt_of_lt_of_le b (Nat.pow_le_pow_right (by decide) (by omega : 0 + (D' + 1) ≤ 4))
    unfold ynr
    by_cases h1 : ydgt (yhb B len (ynu B len (D' + 1) (ysk B len m) 0).1) = true
    · rw [if_pos h1]
      exact ⟨a, fun z => absurd rfl z⟩
    · rw [if_neg h1]
      by_cases h2 : hi < zi (ynu B len (D' + 1) (ysk B len m) 0).2
      · rw [if_pos h2]
        exact ⟨by show (ynu B len (D' + 1) (ysk B len m) 0).1 - 1 ≤ len; omega, fun z => absurd rfl z⟩
      · rw [if_neg h2]
        exact ⟨a, fun _ => ⟨by show m < (ynu B len (D' + 1) (ysk B len m) 0).1; omega, h2, _, b', rfl⟩⟩
/-- how many items may still come -/
def yct (many : Nat) (h : Int32) : Nat := (List.range many).foldl (fun a i => bif yb_t h i then a else a + 1) 0
theorem yct_s {many i : Nat} {h : Int32} (hm : many = 2 ∨ many = 3) (hi : i < many) (hf : yb_t h i = false) : yct many (h ||| (1 <<< (zi i &&& 31))) + 1 = yct many h := by
  have e : ∀ j, j < 3 → yb_t (h ||| (1 <<< (zi i &&& 31))) j = (yb_t h j || decide (j = i)) := fun j hj => by
    rw [yb_or, yb_1s i (by omega) j (by omega)]
  have e0 := e 0 (by decide)
  have e1 := e 1 (by decide)
  have e2 := e 2 (by decide)
  rcases hm with rfl | rfl
  · show (bif yb_t (h ||| (1 <<< (zi i &&& 31))) 1 then (bif yb_t (h ||| (1 <<< (zi i &&& 31))) 0 then 0 else 0 + 1) else (bif yb_t (h ||| (1 <<< (zi i &&& 31))) 0 then 0 else 0 + 1) + 1) + 1 = (bif yb_t h 1 then (bif yb_t h 0 then 0 else 0 + 1) else (bif yb_t h 0 then 0 else 0 + 1) + 1)
    rw [e0, e1]
    match i, hi, hf with
    | 0, _, hf => rw [hf]; cases yb_t h 1 <;> rfl
    | 1, _, hf => rw [hf]; cases yb_t h 0 <;> rfl
  · show (bif yb_t (h ||| (1 <<< (zi i &&& 31))) 2 then (bif yb_t (h ||| (1 <<< (zi i &&& 31))) 1 then (bif yb_t (h ||| (1 <<< (zi i &&& 31))) 0 then 0 else 0 + 1) else (bif yb_t (h ||| (1 <<< (zi i &&& 31))) 0 then 0 else 0 + 1) + 1) else (bif yb_t (h ||| (1 <<< (zi i &&& 31))) 1 then (bif yb_t (h ||| (1 <<< (zi i &&& 31))) 0 then 0 else 0 + 1) else (bif yb_t (h ||| (1 <<< (zi i &&& 31))) 0 then 0 else 0 + 1) + 1) + 1) + 1 = (bif yb_t h 2 then (bif yb_t h 1 then (bif yb_t h 0 then 0 else 0 + 1) else (bif yb_t h 0 then 0 else 0 + 1) + 1) else (bif yb_t h 1 then (bif yb_t h 0 then 0 else 0 + 1) else (bif yb_t h 0 then 0 else 0 + 1) + 1) + 1)
    rw [e0, e1, e2]
    match i, hi, hf with
    | 0, _, hf => rw [hf]; cases yb_t h 1 <;> cases yb_t h 2 <;> rfl
    | 1, _, hf => rw [hf]; cases yb_t h 0 <;> cases yb_t h 2 <;> rfl
    | 2, _, hf => rw [hf]; cases yb_t h 0 <;> cases yb_t h 1 <;> rfl
/-- a kind of clause: the letters in the string a, the bounds in the row hc, the sign, how many items -/
def yKd (L : Nat) (xs : Nat → Int32) (n : Nat × Nat) (a hc : Nat) (cl : Int32) (bs : List Int32) (hf : Nat → Int32) : Prop := (bs.length = 2 ∨ bs.length = 3) ∧
  (∀ (P : zp) (c : Int32) (d : Nat), zk_kE L xs (zp_M P, n) → ¬ c < 0 → ¬ 255 < c → zk_rv (zp_M P, n) a 13 = some () ∧ zk_sm (d + 3) m_String_indexOf_I [.ref a, .int c] (zp_M P, n) = some (some (.int (yix bs 0 c)), (zp_M P, n)) ∧ zk_sm (d + 1) m_String_length [.ref a] (zp_M P, n) = some (some (.int (zi bs.length)), (zp_M P, n))) ∧
  (∀ (P : zp) (i d : Nat), zk_kE L xs (zp_M P, n) → i < bs.length → zk_sm d m_SaddlerKnows_at [.ref hc, .int (zi i)] (zp_M P, n) = some (some (.int (hf i)), (zp_M P, n))) ∧
  (∀ b, b < 256 → (yix bs 0 (zi b) = -1 ∨ ∃ i, i < bs.length ∧ yix bs 0 (zi b) = zi i) ∧ ∀ (d : Nat) (s : zk_S), zk_sm d m_R_itemOf [.int cl, .int (zi b)] s = some (some (.int (yix bs 0 (zi b))), s)) ∧
  (∀ (d : Nat) (s : zk_S), zk_sm d m_R_itemOf [.int cl, .int (-1)] s = some (some (.int (-1)), s)) ∧
  (∀ (i d : Nat) (s : zk_S), i < bs.length → zk_sm d m_R_highest [.int cl, .int (zi i)] s = some (some (.int (hf i)), s)) ∧ yix bs 0 59 = -1
/-- the item that a byte stands for -/
def yim (bs : List Int32) (c : Int32) : Int32 := if c = -1 then -1 else yix bs 0 c
section
variable {n : Nat × Nat} {L len : Nat} {xs : Nat → Int32} {B : Nat → Nat}
theorem zp_Z1 {P : zp} : zk_gR (zp_M P, n) 15 0 1 = some 13 := zp_gR (by decide +kernel)
theorem zp_Z2 {P : zp} : zk_gR (zp_M P, n) 15 0 2 = some 23 := zp_gR (by decide +kernel)
theorem zp_Z0 {P : zp} : zk_gR (zp_M P, n) 15 0 0 = some 16 := zp_gR (by decide +kernel)
theorem zp_Zv {P : zp} : zk_rv (zp_M P, n) 15 0 = some () := zp_rv (by decide +kernel)
theorem zp_a23 : zp_ad 23 = (0, 3) := by decide +kernel
/-- what items come to: behind the last one; a fault; or a letter that was there -/
def yqi (B : Nat → Nat) (len to fr many : Nat) (o : yPi) (Q' : zp) : Prop := match o.2 with
  | some w => Q'.1 269 3 = zi o.1 ∧ Q'.1 269 4 = -1 ∧ ∀ i, i < many → Q'.2.1 to (fr + i) = w i
  | none => Q'.1 269 4 = zi o.1 ∨ (Q'.1 269 4 = -1 ∧ Q'.1 269 3 = zi o.1 ∧ ysk B len o.1 = o.1 ∧ yhb B len o.1 ≠ -1 ∧ yhb B len o.1 ≠ 59)
def yobi (o : yPi) : Int32 := match o.2 with | some _ => 1 | none => 0
set_option maxHeartbeats 4000000 in
theorem yR_items {a hc to fr tm : Nat} {cl : Int32} {bs : List Int32} {hf : Nat → Int32} (hB : ∀ i, i < len → 1 ≤ B i ∧ B i < 256) (h240 : len ≤ 240) (hK : yKd L xs n a hc cl bs hf) (hto : zp_ad to = (0, tm)) (htm : tm < 100) (hfr : fr + bs.length ≤ tm) (hn270 : to ≠ 270) : ∀ (j m k : Nat) (h : Int32) (v : Nat → Int32), yct bs.length h = j → k + j = bs.length → m ≤ len → ∃ o : yPi, (o.1 ≤ len ∧ ∀ w, o.2 = some w → m ≤ o.1 ∧ ysk B len o.1 = o.1 ∧ ∀ i, i < bs.length → w i = v i ∨ (¬ hf i < w i ∧ ∃ x, x < 10000 ∧ w i = zi x)) ∧
    (∀ (P : zp) (e : Nat) (v5 v6 v7 : Value), 6 ≤ e → yTp P B len → P.1 13 1 = zi m → zk_kE L xs (zp_M P, n) → (∀ i, i < bs.length → P.2.1 23 i = v i) → ∃ P', zk_sf (e + 1) m_CountyReader_readsItems 5 [.ref 15, .ref a, .ref hc, .int h, .int (zi k), v5, v6, v7] [] (zp_M P, n) = some (some (.int (yobi o)), (zp_M P', n)) ∧ yF [(13, 1)] [23] P P' ∧ P'.1 13 1 = zi o.1 ∧ zk_kE L xs (zp_M P', n) ∧ ∀ w, o.2 = some w → ∀ i, i < bs.length → P'.2.1 23 i = w i) ∧
    ∀ (Q : zp) (e : Nat) (mm : Int32), 6 ≤ e → yTq Q B len → Q.1 269 3 = zi (ysk B len m) → Q.1 269 4 = -1 → (∀ i, i < bs.length → Q.2.1 to (fr + i) = v i) → ∃ Q', zk_sf (e + 1) m_R_items 41 [.ref 269, .int cl, .ref to, .int (zi fr), .int mm, .int h, .int (yim bs (yhb B len (ysk B len m)))] [] (zp_M Q, n) = some (none, (zp_M Q', n)) ∧ yF [(269, 3), (269, 4)] [to] Q Q' ∧ (∀ i, i < fr ∨ fr + bs.length ≤ i → Q'.2.1 to i = Q.2.1 to i) ∧ yqi B len to fr bs.length o Q' := by
  obtain ⟨hm23, kS, kA, kI, kI1, kH, k59⟩ := hK
  intro j
  induction j using Nat.strongRecOn with
  | _ j ihj =>
  intro m k h v hj hk hm
  have sg := @ysk_ge B len m
  have sl := ysk_le (B := B) hm
  have hml : bs.length ≤ 3 := by omega
  -- the class up to the sign
  have CC : ∀ (P : zp) (e : Nat) (v5 v6 v7 : Value), 6 ≤ e → yTp P B len → P.1 13 1 = zi m → zk_kE L xs (zp_M P, n) → ∃ P1, P1.1 13 1 = zi (ysk B len m) ∧ yF [(13, 1)] [] P P1 ∧ zk_kE L xs (zp_M P1, n) ∧ yTp P1 B len ∧ zk_sf (e + 1) m_CountyReader_readsItems 5 [.ref 15, .ref a, .ref hc, .int h, .int (zi k), v5, v6, v7] [] (zp_M P, n) = (if yhb B len (ysk B len m) = (-1) then some (some (.int 1), (zp_M P1, n)) else (zk_rv (zp_M P1, n) a 13).bind fun _ => (zk_cI (zk_sm e m_String_indexOf_I [.ref a, .int ((Int32.toUInt32 (yhb B len (ysk B len m)) % 65536).toInt32)] (zp_M P1, n))).bind fun p4 => if p4.1 < 0 then some (some (.int 1), p4.2) else (zk_cI (zk_sm e m_SaddlerKnows_hasBit [.int h, .int p4.1] p4.2)).bind fun p5 => if p5.1 = 0 then (zk_gR p5.2 15 0 1).bind fun b6 => (zk_rv p5.2 b6 9).bind fun _ => (zk_cV (zk_sm e m_Tape_step [.ref b6] p5.2)).bind fun t7 => (zk_gR t7 15 0 1).bind fun b8 => (zk_cI (zk_sm e m_SaddlerKnows_at [.ref hc, .int p4.1] t7)).bind fun p9 => (zk_rv p9.2 b8 9).bind fun _ => (zk_cI (zk_sm e m_Tape_number [.ref b8, .int 2, .int p9.1] p9.2)).bind fun p10 => if p10.1 = (-1) then some (some (.int 0), p10.2) else (zk_gR p10.2 15 0 2).bind fun b11 => (zk_cV (zk_sm e m_SaddlerKnows_put [.ref b11, .int p4.1, .int p10.1] p10.2)).bind fun t12 => zk_sf (e + 1) m_CountyReader_readsItems 5 [.ref 15, .ref a, .ref hc, .int (h ||| (1 <<< (p4.1 &&& 31))), .int (zi (k + 1)), .int (yhb B len (ysk B len m)), .int p4.1, .int p10.1] [] t12 else some (some (.int 0), p5.2)) := by
    intro P e v5 v6 v7 he hT hmk hE
    obtain ⟨e', rfl⟩ : ∃ e', e = e' + 1 := ⟨e - 1, by omega⟩
    obtain ⟨s1, -, s3⟩ := kS P 0 e' hE (by decide) (by decide)
    obtain ⟨P1, e1, g1, f1⟩ := zs_sign (d := e' + 1) (n := n) hT hmk hm
    refine ⟨P1, g1, f1, zk_sm_k e1 hE, yTp_F (by decide) (by decide) f1 hT, ?_⟩
    rw [e_CountyReader_readsItems_5, s1, Option.bind_some, s3, zs_cI, Option.bind_some, if_neg (fun z => absurd ((zi_l (by omega) (by omega)).mp z) (by omega)), zp_Z1, Option.bind_some, zp_Pv', Option.bind_some, e1, zs_cI, Option.bind_some, zi_s]
  have ends : (yim bs (yhb B len (ysk B len m)) = -1) → (∀ (P1 : zp) (d : Nat), zk_kE L xs (zp_M P1, n) → yhb B len (ysk B len m) ≠ -1 → zk_rv (zp_M P1, n) a 13 = some () ∧ zk_sm (d + 3) m_String_indexOf_I [.ref a, .int ((Int32.toUInt32 (yhb B len (ysk B len m)) % 65536).toInt32)] (zp_M P1, n) = some (some (.int (-1)), (zp_M P1, n))) → ∃ o : yPi, (o.1 ≤ len ∧ ∀ w, o.2 = some w → m ≤ o.1 ∧ ysk B len o.1 = o.1 ∧ ∀ i, i < bs.length → w i = v i ∨ (¬ hf i < w i ∧ ∃ x, x < 10000 ∧ w i = zi x)) ∧
    (∀ (P : zp) (e : Nat) (v5 v6 v7 : Value), 6 ≤ e → yTp P B len → P.1 13 1 = zi m → zk_kE L xs (zp_M P, n) → (∀ i, i < bs.length → P.2.1 23 i = v i) → ∃ P', zk_sf (e + 1) m_CountyReader_readsItems 5 [.ref 15, .ref a, .ref hc, .int h, .int (zi k), v5, v6, v7] [] (zp_M P, n) = some (some (.int (yobi o)), (zp_M P', n)) ∧ yF [(13, 1)] [23] P P' ∧ P'.1 13 1 = zi o.1 ∧ zk_kE L xs (zp_M P', n) ∧ ∀ w, o.2 = some w → ∀ i, i < bs.length → P'.2.1 23 i = w i) ∧
    ∀ (Q : zp) (e : Nat) (mm : Int32), 6 ≤ e → yTq Q B len → Q.1 269 3 = zi (ysk B len m) → Q.1 269 4 = -1 → (∀ i, i < bs.length → Q.2.1 to (fr + i) = v i) → ∃ Q', zk_sf (e + 1) m_R_items 41 [.ref 269, .int cl, .ref to, .int (zi fr), .int mm, .int h, .int (yim bs (yhb B len (ysk B len m)))] [] (zp_M Q, n) = some (none, (zp_M Q', n)) ∧ yF [(269, 3), (269, 4)] [to] Q Q' ∧ (∀ i, i < fr ∨ fr + bs.length ≤ i → Q'.2.1 to i = Q.2.1 to i) ∧ yqi B len to fr bs.length o Q' := by
    intro hi hx
    refine ⟨(ysk B len m, some v), ⟨sl, fun w hw => ?_⟩, fun P e v5 v6 v7 he hT hmk hE hv => ?_, fun Q e mm he hT hmk hw hv => ?_⟩
    · cases hw
      exact ⟨sg, ysk_2, fun i _ => Or.inl rfl⟩
    · obtain ⟨P1, g1, f1, E1, T1, ea⟩ := CC P e v5 v6 v7 he hT hmk hE
      refine ⟨P1, ?_, yF_m f1 (fun _ h => h) (fun _ h => by cases h), g1, E1, fun w hw i hi => ?_⟩
      · by_cases z : yhb B len (ysk B len m) = -1
        · rw [ea, if_pos z]; rfl
        · obtain ⟨e', rfl⟩ : ∃ e', e = e' + 3 := ⟨e - 3, by omega⟩
          obtain ⟨x1, x2⟩ := hx P1 e' E1 z
          rw [ea, if_neg z, x1, Option.bind_some, x2, zs_cI, Option.bind_some, if_pos (show (-1 : Int32) < 0 by decide)]; rfl
      · cases hw
        rw [f1.2.1 23 (fun z => by cases z)]; exact hv i hi
    · refine ⟨Q, ?_, yF_r, fun _ _ => rfl, hmk, hw, hv⟩
      rw [e_R_items_41, zp_R4', Option.bind_some, hw, if_pos rfl, hi, if_pos rfl]
  by_cases hc1 : yhb B len (ysk B len m) = -1
  · exact ends (if_pos hc1) (fun P1 d _ z => absurd hc1 z)
  · have hlt : ysk B len m < len := by
      by_cases y : ysk B len m < len
      · exact y
      · exact absurd (if_neg y) hc1
    have hb := hB _ hlt
    have ec : yhb B len (ysk B len m) = zi (B (ysk B len m)) := if_pos hlt
    have e16 : (Int32.toUInt32 (yhb B len (ysk B len m)) % 65536).toInt32 = zi (B (ysk B len m)) := by rw [ec]; exact zi_16 _ hb.2
    have c0 : ¬ zi (B (ysk B len m)) < 0 := zi_n (by omega)
    have c2 : ¬ (255 : Int32) < zi (B (ysk B len m)) := fun y => absurd ((zi_l (i := 255) (by decide) (by omega)).mp y) (by omega)
    obtain ⟨hy, hI⟩ := kI _ hb.2
    have eim : yim bs (yhb B len (ysk B len m)) = yix bs 0 (zi (B (ysk B len m))) := by
      unfold yim
      rw [if_neg hc1, ec]
    rcases hy with hy | ⟨i, hi, hy⟩
    · refine ends (eim.trans hy) (fun P1 d hE _ => ?_)
      obtain ⟨s1, s2, -⟩ := kS P1 _ d hE c0 c2
      rw [e16, s2, hy]
      exact ⟨s1, rfl⟩
    · rw [eim, hy]
      cases hbt : yb_t h i with
      | true =>
        refine ⟨(ysk B len m, none), ⟨sl, fun w hw => by cases hw⟩, fun P e v5 v6 v7 he hT hmk hE hv => ?_, fun Q e mm he hT hmk hw hv => ?_⟩
        · obtain ⟨P1, g1, f1, E1, T1, ea⟩ := CC P e v5 v6 v7 he hT hmk hE
          obtain ⟨e', rfl⟩ : ∃ e', e = e' + 3 := ⟨e - 3, by omega⟩
          obtain ⟨s1, s2, -⟩ := kS P1 _ e' E1 c0 c2
          refine ⟨P1, ?_, yF_m f1 (fun _ h => h) (fun _ h => by cases h), g1, E1, fun w hw => by cases hw⟩
          rw [ea, if_neg hc1, s1, Option.bind_some, e16, s2, zs_cI, Option.bind_some, hy, if_neg (zi_n (by omega)), zs_hasBit, zs_cI, Option.bind_some, zp_ib, yb_bit (by omega), hbt, cond_true]
          rfl
        · refine ⟨Q, ?_, yF_r, fun _ _ => rfl, Or.inr ⟨hw, hmk, ysk_2, hc1, fun z => ?_⟩⟩
          · rw [e_R_items_41, zp_R4', Option.bind_some, hw, if_pos rfl, if_neg (zi_n1 (by omega)), zs_Rhas, zs_cI, Option.bind_some, zp_ib, yb_has (by omega), hbt, cond_true]
          · have z : yhb B len (ysk B len m) = 59 := z
            rw [ec] at z
            rw [z, k59] at hy
            exact zi_n1 (show i < 2 ^ 31 by omega) hy.symm
      | false =>
        have hct := yct_s hm23 hi hbt
        obtain ⟨j', rfl⟩ : ∃ j', j = j' + 1 := ⟨j - 1, by omega⟩
        obtain ⟨n1, n2⟩ := yno_b (D := 2) (hi := hf i) (m := ysk B len m + 1) hB hlt (by decide) (by decide)
        -- the class up to the number
        have C2 : ∀ (P : zp) (e : Nat) (v5 v6 v7 : Value), 6 ≤ e → yTp P B len → P.1 13 1 = zi m → zk_kE L xs (zp_M P, n) → ∃ P1, P1.1 13 1 = zi (yno B len 2 (hf i) (ysk B len m + 1)).2 ∧ yF [(13, 1)] [] P P1 ∧ zk_kE L xs (zp_M P1, n) ∧ yTp P1 B len ∧ zk_sf (e + 1) m_CountyReader_readsItems 5 [.ref 15, .ref a, .ref hc, .int h, .int (zi k), v5, v6, v7] [] (zp_M P, n) = (if (yno B len 2 (hf i) (ysk B len m + 1)).1 = (-1) then some (some (.int 0), (zp_M P1, n)) else (zk_cV (zk_sm e m_SaddlerKnows_put [.ref 23, .int (zi i), .int (yno B len 2 (hf i) (ysk B len m + 1)).1] (zp_M P1, n))).bind fun t12 => zk_sf (e + 1) m_CountyReader_readsItems 5 [.ref 15, .ref a, .ref hc, .int (h ||| (1 <<< (zi i &&& 31))), .int (zi (k + 1)), .int (yhb B len (ysk B len m)), .int (zi i), .int (yno B len 2 (hf i) (ysk B len m + 1)).1] [] t12) := by
          intro P e v5 v6 v7 he hT hmk hE
          obtain ⟨P1, g1, f1, E1, T1, ea⟩ := CC P e v5 v6 v7 he hT hmk hE
          obtain ⟨e', rfl⟩ : ∃ e', e = e' + 3 := ⟨e - 3, by omega⟩
          obtain ⟨s1, s2, -⟩ := kS P1 _ e' E1 c0 c2
          obtain ⟨P2, hP2⟩ : ∃ P2, P2 = zp_sF P1 13 1 (zi (ysk B len m + 1)) := ⟨_, rfl⟩
          have es := zs_step (d := e' + 3) (n := n) g1
          rw [← hP2] at es
          have f2 : yF [(13, 1)] [] P1 P2 := by rw [hP2]; exact yF_f (by decide)
          have E2 := zk_sm_k es E1
          have T2 := yTp_F (by decide) (by decide) f2 T1
          have g2 : P2.1 13 1 = zi (ysk B len m + 1) := by rw [hP2]; exact zp_f9
          obtain ⟨P3, e3, g3, f3⟩ := zs_number (d := e' + 2) (n := n) (D := 2) (hi := hf i) T2 g2 hlt (by decide) (by decide)
          have e3 : zk_sm (e' + 3) m_Tape_number [.ref 13, .int 2, .int (hf i)] (zp_M P2, n) = _ := e3
          refine ⟨P3, g3, yF_t f1 (yF_t f2 f3), zk_sm_k e3 E2, yTp_F (by decide) (by decide) f3 T2, ?_⟩
          rw [ea, if_neg hc1, s1, Option.bind_some, e16, s2, zs_cI, Option.bind_some, hy, if_neg (zi_n (by omega)), zs_hasBit, zs_cI, Option.bind_some, zp_ib, yb_bit (by omega), hbt, cond_false, zp_Z1, Option.bind_some, zp_Pv', Option.bind_some, es, zs_cV, Option.bind_some, zp_Z1, Option.bind_some, kA P2 i (e' + 3) E2 hi, zs_cI, Option.bind_some, zp_Pv', Option.bind_some, e3, zs_cI, Option.bind_some, zp_Z2, Option.bind_some]
        have R2 : ∀ (Q : zp) (e : Nat) (mm : Int32), 6 ≤ e → yTq Q B len → Q.1 269 3 = zi (ysk B len m) → Q.1 269 4 = -1 → ∃ Q2 x, Q2.1 269 3 = zi (yno B len 2 (hf i) (ysk B len m + 1)).2 ∧ ((yno B len 2 (hf i) (ysk B len m + 1)).1 = -1 → Q2.1 269 4 = zi (yno B len 2 (hf i) (ysk B len m + 1)).2) ∧ ((yno B len 2 (hf i) (ysk B len m + 1)).1 ≠ -1 → Q2.1 269 4 = -1 ∧ x = (yno B len 2 (hf i) (ysk B len m + 1)).1) ∧ yF [(269, 3), (269, 4)] [] Q Q2 ∧ yTq Q2 B len ∧ zk_sf (e + 1) m_R_items 41 [.ref 269, .int cl, .ref to, .int (zi fr), .int mm, .int h, .int (zi i)] [] (zp_M Q, n) = ((zk_gI (zp_M (zp_sA Q2 to (fr + i) x), n) 269 12 4).bind fun x8 => if x8 = (-1) then (zk_rv (zp_M (zp_sA Q2 to (fr + i) x), n) 269 12).bind fun _ => (zk_cI (zk_sm e m_R_look [.ref 269] (zp_M (zp_sA Q2 to (fr + i) x), n))).bind fun p9 => (zk_cI (zk_sm e m_R_itemOf [.int cl, .int p9.1] p9.2)).bind fun p10 => zk_sf (e + 1) m_R_items 41 [.ref 269, .int cl, .ref to, .int (zi fr), .int mm, .int (h ||| (1 <<< (zi i &&& 31))), .int p10.1] [] p10.2 else zk_sf (e + 1) m_R_items 41 [.ref 269, .int cl, .ref to, .int (zi fr), .int mm, .int (h ||| (1 <<< (zi i &&& 31))), .int (-1)] [] (zp_M (zp_sA Q2 to (fr + i) x), n)) := by
          intro Q e mm he hT hmk hw
          obtain ⟨e', rfl⟩ : ∃ e', e = e' + 2 := ⟨e - 2, by omega⟩
          obtain ⟨Q1, hQ1⟩ : ∃ Q1, Q1 = zp_sF Q 269 3 (zi (ysk B len m + 1)) := ⟨_, rfl⟩
          have f1 : yF [(269, 3)] [] Q Q1 := by rw [hQ1]; exact yF_f (by decide)
          obtain ⟨Q2, x, e2, g2, w1, w2, f2⟩ := zs_Rnumber (d := e') (n := n) (hi := hf i) (yTq_F (by decide) (by decide) f1 hT) (by rw [hQ1]; exact zp_f9 : Q1.1 269 3 = zi (ysk B len m + 1)) ((f1.1 269 4 (by decide)).trans hw) hlt
          have F2 : yF [(269, 3), (269, 4)] [] Q Q2 := yF_t (yF_m f1 (fun x hx => by simp only [List.mem_cons, List.not_mem_nil, or_false] at hx ⊢; exact Or.inl hx) (fun _ h => h)) f2
          refine ⟨Q2, x, g2, w1, w2, F2, yTq_F (by decide) (by decide) F2 hT, ?_⟩
          rw [e_R_items_41, zp_R4', Option.bind_some, hw, if_pos rfl, if_neg (zi_n1 (by omega)), zs_Rhas, zs_cI, Option.bind_some, zp_ib, yb_has (by omega), hbt, cond_false, zp_R3', Option.bind_some, hmk, zi_s, zp_R3p, Option.bind_some, ← hQ1, kH i _ _ hi, zs_cI, Option.bind_some, zp_Rv, Option.bind_some, e2, zs_cI, Option.bind_some, zi_add, zp_sti hto (show fr + i < tm by omega) (by omega), Option.bind_some]
        by_cases hno : (yno B len 2 (hf i) (ysk B len m + 1)).1 = -1
        · refine ⟨((yno B len 2 (hf i) (ysk B len m + 1)).2, none), ⟨n1, fun w hw => by cases hw⟩, fun P e v5 v6 v7 he hT hmk hE hv => ?_, fun Q e mm he hT hmk hw hv => ?_⟩
          · obtain ⟨P1, g1, f1, E1, T1, ea⟩ := C2 P e v5 v6 v7 he hT hmk hE
            refine ⟨P1, ?_, yF_m f1 (fun _ h => h) (fun _ h => by cases h), g1, E1, fun w hw => by cases hw⟩
            rw [ea, if_pos hno]
            rfl
          · obtain ⟨Q2, x, g2, w1, w2, f2, T2, ea⟩ := R2 Q e mm he hT hmk hw
            have w3 : (zp_sA Q2 to (fr + i) x).1 269 4 = zi (yno B len 2 (hf i) (ysk B len m + 1)).2 := w1 hno
            refine ⟨zp_sA Q2 to (fr + i) x, ?_, yF_t (yF_m f2 (fun _ h => h) (fun _ h => by cases h)) (yF_A (List.mem_singleton.mpr rfl)), fun y hy => ?_, Or.inl w3⟩
            · rw [ea, zp_R4', Option.bind_some, w3, if_neg (zi_n1 (by omega)), e_R_items_41, zp_R4', Option.bind_some, w3, if_neg (zi_n1 (by omega))]
            · rw [zp_a8 (by omega), f2.2.1 to (fun z => by cases z)]
        · obtain ⟨m1, m2, x0, hx0, m3⟩ := n2 hno
          obtain ⟨o, ⟨o1, o2⟩, oC, oR⟩ := ihj j' (Nat.lt_succ_self j') (yno B len 2 (hf i) (ysk B len m + 1)).2 (k + 1) (h ||| (1 <<< (zi i &&& 31))) (fun y => if y = i then (yno B len 2 (hf i) (ysk B len m + 1)).1 else v y) (by omega) (by omega) n1
          refine ⟨o, ⟨o1, fun w hw => ?_⟩, fun P e v5 v6 v7 he hT hmk hE hv => ?_, fun Q e mm he hT hmk hw hv => ?_⟩
          · obtain ⟨a1, a2, a3⟩ := o2 w hw
            refine ⟨by omega, a2, fun y hy => ?_⟩
            rcases a3 y hy with z | z
            · have z : w y = if y = i then (yno B len 2 (hf i) (ysk B len m + 1)).1 else v y := z
              by_cases yi : y = i
              · rw [if_pos yi] at z
                right
                rw [yi] at z ⊢
                rw [z]
                exact ⟨m2, x0, hx0, m3⟩
              · rw [if_neg yi] at z
                exact Or.inl z
            · exact Or.inr z
          · obtain ⟨P1, g1, f1, E1, T1, ea⟩ := C2 P e v5 v6 v7 he hT hmk hE
            have ep : zk_sm e m_SaddlerKnows_put [.ref 23, .int (zi i), .int (yno B len 2 (hf i) (ysk B len m + 1)).1] (zp_M P1, n) = some (none, (zp_M (zp_sA P1 23 i (yno B len 2 (hf i) (ysk B len m + 1)).1), n)) := by
              rw [zs_put zp_a23 (by decide), zp_pi (show i < 3 by omega) (by decide)]
            have f2 : yF [(13, 1)] [23] P1 (zp_sA P1 23 i (yno B len 2 (hf i) (ysk B len m + 1)).1) := yF_A (by decide)
            obtain ⟨P3, e3, F3, g3, E3, X3⟩ := oC (zp_sA P1 23 i (yno B len 2 (hf i) (ysk B len m + 1)).1) e (.int (yhb B len (ysk B len m))) (.int (zi i)) (.int (yno B len 2 (hf i) (ysk B len m + 1)).1) he (yTp_F (by decide) (by decide) f2 T1) g1 (zk_sm_k ep E1) (fun y hy => by
              show zp_u P1.2.1 23 i _ 23 y = if y = i then _ else v y
              by_cases yi : y = i
              · rw [if_pos yi, yi]; exact zp_u9
              · rw [if_neg yi, zp_u8 yi, f1.2.1 23 (fun z => by cases z)]; exact hv y hy)
            refine ⟨P3, ?_, yF_t (yF_m f1 (fun _ h => h) (fun _ h => by cases h)) (yF_t f2 F3), g3, E3, X3⟩
            rw [ea, if_neg hno, ep, zs_cV, Option.bind_some]
            exact e3
          · obtain ⟨Q2, x, g2, w1, w2, f2, T2, ea⟩ := R2 Q e mm he hT hmk hw
            obtain ⟨w3, hx⟩ := w2 hno
            have f23 : yF [(269, 3), (269, 4)] [to] Q2 (zp_sA Q2 to (fr + i) x) := yF_A (List.mem_singleton.mpr rfl)
            have w4 : (zp_sA Q2 to (fr + i) x).1 269 4 = -1 := w3
            obtain ⟨e', rfl⟩ : ∃ e', e = e' + 1 := ⟨e - 1, by omega⟩
            obtain ⟨Q3, e3, g3, f3⟩ := zs_Rlook (Q := zp_sA Q2 to (fr + i) x) (d := e') (n := n) (yTq_F (by decide) (fun z => hn270 (List.mem_singleton.mp z).symm) f23 T2) g2 (by omega)
            have eit : zk_sm (e' + 1) m_R_itemOf [.int cl, .int (yhb B len (ysk B len (yno B len 2 (hf i) (ysk B len m + 1)).2))] (zp_M Q3, n) = some (some (.int (yim bs (yhb B len (ysk B len (yno B len 2 (hf i) (ysk B len m + 1)).2)))), (zp_M Q3, n)) := by
              unfold yim
              by_cases z : yhb B len (ysk B len (yno B len 2 (hf i) (ysk B len m + 1)).2) = -1
              · rw [z, if_pos rfl]; exact kI1 _ _
              · rw [if_neg z]
                have hlt2 : ysk B len (yno B len 2 (hf i) (ysk B len m + 1)).2 < len := by
                  by_cases y : ysk B len (yno B len 2 (hf i) (ysk B len m + 1)).2 < len
                  · exact y
                  · exact absurd (if_neg y) z
                rw [show yhb B len (ysk B len (yno B len 2 (hf i) (ysk B len m + 1)).2) = zi (B (ysk B len (yno B len 2 (hf i) (ysk B len m + 1)).2)) from if_pos hlt2]
                exact (kI _ (hB _ hlt2).2).2 _ _
            have F3 : yF [(269, 3), (269, 4)] [to] Q Q3 := yF_t (yF_m f2 (fun _ h => h) (fun _ h => by cases h)) (yF_t f23 (yF_m f3 (fun x hx => by simp only [List.mem_cons, List.not_mem_nil, or_false] at hx ⊢; exact Or.inl hx) (fun _ h => by cases h)))
            obtain ⟨Q4, e4, F4, K4, s4⟩ := oR Q3 (e' + 1) mm he (yTq_F (by decide) (fun z => hn270 (List.mem_singleton.mp z).symm) F3 hT) g3 ((f3.1 269 4 (by decide)).trans w4) (fun y hy => by
              rw [f3.2.1 to (fun z => by cases z)]
              show zp_u Q2.2.1 to (fr + i) x to (fr + y) = if y = i then _ else v y
              by_cases yi : y = i
              · rw [if_pos yi, yi, hx]; exact zp_u9
              · rw [if_neg yi, zp_u8 (by omega), f2.2.1 to (fun z => by cases z)]; exact hv y hy)
            refine ⟨Q4, ?_, yF_t F3 F4, fun y hy => ?_, s4⟩
            · rw [ea, zp_R4', Option.bind_some, w4, if_pos rfl, zp_Rv, Option.bind_some, e3, zs_cI, Option.bind_some, eit, zs_cI, Option.bind_some]
              exact e4
            · rw [K4 y hy, f3.2.1 to (fun z => by cases z), zp_a8 (by omega), f2.2.1 to (fun z => by cases z)]
end
