/-! CALLS 19: feed -/
/-- the byte of a word behind so many bits -/
def yby (w : Int32) (s : Nat) : Int32 := (w >>> (zi s &&& 31)) &&& 255
theorem yb_255 : ∀ i, i < 32 → yb_t 255 i = decide (i < 8) := by decide +kernel
theorem yb_us : ∀ n, n < 32 → ((Int32.toUInt32 (zi n) &&& Int32.toUInt32 31).toBitVec.toNat % 32) = n := by decide +kernel
theorem yb_ushr (n : Nat) (hn : n < 32) (x : Int32) (i : Nat) : yb_t (Int32.toUInt32 x >>> (Int32.toUInt32 (zi n) &&& Int32.toUInt32 31)).toInt32 i = yb_t x (n + i) := by
  show ((Int32.toUInt32 x >>> (Int32.toUInt32 (zi n) &&& Int32.toUInt32 31)).toBitVec).getLsbD i = x.toBitVec.getLsbD (n + i)
  rw [UInt32.toBitVec_shiftRight, BitVec.ushiftRight_eq', BitVec.toNat_umod, BitVec.getLsbD_ushiftRight, show ((Int32.toUInt32 (zi n) &&& Int32.toUInt32 31).toBitVec.toNat % (32 : BitVec 32).toNat) = n from yb_us n hn]
  rfl
theorem yby_c {w : Int32} {s : Nat} (hs : s ≤ 24) : (Int32.toUInt32 w >>> (Int32.toUInt32 (zi s) &&& Int32.toUInt32 31)).toInt32 &&& 255 = yby w s := by
  unfold yby
  refine yb_ext (fun i hi => ?_)
  rw [yb_and, yb_and, yb_255 i hi]
  by_cases z : i < 8
  · rw [yb_ushr s (by omega), yb_shr s (by omega) w hi, if_pos (by omega)]
  · rw [decide_eq_false z, Bool.and_false, Bool.and_false]
theorem yby_b (w : Int32) (s : Nat) : ∃ c, c < 256 ∧ yby w s = zi c := by
  unfold yby
  generalize w >>> (zi s &&& 31) = x
  refine ⟨(x &&& 255).toBitVec.toNat, ?_, ?_⟩
  · rw [Int32.toBitVec_and, BitVec.toNat_and]
    exact Nat.and_lt_two_pow _ (n := 8) (by decide)
  · apply Int32.toBitVec_inj.mp
    show _ = BitVec.ofNat 32 _
    rw [BitVec.ofNat_toNat, BitVec.setWidth_eq]
def ybs (w : Int32) : List Int32 := [yby w 24, yby w 16, yby w 8, yby w 0]
def ybn : List Int32 → Nat
  | [] => 0
  | b :: bs => (if b = 0 then 0 else 1) + ybn bs
def yapC (P : zp) (len : Nat) : List Int32 → zp × Nat
  | [] => (P, len)
  | b :: bs => if b = 0 then yapC P len bs else yapC (zp_sF (zp_sA P 14 len b) 13 0 (zi (len + 1))) (len + 1) bs
def yapR (P : zp) (len : Nat) : List Int32 → zp × Nat
  | [] => (P, len)
  | b :: bs => if b = 0 then yapR P len bs else yapR (zp_sF (zp_sA P 270 len b) 269 2 (zi (len + 1))) (len + 1) bs
theorem ybn_a : ∀ (as bs : List Int32), ybn (as ++ bs) = ybn as + ybn bs
  | [], bs => (Nat.zero_add _).symm
  | a :: as, bs => by
    show (if a = 0 then 0 else 1) + ybn (as ++ bs) = (if a = 0 then 0 else 1) + ybn as + ybn bs
    rw [ybn_a as bs, Nat.add_assoc]
theorem yapC_a : ∀ (as bs : List Int32) (P : zp) (len : Nat), yapC P len (as ++ bs) = yapC (yapC P len as).1 (yapC P len as).2 bs
  | [], bs, P, len => rfl
  | a :: as, bs, P, len => by
    show (if a = 0 then _ else _) = yapC (if a = 0 then yapC P len as else yapC (zp_sF (zp_sA P 14 len a) 13 0 (zi (len + 1))) (len + 1) as).1 (if a = 0 then yapC P len as else yapC (zp_sF (zp_sA P 14 len a) 13 0 (zi (len + 1))) (len + 1) as).2 bs
    by_cases z : a = 0
    · rw [if_pos z, if_pos z]; exact yapC_a as bs P len
    · rw [if_neg z, if_neg z]; exact yapC_a as bs _ (len + 1)
theorem yapC_n : ∀ (bs : List Int32) (P : zp) (len : Nat), P.1 13 0 = zi len → (yapC P len bs).2 = len + ybn bs ∧ (yapC P len bs).1.1 13 0 = zi (len + ybn bs) ∧ yF [(13, 0)] [14] P (yapC P len bs).1
  | [], P, len, h => ⟨rfl, h, yF_r⟩
  | b :: bs, P, len, h => by
    show (if b = 0 then _ else _ : zp × Nat).2 = len + ((if b = 0 then 0 else 1) + ybn bs) ∧ (if b = 0 then _ else _ : zp × Nat).1.1 13 0 = zi (len + ((if b = 0 then 0 else 1) + ybn bs)) ∧ yF [(13, 0)] [14] P (if b = 0 then _ else _ : zp × Nat).1
    by_cases z : b = 0
    · rw [if_pos z, if_pos z, Nat.zero_add]; exact yapC_n bs P len h
    · rw [if_neg z, if_neg z, ← Nat.add_assoc]
      obtain ⟨h1, h2, h3⟩ := yapC_n bs (zp_sF (zp_sA P 14 len b) 13 0 (zi (len + 1))) (len + 1) zp_f9
      exact ⟨h1, h2, yF_t (yF_t (yF_A (by decide)) (yF_f (by decide))) h3⟩
theorem yapR_n : ∀ (bs : List Int32) (P : zp) (len : Nat), P.1 269 2 = zi len → (yapR P len bs).1.1 269 2 = zi (len + ybn bs) ∧ yF [(269, 2)] [270] P (yapR P len bs).1
  | [], P, len, h => ⟨h, yF_r⟩
  | b :: bs, P, len, h => by
    show (if b = 0 then _ else _ : zp × Nat).1.1 269 2 = zi (len + ((if b = 0 then 0 else 1) + ybn bs)) ∧ yF [(269, 2)] [270] P (if b = 0 then _ else _ : zp × Nat).1
    by_cases z : b = 0
    · rw [if_pos z, if_pos z, Nat.zero_add]; exact yapR_n bs P len h
    · rw [if_neg z, if_neg z, ← Nat.add_assoc]
      obtain ⟨h2, h3⟩ := yapR_n bs (zp_sF (zp_sA P 270 len b) 269 2 (zi (len + 1))) (len + 1) zp_f9
      exact ⟨h2, yF_t (yF_t (yF_A (by decide)) (yF_f (by decide))) h3⟩
theorem yap_x : ∀ (bs : List Int32) (P Q : zp) (len : Nat), (∀ b, b ∈ bs → ∃ c, c < 256 ∧ b = zi c) → (∀ i, i < len → P.2.1 14 i = Q.2.1 270 i ∧ ∃ c, 1 ≤ c ∧ c < 256 ∧ P.2.1 14 i = zi c) → ∀ i, i < len + ybn bs → (yapC P len bs).1.2.1 14 i = (yapR Q len bs).1.2.1 270 i ∧ ∃ c, 1 ≤ c ∧ c < 256 ∧ (yapC P len bs).1.2.1 14 i = zi c
  | [], P, Q, len, hb, h => h
  | b :: bs, P, Q, len, hb, h => by
    show ∀ i, i < len + ((if b = 0 then 0 else 1) + ybn bs) → (if b = 0 then yapC P len bs else yapC (zp_sF (zp_sA P 14 len b) 13 0 (zi (len + 1))) (len + 1) bs).1.2.1 14 i = (if b = 0 then yapR Q len bs else yapR (zp_sF (zp_sA Q 270 len b) 269 2 (zi (len + 1))) (len + 1) bs).1.2.1 270 i ∧ ∃ c, 1 ≤ c ∧ c < 256 ∧ (if b = 0 then yapC P len bs else yapC (zp_sF (zp_sA P 14 len b) 13 0 (zi (len + 1))) (len + 1) bs).1.2.1 14 i = zi c
    have hb' : ∀ b, b ∈ bs → ∃ c, c < 256 ∧ b = zi c := fun x hx => hb x (List.mem_cons_of_mem _ hx)
    by_cases z : b = 0
    · rw [if_pos z, if_pos z, if_pos z, Nat.zero_add]; exact yap_x bs P Q len hb' h
    · rw [if_neg z, if_neg z, if_neg z, ← Nat.add_assoc]
      refine yap_x bs _ _ (len + 1) hb' (fun i hi => ?_)
      show (zp_sA P 14 len b).2.1 14 i = (zp_sA Q 270 len b).2.1 270 i ∧ ∃ c, 1 ≤ c ∧ c < 256 ∧ (zp_sA P 14 len b).2.1 14 i = zi c
      by_cases q : i = len
      · rw [q, zp_a9, zp_a9]
        obtain ⟨c, hc, e⟩ := hb b (List.mem_cons_self ..)
        refine ⟨rfl, c, ?_, hc, e⟩
        rcases Nat.eq_zero_or_pos c with y | y
        · exact absurd (by rw [e, y]; rfl) z
        · exact y
      · rw [zp_a8 q, zp_a8 q]; exact h i (by omega)
section
variable {P : zp} {n : Nat × Nat} {d : Nat}
theorem zp_P2 : zk_gR (zp_M P, n) 13 9 2 = some 14 := zp_gR (by decide +kernel)
theorem zp_Pv : zk_rv (zp_M P, n) 13 9 = some () := zp_rv (by decide +kernel)
theorem zp_a14 : zp_ad 14 = (0, 240) := by decide +kernel
theorem zp_a270 : zp_ad 270 = (0, 240) := by decide +kernel
theorem zp_R1 : zk_gR (zp_M P, n) 269 12 1 = some 270 := zp_gR (by decide +kernel)
theorem zs_bstep {w : Int32} {a s : Nat} (hs : s ≤ 24) {S : zk_S} : zk_sf d m_Tape_bytesOf 4 [.int w, .int (zi a), .int (zi s)] [] S = zk_sf d m_Tape_bytesOf 4 [.int w, .int (zi (a + ybn [yby w s])), .int (zi (s + 8))] [] S := by
  rw [e_Tape_bytesOf_4, if_pos (show zi s < 32 from (zi_l (m := 32) (by omega) (by decide)).mpr (by omega)), yby_c hs, show zi s + 8 = zi (s + 8) from (Int32.ofNat_add s 8).symm]
  show (if yby w s = 0 then _ else _) = zk_sf d m_Tape_bytesOf 4 [.int w, .int (zi (a + ((if yby w s = 0 then 0 else 1) + 0))), .int (zi (s + 8))] [] S
  by_cases z : yby w s = 0
  · rw [if_pos z, if_pos z]; rfl
  · rw [if_neg z, if_neg z, zi_s]
theorem zs_bytesOf {w : Int32} {S : zk_S} : zk_sm d m_Tape_bytesOf [.int w] S = some (some (.int (zi (ybn (ybs w)))), S) := by
  rw [e_Tape_bytesOf]
  show zk_sf d m_Tape_bytesOf 4 [.int w, .int (zi 0), .int (zi 0)] [] S = _
  rw [zs_bstep (by decide), zs_bstep (by decide), zs_bstep (by decide), zs_bstep (by decide), e_Tape_bytesOf_4, if_neg (by decide)]
  have e : 0 + ybn [yby w 0] + ybn [yby w (0 + 8)] + ybn [yby w (0 + 8 + 8)] + ybn [yby w (0 + 8 + 8 + 8)] = ybn (ybs w) := by
    unfold ybs
    show 0 + ((if yby w 0 = 0 then 0 else 1) + 0) + ((if yby w 8 = 0 then 0 else 1) + 0) + ((if yby w 16 = 0 then 0 else 1) + 0) + ((if yby w 24 = 0 then 0 else 1) + 0) = (if yby w 24 = 0 then 0 else 1) + ((if yby w 16 = 0 then 0 else 1) + ((if yby w 8 = 0 then 0 else 1) + ((if yby w 0 = 0 then 0 else 1) + 0)))
    omega
  rw [e]
theorem zs_astep {w : Int32} {s len : Nat} {t : Int32} {v : Value} (hs : s ≤ 24) (hl : P.1 13 0 = zi len) (h2 : len + ybn [yby w s] ≤ 240) (ht : zi s + (-8) = t) : ∃ v', zk_sf (d + 1) m_Tape_append 3 [.ref 13, .int w, .int (zi s), v] [] (zp_M P, n) = zk_sf (d + 1) m_Tape_append 3 [.ref 13, .int w, .int t, v'] [] (zp_M (yapC P len [yby w s]).1, n) := by
  refine ⟨.int (yby w s), ?_⟩
  rw [e_Tape_append_3, if_neg (zi_n (by omega)), yby_c hs, ht]
  have h2 : len + ((if yby w s = 0 then 0 else 1) + 0) ≤ 240 := h2
  show _ = zk_sf (d + 1) m_Tape_append 3 [.ref 13, .int w, .int t, .int (yby w s)] [] (zp_M (if yby w s = 0 then (P, len) else (zp_sF (zp_sA P 14 len (yby w s)) 13 0 (zi (len + 1)), len + 1)).1, n)
  by_cases z : yby w s = 0
  · rw [if_pos z, if_pos z]
  · rw [if_neg z, if_neg z]
    rw [if_neg z] at h2
    rw [zp_P0, Option.bind_some, zp_P2, Option.bind_some, zp_al zp_a14 (by decide), Option.bind_some, hl, if_pos ((zi_nI (by omega) (by decide)).mpr (by omega)), Option.bind_some, Option.bind_some, zs_put zp_a14 (by decide), zs_cV, Option.bind_some, zp_pi (show len < 240 by omega) (by decide), zp_P0, Option.bind_some, show (zp_sA P 14 len (yby w s)).1 13 0 = zi len from hl, zi_s, zp_P0p, Option.bind_some]
theorem zs_append {w : Int32} {len : Nat} (hl : P.1 13 0 = zi len) (h2 : len + ybn (ybs w) ≤ 240) : zk_sm (d + 1) m_Tape_append [.ref 13, .int w] (zp_M P, n) = some (none, (zp_M (yapC P len (ybs w)).1, n)) := by
  have hy : ybn (ybs w) = ybn [yby w 24] + (ybn [yby w 16] + (ybn [yby w 8] + ybn [yby w 0])) := by
    unfold ybs
    rw [← ybn_a, ← ybn_a, ← ybn_a]
    rfl
  obtain ⟨a1, a2, a3⟩ := yapC_n [yby w 24] P len hl
  obtain ⟨b1, b2, b3⟩ := yapC_n [yby w 16] (yapC P len [yby w 24]).1 _ a2
  obtain ⟨c1, c2, c3⟩ := yapC_n [yby w 8] (yapC (yapC P len [yby w 24]).1 (len + ybn [yby w 24]) [yby w 16]).1 _ b2
  obtain ⟨v1, e1⟩ := zs_astep (n := n) (d := d) (v := .retAddr 0) (s := 24) (t := zi 16) (w := w) (by decide) hl (by omega) (by decide)
  obtain ⟨v2, e2⟩ := zs_astep (n := n) (d := d) (v := v1) (s := 16) (t := zi 8) (w := w) (by decide) a2 (by omega) (by decide)
  obtain ⟨v3, e3⟩ := zs_astep (n := n) (d := d) (v := v2) (s := 8) (t := zi 0) (w := w) (by decide) b2 (by omega) (by decide)
  obtain ⟨v4, e4⟩ := zs_astep (n := n) (d := d) (v := v3) (s := 0) (t := -8) (w := w) (by decide) c2 (by omega) (by decide)
  have ey : yapC P len (ybs w) = yapC (yapC (yapC (yapC P len [yby w 24]).1 (len + ybn [yby w 24]) [yby w 16]).1 (len + ybn [yby w 24] + ybn [yby w 16]) [yby w 8]).1 (len + ybn [yby w 24] + ybn [yby w 16] + ybn [yby w 8]) [yby w 0] := by
    show yapC P len ([yby w 24] ++ ([yby w 16] ++ ([yby w 8] ++ [yby w 0]))) = _
    rw [yapC_a, a1, yapC_a, b1, yapC_a, c1]
  rw [e_Tape_append]
  show zk_sf (d + 1) m_Tape_append 3 [.ref 13, .int w, .int (zi 24), .retAddr 0] [] (zp_M P, n) = _
  rw [e1, e2, e3, e4, e_Tape_append_3, if_pos (by decide), ey]
def yb20 (w0 w1 w2 w3 w4 : Int32) : List Int32 := ybs w0 ++ (ybs w1 ++ (ybs w2 ++ (ybs w3 ++ ybs w4)))
theorem zs_byteOf {w0 w1 w2 w3 w4 : Int32} {S : zk_S} : ∀ k, k < 20 → zk_sm d m_R_byteOf [.int w0, .int w1, .int w2, .int w3, .int w4, .int (zi k)] S = some (some (.int ((yb20 w0 w1 w2 w3 w4).getD k 0)), S)
  | 0, _ => by rw [e_R_byteOf, if_pos (by decide), show ((24 : Int32) - (8 * (zi 0 - zi 0 / 4 * 4))) = zi 24 by decide +kernel]; rfl
  | 1, _ => by rw [e_R_byteOf, if_pos (by decide), show ((24 : Int32) - (8 * (zi 1 - zi 1 / 4 * 4))) = zi 16 by decide +kernel]; rfl
  | 2, _ => by rw [e_R_byteOf, if_pos (by decide), show ((24 : Int32) - (8 * (zi 2 - zi 2 / 4 * 4))) = zi 8 by decide +kernel]; rfl
  | 3, _ => by rw [e_R_byteOf, if_pos (by decide), show ((24 : Int32) - (8 * (zi 3 - zi 3 / 4 * 4))) = zi 0 by decide +kernel]; rfl
  | 4, _ => by rw [e_R_byteOf, if_neg (by decide), if_pos (by decide), show ((24 : Int32) - (8 * (zi 4 - zi 4 / 4 * 4))) = zi 24 by decide +kernel]; rfl
  | 5, _ => by rw [e_R_byteOf, if_neg (by decide), if_pos (by decide), show ((24 : Int32) - (8 * (zi 5 - zi 5 / 4 * 4))) = zi 16 by decide +kernel]; rfl
  | 6, _ => by rw [e_R_byteOf, if_neg (by decide), if_pos (by decide), show ((24 : Int32) - (8 * (zi 6 - zi 6 / 4 * 4))) = zi 8 by decide +kernel]; rfl
  | 7, _ => by rw [e_R_byteOf, if_neg (by decide), if_pos (by decide), show ((24 : Int32) - (8 * (zi 7 - zi 7 / 4 * 4))) = zi 0 by decide +kernel]; rfl
  | 8, _ => by rw [e_R_byteOf, if_neg (by decide), if_neg (by decide), if_pos (by decide), show ((24 : Int32) - (8 * (zi 8 - zi 8 / 4 * 4))) = zi 24 by decide +kernel]; rfl
  | 9, _ => by rw [e_R_byteOf, if_neg (by decide), if_neg (by decide), if_pos (by decide), show ((24 : Int32) - (8 * (zi 9 - zi 9 / 4 * 4))) = zi 16 by decide +kernel]; rfl
  | 10, _ => by rw [e_R_byteOf, if_neg (by decide), if_neg (by decide), if_pos (by decide), show ((24 : Int32) - (8 * (zi 10 - zi 10 / 4 * 4))) = zi 8 by decide +kernel]; rfl
  | 11, _ => by rw [e_R_byteOf, if_neg (by decide), if_neg (by decide), if_pos (by decide), show ((24 : Int32) - (8 * (zi 11 - zi 11 / 4 * 4))) = zi 0 by decide +kernel]; rfl
  | 12, _ => by rw [e_R_byteOf, if_neg (by decide), if_neg (by decide), if_neg (by decide), if_pos (by decide), show ((24 : Int32) - (8 * (zi 12 - zi 12 / 4 * 4))) = zi 24 by decide +kernel]; rfl
  | 13, _ => by rw [e_R_byteOf, if_neg (by decide), if_neg (by decide), if_neg (by decide), if_pos (by decide), show ((24 : Int32) - (8 * (zi 13 - zi 13 / 4 * 4))) = zi 16 by decide +kernel]; rfl
  | 14, _ => by rw [e_R_byteOf, if_neg (by decide), if_neg (by decide), if_neg (by decide), if_pos (by decide), show ((24 : Int32) - (8 * (zi 14 - zi 14 / 4 * 4))) = zi 8 by decide +kernel]; rfl
  | 15, _ => by rw [e_R_byteOf, if_neg (by decide), if_neg (by decide), if_neg (by decide), if_pos (by decide), show ((24 : Int32) - (8 * (zi 15 - zi 15 / 4 * 4))) = zi 0 by decide +kernel]; rfl
  | 16, _ => by rw [e_R_byteOf, if_neg (by decide), if_neg (by decide), if_neg (by decide), if_neg (by decide), show ((24 : Int32) - (8 * (zi 16 - zi 16 / 4 * 4))) = zi 24 by decide +kernel]; rfl
  | 17, _ => by rw [e_R_byteOf, if_neg (by decide), if_neg (by decide), if_neg (by decide), if_neg (by decide), show ((24 : Int32) - (8 * (zi 17 - zi 17 / 4 * 4))) = zi 16 by decide +kernel]; rfl
  | 18, _ => by rw [e_R_byteOf, if_neg (by decide), if_neg (by decide), if_neg (by decide), if_neg (by decide), show ((24 : Int32) - (8 * (zi 18 - zi 18 / 4 * 4))) = zi 8 by decide +kernel]; rfl
  | 19, _ => by rw [e_R_byteOf, if_neg (by decide), if_neg (by decide), if_neg (by decide), if_neg (by decide), show ((24 : Int32) - (8 * (zi 19 - zi 19 / 4 * 4))) = zi 0 by decide +kernel]; rfl
  | k + 20, h => absurd h (by omega)
end
