/-! PARSING 3: the first twelve cells (the script, the strings, the rows of bounds) are never changed -/
def zk_kE (L : Nat) (xs : Nat → Int32) (s : zk_S) : Prop := 12 ≤ s.2.1 ∧ ∀ k, k < 12 → s.1 k = zk_E L xs k
section
variable {L : Nat} {xs : Nat → Int32}
def zk_kr (L : Nat) (xs : Nat → Int32) (s : zk_S) (X : Option zk_R) : Prop := ∀ r, X = some r → zk_kE L xs s → zk_kE L xs r.2
theorem zk_kr_n {s : zk_S} : zk_kr L xs s none := fun _ h => by cases h
theorem zk_kr_e {s : zk_S} {v : Option Value} : zk_kr L xs s (some (v, s)) := fun _ h => by cases h; exact fun z => z
theorem zk_kr_t {s t : zk_S} {X : Option zk_R} (h : zk_kE L xs s → zk_kE L xs t) (k : zk_kr L xs t X) : zk_kr L xs s X := fun r hr z => k r hr (h z)
theorem zk_kr_c {s : zk_S} {b : Bool} {x : Option zk_R} (h : b = true → zk_kr L xs s x) : zk_kr L xs s (bif b then x else none) := by
  cases b
  · exact zk_kr_n
  · exact h rfl
theorem zk_kr_i {s : zk_S} {p : Prop} [Decidable p] {x x' : Option zk_R} (h : p → zk_kr L xs s x) (h' : ¬ p → zk_kr L xs s x') : zk_kr L xs s (if p then x else x') := by
  by_cases q : p
  · rw [if_pos q]; exact h q
  · rw [if_neg q]; exact h' q
theorem zk_kr_b {α : Type} {s : zk_S} {X : Option α} {F : α → Option zk_R} (h : ∀ v, X = some v → zk_kr L xs s (F v)) : zk_kr L xs s (X.bind F) := by
  cases hX : X with
  | none => exact zk_kr_n
  | some v => exact h v hX
theorem zk_kE_u {s : zk_S} {a : Nat} {c : zk_AC} (ha : 12 ≤ a) (h : zk_kE L xs s) : zk_kE L xs (zk_up s.1 a c, s.2) := ⟨h.1, fun k hk => (zk_up_n (by omega)).trans (h.2 k hk)⟩
theorem zk_pf_k {s t : zk_S} {a ci j : Nat} {v : Value} (h : zk_pf s a ci j v = some t) (hc : ci < 13) (hE : zk_kE L xs s) : zk_kE L xs t := by
  obtain ⟨fs, h1, -, rfl⟩ := zk_pf_i h
  refine zk_kE_u ?_ hE
  rcases Nat.lt_or_ge a 12 with z | z
  · have := zk_E_o ((hE.2 a z).symm.trans h1)
    omega
  · exact z
theorem zk_stI_k {s t : zk_S} {a : Nat} {i x : Int32} (h : zk_stI s a i x = some t) (hE : zk_kE L xs s) : zk_kE L xs t := by
  obtain ⟨m, f, h1, -, rfl⟩ := zk_stI_i h
  refine zk_kE_u ?_ hE
  rcases Nat.lt_or_ge a 12 with z | z
  · have := (zk_E_a ((hE.2 a z).symm.trans h1)).2.1
    split at this <;> cases this
  · exact z
theorem zk_stZ_k {s t : zk_S} {a : Nat} {i x : Int32} (h : zk_stZ s a i x = some t) (hE : zk_kE L xs s) : zk_kE L xs t := by
  obtain ⟨m, f, h1, -, rfl⟩ := zk_stZ_i h
  refine zk_kE_u ?_ hE
  rcases Nat.lt_or_ge a 12 with z | z
  · have := (zk_E_a ((hE.2 a z).symm.trans h1)).2.1
    split at this <;> cases this
  · exact z
theorem zk_stL_k {s t : zk_S} {a : Nat} {i : Int32} {x : Int64} (h : zk_stL s a i x = some t) (hE : zk_kE L xs s) : zk_kE L xs t := by
  obtain ⟨m, f, h1, -, rfl⟩ := zk_stL_i h
  refine zk_kE_u ?_ hE
  rcases Nat.lt_or_ge a 12 with z | z
  · exact (zk_E_l ((hE.2 a z).symm.trans h1)).elim
  · exact z
theorem zk_stR_k {s t : zk_S} {a v : Nat} {i : Int32} (h : zk_stR s a i v = some t) (hE : zk_kE L xs s) : zk_kE L xs t := by
  obtain ⟨ci, m, f, fs, h1, -, -, rfl⟩ := zk_stR_i h
  refine zk_kE_u ?_ hE
  rcases Nat.lt_or_ge a 12 with z | z
  · exact (zk_E_r ((hE.2 a z).symm.trans h1)).elim
  · exact z
theorem zk_nw_k {s : zk_S} {c : zk_AC} {w : Nat} (hE : zk_kE L xs s) : zk_kE L xs (zk_nw s c w) := ⟨Nat.le_succ_of_le hE.1, fun k hk => (zk_up_n (by have := hE.1; omega)).trans (hE.2 k hk)⟩
variable {call : Nat → List Value → zk_S → Option zk_R} {k : Nat → List Value → List Value → zk_S → Option zk_R}
theorem zk_inv_k (hc : ∀ y as s, zk_kr L xs s (call y as s)) (hk : ∀ pc L' S s, zk_kr L xs s (k pc L' S s)) (nx : Nat) (L' : List Value) (o : Nat) (as rest : List Value) (s : zk_S) : zk_kr L xs s (zk_inv call nx L' o as rest s k) := by
  unfold zk_inv
  refine zk_kr_c fun _ => ?_
  split
  · exact zk_kr_b fun t h => zk_kr_t (hc _ _ _ _ (zk_cV_i h)) (hk _ _ _ _)
  · exact zk_kr_b fun ⟨x, t⟩ h => zk_kr_t (hc _ _ _ _ (zk_cI_i h)) (hk _ _ _ _)
  · exact zk_kr_b fun ⟨x, t⟩ h => zk_kr_t (hc _ _ _ _ (zk_cL_i h)) (hk _ _ _ _)
  · refine zk_kr_b fun ⟨x, t⟩ h => ?_
    have := hc _ _ _ _ (zk_cR_i h)
    cases x
    · exact zk_kr_t this (hk _ _ _ _)
    · exact zk_kr_t this (hk _ _ _ _)
theorem zk_sw_k {s : zk_S} {x : Int32} {d : Int} {k : Nat → Option zk_R} (h : ∀ t, zk_kr L xs s (k t)) : ∀ ps, zk_kr L xs s (zk_sw x d k ps)
  | [] => h _
  | (c, t) :: r => zk_kr_i (fun _ => h _) (fun _ => zk_sw_k h r)
set_option maxHeartbeats 4000000 in
theorem zk_ins_k (hc : ∀ y as s, zk_kr L xs s (call y as s)) (hk : ∀ pc L' S s, zk_kr L xs s (k pc L' S s)) (df : Nat → List Value) (d : Nat) (i : Instr) (hi : ∀ o, i = .putfield o → o / 1000 < 13) (nx : Nat) (L' S : List Value) (s : zk_S) : zk_kr L xs s (zk_ins df call d i nx L' S s k) := by
  have hI := zk_inv_k hc hk
  unfold zk_ins
  split <;> (repeat' (first | exact zk_kr_n | exact zk_kr_e | exact hk _ _ _ _ | exact hI _ _ _ _ _ _ | exact zk_kr_t (zk_pf_k h9 (hi _ rfl)) (hk _ _ _ _) | exact zk_kr_t (zk_stI_k h9) (hk _ _ _ _) | exact zk_kr_t (zk_stZ_k h9) (hk _ _ _ _) | exact zk_kr_t (zk_stL_k h9) (hk _ _ _ _) | exact zk_kr_t (zk_stR_k h9) (hk _ _ _ _) | exact zk_kr_t zk_nw_k (hk _ _ _ _) | refine zk_kr_c (fun _ => ?_) | refine zk_kr_i (fun _ => ?_) (fun _ => ?_) | refine zk_kr_b (fun _ h9 => ?_) | exact zk_sw_k (fun _ => hk _ _ _ _) _ | split))
theorem zk_lp_k {run : List Value → zk_S → Option zk_R} (h : ∀ as s, zk_kr L xs s (run as s)) (as : List Value) (s : zk_S) : zk_kr L xs s (zk_lp run as s) := by
  unfold zk_lp
  split
  · refine zk_kr_b fun _ _ => zk_kr_b fun r hr => ?_
    have h1 := h _ _ r hr
    obtain ⟨v, t⟩ := r
    split
    · rename_i q; cases q
      exact zk_kr_b fun u hu => zk_kr_t (fun z => zk_stL_k hu (h1 z)) zk_kr_e
    · rename_i q; cases q
      exact zk_kr_t (fun z => zk_nw_k (h1 z)) (zk_kr_e (s := zk_nw _ zk_no zk_xw))
    · exact zk_kr_n
  · exact zk_kr_n
theorem zk_wk_k : ∀ (f d y pc : Nat) (L' S : List Value) (s : zk_S), zk_kr L xs s (zk_wk f d y pc L' S s)
  | 0, _, _, _, _, _, _ => zk_kr_n
  | f + 1, d, y, pc, L', S, s => by
    show zk_kr L xs s (match zk_lk pc (zk_rcd y) with | none => none | some (nx, i) => zk_ins zk_df (zk_ca (fun d y as s => bif zk_fa y as then zk_wk f d y 0 (zk_en (zk_ml y) as) [] s else none) d) d i nx L' S s (fun pc L S s => zk_wk f d y pc L S s))
    cases hlk : zk_lk pc (zk_rcd y) with
    | none => exact zk_kr_n
    | some q =>
      have hq := zk_pfa y _ (zk_lk_m hlk)
      refine zk_ins_k (fun y as s => ?_) (fun _ _ _ _ => zk_wk_k f _ _ _ _ _ _) _ _ _ (fun o ho => ?_) _ _ _ _
      · unfold zk_ca
        cases d with
        | zero => exact zk_kr_n
        | succ d =>
          cases Nat.beq y m_Law_person with
          | false => exact zk_kr_c fun _ => zk_wk_k f _ _ _ _ _ _
          | true =>
            rcases d with _ | _ | _ | _ | _ | _ | _ | _ | _ | d
            all_goals first
              | exact zk_kr_n
              | exact zk_lp_k (run := fun as s => bif zk_fa m_SaddlerKnows_person as then zk_wk f (d + 8) m_SaddlerKnows_person 0 (zk_en (zk_ml m_SaddlerKnows_person) as) [] s else none) (fun _ _ => zk_kr_c fun _ => zk_wk_k f _ _ _ _ _ _) as s
      · have hq : zk_pfk y q.2 = true := hq
        rw [ho] at hq
        unfold zk_pfk at hq
        rw [Bool.and_eq_true, Bool.and_eq_true] at hq
        have h1 := hq.1.1
        unfold Nat.blt at h1
        have := Nat.le_of_ble_eq_true h1
        omega
theorem zk_sm_k {d y : Nat} {as : List Value} {s : zk_S} {r : zk_R} (h : zk_sm d y as s = some r) (hE : zk_kE L xs s) : zk_kE L xs r.2 := by
  unfold zk_sm at h
  cases hf : zk_fa y as with
  | false => rw [hf] at h; cases h
  | true =>
    rw [hf] at h
    obtain ⟨f, hw⟩ := zk_sf_i.mp h
    exact zk_wk_k f _ _ _ _ _ _ r hw hE
end
/-! the strings -/
def yix : List Int32 → Nat → Int32 → Int32
  | [], _, _ => -1
  | x :: r, j, c => if x = c.toInt8.toInt32 then zi j else yix r (j + 1) c
section
variable {P : zp} {n : Nat × Nat} {d L : Nat} {xs : Nat → Int32}
theorem zs_ixc {b ln : Nat} {f : Nat → Int32} {c i2 : Int32} (hM : zp_M P b = zk_ia 1 ln f) (hl : ln < 100) : ∀ (r : List Int32) (j : Nat), j + r.length = ln → (∀ i x, r[i]? = some x → f (j + i) = x) → zk_sf d m_StringLatin1_indexOfChar 7 [.ref b, .int c, .int i2, .int (zi ln), .int c.toInt8.toInt32, .int (zi j)] [] (zp_M P, n) = some (some (.int (yix r j c)), (zp_M P, n))
  | [], j, hj, hf => by
    have hj : j = ln := hj
    subst hj
    rw [e_StringLatin1_indexOfChar_7, if_neg (fun z => absurd ((zi_l (by omega) (by omega)).mp z) (Nat.lt_irrefl _))]
    rfl
  | x :: r, j, hj, hf => by
    rw [List.length_cons] at hj
    have hld : zk_ldB (zp_M P, n) b (zi j) = some x := by
      unfold zk_ldB
      show (match zp_M P b with | .inr (.inl (t, n, f)) => if (t = 1 ∨ t = 2) ∧ ¬ (zi j < 0 ∨ n ≤ (zi j).toNatClampNeg) then some (f (zi j).toNatClampNeg) else none | _ => none) = _
      rw [hM]
      show (if (1 = 1 ∨ 1 = 2) ∧ ¬ (zi j < 0 ∨ ln ≤ (zi j).toNatClampNeg) then some (f (zi j).toNatClampNeg) else none) = some x
      rw [zi_c (by omega), if_pos ⟨Or.inl rfl, fun z => z.elim (zi_n (by omega)) (fun z => by omega)⟩]
      exact congrArg some (hf 0 x rfl)
    rw [e_StringLatin1_indexOfChar_7, if_pos ((zi_l (by omega) (by omega)).mpr (by omega)), hld, Option.bind_some]
    show _ = some (some (Value.int (if x = c.toInt8.toInt32 then zi j else yix r (j + 1) c)), _)
    by_cases z : x = c.toInt8.toInt32
    · rw [if_pos z, if_pos z]
    · rw [if_neg z, if_neg z, zi_s]
      exact zs_ixc hM hl r (j + 1) (by omega) (fun i y hy => by rw [show j + 1 + i = j + (i + 1) by omega]; exact hf (i + 1) y hy)
theorem zs_slen {a b ln : Nat} {f : Nat → Int32} (hA : zp_M P a = zk_ob 13 [.ref b, .int 0]) (hM : zp_M P b = zk_ia 1 ln f) : zk_sm (d + 1) m_String_length [.ref a] (zp_M P, n) = some (some (.int (zi ln)), (zp_M P, n)) := by
  have g : ∀ j, zk_gf (zp_M P, n) a 13 j = ([.ref b, .int 0] : List Value)[j]? := fun j => by
    unfold zk_gf
    show (match zp_M P a with | .inl (c', fs') => if c' = 13 then fs'[j]? else none | .inr _ => none) = _
    rw [hA]; exact if_pos rfl
  have g0 : zk_gR (zp_M P, n) a 13 0 = some b := by unfold zk_gR; rw [g]; rfl
  have g1 : zk_gI (zp_M P, n) a 13 1 = some 0 := by unfold zk_gI; rw [g]; rfl
  have gv : zk_rv (zp_M P, n) a 13 = some () := by
    unfold zk_rv
    show (match zp_M P a with | .inl (c', _) => if c' = 13 then some () else none | .inr _ => none) = _
    rw [hA]; exact if_pos rfl
  have gl : zk_al (zp_M P, n) b = some (nI ln) := by
    unfold zk_al
    show (match zp_M P b with | .inl _ => none | .inr (.inl (_, n, _)) => some (nI n) | .inr (.inr (.inl (n, _))) => some (nI n) | .inr (.inr (.inr (_, n, _))) => some (nI n)) = _
    rw [hM]
  rw [e_String_length, g0, Option.bind_some, gl, Option.bind_some, gv, Option.bind_some, e_String_coder, g1, Option.bind_some, zs_cI, Option.bind_some]
  have : ∀ x : Int32, x >>> ((Int32.toInt8 0).toInt32 &&& 31) = x := fun x => by
    rw [show ((Int32.toInt8 0).toInt32 &&& 31 : Int32) = 0 by decide]
    simp
  rw [this]
  rfl
theorem zs_indexOf {a b : Nat} {bs : List Int32} {f : Nat → Int32} {c : Int32} (hA : zp_M P a = zk_ob 13 [.ref b, .int 0]) (hM : zp_M P b = zk_ia 1 bs.length f) (hf : ∀ i x, bs[i]? = some x → f i = x) (hl : bs.length < 100) (h0 : 0 < bs.length) (c0 : ¬ c < 0) (c2 : ¬ 255 < c) : zk_sm (d + 3) m_String_indexOf_I [.ref a, .int c] (zp_M P, n) = some (some (.int (yix bs 0 c)), (zp_M P, n)) := by
  have g : ∀ j, zk_gf (zp_M P, n) a 13 j = ([.ref b, .int 0] : List Value)[j]? := fun j => by
    unfold zk_gf
    show (match zp_M P a with | .inl (c', fs') => if c' = 13 then fs'[j]? else none | .inr _ => none) = _
    rw [hA]; exact if_pos rfl
  have g0 : zk_gR (zp_M P, n) a 13 0 = some b := by unfold zk_gR; rw [g]; rfl
  have g1 : zk_gI (zp_M P, n) a 13 1 = some 0 := by unfold zk_gI; rw [g]; rfl
  have gv : zk_rv (zp_M P, n) a 13 = some () := by
    unfold zk_rv
    show (match zp_M P a with | .inl (c', _) => if c' = 13 then some () else none | .inr _ => none) = _
    rw [hA]; exact if_pos rfl
  have gl : zk_al (zp_M P, n) b = some (nI bs.length) := by
    unfold zk_al
    show (match zp_M P b with | .inl _ => none | .inr (.inl (_, n, _)) => some (nI n) | .inr (.inr (.inl (n, _))) => some (nI n) | .inr (.inr (.inr (_, n, _))) => some (nI n)) = _
    rw [hM]
  have hm : zq_min (zi bs.length) (nI bs.length) = zi bs.length := by
    unfold zq_min
    show (if zi bs.length < zi bs.length then zi bs.length else zi bs.length) = _
    by_cases z : zi bs.length < zi bs.length
    · rw [if_pos z]
    · rw [if_neg z]
  rw [e_String_indexOf_I, gv, Option.bind_some, e_String_indexOf_II, gv, Option.bind_some, e_String_isLatin1, g1, Option.bind_some, if_pos rfl, zs_cI, Option.bind_some, if_neg zi_1n, g0, Option.bind_some, gv, Option.bind_some, zs_slen hA hM, zs_cI, Option.bind_some, e_StringLatin1_indexOf, e_StringLatin1_canEncode, if_neg c0, if_neg c2, zs_cI, Option.bind_some, if_neg zi_1n, zs_max, zs_cI, Option.bind_some, gl, Option.bind_some, zs_min, zs_cI, Option.bind_some, hm, show zq_max 0 0 = 0 by decide, if_pos ((zi_0 (by omega)).mpr h0), e_StringLatin1_indexOfChar, show zk_sf d m_StringLatin1_indexOfChar 7 [.ref b, .int c, .int 0, .int (zi bs.length), .int c.toInt8.toInt32, .int 0] [] (zp_M P, n) = _ from zs_ixc hM hl bs 0 (Nat.zero_add _) (fun i x h => by rw [Nat.zero_add]; exact hf i x h), zs_cI, Option.bind_some, zs_cI, Option.bind_some, zs_cI, Option.bind_some]
theorem zi_16 : ∀ b, b < 256 → (Int32.toUInt32 (zi b) % 65536).toInt32 = zi b := by decide +kernel
/-- a row of bounds -/
theorem zs_at5 {k m i : Nat} {f : Nat → Int32} (hM : zp_M P k = zk_ia 5 m f) (hi : i < m) (hm : m < 2 ^ 31) : zk_sm d m_SaddlerKnows_at [.ref k, .int (zi i)] (zp_M P, n) = some (some (.int (f i)), (zp_M P, n)) := by
  have gl : zk_al (zp_M P, n) k = some (nI m) := by
    unfold zk_al
    show (match zp_M P k with | .inl _ => none | .inr (.inl (_, n, _)) => some (nI n) | .inr (.inr (.inl (n, _))) => some (nI n) | .inr (.inr (.inr (_, n, _))) => some (nI n)) = _
    rw [hM]
  have gd : zk_ldI (zp_M P, n) k (zi i) = some (f i) := by
    unfold zk_ldI
    show (match zp_M P k with | .inr (.inl (t, n, f)) => if (t = 0 ∨ t = 5) ∧ ¬ (zi i < 0 ∨ n ≤ (zi i).toNatClampNeg) then some (f (zi i).toNatClampNeg) else none | _ => none) = _
    rw [hM]
    show (if (5 = 0 ∨ 5 = 5) ∧ ¬ (zi i < 0 ∨ m ≤ (zi i).toNatClampNeg) then some (f (zi i).toNatClampNeg) else none) = _
    rw [zi_c (by omega), if_pos ⟨Or.inr rfl, fun z => z.elim (zi_n (by omega)) (fun z => by omega)⟩]
  rw [e_SaddlerKnows_at, gl, Option.bind_some, gd, Option.bind_some, if_neg (zi_n (by omega)), if_pos ((zi_nI (by omega) hm).mpr hi)]
/-- what the outer cells hold -/
theorem zk_kE_p {k : Nat} (h : zk_kE L xs (zp_M P, n)) (hk : k < 12) : zp_M P k = zk_E L xs k := h.2 k hk
theorem zs_lettersC (h : zk_kE L xs (zp_M P, n)) {c : Int32} (c0 : ¬ c < 0) (c2 : ¬ 255 < c) : zk_sm (d + 3) m_String_indexOf_I [.ref 7, .int c] (zp_M P, n) = some (some (.int (yix [115, 98, 102, 116, 103, 119] 0 c)), (zp_M P, n)) := by
  refine zs_indexOf (b := 11) (f := zk_ef xs 11) (bs := [115, 98, 102, 116, 103, 119]) ((zk_kE_p h (by decide)).trans rfl) ((zk_kE_p h (by decide)).trans rfl) (fun i x hx => ?_) (by decide) (by decide) c0 c2
  match i, hx with
  | 0, hx => cases hx; rfl
  | 1, hx => cases hx; rfl
  | 2, hx => cases hx; rfl
  | 3, hx => cases hx; rfl
  | 4, hx => cases hx; rfl
  | 5, hx => cases hx; rfl
  | i + 6, hx => cases hx
end
