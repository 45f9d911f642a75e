/-! COUNTS: a run never gives back cells or slots; and what else is checked of the resolved code -/
def zk_gr (s : zk_S) (X : Option zk_R) : Prop := ∀ r, X = some r → s.2.1 ≤ r.2.2.1 ∧ s.2.2 ≤ r.2.2.2
theorem zk_gr_n {s : zk_S} : zk_gr s none := fun _ h => by cases h
theorem zk_gr_e {s : zk_S} {v : Option Value} : zk_gr s (some (v, s)) := fun _ h => by cases h; exact ⟨Nat.le_refl _, Nat.le_refl _⟩
theorem zk_gr_t {s t : zk_S} {X : Option zk_R} (h : s.2.1 ≤ t.2.1 ∧ s.2.2 ≤ t.2.2) (k : zk_gr t X) : zk_gr s X := fun r hr => ⟨Nat.le_trans h.1 (k r hr).1, Nat.le_trans h.2 (k r hr).2⟩
theorem zk_gr_c {s : zk_S} {b : Bool} {x : Option zk_R} (h : b = true → zk_gr s x) : zk_gr s (bif b then x else none) := by
  cases b
  · exact zk_gr_n
  · exact h rfl
theorem zk_gr_i {s : zk_S} {p : Prop} [Decidable p] {x x' : Option zk_R} (h : p → zk_gr s x) (h' : ¬ p → zk_gr s x') : zk_gr s (if p then x else x') := by
  by_cases q : p
  · rw [if_pos q]; exact h q
  · rw [if_neg q]; exact h' q
theorem zk_gr_b {α : Type} {s : zk_S} {X : Option α} {F : α → Option zk_R} (h : ∀ v, X = some v → zk_gr s (F v)) : zk_gr s (X.bind F) := by
  cases hX : X with
  | none => exact zk_gr_n
  | some v => exact h v hX
theorem zk_pf_2 {s t : zk_S} {a ci j : Nat} {v : Value} (h : zk_pf s a ci j v = some t) : s.2.1 ≤ t.2.1 ∧ s.2.2 ≤ t.2.2 := by
  obtain ⟨_, -, -, rfl⟩ := zk_pf_i h
  exact ⟨Nat.le_refl _, Nat.le_refl _⟩
theorem zk_stI_2 {s t : zk_S} {a : Nat} {i x : Int32} (h : zk_stI s a i x = some t) : s.2.1 ≤ t.2.1 ∧ s.2.2 ≤ t.2.2 := by
  obtain ⟨_, _, -, -, rfl⟩ := zk_stI_i h
  exact ⟨Nat.le_refl _, Nat.le_refl _⟩
theorem zk_stZ_2 {s t : zk_S} {a : Nat} {i x : Int32} (h : zk_stZ s a i x = some t) : s.2.1 ≤ t.2.1 ∧ s.2.2 ≤ t.2.2 := by
  obtain ⟨_, _, -, -, rfl⟩ := zk_stZ_i h
  exact ⟨Nat.le_refl _, Nat.le_refl _⟩
theorem zk_stL_2 {s t : zk_S} {a : Nat} {i : Int32} {x : Int64} (h : zk_stL s a i x = some t) : s.2.1 ≤ t.2.1 ∧ s.2.2 ≤ t.2.2 := by
  obtain ⟨_, _, -, -, rfl⟩ := zk_stL_i h
  exact ⟨Nat.le_refl _, Nat.le_refl _⟩
theorem zk_stR_2 {s t : zk_S} {a v : Nat} {i : Int32} (h : zk_stR s a i v = some t) : s.2.1 ≤ t.2.1 ∧ s.2.2 ≤ t.2.2 := by
  obtain ⟨_, _, _, _, -, -, -, rfl⟩ := zk_stR_i h
  exact ⟨Nat.le_refl _, Nat.le_refl _⟩
theorem zk_cI_i {X : Option zk_R} {x : Int32} {s : zk_S} (h : zk_cI X = some (x, s)) : X = some (some (.int x), s) := by
  unfold zk_cI at h
  obtain ⟨⟨v, t⟩, h1, h2⟩ := Option.bind_eq_some_iff.mp h
  split at h2
  · cases h2; rename_i q; cases q; exact h1
  · cases h2
theorem zk_cL_i {X : Option zk_R} {x : Int64} {s : zk_S} (h : zk_cL X = some (x, s)) : X = some (some (.long x), s) := by
  unfold zk_cL at h
  obtain ⟨⟨v, t⟩, h1, h2⟩ := Option.bind_eq_some_iff.mp h
  split at h2
  · cases h2; rename_i q; cases q; exact h1
  · cases h2
theorem zk_cV_i {X : Option zk_R} {s : zk_S} (h : zk_cV X = some s) : X = some (none, s) := by
  unfold zk_cV at h
  obtain ⟨⟨v, t⟩, h1, h2⟩ := Option.bind_eq_some_iff.mp h
  split at h2
  · cases h2; rename_i q; cases q; exact h1
  · cases h2
theorem zk_cR_i {X : Option zk_R} {x : Option Nat} {s : zk_S} (h : zk_cR X = some (x, s)) : X = some (some (match x with | some a => .ref a | none => .null), s) := by
  unfold zk_cR at h
  obtain ⟨⟨v, t⟩, h1, h2⟩ := Option.bind_eq_some_iff.mp h
  split at h2
  · cases h2; rename_i q; cases q; exact h1
  · cases h2; rename_i q; cases q; exact h1
  · cases h2
section
variable {call : Nat → List Value → zk_S → Option zk_R} {k : Nat → List Value → List Value → zk_S → Option zk_R}
theorem zk_inv_g (hc : ∀ y as s, zk_gr s (call y as s)) (hk : ∀ pc L S s, zk_gr s (k pc L S s)) (nx : Nat) (L : List Value) (o : Nat) (as rest : List Value) (s : zk_S) : zk_gr s (zk_inv call nx L o as rest s k) := by
  unfold zk_inv
  refine zk_gr_c fun _ => ?_
  split
  · exact zk_gr_b fun t h => zk_gr_t (hc _ _ _ _ (zk_cV_i h)) (hk _ _ _ _)
  · exact zk_gr_b fun ⟨x, t⟩ h => zk_gr_t (hc _ _ _ _ (zk_cI_i h)) (hk _ _ _ _)
  · exact zk_gr_b fun ⟨x, t⟩ h => zk_gr_t (hc _ _ _ _ (zk_cL_i h)) (hk _ _ _ _)
  · refine zk_gr_b fun ⟨x, t⟩ h => ?_
    have := hc _ _ _ _ (zk_cR_i h)
    cases x
    · exact zk_gr_t this (hk _ _ _ _)
    · exact zk_gr_t this (hk _ _ _ _)
theorem zk_sw_g {s : zk_S} {x : Int32} {d : Int} {k : Nat → Option zk_R} (h : ∀ t, zk_gr s (k t)) : ∀ ps, zk_gr s (zk_sw x d k ps)
  | [] => h _
  | (c, t) :: r => zk_gr_i (fun _ => h _) (fun _ => zk_sw_g h r)
set_option maxHeartbeats 4000000 in
theorem zk_ins_g (hc : ∀ y as s, zk_gr s (call y as s)) (hk : ∀ pc L S s, zk_gr s (k pc L S s)) (df : Nat → List Value) (d : Nat) (i : Instr) (nx : Nat) (L S : List Value) (s : zk_S) : zk_gr s (zk_ins df call d i nx L S s k) := by
  have hI := zk_inv_g hc hk
  unfold zk_ins
  split <;> (repeat' (first | exact zk_gr_n | exact zk_gr_e | exact hk _ _ _ _ | exact hI _ _ _ _ _ _ | exact zk_gr_t (zk_pf_2 h9) (hk _ _ _ _) | exact zk_gr_t (zk_stI_2 h9) (hk _ _ _ _) | exact zk_gr_t (zk_stZ_2 h9) (hk _ _ _ _) | exact zk_gr_t (zk_stL_2 h9) (hk _ _ _ _) | exact zk_gr_t (zk_stR_2 h9) (hk _ _ _ _) | exact zk_gr_t (t := zk_nw s _ _) ⟨Nat.le_succ _, Nat.le_add_right _ _⟩ (hk _ _ _ _) | refine zk_gr_c (fun _ => ?_) | refine zk_gr_i (fun _ => ?_) (fun _ => ?_) | refine zk_gr_b (fun _ h9 => ?_) | exact zk_sw_g (fun _ => hk _ _ _ _) _ | split))
end
theorem zk_lp_g {run : List Value → zk_S → Option zk_R} (h : ∀ as s, zk_gr s (run as s)) (as : List Value) (s : zk_S) : zk_gr s (zk_lp run as s) := by
  unfold zk_lp
  split
  · refine zk_gr_b fun _ _ => zk_gr_b fun r hr => ?_
    have h1 := h _ _ r hr
    obtain ⟨v, t⟩ := r
    split
    · rename_i q; cases q
      exact zk_gr_b fun u hu => zk_gr_t ⟨Nat.le_trans h1.1 (zk_stL_2 hu).1, Nat.le_trans h1.2 (zk_stL_2 hu).2⟩ zk_gr_e
    · rename_i q; cases q
      exact zk_gr_t ⟨Nat.le_trans h1.1 (Nat.le_succ _), Nat.le_trans h1.2 (Nat.le_add_right _ _)⟩ (zk_gr_e (s := zk_nw _ zk_no zk_xw))
    · exact zk_gr_n
  · exact zk_gr_n
theorem zk_wk_g : ∀ (f d y pc : Nat) (L S : List Value) (s : zk_S), zk_gr s (zk_wk f d y pc L S s)
  | 0, _, _, _, _, _, _ => zk_gr_n
  | f + 1, d, y, pc, L, S, s => by
    show zk_gr s (match zk_lk pc (zk_rcd y) with | none => none | some (nx, i) => zk_ins zk_df (zk_ca (fun d y as s => bif zk_fa y as then zk_wk f d y 0 (zk_en (zk_ml y) as) [] s else none) d) d i nx L S s (fun pc L S s => zk_wk f d y pc L S s))
    cases zk_lk pc (zk_rcd y) with
    | none => exact zk_gr_n
    | some q =>
      refine zk_ins_g (fun y as s => ?_) (fun _ _ _ _ => zk_wk_g f _ _ _ _ _ _) _ _ _ _ _ _ _
      unfold zk_ca
      cases d with
      | zero => exact zk_gr_n
      | succ d =>
        cases Nat.beq y m_Law_person with
        | false => exact zk_gr_c fun _ => zk_wk_g f _ _ _ _ _ _
        | true =>
          rcases d with _ | _ | _ | _ | _ | _ | _ | _ | _ | d
          all_goals first
            | exact zk_gr_n
            | exact zk_lp_g (run := fun as s => bif zk_fa m_SaddlerKnows_person as then zk_wk f (d + 8) m_SaddlerKnows_person 0 (zk_en (zk_ml m_SaddlerKnows_person) as) [] s else none) (fun _ _ => zk_gr_c fun _ => zk_wk_g f _ _ _ _ _ _) as s
/-- what else holds of an instruction in a method's code -/
def zk_pfk (y : Nat) (i : Instr) : Bool := match i with
  | .putfield o => Nat.blt (o / 1000) 13 && (bif (zk_tx (o / 1000) (o / 10 % 100)).2.2.2 then decide ((zk_y y).name = "<init>") && Nat.beq (o / 1000) (zk_o y) else true) && (match o % 10 with
    | 0 => decide (zk_ft (o / 1000) (o / 10 % 100) = .int)
    | 3 => decide (zk_ft (o / 1000) (o / 10 % 100) = .boolean)
    | 1 => decide (zk_ft (o / 1000) (o / 10 % 100) = .long)
    | 2 => (match zk_ft (o / 1000) (o / 10 % 100) with | .object _ => true | .array _ => true | _ => false)
    | _ => true)
  | .anewarray c => Nat.beq c 7 || Nat.beq c 1
  | .newarray t => decide (t = .int) || decide (t = .boolean) || decide (t = .long)
  | .ireturn => decide (zk_rt y = some .int)
  | .ret 1 => decide (zk_rt y = some .boolean)
  | .ret 2 => decide (zk_rt y = some .byte)
  | .lreturn => decide (zk_rt y = some .long)
  | .return_ => decide (zk_rt y = none)
  | .areturn => (match zk_rt y with | some (.object _) => true | _ => false)
  | .getstatic i => Nat.ble i 3
  | .ldc e => Nat.ble 4 e && Nat.ble e 7
  | _ => true
set_option maxRecDepth 100000 in
theorem zk_pf0 : (List.range 76).all (fun i => (zk_rcd (0 + i)).all (fun e => zk_pfk (0 + i) e.2.2)) = true := by decide +kernel
set_option maxRecDepth 100000 in
theorem zk_pf76 : (List.range 76).all (fun i => (zk_rcd (76 + i)).all (fun e => zk_pfk (76 + i) e.2.2)) = true := by decide +kernel
set_option maxRecDepth 100000 in
theorem zk_pf152 : (List.range 76).all (fun i => (zk_rcd (152 + i)).all (fun e => zk_pfk (152 + i) e.2.2)) = true := by decide +kernel
set_option maxRecDepth 100000 in
theorem zk_pf228 : (List.range 76).all (fun i => (zk_rcd (228 + i)).all (fun e => zk_pfk (228 + i) e.2.2)) = true := by decide +kernel
theorem zk_pfa (y : Nat) (e : Nat × Nat × Instr) (he : e ∈ zk_rcd y) : zk_pfk y e.2.2 = true := by
  have key : ∀ a n : Nat, (List.range n).all (fun i => (zk_rcd (a + i)).all (fun e => zk_pfk (a + i) e.2.2)) = true → a ≤ y → y < a + n → zk_pfk y e.2.2 = true := by
    intro a n h h1 h2
    have h3 := List.all_eq_true.mp h (y - a) (List.mem_range.mpr (by omega))
    rw [show a + (y - a) = y by omega] at h3
    exact List.all_eq_true.mp h3 e he
  by_cases h0 : y < 76
  · exact key 0 76 zk_pf0 (by omega) (by omega)
  by_cases h76 : y < 152
  · exact key 76 76 zk_pf76 (by omega) (by omega)
  by_cases h152 : y < 228
  · exact key 152 76 zk_pf152 (by omega) (by omega)
  by_cases h228 : y < 304
  · exact key 228 76 zk_pf228 (by omega) (by omega)
  have hz : zk_rcl.length = 304 := by decide +kernel
  have hn : zk_rcl[y]? = none := List.getElem?_eq_none (by omega)
  unfold zk_rcd at he
  rw [List.getD_eq_getElem?_getD, hn] at he
  cases he
