/-! THE UNFOLDING: a walk's result is a step's, over the results behind it -/
def zk_ct {α : Type} (X : Option α) (Y : Nat → Option α) : Prop := ∀ r, X = some r → ∃ f, Y f = some r
theorem zk_ct_n {α : Type} {Y : Nat → Option α} : zk_ct none Y := fun _ h => by cases h
theorem zk_ct_r {α : Type} {X : Option α} : zk_ct X (fun _ => X) := fun _ h => ⟨0, h⟩
theorem zk_ct_c {α : Type} {b : Bool} {x : Option α} {y : Nat → Option α} (h : b = true → zk_ct x y) : zk_ct (bif b then x else none) (fun f => bif b then y f else none) := by
  cases b
  · exact zk_ct_n
  · exact h rfl
theorem zk_ct_i {α : Type} {p : Prop} [Decidable p] {x x' : Option α} {y y' : Nat → Option α} (h : p → zk_ct x y) (h' : ¬ p → zk_ct x' y') : zk_ct (if p then x else x') (fun f => if p then y f else y' f) := by
  by_cases q : p
  · simp only [if_pos q]; exact h q
  · simp only [if_neg q]; exact h' q
theorem zk_ct_b {α β : Type} {X : Option β} {F : β → Option α} {G : Nat → β → Option α} (h : ∀ v, zk_ct (F v) (fun f => G f v)) : zk_ct (X.bind F) (fun f => X.bind (G f)) := by
  cases X with
  | none => exact zk_ct_n
  | some v => exact h v
theorem zk_ct_b2 {α β : Type} {X : Option β} {Y : Nat → Option β} {F : β → Option α} {G : Nat → β → Option α} (hX : zk_ct X Y) (mY : ∀ f g, f ≤ g → zk_le (Y f) (Y g)) (h : ∀ v, zk_ct (F v) (fun f => G f v)) (mG : ∀ v f g, f ≤ g → zk_le (G f v) (G g v)) : zk_ct (X.bind F) (fun f => (Y f).bind (G f)) := by
  intro r hr
  obtain ⟨v, hv, hF⟩ := Option.bind_eq_some_iff.mp hr
  obtain ⟨f1, h1⟩ := hX v hv
  obtain ⟨f2, h2⟩ := h v r hF
  refine ⟨max f1 f2, ?_⟩
  show (Y (max f1 f2)).bind (G (max f1 f2)) = some r
  rw [mY _ _ (Nat.le_max_left f1 f2) v h1]
  exact mG v _ _ (Nat.le_max_right f1 f2) r h2
section
variable {call : Nat → List Value → zk_S → Option zk_R} {cn : Nat → Nat → List Value → zk_S → Option zk_R} {k : Nat → List Value → List Value → zk_S → Option zk_R} {kn : Nat → Nat → List Value → List Value → zk_S → Option zk_R}
theorem zk_ct_sw {x : Int32} {d : Int} {α : Type} {k : Nat → Option α} {kn : Nat → Nat → Option α} (h : ∀ t, zk_ct (k t) (fun f => kn f t)) : ∀ ps, zk_ct (zk_sw x d k ps) (fun f => zk_sw x d (kn f) ps)
  | [] => h _
  | (c, t) :: r => zk_ct_i (fun _ => h _) (fun _ => zk_ct_sw h r)
theorem zk_inv_ct (mc : ∀ f g y as s, f ≤ g → zk_le (cn f y as s) (cn g y as s)) (mk : ∀ f g pc L S s, f ≤ g → zk_le (kn f pc L S s) (kn g pc L S s)) (hc : ∀ y as s, zk_ct (call y as s) (fun f => cn f y as s)) (hk : ∀ pc L S s, zk_ct (k pc L S s) (fun f => kn f pc L S s)) (nx : Nat) (L : List Value) (o : Nat) (as rest : List Value) (s : zk_S) : zk_ct (zk_inv call nx L o as rest s k) (fun f => zk_inv (cn f) nx L o as rest s (kn f)) := by
  unfold zk_inv
  refine zk_ct_c fun _ => ?_
  rcases o / 10000 % 10 with _ | _ | _ | j
  · exact zk_ct_b2 (zk_ct_b2 (hc _ _ _) (fun f g h => mc f g _ _ _ h) (fun _ => zk_ct_r) (fun _ _ _ _ => zk_le_r)) (fun f g h => zk_le_b (mc f g _ _ _ h) fun _ => zk_le_r) (fun _ => hk _ _ _ _) (fun _ f g h => mk f g _ _ _ _ h)
  · exact zk_ct_b2 (zk_ct_b2 (hc _ _ _) (fun f g h => mc f g _ _ _ h) (fun _ => zk_ct_r) (fun _ _ _ _ => zk_le_r)) (fun f g h => zk_le_b (mc f g _ _ _ h) fun _ => zk_le_r) (fun _ => hk _ _ _ _) (fun _ f g h => mk f g _ _ _ _ h)
  · exact zk_ct_b2 (zk_ct_b2 (hc _ _ _) (fun f g h => mc f g _ _ _ h) (fun _ => zk_ct_r) (fun _ _ _ _ => zk_le_r)) (fun f g h => zk_le_b (mc f g _ _ _ h) fun _ => zk_le_r) (fun _ => hk _ _ _ _) (fun _ f g h => mk f g _ _ _ _ h)
  · refine zk_ct_b2 (zk_ct_b2 (hc _ _ _) (fun f g h => mc f g _ _ _ h) (fun _ => zk_ct_r) (fun _ _ _ _ => zk_le_r)) (fun f g h => zk_le_b (mc f g _ _ _ h) fun _ => zk_le_r) (fun p => ?_) (fun p f g h => ?_)
    · obtain ⟨q, t⟩ := p
      cases q <;> exact hk _ _ _ _
    · obtain ⟨q, t⟩ := p
      cases q <;> exact mk f g _ _ _ _ h
set_option maxHeartbeats 4000000 in
theorem zk_ins_ct (mc : ∀ f g y as s, f ≤ g → zk_le (cn f y as s) (cn g y as s)) (mk : ∀ f g pc L S s, f ≤ g → zk_le (kn f pc L S s) (kn g pc L S s)) (hc : ∀ y as s, zk_ct (call y as s) (fun f => cn f y as s)) (hk : ∀ pc L S s, zk_ct (k pc L S s) (fun f => kn f pc L S s)) (df : Nat → List Value) (d : Nat) (i : Instr) (nx : Nat) (L S : List Value) (s : zk_S) : zk_ct (zk_ins df call d i nx L S s k) (fun f => zk_ins df (cn f) d i nx L S s (kn f)) := by
  have hI := zk_inv_ct mc mk hc hk
  unfold zk_ins
  split <;> (repeat' (first | exact zk_ct_n | exact zk_ct_r | exact hk _ _ _ _ | exact hI _ _ _ _ _ _ | refine zk_ct_c (fun _ => ?_) | refine zk_ct_i (fun _ => ?_) (fun _ => ?_) | refine zk_ct_b (fun _ => ?_) | exact zk_ct_sw (fun _ => hk _ _ _ _) _ | split))
end
theorem zk_ca_ct {run : Nat → Nat → List Value → zk_S → Option zk_R} {rn : Nat → Nat → Nat → List Value → zk_S → Option zk_R} (mr : ∀ f g d y as s, f ≤ g → zk_le (rn f d y as s) (rn g d y as s)) (h : ∀ d y as s, zk_ct (run d y as s) (fun f => rn f d y as s)) (d y : Nat) (as : List Value) (s : zk_S) : zk_ct (zk_ca run d y as s) (fun f => zk_ca (rn f) d y as s) := by
  unfold zk_ca
  cases d with
  | zero => exact zk_ct_n
  | succ d =>
    cases Nat.beq y m_Law_person with
    | false => exact h _ _ _ _
    | true =>
      rcases d with _ | _ | _ | _ | _ | _ | _ | _ | _ | d
      all_goals first
        | exact zk_ct_n
        | (show zk_ct (zk_lp _ _ _) (fun f => zk_lp _ _ _)
           unfold zk_lp
           split
           · exact zk_ct_b fun _ => zk_ct_b2 (h _ _ _ _) (fun f g q => mr f g _ _ _ _ q) (fun _ => zk_ct_r) (fun _ _ _ _ => zk_le_r)
           · exact zk_ct_n)
/-- one step of a walk, over what further walks and calls come to -/
noncomputable def zk_st (cd : zk_C) (d pc : Nat) (L S : List Value) (s : zk_S) (k : Nat → List Value → List Value → zk_S → Option zk_R) : Option zk_R := match zk_lk pc cd with
  | none => none
  | some q => zk_ins zk_df (zk_cl d) d q.2 q.1 L S s k
theorem zk_sf_e (d y pc : Nat) (L S : List Value) (s : zk_S) : zk_sf d y pc L S s = zk_st (zk_rcd y) d pc L S s (zk_sf d y) := by
  have h1 : zk_le (zk_sf d y pc L S s) (zk_st (zk_rcd y) d pc L S s (zk_sf d y)) := by
    intro r hr
    obtain ⟨f, hf⟩ := zk_sf_i.mp hr
    cases f with
    | zero => cases hf
    | succ f =>
      have hf : (match zk_lk pc (zk_rcd y) with | none => none | some (nx, i) => zk_ins zk_df (zk_ca (fun d y as s => bif zk_fa y as then zk_wk f d y 0 (zk_en (zk_ml y) as) [] s else none) d) d i nx L S s (fun pc L S s => zk_wk f d y pc L S s)) = some r := hf
      show (match zk_lk pc (zk_rcd y) with | none => none | some q => zk_ins zk_df (zk_cl d) d q.2 q.1 L S s (zk_sf d y)) = some r
      cases hq : zk_lk pc (zk_rcd y) with
      | none => rw [hq] at hf; cases hf
      | some q =>
        rw [hq] at hf
        exact zk_ins_m (fun _ _ _ => zk_ca_m (fun _ _ _ _ => zk_le_c fun _ => zk_wk_sf f _ _ _ _ _ _) _ _ _ _) (fun _ _ _ _ => zk_wk_sf f _ _ _ _ _ _) _ _ _ _ _ _ _ r hf
  have h2 : zk_le (zk_st (zk_rcd y) d pc L S s (zk_sf d y)) (zk_sf d y pc L S s) := by
    intro r hr
    have hr : (match zk_lk pc (zk_rcd y) with | none => none | some q => zk_ins zk_df (zk_cl d) d q.2 q.1 L S s (zk_sf d y)) = some r := hr
    cases hq : zk_lk pc (zk_rcd y) with
    | none => rw [hq] at hr; cases hr
    | some q =>
      rw [hq] at hr
      obtain ⟨f, hf⟩ := zk_ins_ct (cn := fun f => zk_ca (fun d y as s => bif zk_fa y as then zk_wk f d y 0 (zk_en (zk_ml y) as) [] s else none) d) (kn := fun f pc L S s => zk_wk f d y pc L S s)
        (fun f g _ _ _ h => zk_ca_m (fun _ _ _ _ => zk_le_c fun _ => zk_wk_mono h) _ _ _ _) (fun f g _ _ _ _ h => zk_wk_mono h)
        (fun y as s => zk_ca_ct (rn := fun f d y as s => bif zk_fa y as then zk_wk f d y 0 (zk_en (zk_ml y) as) [] s else none) (fun _ _ _ _ _ _ h => zk_le_c fun _ => zk_wk_mono h) (fun _ _ _ _ => zk_ct_c fun _ => fun r h => zk_sf_i.mp h) d y as s) (fun _ _ _ _ r h => zk_sf_i.mp h) zk_df d q.2 q.1 L S s r hr
      refine zk_sf_i.mpr ⟨f + 1, ?_⟩
      show (match zk_lk pc (zk_rcd y) with | none => none | some (nx, i) => zk_ins zk_df (zk_ca (fun d y as s => bif zk_fa y as then zk_wk f d y 0 (zk_en (zk_ml y) as) [] s else none) d) d i nx L S s (fun pc L S s => zk_wk f d y pc L S s)) = some r
      rw [hq]
      exact hf
  cases h : zk_sf d y pc L S s with
  | some r => exact (h1 r h).symm
  | none =>
    cases h' : zk_st (zk_rcd y) d pc L S s (zk_sf d y) with
    | none => rfl
    | some r => rw [h2 r h'] at h; cases h
/-- blocks: up to n steps, stopping ahead of the listed places -/
noncomputable def zk_un (cd : zk_C) (d : Nat) (stops : List Nat) (K : Nat → List Value → List Value → zk_S → Option zk_R) : Nat → Nat → List Value → List Value → zk_S → Option zk_R
  | 0, pc, L, S, s => K pc L S s
  | n + 1, pc, L, S, s => zk_st cd d pc L S s (fun pc L S s => bif stops.elem pc then K pc L S s else zk_un cd d stops K n pc L S s)
theorem zk_un_e (d y : Nat) (stops : List Nat) : ∀ (n pc : Nat) (L S : List Value) (s : zk_S), zk_sf d y pc L S s = zk_un (zk_rcd y) d stops (zk_sf d y) n pc L S s
  | 0, _, _, _, _ => rfl
  | n + 1, pc, L, S, s => by
    rw [zk_sf_e]
    show _ = zk_st (zk_rcd y) d pc L S s (fun pc L S s => bif stops.elem pc then zk_sf d y pc L S s else zk_un (zk_rcd y) d stops (zk_sf d y) n pc L S s)
    congr 1
    funext pc L S s
    cases stops.elem pc
    · exact zk_un_e d y stops n pc L S s
    · rfl
