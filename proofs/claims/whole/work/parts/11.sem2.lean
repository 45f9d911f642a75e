theorem zk_lp_m {run run' : List Value → zk_S → Option zk_R} (h : ∀ as s, zk_le (run as s) (run' as s)) (as : List Value) (s : zk_S) : zk_le (zk_lp run as s) (zk_lp run' as s) := by
  unfold zk_lp
  split
  · exact zk_le_b zk_le_r fun _ => zk_le_b (h _ _) fun _ => zk_le_r
  · exact zk_le_n
theorem zk_ca_m {run run' : Nat → Nat → List Value → zk_S → Option zk_R} (h : ∀ d y as s, zk_le (run d y as s) (run' d y as s)) (d y : Nat) (as : List Value) (s : zk_S) : zk_le (zk_ca run d y as s) (zk_ca run' d y as s) := by
  unfold zk_ca
  cases d with
  | zero => exact zk_le_n
  | succ d =>
    cases Nat.beq y m_Law_person with
    | false => exact h _ _ _ _
    | true =>
      rcases d with _ | _ | _ | _ | _ | _ | _ | _ | _ | d
      all_goals first | exact zk_le_n | exact zk_lp_m (h _ _) _ _
theorem zk_wk_s : ∀ (f d y pc : Nat) (L S : List Value) (s : zk_S), zk_le (zk_wk f d y pc L S s) (zk_wk (f + 1) d y pc L S s)
  | 0, _, _, _, _, _, _ => zk_le_n
  | f + 1, d, y, pc, L, S, s => by
    show zk_le (match zk_lk pc (zk_rcd y) with | none => none | some (nx, i) => zk_ins zk_df (zk_ca (fun d y as s => bif zk_fa y as then zk_wk f d y 0 (zk_en (zk_ml y) as) [] s else none) d) d i nx L S s (fun pc L S s => zk_wk f d y pc L S s))
      (match zk_lk pc (zk_rcd y) with | none => none | some (nx, i) => zk_ins zk_df (zk_ca (fun d y as s => bif zk_fa y as then zk_wk (f + 1) d y 0 (zk_en (zk_ml y) as) [] s else none) d) d i nx L S s (fun pc L S s => zk_wk (f + 1) d y pc L S s))
    cases zk_lk pc (zk_rcd y) with
    | none => exact zk_le_n
    | some q => exact zk_ins_m (fun _ _ _ => zk_ca_m (fun _ _ _ _ => zk_le_c fun _ => zk_wk_s f _ _ _ _ _ _) _ _ _ _) (fun _ _ _ _ => zk_wk_s f _ _ _ _ _ _) _ _ _ _ _ _ _
theorem zk_wk_a (f g d y pc : Nat) (L S : List Value) (s : zk_S) : zk_le (zk_wk f d y pc L S s) (zk_wk (f + g) d y pc L S s) := by
  induction g with
  | zero => exact zk_le_r
  | succ g ih => exact fun x h => zk_wk_s _ _ _ _ _ _ _ x (ih x h)
theorem zk_wk_mono {f g d y pc : Nat} {L S : List Value} {s : zk_S} (h : f ≤ g) : zk_le (zk_wk f d y pc L S s) (zk_wk g d y pc L S s) := by
  obtain ⟨k, rfl⟩ := Nat.exists_eq_add_of_le h
  exact zk_wk_a _ _ _ _ _ _ _ _
/-- what a walk from a frame comes to -/
noncomputable def zk_sf (d y pc : Nat) (L S : List Value) (s : zk_S) : Option zk_R := haveI := Classical.propDecidable (∃ r : zk_R, ∃ f : Nat, zk_wk f d y pc L S s = some r)
  if h : ∃ r : zk_R, ∃ f : Nat, zk_wk f d y pc L S s = some r then some (Classical.choose h) else none
noncomputable def zk_sm (d y : Nat) (as : List Value) (s : zk_S) : Option zk_R := bif zk_fa y as then zk_sf d y 0 (zk_en (zk_ml y) as) [] s else none
theorem zk_sf_i {d y pc : Nat} {L S : List Value} {s : zk_S} {r : zk_R} : zk_sf d y pc L S s = some r ↔ ∃ f, zk_wk f d y pc L S s = some r := by
  unfold zk_sf
  constructor
  · intro h
    by_cases q : ∃ r : zk_R, ∃ f : Nat, zk_wk f d y pc L S s = some r
    · rw [dif_pos q] at h
      cases h
      exact Classical.choose_spec q
    · rw [dif_neg q] at h
      cases h
  · intro ⟨f, h⟩
    have q : ∃ r : zk_R, ∃ f : Nat, zk_wk f d y pc L S s = some r := ⟨r, f, h⟩
    rw [dif_pos q]
    obtain ⟨g, hg⟩ := Classical.choose_spec q
    have h1 := zk_wk_mono (Nat.le_max_left f g) r h
    have h2 := zk_wk_mono (Nat.le_max_right f g) _ hg
    rw [h1] at h2
    exact h2.symm
theorem zk_wk_sf (f d y pc : Nat) (L S : List Value) (s : zk_S) : zk_le (zk_wk f d y pc L S s) (zk_sf d y pc L S s) := fun _ h => zk_sf_i.mpr ⟨f, h⟩
/-- a call, by what it comes to -/
noncomputable def zk_cl (d y : Nat) (as : List Value) (s : zk_S) : Option zk_R := zk_ca zk_sm d y as s
