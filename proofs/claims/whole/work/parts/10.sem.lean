/-! RUNS: by fuel f and depth d; what they come to (zk_sf, zk_sm), whatever the fuel; unfolding by blocks (zk_un) -/
def zk_sl : List Value → List Value
  | [] => []
  | .long x :: r => .long x :: .retAddr 0 :: zk_sl r
  | .double x :: r => .double x :: .retAddr 0 :: zk_sl r
  | v :: r => v :: zk_sl r
def zk_en (n : Nat) (as : List Value) : List Value := zk_sl as ++ List.replicate (n - (zk_sl as).length) (.retAddr 0)
/-- the law's own person(x, p, what, out): it catches what SaddlerKnows.person throws -/
def zk_lp (run : List Value → zk_S → Option zk_R) (as : List Value) (s : zk_S) : Option zk_R := match as with
  | [.ref x, .int p, .int w, .ref o] => (zk_rv s x 11).bind fun _ => (run [.ref x, .int p, .int w] s).bind fun r => match r with
    | (some (.int y), t) => (zk_stL t o 0 y.toInt64).bind fun u => some (some (.int 0), u)
    | (some (.retAddr _), t) => some (some (.int 1), zk_nw t zk_no zk_xw)
    | _ => none
  | _ => none
def zk_ca (run : Nat → Nat → List Value → zk_S → Option zk_R) (d y : Nat) (as : List Value) (s : zk_S) : Option zk_R := match d with
  | 0 => none
  | d + 1 => bif Nat.beq y m_Law_person then match d with
      | d + 9 => zk_lp (run (d + 8) m_SaddlerKnows_person) as s
      | _ => none
    else run d y as s
/-- do the arguments fit into the method's locals? -/
def zk_fa (y : Nat) (as : List Value) : Bool := Nat.ble (zk_sl as).length (zk_ml y)
def zk_wk : Nat → Nat → Nat → Nat → List Value → List Value → zk_S → Option zk_R
  | 0, _, _, _, _, _, _ => none
  | f + 1, d, y, pc, L, S, s => match zk_lk pc (zk_rcd y) with
    | none => none
    | some (nx, i) => zk_ins zk_df (zk_ca (fun d y as s => bif zk_fa y as then zk_wk f d y 0 (zk_en (zk_ml y) as) [] s else none) d) d i nx L S s (fun pc L S s => zk_wk f d y pc L S s)
/-- one is no less told than the other -/
def zk_le {α : Type} (a b : Option α) : Prop := ∀ x, a = some x → b = some x
theorem zk_le_b {α β : Type} {a b : Option α} {f g : α → Option β} (h : zk_le a b) (h2 : ∀ x, zk_le (f x) (g x)) : zk_le (a.bind f) (b.bind g) := by
  intro y hy
  obtain ⟨x, hx, hf⟩ := Option.bind_eq_some_iff.mp hy
  rw [h x hx]
  exact h2 x y hf
theorem zk_le_r {α : Type} {a : Option α} : zk_le a a := fun _ h => h
theorem zk_le_n {α : Type} {a : Option α} : zk_le none a := fun _ h => by cases h
theorem zk_le_c {α : Type} {b : Bool} {x y : Option α} (h : b = true → zk_le x y) : zk_le (bif b then x else none) (bif b then y else none) := by
  cases b
  · exact zk_le_n
  · exact h rfl
theorem zk_le_i {α : Type} {p : Prop} [Decidable p] {x y x' y' : Option α} (h : p → zk_le x y) (h' : ¬ p → zk_le x' y') : zk_le (if p then x else x') (if p then y else y') := by
  by_cases q : p
  · rw [if_pos q, if_pos q]; exact h q
  · rw [if_neg q, if_neg q]; exact h' q
theorem zk_sw_m {α : Type} {x : Int32} {d : Int} {k k' : Nat → Option α} (h : ∀ t, zk_le (k t) (k' t)) : ∀ ps, zk_le (zk_sw x d k ps) (zk_sw x d k' ps)
  | [] => h _
  | (c, t) :: r => zk_le_i (fun _ => h _) (fun _ => zk_sw_m h r)
set_option maxHeartbeats 4000000 in
theorem zk_inv_m {call call' : Nat → List Value → zk_S → Option zk_R} {k k' : Nat → List Value → List Value → zk_S → Option zk_R} (hc : ∀ y as s, zk_le (call y as s) (call' y as s)) (hk : ∀ pc L S s, zk_le (k pc L S s) (k' pc L S s)) (nx : Nat) (L : List Value) (o : Nat) (as rest : List Value) (s : zk_S) : zk_le (zk_inv call nx L o as rest s k) (zk_inv call' nx L o as rest s k') := by
  unfold zk_inv
  refine zk_le_c fun _ => ?_
  split
  · exact zk_le_b (zk_le_b (hc _ _ _) fun _ => zk_le_r) fun _ => hk _ _ _ _
  · exact zk_le_b (zk_le_b (hc _ _ _) fun _ => zk_le_r) fun _ => hk _ _ _ _
  · exact zk_le_b (zk_le_b (hc _ _ _) fun _ => zk_le_r) fun _ => hk _ _ _ _
  · refine zk_le_b (zk_le_b (hc _ _ _) fun _ => zk_le_r) fun p => ?_
    obtain ⟨q, t⟩ := p
    cases q <;> exact hk _ _ _ _
set_option maxHeartbeats 4000000 in
theorem zk_ins_m {call call' : Nat → List Value → zk_S → Option zk_R} {k k' : Nat → List Value → List Value → zk_S → Option zk_R} (hc : ∀ y as s, zk_le (call y as s) (call' y as s)) (hk : ∀ pc L S s, zk_le (k pc L S s) (k' pc L S s)) (df : Nat → List Value) (d : Nat) (i : Instr) (nx : Nat) (L S : List Value) (s : zk_S) : zk_le (zk_ins df call d i nx L S s k) (zk_ins df call' d i nx L S s k') := by
  have hI := zk_inv_m hc hk
  unfold zk_ins
  split <;> (repeat' (first | exact zk_le_n | exact zk_le_r | exact hk _ _ _ _ | exact hI _ _ _ _ _ _ | refine zk_le_c (fun _ => ?_) | refine zk_le_i (fun _ => ?_) (fun _ => ?_) | refine zk_le_b zk_le_r (fun _ => ?_) | exact zk_sw_m (fun _ => hk _ _ _ _) _ | split))
