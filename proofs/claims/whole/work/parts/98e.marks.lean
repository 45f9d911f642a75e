/-! CALLS 29: how far apart at a mark -/
def yap_ (B : Nat → Bool) (G : Nat → Int32) (m : Nat) : Int32 := (List.range 10).foldl (fun a f => if B f = true then (if G f < zi m then a + (-1) else a + 1) else a) 0
section
variable {P : zp} {n : Nat × Nat} {d : Nat} {B : Nat → Bool} {G : Nat → Int32}
theorem zs_apart (hx : ∀ f, f < 10 → yb_t (P.1 249 8) f = B f) (hG : ∀ f, f < 10 → B f = true → P.2.1 259 f = G f) {m : Nat} : zk_sm (d + 1) m_Seeing_apartAt [.ref 249, .int (zi m)] (zp_M P, n) = some (some (.int (zq_abs (yap_ B G m))), (zp_M P, n)) := by
  rw [e_Seeing_apartAt]
  refine zl_fold (m := 10) (L := fun f (a : Int32) => zk_sf (d + 1) m_Seeing_apartAt 4 [.ref 249, .int (zi m), .int a, .int (zi f)] [] (zp_M P, n)) (g := fun f a => if B f = true then (if G f < zi m then a + (-1) else a + 1) else a) (fin := fun a => (some (.int (zq_abs a)), (zp_M P, n))) (fun f a hf => ?_) (fun a => ?_) 0
  · show zk_sf (d + 1) m_Seeing_apartAt 4 [.ref 249, .int (zi m), .int a, .int (zi f)] [] (zp_M P, n) = _
    rw [e_Seeing_apartAt_4, if_pos (show zi f < 10 from zi_10 hf), zp_N8, Option.bind_some, zs_hasBit, zs_cI, Option.bind_some, zp_ib, yb_bit (by omega), hx f hf, zi_s]
    cases hb : B f with
    | false => rw [cond_false, if_neg Bool.false_ne_true]
    | true =>
      rw [cond_true, if_pos rfl, zp_N7, Option.bind_some, zs_at zp_a259 (by decide), zs_cI, Option.bind_some, zp_gi hf (by decide), hG f hf hb]
      by_cases z : G f < zi m
      · rw [if_pos z, if_pos z]
      · rw [if_neg z, if_neg z]
  · show zk_sf (d + 1) m_Seeing_apartAt 4 [.ref 249, .int (zi m), .int a, .int (zi 10)] [] (zp_M P, n) = _
    rw [e_Seeing_apartAt_4, if_neg (by decide), zs_abs, zs_cI, Option.bind_some]
end
