/-! CALLS 30: the fairest mark, by the class -/
def yfmk (B : Nat → Bool) (G : Nat → Int32) (st : Int32 × Int32) (m : Nat) : Int32 × Int32 := if st.1 = -1 then (zi m, zq_abs (yap_ B G m)) else if zq_abs (yap_ B G m) < st.2 then (zi m, zq_abs (yap_ B G m)) else st
section
variable {P : zp} {n : Nat × Nat} {d : Nat} {B : Nat → Bool} {G : Nat → Int32}
theorem zs_fairest (hx : ∀ f, f < 10 → yb_t (P.1 249 8) f = B f) (hG : ∀ f, f < 10 → B f = true → P.2.1 259 f = G f) : zk_sm (d + 2) m_Seeing_fairestMark [.ref 249] (zp_M P, n) = some (some (.int (if P.1 249 8 = 0 then -1 else ((List.range 100).foldl (yfmk B G) (-1, 0)).1)), (zp_M P, n)) := by
  rw [e_Seeing_fairestMark]
  by_cases q : P.1 249 8 = 0
  · rw [e_Seeing_fairestMark_6, if_neg (by decide), zp_N8, Option.bind_some, if_pos q, if_pos q]
  · rw [if_neg q]
    refine zl_ind (m := 100) (L := fun m (a : Int32 × Int32 × Value) => zk_sf (d + 2) m_Seeing_fairestMark 6 [.ref 249, .int a.1, .int a.2.1, .int (zi m), a.2.2] [] (zp_M P, n)) (I := fun m a => (a.1, a.2.1) = (List.range m).foldl (yfmk B G) (-1, 0)) (Q := fun r => r = some (some (.int ((List.range 100).foldl (yfmk B G) (-1, 0)).1), (zp_M P, n))) (fun m a hm hI => Or.inr ?_) (fun a hI => ?_) (a := (-1, 0, .retAddr 0)) rfl
    · obtain ⟨b, c, v⟩ := a
      have hI : (b, c) = (List.range m).foldl (yfmk B G) (-1, 0) := hI
      show ∃ a' : Int32 × Int32 × Value, zk_sf (d + 2) m_Seeing_fairestMark 6 [.ref 249, .int b, .int c, .int (zi m), v] [] (zp_M P, n) = _ ∧ (a'.1, a'.2.1) = _
      rw [zl_rs, ← hI, e_Seeing_fairestMark_6, if_neg (show ¬ (99 : Int32) < zi m from fun z => absurd ((zi_l (i := 99) (by decide) (by omega)).mp z) (by omega)), zp_N8, Option.bind_some, if_neg q, zp_Nv, Option.bind_some, zs_apart hx hG, zs_cI, Option.bind_some, zi_s]
      show ∃ a' : Int32 × Int32 × Value, _ ∧ (a'.1, a'.2.1) = (if b = -1 then (zi m, zq_abs (yap_ B G m)) else if zq_abs (yap_ B G m) < c then (zi m, zq_abs (yap_ B G m)) else (b, c))
      by_cases z : b = -1
      · exact ⟨(zi m, zq_abs (yap_ B G m), .int (zq_abs (yap_ B G m))), by rw [if_pos z], by rw [if_pos z]⟩
      · by_cases y : zq_abs (yap_ B G m) < c
        · exact ⟨(zi m, zq_abs (yap_ B G m), .int (zq_abs (yap_ B G m))), by rw [if_neg z, if_pos y], by rw [if_neg z, if_pos y]⟩
        · exact ⟨(b, c, .int (zq_abs (yap_ B G m))), by rw [if_neg z, if_neg y], by rw [if_neg z, if_neg y]⟩
    · obtain ⟨b, c, v⟩ := a
      have hI : (b, c) = (List.range 100).foldl (yfmk B G) (-1, 0) := hI
      show zk_sf (d + 2) m_Seeing_fairestMark 6 [.ref 249, .int b, .int c, .int (zi 100), v] [] (zp_M P, n) = _
      rw [e_Seeing_fairestMark_6, if_pos (by decide), ← hI]
end
