/-! THE FACT 2: the picture is the memory -/
section
variable {L : Nat} {xs : Nat → Int32}
set_option maxRecDepth 40000 in
set_option maxHeartbeats 8000000 in
theorem zP0_l : (List.range 288).map (fun i => zp_c (zP0 L xs) (12 + i)) = zzl := rfl
theorem zP0_M : zp_M (zP0 L xs) = zx L xs zzl := by
  funext k
  by_cases h : 12 ≤ k ∧ k < 300
  · show (if 12 ≤ k ∧ k < 300 then zp_c (zP0 L xs) k else _) = _
    rw [if_pos h]
    unfold zx
    rw [if_neg (by omega), ← zP0_l (L := L) (xs := xs), List.getD_eq_getElem?_getD, List.getElem?_map, List.getElem?_range (by omega)]
    show _ = zp_c (zP0 L xs) (12 + (k - 12))
    rw [show 12 + (k - 12) = k by omega]
  · exact if_neg h
end
