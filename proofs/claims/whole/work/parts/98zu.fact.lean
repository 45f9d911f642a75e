/-! THE FACT 3: both sides stand beside each other; the fact -/
section
variable {L : Nat} {xs : Nat → Int32}
theorem zP0_I : yI (zP0 L xs) 300 := by
  refine ⟨Nat.le_refl _, (0, fun _ => 0, fun _ => 0, fun _ => 0, 0, yW0), (fun _ => none, fun _ => 0, 0, 0), 0, fun _ => (0, 0, 0), 0, ⟨⟨rfl, by decide, fun p hp => absurd hp (Nat.not_lt_zero p), rfl, Or.inl ⟨rfl, rfl⟩⟩, ⟨rfl, by decide, fun p hp => absurd hp (Nat.not_lt_zero p), rfl, Or.inl ⟨rfl, rfl⟩⟩, ⟨rfl, rfl, ⟨Nat.zero_le _, Or.inl rfl⟩, fun l hl => absurd hl (Nat.not_lt_zero l), fun l hl => absurd hl (Nat.not_lt_zero l), rfl, rfl, 0, Nat.zero_le _, rfl⟩, Or.inl ⟨rfl, rfl⟩, ⟨0, Nat.zero_le _, rfl, rfl, fun i hi => absurd hi (Nat.not_lt_zero i)⟩, ⟨0, Nat.zero_le _, rfl, rfl, fun i hi => absurd hi (Nat.not_lt_zero i), rfl, Or.inl rfl⟩⟩, ⟨⟨fun k hk => ?_, fun p _ => rfl, rfl, rfl⟩, ⟨fun k _ => rfl, fun p _ => rfl, rfl, rfl⟩, ⟨fun k r q f _ h => (by cases h), Nat.zero_le _⟩, ⟨fun p _ => ⟨(by decide : ¬ (0 : Int32) < 0), (by decide : ¬ (99 : Int32) < 0)⟩, fun _ _ _ => rfl, Nat.zero_le _⟩, ⟨rfl, fun i c hi _ => absurd hi (Nat.not_lt_zero i)⟩, ⟨fun s hs => ?_, 0, 0, fun _ => (fun _ => none, fun _ => 0, 0, 0), rfl, rfl, rfl, Nat.zero_le _, rfl, by decide, fun i hi => absurd hi (Nat.not_lt_zero i)⟩⟩, ⟨fun j _ => rfl, rfl, 0, Nat.zero_le _, rfl, rfl, fun i hi => absurd hi (Nat.not_lt_zero i)⟩⟩
  · show zxw 8 k = -1
    exact if_pos hk
  · show zxr 49 40 s = some (49 + 5 * s)
    exact if_pos hs
theorem zz_fact (hL : L ≤ 3072) : ∃ s1 : zk_S, zk_sm 2000 303 [.ref 0] (zk_M0 L xs, 12, 0) = some (some (.int 1), s1) ∧ s1.2.1 ≤ 601036 ∧ s1.2.2 ≤ 7293034 := by
  have a1 : 269 = 12 + (zbK 12).length := by rw [zbK_l]
  have hE : zk_kE L xs (zp_M (zP0 L xs), 300, 20466) := ⟨by show 12 ≤ 300; decide, fun k hk => by
    show zp_M (zP0 L xs) k = _
    rw [zP0_M]
    exact if_pos hk⟩
  obtain ⟨s1, e1, b1, b2⟩ := yL_all (d := 1909) (L := L) (xs := xs) hL 512 0 (zP0 L xs) (300, 20466) (.retAddr 0) (.retAddr 0) (by omega) (Nat.zero_le _) zP0_I hE
  have b1 : s1.2.1 ≤ 300 + 3 * 512 := b1
  have b2 : s1.2.2 ≤ 20466 + 1000 * 512 := b2
  refine ⟨s1, ?_, by omega, by omega⟩
  have n0 : zk_nw (zk_M0 L xs, 12, 0) zob11 13 = (zx L xs ([] ++ [zob11]), 12 + 1, 13) := by
    rw [zx_0]
    exact zx_nw (L := L) (xs := xs) (l := []) (r := []) (a := 12) (k := 0) (u := 0) rfl rfl
  have e0 := zx_Knows (L := L) (xs := xs) (d := 1996) (l := []) (a := 12) (u := 13) rfl
  have n1 : zk_nw (zx L xs ([] ++ zbK 12), 12 + 257, 13 + 2948) zob12 51 = (zx L xs (zbK 12 ++ [zob12]), 269 + 1, 3012) := by
    have h := zx_nw (L := L) (xs := xs) (l := zbK 12) (r := []) (c := zob12) (a := 269) (k := 0) (u := 2961) (w := 51) a1 rfl
    rw [List.append_nil] at h
    exact h
  have e2 := zx_R (L := L) (xs := xs) (d := 1998) (l := zbK 12) (a := 269) (u := 3012) a1
  have n2 : zk_nw (zx L xs (zbK 12 ++ zbR 269), 269 + 30, 3012 + 17453) (zk_la 1 (fun _ => 0)) 1 = (zp_M (zP0 L xs), 300, 20466) := by
    rw [zP0_M]
    exact zx_nw (L := L) (xs := xs) (l := zbK 12) (r := zbR 269) (a := 269) (k := 30) (u := 20465) a1 rfl
  have h := e_lawS 1999 0 (zk_M0 L xs, 12, 0)
  rw [show zk_nw (zk_M0 L xs, 12, 0) (zk_ob 11 _) 13 = _ from n0, show zk_sm 1999 m_SaddlerKnows_new [.ref (zk_M0 L xs, 12, 0).2.1] (zx L xs ([] ++ [zob11]), 12 + 1, 13) = _ from e0, zs_cV, Option.bind_some, show zk_nw (zx L xs ([] ++ zbK 12), 12 + 257, 13 + 2948) (zk_ob 12 _) 51 = _ from n1, show zk_sm 1999 m_R_new [.ref (zx L xs ([] ++ zbK 12), 12 + 257, 13 + 2948).2.1] (zx L xs (zbK 12 ++ [zob12]), 269 + 1, 3012) = _ from e2, zs_cV, Option.bind_some, n2] at h
  exact h.trans e1
end
