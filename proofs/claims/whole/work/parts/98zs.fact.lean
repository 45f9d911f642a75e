/-! THE FACT: the law's small machine answers 1 -/
set_option maxHeartbeats 4000000 in
theorem e_lawS (d : Nat) (a0 : Nat) (s : zk_S) : zk_sm (d + 1) m_Law_law [.ref a0] s = (zk_cV (zk_sm d m_SaddlerKnows_new [.ref s.2.1] (zk_nw s (zk_ob 11 [.null, .null, .null, .null, .null, .null, .null, .null, .null, .null, .null, .int 0, .long 0]) 13))).bind fun t2 => (zk_cV (zk_sm d m_R_new [.ref t2.2.1] (zk_nw t2 (zk_ob 12 [.int 0, .null, .int 0, .int 0, .int 0, .int 0, .null, .null, .null, .null, .null, .null, .null, .int 0, .int 0, .null, .null, .null, .null, .null, .int 0, .int 0, .null, .null, .null, .int 0, .int 0, .null, .null, .int 0, .int 0, .null, .int 0, .null, .int 0, .long 0, .null, .int 0, .int 0, .null, .int 0, .int 0, .null, .null, .null, .null, .int 0, .null, .null, .null, .int 0]) 51))).bind fun t4 => zk_sf (d + 1) m_Law_law 23 [.ref a0, .ref s.2.1, .ref t2.2.1, .ref t4.2.1, .int 0, .retAddr 0, .retAddr 0] [] (zk_nw t4 (zk_la 1 (fun _ => 0)) 1) := (zk_un_e _ _ [23, 208, 281, 306, 331, 356, 381, 449, 486, 511, 536, 585, 622, 647, 672, 697, 722, 791, 816, 829, 866, 891, 940, 977, 1002, 1051, 1064, 1101, 1126, 1203, 1240, 1277, 1350, 1399, 1448, 1485, 1510, 1523, 1536, 1561] 400 _ _ _ _).trans rfl
section
variable {L : Nat} {xs : Nat → Int32}
theorem zbK_l {a : Nat} : (zbK a).length = 257 := by
  unfold zbK
  simp only [List.length_cons, List.length_append, List.length_nil, zbA_l, zbC_l, zbL_l, zbT_l, zbP_l, zbS_l, zbH_l, zbN_l, zbX_l, zbY_l]
def zzl : List zk_AC := zbK 12 ++ (zbR 269 ++ [zk_la 1 (fun _ => 0)])
def zwho (k : Nat) : Bool := Nat.beq k 36 || Nat.beq k 44 || Nat.beq k 251 || Nat.beq k 262 || (Nat.ble 49 k && Nat.ble k 248 && Nat.beq ((k - 49) % 5) 1)
def zF0 (k j : Nat) : Int32 := bif Nat.beq k 12 && Nat.beq j 11 then 2 else bif Nat.beq k 33 && Nat.beq j 3 then -1 else bif Nat.beq k 269 && Nat.beq j 29 then -1 else bif Nat.beq k 269 && Nat.beq j 30 then 2 else 0
def zA0 (k : Nat) : Nat → Int32 := bif zwho k then zxw 8 else zz0
def zR0 (k : Nat) : Nat → Option Nat := bif Nat.beq k 48 then zxr 49 40 else fun _ => none
/-- the picture at the start -/
def zP0 (L : Nat) (xs : Nat → Int32) : zp := (zF0, zA0, fun _ _ => 0, zR0, zx L xs zzl)
end
