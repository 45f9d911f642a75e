/-! TABLES: the law's own code, and the whole -/
set_option maxRecDepth 100000 in
theorem zk_okL0 : ((zc_303.drop 0).take 20).all (zk_ck 303) = true := by decide +kernel
set_option maxRecDepth 100000 in
theorem zk_okL20 : ((zc_303.drop 20).take 20).all (zk_ck 303) = true := by decide +kernel
set_option maxRecDepth 100000 in
theorem zk_okL40 : ((zc_303.drop 40).take 20).all (zk_ck 303) = true := by decide +kernel
set_option maxRecDepth 100000 in
theorem zk_okL60 : ((zc_303.drop 60).take 20).all (zk_ck 303) = true := by decide +kernel
set_option maxRecDepth 100000 in
theorem zk_okL80 : ((zc_303.drop 80).take 20).all (zk_ck 303) = true := by decide +kernel
set_option maxRecDepth 100000 in
theorem zk_okL100 : ((zc_303.drop 100).take 20).all (zk_ck 303) = true := by decide +kernel
set_option maxRecDepth 100000 in
theorem zk_okL120 : ((zc_303.drop 120).take 20).all (zk_ck 303) = true := by decide +kernel
set_option maxRecDepth 100000 in
theorem zk_okL140 : ((zc_303.drop 140).take 20).all (zk_ck 303) = true := by decide +kernel
set_option maxRecDepth 100000 in
theorem zk_okL160 : ((zc_303.drop 160).take 20).all (zk_ck 303) = true := by decide +kernel
set_option maxRecDepth 100000 in
theorem zk_okL180 : ((zc_303.drop 180).take 20).all (zk_ck 303) = true := by decide +kernel
set_option maxRecDepth 100000 in
theorem zk_okL200 : ((zc_303.drop 200).take 20).all (zk_ck 303) = true := by decide +kernel
set_option maxRecDepth 100000 in
theorem zk_okL220 : ((zc_303.drop 220).take 20).all (zk_ck 303) = true := by decide +kernel
set_option maxRecDepth 100000 in
theorem zk_okL240 : ((zc_303.drop 240).take 20).all (zk_ck 303) = true := by decide +kernel
set_option maxRecDepth 100000 in
theorem zk_okL260 : ((zc_303.drop 260).take 20).all (zk_ck 303) = true := by decide +kernel
set_option maxRecDepth 100000 in
theorem zk_okL280 : ((zc_303.drop 280).take 20).all (zk_ck 303) = true := by decide +kernel
set_option maxRecDepth 100000 in
theorem zk_okL300 : ((zc_303.drop 300).take 20).all (zk_ck 303) = true := by decide +kernel
set_option maxRecDepth 100000 in
theorem zk_okL320 : ((zc_303.drop 320).take 20).all (zk_ck 303) = true := by decide +kernel
set_option maxRecDepth 100000 in
theorem zk_okL340 : ((zc_303.drop 340).take 20).all (zk_ck 303) = true := by decide +kernel
set_option maxRecDepth 100000 in
theorem zk_okL360 : ((zc_303.drop 360).take 20).all (zk_ck 303) = true := by decide +kernel
set_option maxRecDepth 100000 in
theorem zk_okL380 : ((zc_303.drop 380).take 20).all (zk_ck 303) = true := by decide +kernel
set_option maxRecDepth 100000 in
theorem zk_okL400 : ((zc_303.drop 400).take 20).all (zk_ck 303) = true := by decide +kernel
set_option maxRecDepth 100000 in
theorem zk_okL420 : ((zc_303.drop 420).take 20).all (zk_ck 303) = true := by decide +kernel
set_option maxRecDepth 100000 in
theorem zk_okL440 : ((zc_303.drop 440).take 20).all (zk_ck 303) = true := by decide +kernel
set_option maxRecDepth 100000 in
theorem zk_okL460 : ((zc_303.drop 460).take 20).all (zk_ck 303) = true := by decide +kernel
set_option maxRecDepth 100000 in
theorem zk_okL480 : ((zc_303.drop 480).take 20).all (zk_ck 303) = true := by decide +kernel
set_option maxRecDepth 100000 in
theorem zk_okL500 : ((zc_303.drop 500).take 20).all (zk_ck 303) = true := by decide +kernel
set_option maxRecDepth 100000 in
theorem zk_okL520 : ((zc_303.drop 520).take 20).all (zk_ck 303) = true := by decide +kernel
set_option maxRecDepth 100000 in
theorem zk_okL540 : ((zc_303.drop 540).take 20).all (zk_ck 303) = true := by decide +kernel
set_option maxRecDepth 100000 in
theorem zk_okL560 : ((zc_303.drop 560).take 20).all (zk_ck 303) = true := by decide +kernel
set_option maxRecDepth 100000 in
theorem zk_okL580 : ((zc_303.drop 580).take 20).all (zk_ck 303) = true := by decide +kernel
set_option maxRecDepth 100000 in
theorem zk_okL600 : ((zc_303.drop 600).take 20).all (zk_ck 303) = true := by decide +kernel
set_option maxRecDepth 100000 in
theorem zk_okL620 : ((zc_303.drop 620).take 20).all (zk_ck 303) = true := by decide +kernel
set_option maxRecDepth 100000 in
theorem zk_okL640 : ((zc_303.drop 640).take 20).all (zk_ck 303) = true := by decide +kernel
set_option maxRecDepth 100000 in
theorem zk_okL660 : ((zc_303.drop 660).take 20).all (zk_ck 303) = true := by decide +kernel
set_option maxRecDepth 100000 in
theorem zk_okL680 : ((zc_303.drop 680).take 20).all (zk_ck 303) = true := by decide +kernel
set_option maxRecDepth 100000 in
theorem zk_okL700 : ((zc_303.drop 700).take 20).all (zk_ck 303) = true := by decide +kernel
set_option maxRecDepth 100000 in
theorem zk_okL720 : ((zc_303.drop 720).take 20).all (zk_ck 303) = true := by decide +kernel
set_option maxRecDepth 100000 in
theorem zk_okL740 : ((zc_303.drop 740).take 20).all (zk_ck 303) = true := by decide +kernel
set_option maxRecDepth 100000 in
theorem zk_okL760 : ((zc_303.drop 760).take 20).all (zk_ck 303) = true := by decide +kernel
set_option maxRecDepth 100000 in
theorem zk_okL780 : ((zc_303.drop 780).take 20).all (zk_ck 303) = true := by decide +kernel
set_option maxRecDepth 100000 in
theorem zk_okL800 : ((zc_303.drop 800).take 20).all (zk_ck 303) = true := by decide +kernel
set_option maxRecDepth 100000 in
theorem zk_okL820 : ((zc_303.drop 820).take 20).all (zk_ck 303) = true := by decide +kernel
set_option maxRecDepth 100000 in
theorem zk_okL840 : ((zc_303.drop 840).take 20).all (zk_ck 303) = true := by decide +kernel
set_option maxRecDepth 100000 in
theorem zk_okL860 : ((zc_303.drop 860).take 20).all (zk_ck 303) = true := by decide +kernel
set_option maxRecDepth 100000 in
theorem zk_okL880 : ((zc_303.drop 880).take 20).all (zk_ck 303) = true := by decide +kernel
set_option maxRecDepth 100000 in
theorem zk_okL900 : ((zc_303.drop 900).take 20).all (zk_ck 303) = true := by decide +kernel
set_option maxRecDepth 100000 in
theorem zk_okL920 : ((zc_303.drop 920).take 20).all (zk_ck 303) = true := by decide +kernel
set_option maxRecDepth 100000 in
theorem zk_okL940 : ((zc_303.drop 940).take 20).all (zk_ck 303) = true := by decide +kernel
set_option maxRecDepth 100000 in
theorem zk_okL960 : ((zc_303.drop 960).take 20).all (zk_ck 303) = true := by decide +kernel
set_option maxRecDepth 100000 in
theorem zk_okL980 : ((zc_303.drop 980).take 20).all (zk_ck 303) = true := by decide +kernel
theorem zk_okd {α : Type} {l : List α} {f : α → Bool} (a n : Nat) (h : ((l.drop a).take n).all f = true) (h2 : (l.drop (a + n)).all f = true) : (l.drop a).all f = true := by
  rw [← List.take_append_drop n (l.drop a), List.all_append, h, List.drop_drop, h2]; rfl
theorem zk_okLe : (zc_303.drop 1000).all (zk_ck 303) = true := by decide +kernel
set_option maxRecDepth 100000 in
theorem zk_okL : zk_cky 303 = true := show (zc_303.drop 0).all (zk_ck 303) = true from (zk_okd 0 20 zk_okL0 (zk_okd 20 20 zk_okL20 (zk_okd 40 20 zk_okL40 (zk_okd 60 20 zk_okL60 (zk_okd 80 20 zk_okL80 (zk_okd 100 20 zk_okL100 (zk_okd 120 20 zk_okL120 (zk_okd 140 20 zk_okL140 (zk_okd 160 20 zk_okL160 (zk_okd 180 20 zk_okL180 (zk_okd 200 20 zk_okL200 (zk_okd 220 20 zk_okL220 (zk_okd 240 20 zk_okL240 (zk_okd 260 20 zk_okL260 (zk_okd 280 20 zk_okL280 (zk_okd 300 20 zk_okL300 (zk_okd 320 20 zk_okL320 (zk_okd 340 20 zk_okL340 (zk_okd 360 20 zk_okL360 (zk_okd 380 20 zk_okL380 (zk_okd 400 20 zk_okL400 (zk_okd 420 20 zk_okL420 (zk_okd 440 20 zk_okL440 (zk_okd 460 20 zk_okL460 (zk_okd 480 20 zk_okL480 (zk_okd 500 20 zk_okL500 (zk_okd 520 20 zk_okL520 (zk_okd 540 20 zk_okL540 (zk_okd 560 20 zk_okL560 (zk_okd 580 20 zk_okL580 (zk_okd 600 20 zk_okL600 (zk_okd 620 20 zk_okL620 (zk_okd 640 20 zk_okL640 (zk_okd 660 20 zk_okL660 (zk_okd 680 20 zk_okL680 (zk_okd 700 20 zk_okL700 (zk_okd 720 20 zk_okL720 (zk_okd 740 20 zk_okL740 (zk_okd 760 20 zk_okL760 (zk_okd 780 20 zk_okL780 (zk_okd 800 20 zk_okL800 (zk_okd 820 20 zk_okL820 (zk_okd 840 20 zk_okL840 (zk_okd 860 20 zk_okL860 (zk_okd 880 20 zk_okL880 (zk_okd 900 20 zk_okL900 (zk_okd 920 20 zk_okL920 (zk_okd 940 20 zk_okL940 (zk_okd 960 20 zk_okL960 (zk_okd 980 20 zk_okL980 zk_okLe))))))))))))))))))))))))))))))))))))))))))))))))))
theorem zk_ok (y : Nat) (e : Nat × Nat × Instr) (he : e ∈ zk_rcd y) : zk_ck y e = true := by
  have key : ∀ a n : Nat, (List.range n).all (fun i => zk_cky (a + i)) = true → a ≤ y → y < a + n → zk_ck y e = true := by
    intro a n h h1 h2
    have h3 := List.all_eq_true.mp h (y - a) (List.mem_range.mpr (by omega))
    rw [show a + (y - a) = y by omega] at h3
    exact List.all_eq_true.mp h3 e he
  by_cases h0 : y < 20
  · exact key 0 20 zk_ok0 (by omega) (by omega)
  by_cases h1 : y < 40
  · exact key 20 20 zk_ok20 (by omega) (by omega)
  by_cases h2 : y < 60
  · exact key 40 20 zk_ok40 (by omega) (by omega)
  by_cases h3 : y < 80
  · exact key 60 20 zk_ok60 (by omega) (by omega)
  by_cases h4 : y < 100
  · exact key 80 20 zk_ok80 (by omega) (by omega)
  by_cases h5 : y < 120
  · exact key 100 20 zk_ok100 (by omega) (by omega)
  by_cases h6 : y < 140
  · exact key 120 20 zk_ok120 (by omega) (by omega)
  by_cases h7 : y < 160
  · exact key 140 20 zk_ok140 (by omega) (by omega)
  by_cases h8 : y < 180
  · exact key 160 20 zk_ok160 (by omega) (by omega)
  by_cases h9 : y < 200
  · exact key 180 20 zk_ok180 (by omega) (by omega)
  by_cases h10 : y < 220
  · exact key 200 20 zk_ok200 (by omega) (by omega)
  by_cases h11 : y < 240
  · exact key 220 20 zk_ok220 (by omega) (by omega)
  by_cases h12 : y < 260
  · exact key 240 20 zk_ok240 (by omega) (by omega)
  by_cases h13 : y < 280
  · exact key 260 20 zk_ok260 (by omega) (by omega)
  by_cases h14 : y < 300
  · exact key 280 20 zk_ok280 (by omega) (by omega)
  by_cases h15 : y < 303
  · exact key 300 3 zk_ok300 (by omega) (by omega)
  by_cases hL : y = 303
  · subst hL; exact List.all_eq_true.mp zk_okL e he
  have hz : zk_rcl.length = 304 := by decide +kernel
  have hn : zk_rcl[y]? = none := List.getElem?_eq_none (by omega)
  unfold zk_rcd at he
  rw [List.getD_eq_getElem?_getD, hn] at he
  cases he
