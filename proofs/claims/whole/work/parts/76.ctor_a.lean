/-! CONSTRUCTORS: the cells of a new object -/
def wq_H (G : zc_G) (f : Nat → Nat) : va_W := [(f 0, .inr (0, [.ref (f 1), .ref (f 2), .int 0, .int 0, .int 0])), (f 1, .inl (G.1.2 0, 8, .inl (fun _ => 0))), (f 2, .inl (G.1.2 0, 8, .inl (fun _ => 0)))]
def wq_S (G : zc_G) (f : Nat → Nat) : va_W := [(f 0, .inr (2, [.ref (f 1), .ref (f 2), .ref (f 3), .int 0])), (f 1, .inl (G.1.2 0, 6, .inl (fun _ => 0))), (f 2, .inl (G.1.2 0, 6, .inl (fun _ => 0))), (f 3, .inl (G.1.2 0, 6, .inl (fun _ => 0)))]
def wq_A (G : zc_G) (f : Nat → Nat) : va_W := [(f 0, .inr (3, [.ref (f 1), .int 0, .int 0, .int 0])), (f 1, .inl (G.1.2 0, 40, .inl (fun _ => 0)))]
def wq_T (G : zc_G) (f : Nat → Nat) : va_W := [(f 0, .inr (4, [.ref (f 1), .int 0, .int 0, .int 0, .int 0, .int 0, .int 0, .int 0, .int 0])), (f 1, .inl (G.1.2 1, 160, .inl (fun _ => 0)))]
def rmkq_H : Room := { frames := 1, cells := 2, slots := 16, locals := 20 }
set_option maxHeartbeats 4000000 in
set_option maxRecDepth 100000 in
theorem kq_H {G : zc_G} {N0 : Nat} (l : Launch) : zq_M l yX0_init cX0_init 1 rmkq_H 2 16 G N0 0 [.null, .null, .int 0, .int 0, .int 0] (fun _ => True) (fun u => wq_H G u.1) := by
  refine zq_M.start (by decide) (by decide) (fun h0 sz p e s m below meth c X hr hlk hnm F hA hAN hN => ?_)
  have X : zz_X p m c cX0_init 1 s _ RX0 := X
  refine zc_aload_n X dX0_init_0 0 rfl rfl rfl ?_
  refine zc_obj X (zz_in 97 (by decide +kernel) (by decide +kernel)) (zz_in 22 (by decide +kernel) (by decide +kernel)) (zz_in 23 (by decide +kernel) (by decide +kernel)) (Nat.le_of_ble_eq_true rfl) (Nat.le_of_ble_eq_true rfl) dX0_init_1 rfl ?_
  refine zc_aload_n X dX0_init_4 0 rfl rfl rfl ?_
  refine zc_bipush (v := 8) X dX0_init_5 (by decide) rfl ?_
  refine zc_newa X F.1 hA (atype := .int) 0 (N' := 8) (ty := .int) rfl rfl (zz_in 92 (by decide +kernel) (by decide +kernel)) rfl (by decide) (by decide) (Nat.le_of_ble_eq_true rfl) (Nat.le_of_ble_eq_true rfl) (Nat.le_of_ble_eq_true rfl) dX0_init_7 rfl (fun q7 => ?_)
  refine zc_ws (ws2 := (h0, .inr (0, [.null, .null, .int 0, .int 0, .int 0])) :: [(q7, .inl (G.1.2 0, 8, .inl (fun _ => 0)))]) rfl ?_
  refine zc_putF X F.1 (T := TX0) (Nf := 5) (fs2 := [.ref q7, .null, .int 0, .int 0, .int 0]) rfl zz_u0 tyX0 tyX0_ok nmX0 0 (by decide) (zz_in 98 (by decide +kernel) (by decide +kernel)) rfl hnm rfl rfl rfl (Nat.le_of_ble_eq_true rfl) rfl dX0_init_9 rfl ?_
  refine zc_aload_n X dX0_init_12 0 rfl rfl rfl ?_
  refine zc_bipush (v := 8) X dX0_init_13 (by decide) rfl ?_
  refine zc_newa X F.1 hA (atype := .int) 0 (N' := 8) (ty := .int) rfl rfl (zz_in 92 (by decide +kernel) (by decide +kernel)) rfl (by decide) (by decide) (Nat.le_of_ble_eq_true rfl) (Nat.le_of_ble_eq_true rfl) (Nat.le_of_ble_eq_true rfl) dX0_init_15 rfl (fun q15 => ?_)
  refine zc_ws (ws2 := (h0, .inr (0, [.ref q7, .null, .int 0, .int 0, .int 0])) :: ([(q7, .inl (G.1.2 0, 8, .inl (fun _ => 0)))] ++ [(q15, .inl (G.1.2 0, 8, .inl (fun _ => 0)))])) rfl ?_
  refine zc_putF X F.1 (T := TX0) (Nf := 5) (fs2 := [.ref q7, .ref q15, .int 0, .int 0, .int 0]) rfl zz_u0 tyX0 tyX0_ok nmX0 1 (by decide) (zz_in 101 (by decide +kernel) (by decide +kernel)) rfl hnm rfl rfl rfl (Nat.le_of_ble_eq_true rfl) rfl dX0_init_17 rfl ?_
  exact zc_ret X hr hlk ((fun k => [h0, q7, q15].getD k 0), (fun _ _ => 0, fun _ => 0)) rfl trivial (fun H h1 h2 => ⟨h1, h2⟩) dX0_init_20
def rmkq_S : Room := { frames := 1, cells := 3, slots := 18, locals := 20 }
set_option maxHeartbeats 4000000 in
set_option maxRecDepth 100000 in
theorem kq_S {G : zc_G} {N0 : Nat} (l : Launch) : zq_M l yX2_init cX2_init 1 rmkq_S 3 18 G N0 2 [.null, .null, .null, .int 0] (fun _ => True) (fun u => wq_S G u.1) := by
  refine zq_M.start (by decide) (by decide) (fun h0 sz p e s m below meth c X hr hlk hnm F hA hAN hN => ?_)
  have X : zz_X p m c cX2_init 1 s _ RX2 := X
  refine zc_aload_n X dX2_init_0 0 rfl rfl rfl ?_
  refine zc_obj X (zz_in 76 (by decide +kernel) (by decide +kernel)) (zz_in 22 (by decide +kernel) (by decide +kernel)) (zz_in 23 (by decide +kernel) (by decide +kernel)) (Nat.le_of_ble_eq_true rfl) (Nat.le_of_ble_eq_true rfl) dX2_init_1 rfl ?_
  refine zc_aload_n X dX2_init_4 0 rfl rfl rfl ?_
  refine zc_bipush (v := 6) X dX2_init_5 (by decide) rfl ?_
  refine zc_newa X F.1 hA (atype := .int) 0 (N' := 6) (ty := .int) rfl rfl (zz_in 92 (by decide +kernel) (by decide +kernel)) rfl (by decide) (by decide) (Nat.le_of_ble_eq_true rfl) (Nat.le_of_ble_eq_true rfl) (Nat.le_of_ble_eq_true rfl) dX2_init_7 rfl (fun q7 => ?_)
  refine zc_ws (ws2 := (h0, .inr (2, [.null, .null, .null, .int 0])) :: [(q7, .inl (G.1.2 0, 6, .inl (fun _ => 0)))]) rfl ?_
  refine zc_putF X F.1 (T := TX2) (Nf := 4) (fs2 := [.ref q7, .null, .null, .int 0]) rfl zz_u2 tyX2 tyX2_ok nmX2 0 (by decide) (zz_in 77 (by decide +kernel) (by decide +kernel)) rfl hnm rfl rfl rfl (Nat.le_of_ble_eq_true rfl) rfl dX2_init_9 rfl ?_
  refine zc_aload_n X dX2_init_12 0 rfl rfl rfl ?_
  refine zc_bipush (v := 6) X dX2_init_13 (by decide) rfl ?_
  refine zc_newa X F.1 hA (atype := .int) 0 (N' := 6) (ty := .int) rfl rfl (zz_in 92 (by decide +kernel) (by decide +kernel)) rfl (by decide) (by decide) (Nat.le_of_ble_eq_true rfl) (Nat.le_of_ble_eq_true rfl) (Nat.le_of_ble_eq_true rfl) dX2_init_15 rfl (fun q15 => ?_)
  refine zc_ws (ws2 := (h0, .inr (2, [.ref q7, .null, .null, .int 0])) :: ([(q7, .inl (G.1.2 0, 6, .inl (fun _ => 0)))] ++ [(q15, .inl (G.1.2 0, 6, .inl (fun _ => 0)))])) rfl ?_
  refine zc_putF X F.1 (T := TX2) (Nf := 4) (fs2 := [.ref q7, .ref q15, .null, .int 0]) rfl zz_u2 tyX2 tyX2_ok nmX2 1 (by decide) (zz_in 78 (by decide +kernel) (by decide +kernel)) rfl hnm rfl rfl rfl (Nat.le_of_ble_eq_true rfl) rfl dX2_init_17 rfl ?_
  refine zc_aload_n X dX2_init_20 0 rfl rfl rfl ?_
  refine zc_bipush (v := 6) X dX2_init_21 (by decide) rfl ?_
  refine zc_newa X F.1 hA (atype := .int) 0 (N' := 6) (ty := .int) rfl rfl (zz_in 92 (by decide +kernel) (by decide +kernel)) rfl (by decide) (by decide) (Nat.le_of_ble_eq_true rfl) (Nat.le_of_ble_eq_true rfl) (Nat.le_of_ble_eq_true rfl) dX2_init_23 rfl (fun q23 => ?_)
  refine zc_ws (ws2 := (h0, .inr (2, [.ref q7, .ref q15, .null, .int 0])) :: (([(q7, .inl (G.1.2 0, 6, .inl (fun _ => 0)))] ++ [(q15, .inl (G.1.2 0, 6, .inl (fun _ => 0)))]) ++ [(q23, .inl (G.1.2 0, 6, .inl (fun _ => 0)))])) rfl ?_
  refine zc_putF X F.1 (T := TX2) (Nf := 4) (fs2 := [.ref q7, .ref q15, .ref q23, .int 0]) rfl zz_u2 tyX2 tyX2_ok nmX2 2 (by decide) (zz_in 79 (by decide +kernel) (by decide +kernel)) rfl hnm rfl rfl rfl (Nat.le_of_ble_eq_true rfl) rfl dX2_init_25 rfl ?_
  exact zc_ret X hr hlk ((fun k => [h0, q7, q15, q23].getD k 0), (fun _ _ => 0, fun _ => 0)) rfl trivial (fun H h1 h2 => ⟨h1, h2⟩) dX2_init_28
def rmkq_A : Room := { frames := 1, cells := 1, slots := 40, locals := 20 }
set_option maxHeartbeats 4000000 in
set_option maxRecDepth 100000 in
theorem kq_A {G : zc_G} {N0 : Nat} (l : Launch) : zq_M l yX3_init cX3_init 1 rmkq_A 1 40 G N0 3 [.null, .int 0, .int 0, .int 0] (fun _ => True) (fun u => wq_A G u.1) := by
  refine zq_M.start (by decide) (by decide) (fun h0 sz p e s m below meth c X hr hlk hnm F hA hAN hN => ?_)
  have X : zz_X p m c cX3_init 1 s _ RX3 := X
  refine zc_aload_n X dX3_init_0 0 rfl rfl rfl ?_
  refine zc_obj X (zz_in 180 (by decide +kernel) (by decide +kernel)) (zz_in 22 (by decide +kernel) (by decide +kernel)) (zz_in 23 (by decide +kernel) (by decide +kernel)) (Nat.le_of_ble_eq_true rfl) (Nat.le_of_ble_eq_true rfl) dX3_init_1 rfl ?_
  refine zc_aload_n X dX3_init_4 0 rfl rfl rfl ?_
  refine zc_bipush (v := 40) X dX3_init_5 (by decide) rfl ?_
  refine zc_newa X F.1 hA (atype := .int) 0 (N' := 40) (ty := .int) rfl rfl (zz_in 92 (by decide +kernel) (by decide +kernel)) rfl (by decide) (by decide) (Nat.le_of_ble_eq_true rfl) (Nat.le_of_ble_eq_true rfl) (Nat.le_of_ble_eq_true rfl) dX3_init_7 rfl (fun q7 => ?_)
  refine zc_ws (ws2 := (h0, .inr (3, [.null, .int 0, .int 0, .int 0])) :: [(q7, .inl (G.1.2 0, 40, .inl (fun _ => 0)))]) rfl ?_
  refine zc_putF X F.1 (T := TX3) (Nf := 4) (fs2 := [.ref q7, .int 0, .int 0, .int 0]) rfl zz_u3 tyX3 tyX3_ok nmX3 0 (by decide) (zz_in 181 (by decide +kernel) (by decide +kernel)) rfl hnm rfl rfl rfl (Nat.le_of_ble_eq_true rfl) rfl dX3_init_9 rfl ?_
  exact zc_ret X hr hlk ((fun k => [h0, q7].getD k 0), (fun _ _ => 0, fun _ => 0)) rfl trivial (fun H h1 h2 => ⟨h1, h2⟩) dX3_init_12
def rmkq_T : Room := { frames := 1, cells := 1, slots := 160, locals := 20 }
set_option maxHeartbeats 4000000 in
set_option maxRecDepth 100000 in
theorem kq_T {G : zc_G} {N0 : Nat} (l : Launch) : zq_M l yX4_init cX4_init 1 rmkq_T 1 160 G N0 4 [.null, .int 0, .int 0, .int 0, .int 0, .int 0, .int 0, .int 0, .int 0] (fun _ => True) (fun u => wq_T G u.1) := by
  refine zq_M.start (by decide) (by decide) (fun h0 sz p e s m below meth c X hr hlk hnm F hA hAN hN => ?_)
  have X : zz_X p m c cX4_init 1 s _ RX4 := X
  refine zc_aload_n X dX4_init_0 0 rfl rfl rfl ?_
  refine zc_obj X (zz_in 29 (by decide +kernel) (by decide +kernel)) (zz_in 22 (by decide +kernel) (by decide +kernel)) (zz_in 23 (by decide +kernel) (by decide +kernel)) (Nat.le_of_ble_eq_true rfl) (Nat.le_of_ble_eq_true rfl) dX4_init_1 rfl ?_
  refine zc_aload_n X dX4_init_4 0 rfl rfl rfl ?_
  refine zc_sipush (v := 160) X dX4_init_5 (by decide) rfl ?_
  refine zc_newa X F.1 hA (atype := .byte) 1 (N' := 160) (ty := .byte) rfl rfl (zz_in 62 (by decide +kernel) (by decide +kernel)) rfl (by decide) (by decide) (Nat.le_of_ble_eq_true rfl) (Nat.le_of_ble_eq_true rfl) (Nat.le_of_ble_eq_true rfl) dX4_init_8 rfl (fun q8 => ?_)
  refine zc_ws (ws2 := (h0, .inr (4, [.null, .int 0, .int 0, .int 0, .int 0, .int 0, .int 0, .int 0, .int 0])) :: [(q8, .inl (G.1.2 1, 160, .inl (fun _ => 0)))]) rfl ?_
  refine zc_putF X F.1 (T := TX4) (Nf := 9) (fs2 := [.ref q8, .int 0, .int 0, .int 0, .int 0, .int 0, .int 0, .int 0, .int 0]) rfl zz_u4 tyX4 tyX4_ok nmX4 0 (by decide) (zz_in 30 (by decide +kernel) (by decide +kernel)) rfl hnm rfl rfl rfl (Nat.le_of_ble_eq_true rfl) rfl dX4_init_10 rfl ?_
  exact zc_ret X hr hlk ((fun k => [h0, q8].getD k 0), (fun _ _ => 0, fun _ => 0)) rfl trivial (fun H h1 h2 => ⟨h1, h2⟩) dX4_init_13
