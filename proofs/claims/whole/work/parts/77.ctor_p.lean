/-! A new printer -/
def zq_0 : zz_T := (fun _ _ => 0, fun _ => 0)
def zq_ru : Nat → Int32 := va_cpy (zz_f 2) (fun _ => 0) 0 0 3
def zq_lP (k : Nat) : zz_C := match k with | 0 => (11, 0, fun j => 0 + 1 + j) | 1 => (3, 3, fun h => 0 + 8 + 3 * h) | 2 => (0, 12, fun _ => 0) | 3 => (0, 3, fun _ => 0) | 4 => (12, 0, fun j => 0 + 4 + 1 + j) | 5 => (0, 6, fun _ => 0) | 6 => (0, 6, fun _ => 0) | 7 => (0, 6, fun _ => 0) | 8 => (10, 0, fun j => 8 + 1 + j) | 9 => (0, 8, fun _ => 0) | 10 => (0, 8, fun _ => 0) | 11 => (10, 0, fun j => 11 + 1 + j) | 12 => (0, 8, fun _ => 0) | 13 => (0, 8, fun _ => 0) | 14 => (10, 0, fun j => 14 + 1 + j) | 15 => (0, 8, fun _ => 0) | _ => (0, 8, fun _ => 0)
def wq_P (G : zc_G) (f : Nat → Nat) : va_W := [(f 0, .inr (1, [.ref (f 1), .ref (f 2), .ref (f 3), .ref (f 4), .int 0, .int 0, .int 0, .int 0])), (f 1, .inl (G.1.2 3, 3, .inr (.inr (.inr (.inr (va_up (va_up (va_up (fun _ => none) (Int32.toNatClampNeg 0) (some (f 8))) (Int32.toNatClampNeg 1) (some (f 11))) (Int32.toNatClampNeg 2) (some (f 14)))))))), (f 2, .inl (G.1.2 0, 12, .inl (fun _ => 0))), (f 3, .inl (G.1.2 0, 3, .inl zq_ru)), (f 4, .inr (2, [.ref (f 5), .ref (f 6), .ref (f 7), .int 0])), (f 5, .inl (G.1.2 0, 6, .inl (fun _ => 0))), (f 6, .inl (G.1.2 0, 6, .inl (fun _ => 0))), (f 7, .inl (G.1.2 0, 6, .inl (fun _ => 0))), (f 8, .inr (0, [.ref (f 9), .ref (f 10), .int 0, .int 0, .int 0])), (f 9, .inl (G.1.2 0, 8, .inl (fun _ => 0))), (f 10, .inl (G.1.2 0, 8, .inl (fun _ => 0))), (f 11, .inr (0, [.ref (f 12), .ref (f 13), .int 0, .int 0, .int 0])), (f 12, .inl (G.1.2 0, 8, .inl (fun _ => 0))), (f 13, .inl (G.1.2 0, 8, .inl (fun _ => 0))), (f 14, .inr (0, [.ref (f 15), .ref (f 16), .int 0, .int 0, .int 0])), (f 15, .inl (G.1.2 0, 8, .inl (fun _ => 0))), (f 16, .inl (G.1.2 0, 8, .inl (fun _ => 0)))]
theorem zq_prY (f : Nat → Nat) (G : zc_G) : zz_pr (zc_Y 17 zq_lP f G) 0 := by
  refine ⟨⟨(Nat.le_of_ble_eq_true rfl), rfl⟩, ⟨(Nat.le_of_ble_eq_true rfl), rfl⟩, ⟨(Nat.le_of_ble_eq_true rfl), rfl⟩, ⟨(Nat.le_of_ble_eq_true rfl), rfl⟩, ⟨⟨(Nat.le_of_ble_eq_true rfl), rfl⟩, ⟨(Nat.le_of_ble_eq_true rfl), rfl⟩, ⟨(Nat.le_of_ble_eq_true rfl), rfl⟩, ⟨(Nat.le_of_ble_eq_true rfl), rfl⟩⟩, fun h hh => ?_⟩
  match h, hh with
  | 0, _ => exact ⟨⟨(Nat.le_of_ble_eq_true rfl), rfl⟩, ⟨(Nat.le_of_ble_eq_true rfl), rfl⟩, ⟨(Nat.le_of_ble_eq_true rfl), rfl⟩⟩
  | 1, _ => exact ⟨⟨(Nat.le_of_ble_eq_true rfl), rfl⟩, ⟨(Nat.le_of_ble_eq_true rfl), rfl⟩, ⟨(Nat.le_of_ble_eq_true rfl), rfl⟩⟩
  | 2, _ => exact ⟨⟨(Nat.le_of_ble_eq_true rfl), rfl⟩, ⟨(Nat.le_of_ble_eq_true rfl), rfl⟩, ⟨(Nat.le_of_ble_eq_true rfl), rfl⟩⟩
theorem zq_jl32 : zz_KV "HotDots$Printer" 32 yX1_begin cX1_begin 1 none 0 := ⟨⟨(zz_in 123 (by decide +kernel) (by decide +kernel)), mf_X1_begin.1⟩, mf_X1_begin.2⟩
def rmkq_P : Room := { frames := 2, cells := 16, slots := 103, locals := 60 }
set_option maxHeartbeats 4000000 in
set_option maxRecDepth 100000 in
theorem kq_P {G : zc_G} {N0 : Nat} (l : Launch) : zq_M l yX1_init cX1_init 2 rmkq_P 16 103 G N0 1 [.null, .null, .null, .null, .int 0, .int 0, .int 0, .int 0] (fun _ => True) (fun u => wq_P G u.1) := by
  refine zq_M.start (by decide) (by decide) (fun h0 sz p e s m below meth c X hr hlk hnm F hA hAN hN => ?_)
  have X : zz_X p m c cX1_init 2 s _ RX1 := X
  refine zc_aload_n X dX1_init_0 0 rfl rfl rfl ?_
  refine zc_obj X (zz_in 68 (by decide +kernel) (by decide +kernel)) (zz_in 22 (by decide +kernel) (by decide +kernel)) (zz_in 23 (by decide +kernel) (by decide +kernel)) (Nat.le_of_ble_eq_true rfl) (Nat.le_of_ble_eq_true rfl) dX1_init_1 rfl ?_
  refine zc_aload_n X dX1_init_4 0 rfl rfl rfl ?_
  refine zc_iconst (v := 3) X dX1_init_5 (by decide) rfl ?_
  refine zc_newq X F.1 hA (C := "HotDots$Head") 3 (N' := 3) rfl (zz_in 69 (by decide +kernel) (by decide +kernel)) F.2.2.2.2.1 (by decide) (by decide) (Nat.le_of_ble_eq_true rfl) (Nat.le_of_ble_eq_true rfl) (Nat.le_of_ble_eq_true rfl) dX1_init_6 rfl (fun q6 => ?_)
  refine zc_ws (ws2 := (h0, .inr (1, [.null, .null, .null, .null, .int 0, .int 0, .int 0, .int 0])) :: [(q6, .inl (G.1.2 3, 3, .inr (.inr (.inr (.inr (fun _ => none))))))]) rfl ?_
  refine zc_putF X F.1 (T := TX1) (Nf := 8) (fs2 := [.ref q6, .null, .null, .null, .int 0, .int 0, .int 0, .int 0]) rfl zz_u1 tyX1 tyX1_ok nmX1 0 (by decide) (zz_in 132 (by decide +kernel) (by decide +kernel)) rfl hnm rfl rfl rfl (Nat.le_of_ble_eq_true rfl) rfl dX1_init_9 rfl ?_
  refine zc_aload_n X dX1_init_12 0 rfl rfl rfl ?_
  refine zc_bipush (v := 12) X dX1_init_13 (by decide) rfl ?_
  refine zc_newa X F.1 hA (atype := .int) 0 (N' := 12) (ty := .int) rfl rfl (zz_in 92 (by decide +kernel) (by decide +kernel)) rfl (by decide) (by decide) (Nat.le_of_ble_eq_true rfl) (Nat.le_of_ble_eq_true rfl) (Nat.le_of_ble_eq_true rfl) dX1_init_15 rfl (fun q15 => ?_)
  refine zc_ws (ws2 := (h0, .inr (1, [.ref q6, .null, .null, .null, .int 0, .int 0, .int 0, .int 0])) :: ([(q6, .inl (G.1.2 3, 3, .inr (.inr (.inr (.inr (fun _ => none))))))] ++ [(q15, .inl (G.1.2 0, 12, .inl (fun _ => 0)))])) rfl ?_
  refine zc_putF X F.1 (T := TX1) (Nf := 8) (fs2 := [.ref q6, .ref q15, .null, .null, .int 0, .int 0, .int 0, .int 0]) rfl zz_u1 tyX1 tyX1_ok nmX1 1 (by decide) (zz_in 135 (by decide +kernel) (by decide +kernel)) rfl hnm rfl rfl rfl (Nat.le_of_ble_eq_true rfl) rfl dX1_init_17 rfl ?_
  refine zc_aload_n X dX1_init_20 0 rfl rfl rfl ?_
  refine zc_iconst (v := 3) X dX1_init_21 (by decide) rfl ?_
  refine zc_newa X F.1 hA (atype := .int) 0 (N' := 3) (ty := .int) rfl rfl (zz_in 92 (by decide +kernel) (by decide +kernel)) rfl (by decide) (by decide) (Nat.le_of_ble_eq_true rfl) (Nat.le_of_ble_eq_true rfl) (Nat.le_of_ble_eq_true rfl) dX1_init_22 rfl (fun q22 => ?_)
  refine zc_ws (ws2 := (h0, .inr (1, [.ref q6, .ref q15, .null, .null, .int 0, .int 0, .int 0, .int 0])) :: (([(q6, .inl (G.1.2 3, 3, .inr (.inr (.inr (.inr (fun _ => none))))))] ++ [(q15, .inl (G.1.2 0, 12, .inl (fun _ => 0)))]) ++ [(q22, .inl (G.1.2 0, 3, .inl (fun _ => 0)))])) rfl ?_
  refine zc_putF X F.1 (T := TX1) (Nf := 8) (fs2 := [.ref q6, .ref q15, .ref q22, .null, .int 0, .int 0, .int 0, .int 0]) rfl zz_u1 tyX1 tyX1_ok nmX1 2 (by decide) (zz_in 138 (by decide +kernel) (by decide +kernel)) rfl hnm rfl rfl rfl (Nat.le_of_ble_eq_true rfl) rfl dX1_init_24 rfl ?_
  refine zc_aload_n X dX1_init_27 0 rfl rfl rfl ?_
  refine zc_mkN X F hA hAN hN (kq_S (G := G) (N0 := N0) l) (T := TX2) (Nf := 4) rfl zz_u2 tyX2 tyX2_ok (fun j hj => match j, hj with | 0, _ => rfl | 1, _ => rfl | 2, _ => rfl | 3, _ => rfl) (zz_in 71 (by decide +kernel) (by decide +kernel)) (zz_in 72 (by decide +kernel) (by decide +kernel)) (zz_in 4 (by decide +kernel) (by decide +kernel)) (zz_in 75 (by decide +kernel) (by decide +kernel)) (zz_in 74 (by decide +kernel) (by decide +kernel)) F.2.2.2.1.2.1 rfl (by decide +kernel) ⟨rfl, rfl⟩ ⟨(Nat.le_of_ble_eq_true rfl), (Nat.le_of_ble_eq_true rfl)⟩ (Nat.le_of_ble_eq_true rfl) (Nat.le_of_ble_eq_true rfl) (Nat.le_of_ble_eq_true rfl) dX1_init_28 dX1_init_31 dX1_init_32 rfl (fun u18 _ => ?_)
  refine zc_ws (ws2 := (h0, .inr (1, [.ref q6, .ref q15, .ref q22, .null, .int 0, .int 0, .int 0, .int 0])) :: ((([(q6, .inl (G.1.2 3, 3, .inr (.inr (.inr (.inr (fun _ => none))))))] ++ [(q15, .inl (G.1.2 0, 12, .inl (fun _ => 0)))]) ++ [(q22, .inl (G.1.2 0, 3, .inl (fun _ => 0)))]) ++ wq_S G u18.1)) rfl ?_
  refine zc_putF X F.1 (T := TX1) (Nf := 8) (fs2 := [.ref q6, .ref q15, .ref q22, .ref (u18.1 0), .int 0, .int 0, .int 0, .int 0]) rfl zz_u1 tyX1 tyX1_ok nmX1 3 (by decide) (zz_in 142 (by decide +kernel) (by decide +kernel)) rfl hnm rfl rfl rfl (Nat.le_of_ble_eq_true rfl) rfl dX1_init_35 rfl ?_
  refine zc_iconst (v := 0) X dX1_init_38 (by decide) rfl ?_
  refine zc_istore_n (lv2 := [(1, .int 0), (0, .ref h0)]) X dX1_init_39 rfl (by decide) rfl rfl ?_
  refine zc_iload_n X dX1_init_40 0 rfl rfl rfl ?_
  refine zc_iconst (v := 3) X dX1_init_41 (by decide) rfl ?_
  refine zc_icmp_ge (tgt := 64) X dX1_init_42 (by decide) rfl (fun h => absurd h (by decide)) (fun _ => ?_)
  refine zc_aload_n X dX1_init_45 1 rfl rfl rfl ?_
  refine zc_get X F.1 (T := TX1) (Nf := 8) rfl zz_u1 0 (by decide) rfl (zz_in 132 (by decide +kernel) (by decide +kernel)) dX1_init_46 rfl ?_
  refine zc_iload_n X dX1_init_49 0 rfl rfl rfl ?_
  refine zc_mkN X F hA hAN hN (kq_H (G := G) (N0 := N0) l) (T := TX0) (Nf := 5) rfl zz_u0 tyX0 tyX0_ok (fun j hj => match j, hj with | 0, _ => rfl | 1, _ => rfl | 2, _ => rfl | 3, _ => rfl | 4, _ => rfl) (zz_in 69 (by decide +kernel) (by decide +kernel)) (zz_in 93 (by decide +kernel) (by decide +kernel)) (zz_in 5 (by decide +kernel) (by decide +kernel)) (zz_in 96 (by decide +kernel) (by decide +kernel)) (zz_in 95 (by decide +kernel) (by decide +kernel)) F.2.2.2.1.2.2.1 rfl (by decide +kernel) ⟨rfl, rfl⟩ ⟨(Nat.le_of_ble_eq_true rfl), (Nat.le_of_ble_eq_true rfl)⟩ (Nat.le_of_ble_eq_true rfl) (Nat.le_of_ble_eq_true rfl) (Nat.le_of_ble_eq_true rfl) dX1_init_50 dX1_init_53 dX1_init_54 rfl (fun u29 _ => ?_)
  refine zc_ws (ws2 := (h0, .inr (1, [.ref q6, .ref q15, .ref q22, .ref (u18.1 0), .int 0, .int 0, .int 0, .int 0])) :: (((([(q6, .inl (G.1.2 3, 3, .inr (.inr (.inr (.inr (fun _ => none))))))] ++ [(q15, .inl (G.1.2 0, 12, .inl (fun _ => 0)))]) ++ [(q22, .inl (G.1.2 0, 3, .inl (fun _ => 0)))]) ++ wq_S G u18.1) ++ wq_H G u29.1)) rfl ?_
  refine zc_astq X F.1 1 3 8 0 (ws2 := (h0, .inr (1, [.ref q6, .ref q15, .ref q22, .ref (u18.1 0), .int 0, .int 0, .int 0, .int 0])) :: (((([(q6, .inl (G.1.2 3, 3, .inr (.inr (.inr (.inr (va_up (fun _ => none) (Int32.toNatClampNeg 0) (some (u29.1 0))))))))] ++ [(q15, .inl (G.1.2 0, 12, .inl (fun _ => 0)))]) ++ [(q22, .inl (G.1.2 0, 3, .inl (fun _ => 0)))]) ++ wq_S G u18.1) ++ wq_H G u29.1)) rfl rfl rfl rfl (vp_in_nI (n := 0) (by decide) (by decide)) rfl dX1_init_57 rfl ?_
  refine zc_iinc (v := 1) (lv2 := [(1, .int 1), (0, .ref h0)]) X dX1_init_58 0 rfl (by decide) (by decide) rfl rfl ?_
  refine zc_goto (tgt := 40) X dX1_init_61 (by decide) ?_
  refine zc_iload_n X dX1_init_40 0 rfl rfl rfl ?_
  refine zc_iconst (v := 3) X dX1_init_41 (by decide) rfl ?_
  refine zc_icmp_ge (tgt := 64) X dX1_init_42 (by decide) rfl (fun h => absurd h (by decide)) (fun _ => ?_)
  refine zc_aload_n X dX1_init_45 1 rfl rfl rfl ?_
  refine zc_get X F.1 (T := TX1) (Nf := 8) rfl zz_u1 0 (by decide) rfl (zz_in 132 (by decide +kernel) (by decide +kernel)) dX1_init_46 rfl ?_
  refine zc_iload_n X dX1_init_49 0 rfl rfl rfl ?_
  refine zc_mkN X F hA hAN hN (kq_H (G := G) (N0 := N0) l) (T := TX0) (Nf := 5) rfl zz_u0 tyX0 tyX0_ok (fun j hj => match j, hj with | 0, _ => rfl | 1, _ => rfl | 2, _ => rfl | 3, _ => rfl | 4, _ => rfl) (zz_in 69 (by decide +kernel) (by decide +kernel)) (zz_in 93 (by decide +kernel) (by decide +kernel)) (zz_in 5 (by decide +kernel) (by decide +kernel)) (zz_in 96 (by decide +kernel) (by decide +kernel)) (zz_in 95 (by decide +kernel) (by decide +kernel)) F.2.2.2.1.2.2.1 rfl (by decide +kernel) ⟨rfl, rfl⟩ ⟨(Nat.le_of_ble_eq_true rfl), (Nat.le_of_ble_eq_true rfl)⟩ (Nat.le_of_ble_eq_true rfl) (Nat.le_of_ble_eq_true rfl) (Nat.le_of_ble_eq_true rfl) dX1_init_50 dX1_init_53 dX1_init_54 rfl (fun u40 _ => ?_)
  refine zc_ws (ws2 := (h0, .inr (1, [.ref q6, .ref q15, .ref q22, .ref (u18.1 0), .int 0, .int 0, .int 0, .int 0])) :: ((((([(q6, .inl (G.1.2 3, 3, .inr (.inr (.inr (.inr (va_up (fun _ => none) (Int32.toNatClampNeg 0) (some (u29.1 0))))))))] ++ [(q15, .inl (G.1.2 0, 12, .inl (fun _ => 0)))]) ++ [(q22, .inl (G.1.2 0, 3, .inl (fun _ => 0)))]) ++ wq_S G u18.1) ++ wq_H G u29.1) ++ wq_H G u40.1)) rfl ?_
  refine zc_astq X F.1 1 3 11 0 (ws2 := (h0, .inr (1, [.ref q6, .ref q15, .ref q22, .ref (u18.1 0), .int 0, .int 0, .int 0, .int 0])) :: ((((([(q6, .inl (G.1.2 3, 3, .inr (.inr (.inr (.inr (va_up (va_up (fun _ => none) (Int32.toNatClampNeg 0) (some (u29.1 0))) (Int32.toNatClampNeg 1) (some (u40.1 0))))))))] ++ [(q15, .inl (G.1.2 0, 12, .inl (fun _ => 0)))]) ++ [(q22, .inl (G.1.2 0, 3, .inl (fun _ => 0)))]) ++ wq_S G u18.1) ++ wq_H G u29.1) ++ wq_H G u40.1)) rfl rfl rfl rfl (vp_in_nI (n := 1) (by decide) (by decide)) rfl dX1_init_57 rfl ?_
  refine zc_iinc (v := 2) (lv2 := [(1, .int 2), (0, .ref h0)]) X dX1_init_58 0 rfl (by decide) (by decide) rfl rfl ?_
  refine zc_goto (tgt := 40) X dX1_init_61 (by decide) ?_
  refine zc_iload_n X dX1_init_40 0 rfl rfl rfl ?_
  refine zc_iconst (v := 3) X dX1_init_41 (by decide) rfl ?_
  refine zc_icmp_ge (tgt := 64) X dX1_init_42 (by decide) rfl (fun h => absurd h (by decide)) (fun _ => ?_)
  refine zc_aload_n X dX1_init_45 1 rfl rfl rfl ?_
  refine zc_get X F.1 (T := TX1) (Nf := 8) rfl zz_u1 0 (by decide) rfl (zz_in 132 (by decide +kernel) (by decide +kernel)) dX1_init_46 rfl ?_
  refine zc_iload_n X dX1_init_49 0 rfl rfl rfl ?_
  refine zc_mkN X F hA hAN hN (kq_H (G := G) (N0 := N0) l) (T := TX0) (Nf := 5) rfl zz_u0 tyX0 tyX0_ok (fun j hj => match j, hj with | 0, _ => rfl | 1, _ => rfl | 2, _ => rfl | 3, _ => rfl | 4, _ => rfl) (zz_in 69 (by decide +kernel) (by decide +kernel)) (zz_in 93 (by decide +kernel) (by decide +kernel)) (zz_in 5 (by decide +kernel) (by decide +kernel)) (zz_in 96 (by decide +kernel) (by decide +kernel)) (zz_in 95 (by decide +kernel) (by decide +kernel)) F.2.2.2.1.2.2.1 rfl (by decide +kernel) ⟨rfl, rfl⟩ ⟨(Nat.le_of_ble_eq_true rfl), (Nat.le_of_ble_eq_true rfl)⟩ (Nat.le_of_ble_eq_true rfl) (Nat.le_of_ble_eq_true rfl) (Nat.le_of_ble_eq_true rfl) dX1_init_50 dX1_init_53 dX1_init_54 rfl (fun u51 _ => ?_)
  refine zc_ws (ws2 := (h0, .inr (1, [.ref q6, .ref q15, .ref q22, .ref (u18.1 0), .int 0, .int 0, .int 0, .int 0])) :: (((((([(q6, .inl (G.1.2 3, 3, .inr (.inr (.inr (.inr (va_up (va_up (fun _ => none) (Int32.toNatClampNeg 0) (some (u29.1 0))) (Int32.toNatClampNeg 1) (some (u40.1 0))))))))] ++ [(q15, .inl (G.1.2 0, 12, .inl (fun _ => 0)))]) ++ [(q22, .inl (G.1.2 0, 3, .inl (fun _ => 0)))]) ++ wq_S G u18.1) ++ wq_H G u29.1) ++ wq_H G u40.1) ++ wq_H G u51.1)) rfl ?_
  refine zc_astq X F.1 1 3 14 0 (ws2 := (h0, .inr (1, [.ref q6, .ref q15, .ref q22, .ref (u18.1 0), .int 0, .int 0, .int 0, .int 0])) :: (((((([(q6, .inl (G.1.2 3, 3, .inr (.inr (.inr (.inr (va_up (va_up (va_up (fun _ => none) (Int32.toNatClampNeg 0) (some (u29.1 0))) (Int32.toNatClampNeg 1) (some (u40.1 0))) (Int32.toNatClampNeg 2) (some (u51.1 0))))))))] ++ [(q15, .inl (G.1.2 0, 12, .inl (fun _ => 0)))]) ++ [(q22, .inl (G.1.2 0, 3, .inl (fun _ => 0)))]) ++ wq_S G u18.1) ++ wq_H G u29.1) ++ wq_H G u40.1) ++ wq_H G u51.1)) rfl rfl rfl rfl (vp_in_nI (n := 2) (by decide) (by decide)) rfl dX1_init_57 rfl ?_
  refine zc_iinc (v := 3) (lv2 := [(1, .int 3), (0, .ref h0)]) X dX1_init_58 0 rfl (by decide) (by decide) rfl rfl ?_
  refine zc_goto (tgt := 40) X dX1_init_61 (by decide) ?_
  refine zc_iload_n X dX1_init_40 0 rfl rfl rfl ?_
  refine zc_iconst (v := 3) X dX1_init_41 (by decide) rfl ?_
  refine zc_icmp_ge (tgt := 64) X dX1_init_42 (by decide) rfl (fun _ => ?_) (fun h => absurd (by decide) h)
  generalize hf : (fun k => [h0, q6, q15, q22, u18.1 0, u18.1 1, u18.1 2, u18.1 3, u29.1 0, u29.1 1, u29.1 2, u40.1 0, u40.1 1, u40.1 2, u51.1 0, u51.1 1, u51.1 2].getD k 0) = f
  have f0 : f 0 = h0 := by rw [← hf]; rfl
  refine zc_conv (ws2 := [] ++ (zz_w (zc_Y 17 zq_lP f G) zq_0 ++ [])) (fun H h => by subst hf; exact zq_set 1 (fun j => some ((fun k => [h0, q6, q15, q22, u18.1 0, u18.1 1, u18.1 2, u18.1 3, u29.1 0, u29.1 1, u29.1 2, u40.1 0, u40.1 1, u40.1 2, u51.1 0, u51.1 1, u51.1 2].getD k 0) (0 + 8 + 3 * j))) h rfl (fun j hj => match j, hj with | 0, _ => rfl | 1, _ => rfl | 2, _ => rfl)) ?_
  refine zc_aload_n X dX1_init_64 1 rfl rfl rfl ?_
  refine zc_cVv X F hAN [] [] (k := 0) (ci := 1) (fa := f) [] (fun hJ => kX1_begin l hJ (zq_prY f G) (Q := fun s2 => s2 = zz_r (zz_i (zz_i (zz_i (zz_i zq_0 0 4 0) 0 5 0) (0 + 4) 3 0) 0 6 0) (0 + 3) (va_cpy (zz_f 2) ((zz_i (zz_i (zz_i (zz_i zq_0 0 4 0) 0 5 0) (0 + 4) 3 0) 0 6 0).1 (0 + 3)) 0 0 3)) rfl) zq_jl32 ⟨rfl, rfl⟩ ⟨(Nat.le_of_ble_eq_true rfl), (Nat.le_of_ble_eq_true rfl)⟩ (by decide) (by decide) rfl rfl rfl (by rw [f0]; rfl) (Nat.le_of_ble_eq_true rfl) ⟨(Nat.le_of_ble_eq_true rfl), (Nat.le_of_ble_eq_true rfl)⟩ dX1_init_65 rfl (fun s2 e2 => ?_)
  subst e2
  exact zc_ret X hr hlk (f, zq_0) f0 trivial (fun H h1 h2 => zq_set 1 (va_up (va_up (va_up (fun _ => none) (Int32.toNatClampNeg 0) (some (f 8))) (Int32.toNatClampNeg 1) (some (f 11))) (Int32.toNatClampNeg 2) (some (f 14))) ⟨h1, h2⟩ rfl (fun j hj => match j, hj with | 0, _ => rfl | 1, _ => rfl | 2, _ => rfl)) dX1_init_68
