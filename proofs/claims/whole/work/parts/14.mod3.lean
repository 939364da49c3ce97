def rmX6_warm : Room := { frames := 2, cells := 0, slots := 0, locals := 46 }
def pX6_warm (x1 : Int32) (x2 : Int32) (x3 : Int32) (σ : zz_T) (Q : Int32 → zz_T → Prop) : Prop :=
    pX6_isHead x1 σ (fun r2 s2 =>
    ((r2 = 0 → Q (-1) s2) ∧
    (¬ r2 = 0 → pX6_isDot x2 s2 (fun r9 s9 =>
    ((r9 = 0 → Q (-1) s9) ∧
    (¬ r9 = 0 → pX6_in (Int32.toInt64 x3) 0 99 s9 (fun r21 s21 =>
    ((r21 = 0 → Q (-1) s21) ∧
    (¬ r21 = 0 → pX6_becomes (((11 * x1) + 3) + x2) x3 s21 (fun r37 s37 =>
    Q r37 s37))))))))))
set_option maxHeartbeats 4000000 in
set_option maxRecDepth 100000 in
theorem kX6_warm (l : Launch) {Y : zz_Y} (hJ : zz_J Y) (x1 : Int32) (x2 : Int32) (x3 : Int32) (hY : zz_mo Y) {σ : zz_T} {Q : Int32 → zz_T → Prop} (h : pX6_warm x1 x2 x3 σ Q) : zz_Mi l yX6_warm cX6_warm 4 (some .int) rmX6_warm Y [.ref (Y.2.1 0), .int x1, .int x2, .int x3] σ Q := by
  refine zz_Mi.start (by decide) hJ (Nat.le_of_ble_eq_true rfl) (fun p e s m below meth c X hr hlk => ?_)
  have X : zz_X p m c cX6_warm 4 s _ RX6 := X
  refine zv_sub (lv2 := [(0, .ref (Y.2.1 0)), (1, .int x1), (2, .int x2), (3, .int x3)]) [0, 1, 2, 3] rfl ?_
  unfold pX6_warm at h
  refine zv_aload_n X dX6_warm_0 0 rfl rfl rfl ?_
  refine zv_iload_n X dX6_warm_1 1 rfl rfl rfl ?_
  refine zv_cVi (k := 0) (ci := 6) X [.int x1] (kX6_isHead l hJ x1 hY h) jl_X6_215 ⟨rfl, rfl⟩ ⟨Nat.le_of_ble_eq_true rfl, Nat.le_of_ble_eq_true rfl⟩ (zz_mo_o hY).1 (by decide) (zz_mo_o hY).2 rfl rfl rfl (Nat.le_of_ble_eq_true rfl) dX6_warm_2 rfl (fun r2 s2 h => ?_)
  refine zv_if_eq (tgt := 43) X dX6_warm_5 (by decide) rfl (fun q5 => ?_) (fun q5 => ?_)
  · replace h := h.1 q5
    refine zv_iconst (v := (-1)) X dX6_warm_43 (by decide) rfl ?_
    exact zv_iret X hr hlk h dX6_warm_44
  · replace h := h.2 q5
    refine zv_iload_n X dX6_warm_8 2 rfl rfl rfl ?_
    refine zv_cSi X [.int x2] (kX6_isDot l hJ x2  h) jl_X6_224 ⟨rfl, rfl⟩ ⟨Nat.le_of_ble_eq_true rfl, Nat.le_of_ble_eq_true rfl⟩ rfl rfl (Nat.le_of_ble_eq_true rfl) dX6_warm_9 rfl (fun r9 s9 h => ?_)
    refine zv_if_eq (tgt := 43) X dX6_warm_12 (by decide) rfl (fun q12 => ?_) (fun q12 => ?_)
    · replace h := h.1 q12
      refine zv_iconst (v := (-1)) X dX6_warm_43 (by decide) rfl ?_
      exact zv_iret X hr hlk h dX6_warm_44
    · replace h := h.2 q12
      refine zv_iload_n X dX6_warm_15 3 rfl rfl rfl ?_
      refine zv_i2l X dX6_warm_16 rfl ?_
      refine zv_lconst (v := 0) X dX6_warm_17 (by decide) rfl ?_
      refine zv_ldc2 (v := 99) X dX6_warm_18 co_X6_240 rfl ?_
      refine zv_cSi X [.long (Int32.toInt64 x3), .long 0, .long 99] (kX6_in l hJ (Int32.toInt64 x3) 0 99  h) jl_X6_67 ⟨rfl, rfl⟩ ⟨Nat.le_of_ble_eq_true rfl, Nat.le_of_ble_eq_true rfl⟩ rfl rfl (Nat.le_of_ble_eq_true rfl) dX6_warm_21 rfl (fun r21 s21 h => ?_)
      refine zv_if_eq (tgt := 43) X dX6_warm_24 (by decide) rfl (fun q24 => ?_) (fun q24 => ?_)
      · replace h := h.1 q24
        refine zv_iconst (v := (-1)) X dX6_warm_43 (by decide) rfl ?_
        exact zv_iret X hr hlk h dX6_warm_44
      · replace h := h.2 q24
        refine zv_aload_n X dX6_warm_27 0 rfl rfl rfl ?_
        refine zv_bipush (v := 11) X dX6_warm_28 (by decide) rfl ?_
        refine zv_iload_n X dX6_warm_30 1 rfl rfl rfl ?_
        refine zv_imul X dX6_warm_31 rfl ?_
        refine zv_iconst (v := 3) X dX6_warm_32 (by decide) rfl ?_
        refine zv_iadd X dX6_warm_33 rfl ?_
        refine zv_iload_n X dX6_warm_34 2 rfl rfl rfl ?_
        refine zv_iadd X dX6_warm_35 rfl ?_
        refine zv_iload_n X dX6_warm_36 3 rfl rfl rfl ?_
        refine zv_cVi (k := 0) (ci := 6) X [.int (((11 * x1) + 3) + x2), .int x3] (kX6_becomes l hJ (((11 * x1) + 3) + x2) x3 hY h) jl_X6_235 ⟨rfl, rfl⟩ ⟨Nat.le_of_ble_eq_true rfl, Nat.le_of_ble_eq_true rfl⟩ (zz_mo_o hY).1 (by decide) (zz_mo_o hY).2 rfl rfl rfl (Nat.le_of_ble_eq_true rfl) dX6_warm_37 rfl (fun r37 s37 h => ?_)
        refine zv_goto (tgt := 44) X dX6_warm_40 (by decide) ?_
        exact zv_iret X hr hlk h dX6_warm_44
def rmX6_set : Room := { frames := 2, cells := 0, slots := 0, locals := 46 }
def pX6_set (x1 : Int32) (x2 : Int32) (σ : zz_T) (Q : Int32 → zz_T → Prop) : Prop :=
    pX6_isLine x1 σ (fun r2 s2 =>
    ((r2 = 0 → Q (-1) s2) ∧
    (¬ r2 = 0 → pX6_in (Int32.toInt64 x2) 0 255 s2 (fun r14 s14 =>
    ((r14 = 0 → Q (-1) s14) ∧
    (¬ r14 = 0 → pX6_becomes (37 + x1) x2 s14 (fun r26 s26 =>
    Q r26 s26)))))))
set_option maxHeartbeats 4000000 in
set_option maxRecDepth 100000 in
theorem kX6_set (l : Launch) {Y : zz_Y} (hJ : zz_J Y) (x1 : Int32) (x2 : Int32) (hY : zz_mo Y) {σ : zz_T} {Q : Int32 → zz_T → Prop} (h : pX6_set x1 x2 σ Q) : zz_Mi l yX6_set cX6_set 3 (some .int) rmX6_set Y [.ref (Y.2.1 0), .int x1, .int x2] σ Q := by
  refine zz_Mi.start (by decide) hJ (Nat.le_of_ble_eq_true rfl) (fun p e s m below meth c X hr hlk => ?_)
  have X : zz_X p m c cX6_set 3 s _ RX6 := X
  refine zv_sub (lv2 := [(0, .ref (Y.2.1 0)), (1, .int x1), (2, .int x2)]) [0, 1, 2] rfl ?_
  unfold pX6_set at h
  refine zv_aload_n X dX6_set_0 0 rfl rfl rfl ?_
  refine zv_iload_n X dX6_set_1 1 rfl rfl rfl ?_
  refine zv_cVi (k := 0) (ci := 6) X [.int x1] (kX6_isLine l hJ x1 hY h) jl_X6_230 ⟨rfl, rfl⟩ ⟨Nat.le_of_ble_eq_true rfl, Nat.le_of_ble_eq_true rfl⟩ (zz_mo_o hY).1 (by decide) (zz_mo_o hY).2 rfl rfl rfl (Nat.le_of_ble_eq_true rfl) dX6_set_2 rfl (fun r2 s2 h => ?_)
  refine zv_if_eq (tgt := 32) X dX6_set_5 (by decide) rfl (fun q5 => ?_) (fun q5 => ?_)
  · replace h := h.1 q5
    refine zv_iconst (v := (-1)) X dX6_set_32 (by decide) rfl ?_
    exact zv_iret X hr hlk h dX6_set_33
  · replace h := h.2 q5
    refine zv_iload_n X dX6_set_8 2 rfl rfl rfl ?_
    refine zv_i2l X dX6_set_9 rfl ?_
    refine zv_lconst (v := 0) X dX6_set_10 (by decide) rfl ?_
    refine zv_ldc2 (v := 255) X dX6_set_11 co_X6_242 rfl ?_
    refine zv_cSi X [.long (Int32.toInt64 x2), .long 0, .long 255] (kX6_in l hJ (Int32.toInt64 x2) 0 255  h) jl_X6_67 ⟨rfl, rfl⟩ ⟨Nat.le_of_ble_eq_true rfl, Nat.le_of_ble_eq_true rfl⟩ rfl rfl (Nat.le_of_ble_eq_true rfl) dX6_set_14 rfl (fun r14 s14 h => ?_)
    refine zv_if_eq (tgt := 32) X dX6_set_17 (by decide) rfl (fun q17 => ?_) (fun q17 => ?_)
    · replace h := h.1 q17
      refine zv_iconst (v := (-1)) X dX6_set_32 (by decide) rfl ?_
      exact zv_iret X hr hlk h dX6_set_33
    · replace h := h.2 q17
      refine zv_aload_n X dX6_set_20 0 rfl rfl rfl ?_
      refine zv_bipush (v := 37) X dX6_set_21 (by decide) rfl ?_
      refine zv_iload_n X dX6_set_23 1 rfl rfl rfl ?_
      refine zv_iadd X dX6_set_24 rfl ?_
      refine zv_iload_n X dX6_set_25 2 rfl rfl rfl ?_
      refine zv_cVi (k := 0) (ci := 6) X [.int (37 + x1), .int x2] (kX6_becomes l hJ (37 + x1) x2 hY h) jl_X6_235 ⟨rfl, rfl⟩ ⟨Nat.le_of_ble_eq_true rfl, Nat.le_of_ble_eq_true rfl⟩ (zz_mo_o hY).1 (by decide) (zz_mo_o hY).2 rfl rfl rfl (Nat.le_of_ble_eq_true rfl) dX6_set_26 rfl (fun r26 s26 h => ?_)
      refine zv_goto (tgt := 33) X dX6_set_29 (by decide) ?_
      exact zv_iret X hr hlk h dX6_set_33
def rmX6_add : Room := { frames := 1, cells := 0, slots := 0, locals := 25 }
def pX6_add (x1 : Int32) (σ : zz_T) (Q : Int32 → zz_T → Prop) : Prop :=
    pX6_in (Int32.toInt64 x1) 0 255 σ (fun r6 s6 =>
    ((r6 = 0 → Q (-1) s6) ∧
    (¬ r6 = 0 → vp_in 49 210 ∧
    (((s6.1 1 (Int32.toNatClampNeg 49)) = 12 → Q (-3) s6) ∧
    (¬ (s6.1 1 (Int32.toNatClampNeg 49)) = 12 → vp_in 49 210 ∧
    vp_in (37 + (s6.1 1 (Int32.toNatClampNeg 49))) 210 ∧
    vp_in 49 210 ∧
    vp_in 49 210 ∧
    vp_in 49 210 ∧
    Q ((zz_i (zz_i s6 1 (Int32.toNatClampNeg (37 + (s6.1 1 (Int32.toNatClampNeg 49)))) x1) 1 (Int32.toNatClampNeg 49) (((zz_i s6 1 (Int32.toNatClampNeg (37 + (s6.1 1 (Int32.toNatClampNeg 49)))) x1).1 1 (Int32.toNatClampNeg 49)) + 1)).1 1 (Int32.toNatClampNeg 49)) (zz_i (zz_i s6 1 (Int32.toNatClampNeg (37 + (s6.1 1 (Int32.toNatClampNeg 49)))) x1) 1 (Int32.toNatClampNeg 49) (((zz_i s6 1 (Int32.toNatClampNeg (37 + (s6.1 1 (Int32.toNatClampNeg 49)))) x1).1 1 (Int32.toNatClampNeg 49)) + 1)))))))
set_option maxHeartbeats 4000000 in
set_option maxRecDepth 100000 in
theorem kX6_add (l : Launch) {Y : zz_Y} (hJ : zz_J Y) (x1 : Int32) (hY : zz_mo Y) {σ : zz_T} {Q : Int32 → zz_T → Prop} (h : pX6_add x1 σ Q) : zz_Mi l yX6_add cX6_add 2 (some .int) rmX6_add Y [.ref (Y.2.1 0), .int x1] σ Q := by
  refine zz_Mi.start (by decide) hJ (Nat.le_of_ble_eq_true rfl) (fun p e s m below meth c X hr hlk => ?_)
  have X : zz_X p m c cX6_add 2 s _ RX6 := X
  refine zv_sub (lv2 := [(0, .ref (Y.2.1 0)), (1, .int x1)]) [0, 1] rfl ?_
  unfold pX6_add at h
  refine zv_iload_n X dX6_add_0 1 rfl rfl rfl ?_
  refine zv_i2l X dX6_add_1 rfl ?_
  refine zv_lconst (v := 0) X dX6_add_2 (by decide) rfl ?_
  refine zv_ldc2 (v := 255) X dX6_add_3 co_X6_242 rfl ?_
  refine zv_cSi X [.long (Int32.toInt64 x1), .long 0, .long 255] (kX6_in l hJ (Int32.toInt64 x1) 0 255  h) jl_X6_67 ⟨rfl, rfl⟩ ⟨Nat.le_of_ble_eq_true rfl, Nat.le_of_ble_eq_true rfl⟩ rfl rfl (Nat.le_of_ble_eq_true rfl) dX6_add_6 rfl (fun r6 s6 h => ?_)
  refine zv_if_ne (tgt := 14) X dX6_add_9 (by decide) rfl (fun q9 => ?_) (fun q9 => ?_)
  · replace h := h.2 q9
    refine zv_aload_n X dX6_add_14 0 rfl rfl rfl ?_
    refine zg_X6_0 (k := 0) X (zz_mo_o hY).1 (zz_mo_o hY).2 fl_X6_7 dX6_add_15 rfl ?_
    refine zv_bipush (v := 49) X dX6_add_18 (by decide) rfl ?_
    obtain ⟨hi20, h⟩ := h
    refine zv_iald (k := 1) X (zz_mo_st hY).1 (zz_mo_st hY).2 hi20 dX6_add_20 rfl ?_
    refine zv_bipush (v := 12) X dX6_add_21 (by decide) rfl ?_
    refine zv_icmp_ne (tgt := 29) X dX6_add_23 (by decide) rfl (fun q23 => ?_) (fun q23 => ?_)
    · replace h := h.2 q23
      refine zv_aload_n X dX6_add_29 0 rfl rfl rfl ?_
      refine zg_X6_0 (k := 0) X (zz_mo_o hY).1 (zz_mo_o hY).2 fl_X6_7 dX6_add_30 rfl ?_
      refine zv_bipush (v := 37) X dX6_add_33 (by decide) rfl ?_
      refine zv_aload_n X dX6_add_35 0 rfl rfl rfl ?_
      refine zg_X6_0 (k := 0) X (zz_mo_o hY).1 (zz_mo_o hY).2 fl_X6_7 dX6_add_36 rfl ?_
      refine zv_bipush (v := 49) X dX6_add_39 (by decide) rfl ?_
      obtain ⟨hi41, h⟩ := h
      refine zv_iald (k := 1) X (zz_mo_st hY).1 (zz_mo_st hY).2 hi41 dX6_add_41 rfl ?_
      refine zv_iadd X dX6_add_42 rfl ?_
      refine zv_iload_n X dX6_add_43 1 rfl rfl rfl ?_
      obtain ⟨hi44, h⟩ := h
      refine zv_iast (k := 1) X (zz_mo_st hY).1 (zz_mo_st hY).2 hi44 dX6_add_44 rfl ?_
      refine zv_aload_n X dX6_add_45 0 rfl rfl rfl ?_
      refine zg_X6_0 (k := 0) X (zz_mo_o hY).1 (zz_mo_o hY).2 fl_X6_7 dX6_add_46 rfl ?_
      refine zv_bipush (v := 49) X dX6_add_49 (by decide) rfl ?_
      refine zv_dup2_11 X dX6_add_51 rfl rfl rfl ?_
      obtain ⟨hi52, h⟩ := h
      refine zv_iald (k := 1) X (zz_mo_st hY).1 (zz_mo_st hY).2 hi52 dX6_add_52 rfl ?_
      refine zv_iconst (v := 1) X dX6_add_53 (by decide) rfl ?_
      refine zv_iadd X dX6_add_54 rfl ?_
      obtain ⟨hi55, h⟩ := h
      refine zv_iast (k := 1) X (zz_mo_st hY).1 (zz_mo_st hY).2 hi55 dX6_add_55 rfl ?_
      refine zv_aload_n X dX6_add_56 0 rfl rfl rfl ?_
      refine zg_X6_0 (k := 0) X (zz_mo_o hY).1 (zz_mo_o hY).2 fl_X6_7 dX6_add_57 rfl ?_
      refine zv_bipush (v := 49) X dX6_add_60 (by decide) rfl ?_
      obtain ⟨hi62, h⟩ := h
      refine zv_iald (k := 1) X (zz_mo_st hY).1 (zz_mo_st hY).2 hi62 dX6_add_62 rfl ?_
      exact zv_iret X hr hlk h dX6_add_63
    · replace h := h.1 q23
      refine zv_bipush (v := (-3)) X dX6_add_26 (by decide) rfl ?_
      exact zv_iret X hr hlk h dX6_add_28
  · replace h := h.1 q9
    refine zv_iconst (v := (-1)) X dX6_add_12 (by decide) rfl ?_
    exact zv_iret X hr hlk h dX6_add_13
def rmX6_cut : Room := { frames := 1, cells := 0, slots := 0, locals := 25 }
def pX6_cut (x1 : Int32) (σ : zz_T) (Q : Int32 → zz_T → Prop) : Prop :=
    vp_in 49 210 ∧
    pX6_in (Int32.toInt64 x1) 0 (Int32.toInt64 (σ.1 1 (Int32.toNatClampNeg 49))) σ (fun r11 s11 =>
    ((r11 = 0 → Q (-1) s11) ∧
    (¬ r11 = 0 → pX6_becomes 49 x1 s11 (fun r21 s21 =>
    Q r21 s21))))
set_option maxHeartbeats 4000000 in
set_option maxRecDepth 100000 in
theorem kX6_cut (l : Launch) {Y : zz_Y} (hJ : zz_J Y) (x1 : Int32) (hY : zz_mo Y) {σ : zz_T} {Q : Int32 → zz_T → Prop} (h : pX6_cut x1 σ Q) : zz_Mi l yX6_cut cX6_cut 2 (some .int) rmX6_cut Y [.ref (Y.2.1 0), .int x1] σ Q := by
  refine zz_Mi.start (by decide) hJ (Nat.le_of_ble_eq_true rfl) (fun p e s m below meth c X hr hlk => ?_)
  have X : zz_X p m c cX6_cut 2 s _ RX6 := X
  refine zv_sub (lv2 := [(0, .ref (Y.2.1 0)), (1, .int x1)]) [0, 1] rfl ?_
  unfold pX6_cut at h
  refine zv_iload_n X dX6_cut_0 1 rfl rfl rfl ?_
  refine zv_i2l X dX6_cut_1 rfl ?_
  refine zv_lconst (v := 0) X dX6_cut_2 (by decide) rfl ?_
  refine zv_aload_n X dX6_cut_3 0 rfl rfl rfl ?_
  refine zg_X6_0 (k := 0) X (zz_mo_o hY).1 (zz_mo_o hY).2 fl_X6_7 dX6_cut_4 rfl ?_
  refine zv_bipush (v := 49) X dX6_cut_7 (by decide) rfl ?_
  obtain ⟨hi9, h⟩ := h
  refine zv_iald (k := 1) X (zz_mo_st hY).1 (zz_mo_st hY).2 hi9 dX6_cut_9 rfl ?_
  refine zv_i2l X dX6_cut_10 rfl ?_
  refine zv_cSi X [.long (Int32.toInt64 x1), .long 0, .long (Int32.toInt64 (σ.1 1 (Int32.toNatClampNeg 49)))] (kX6_in l hJ (Int32.toInt64 x1) 0 (Int32.toInt64 (σ.1 1 (Int32.toNatClampNeg 49)))  h) jl_X6_67 ⟨rfl, rfl⟩ ⟨Nat.le_of_ble_eq_true rfl, Nat.le_of_ble_eq_true rfl⟩ rfl rfl (Nat.le_of_ble_eq_true rfl) dX6_cut_11 rfl (fun r11 s11 h => ?_)
  refine zv_if_eq (tgt := 27) X dX6_cut_14 (by decide) rfl (fun q14 => ?_) (fun q14 => ?_)
  · replace h := h.1 q14
    refine zv_iconst (v := (-1)) X dX6_cut_27 (by decide) rfl ?_
    exact zv_iret X hr hlk h dX6_cut_28
  · replace h := h.2 q14
    refine zv_aload_n X dX6_cut_17 0 rfl rfl rfl ?_
    refine zv_bipush (v := 49) X dX6_cut_18 (by decide) rfl ?_
    refine zv_iload_n X dX6_cut_20 1 rfl rfl rfl ?_
    refine zv_cVi (k := 0) (ci := 6) X [.int 49, .int x1] (kX6_becomes l hJ 49 x1 hY h) jl_X6_235 ⟨rfl, rfl⟩ ⟨Nat.le_of_ble_eq_true rfl, Nat.le_of_ble_eq_true rfl⟩ (zz_mo_o hY).1 (by decide) (zz_mo_o hY).2 rfl rfl rfl (Nat.le_of_ble_eq_true rfl) dX6_cut_21 rfl (fun r21 s21 h => ?_)
    refine zv_goto (tgt := 28) X dX6_cut_24 (by decide) ?_
    exact zv_iret X hr hlk h dX6_cut_28
def rmX6_isFar : Room := { frames := 1, cells := 0, slots := 0, locals := 25 }
def pX6_isFar (x0 : Int32) (σ : zz_T) (Q : Int32 → zz_T → Prop) : Prop :=
    pX6_in (Int32.toInt64 x0) 0 60 σ (fun r6 s6 =>
    (zz_bo r6 ∧ Q r6 s6))
set_option maxHeartbeats 4000000 in
set_option maxRecDepth 100000 in
theorem kX6_isFar (l : Launch) {Y : zz_Y} (hJ : zz_J Y) (x0 : Int32)  {σ : zz_T} {Q : Int32 → zz_T → Prop} (h : pX6_isFar x0 σ Q) : zz_Mi l yX6_isFar cX6_isFar 1 (some .boolean) rmX6_isFar Y [.int x0] σ Q := by
  refine zz_Mi.start (by decide) hJ (Nat.le_of_ble_eq_true rfl) (fun p e s m below meth c X hr hlk => ?_)
  have X : zz_X p m c cX6_isFar 1 s _ RX6 := X
  refine zv_sub (lv2 := [(0, .int x0)]) [0] rfl ?_
  unfold pX6_isFar at h
  refine zv_iload_n X dX6_isFar_0 0 rfl rfl rfl ?_
  refine zv_i2l X dX6_isFar_1 rfl ?_
  refine zv_lconst (v := 0) X dX6_isFar_2 (by decide) rfl ?_
  refine zv_ldc2 (v := 60) X dX6_isFar_3 co_X6_244 rfl ?_
  refine zv_cSi X [.long (Int32.toInt64 x0), .long 0, .long 60] (kX6_in l hJ (Int32.toInt64 x0) 0 60  h) jl_X6_67 ⟨rfl, rfl⟩ ⟨Nat.le_of_ble_eq_true rfl, Nat.le_of_ble_eq_true rfl⟩ rfl rfl (Nat.le_of_ble_eq_true rfl) dX6_isFar_6 rfl (fun r6 s6 h => ?_)
  exact zv_zret X hr hlk h dX6_isFar_9
def rmX6_burn : Room := { frames := 5, cells := 0, slots := 0, locals := 124 }
def pX6_burn (x1 : Int32) (σ : zz_T) (Q : Int32 → zz_T → Prop) : Prop :=
    pX6_isFar x1 σ (fun r1 s1 =>
    ((r1 = 0 → Q (-1) s1) ∧
    (¬ r1 = 0 → vp_in 50 210 ∧
    ((((s1.1 1 (Int32.toNatClampNeg 50)) + x1) ≤ 9999 → pX6_starts s1 (fun s28 =>
    pX6_rowsGo x1 s28 (fun s33 =>
    pX6_settles s33 (fun s37 =>
    Q (s37.1 0 14) s37)))) ∧
    (¬ ((s1.1 1 (Int32.toNatClampNeg 50)) + x1) ≤ 9999 → Q (-3) s1)))))
set_option maxHeartbeats 4000000 in
set_option maxRecDepth 100000 in
theorem kX6_burn (l : Launch) {Y : zz_Y} (hJ : zz_J Y) (x1 : Int32) (hY : zz_mo Y) {σ : zz_T} {Q : Int32 → zz_T → Prop} (h : pX6_burn x1 σ Q) : zz_Mi l yX6_burn cX6_burn 2 (some .int) rmX6_burn Y [.ref (Y.2.1 0), .int x1] σ Q := by
  refine zz_Mi.start (by decide) hJ (Nat.le_of_ble_eq_true rfl) (fun p e s m below meth c X hr hlk => ?_)
  have X : zz_X p m c cX6_burn 2 s _ RX6 := X
  refine zv_sub (lv2 := [(0, .ref (Y.2.1 0)), (1, .int x1)]) [0, 1] rfl ?_
  unfold pX6_burn at h
  refine zv_iload_n X dX6_burn_0 1 rfl rfl rfl ?_
  refine zv_cSi X [.int x1] (kX6_isFar l hJ x1  h) jl_X6_246 ⟨rfl, rfl⟩ ⟨Nat.le_of_ble_eq_true rfl, Nat.le_of_ble_eq_true rfl⟩ rfl rfl (Nat.le_of_ble_eq_true rfl) dX6_burn_1 rfl (fun r1 s1 h => ?_)
  refine zv_if_ne (tgt := 9) X dX6_burn_4 (by decide) rfl (fun q4 => ?_) (fun q4 => ?_)
  · replace h := h.2 q4
    refine zv_aload_n X dX6_burn_9 0 rfl rfl rfl ?_
    refine zg_X6_0 (k := 0) X (zz_mo_o hY).1 (zz_mo_o hY).2 fl_X6_7 dX6_burn_10 rfl ?_
    refine zv_bipush (v := 50) X dX6_burn_13 (by decide) rfl ?_
    obtain ⟨hi15, h⟩ := h
    refine zv_iald (k := 1) X (zz_mo_st hY).1 (zz_mo_st hY).2 hi15 dX6_burn_15 rfl ?_
    refine zv_iload_n X dX6_burn_16 1 rfl rfl rfl ?_
    refine zv_iadd X dX6_burn_17 rfl ?_
    refine zv_sipush (v := 9999) X dX6_burn_18 (by decide) rfl ?_
    refine zv_icmp_le (tgt := 27) X dX6_burn_21 (by decide) rfl (fun q21 => ?_) (fun q21 => ?_)
    · replace h := h.1 q21
      refine zv_aload_n X dX6_burn_27 0 rfl rfl rfl ?_
      refine zv_cVv (k := 0) (ci := 6) X [] (kX6_starts l hJ  hY h) jl_X6_209 ⟨rfl, rfl⟩ ⟨Nat.le_of_ble_eq_true rfl, Nat.le_of_ble_eq_true rfl⟩ (zz_mo_o hY).1 (by decide) (zz_mo_o hY).2 rfl rfl rfl (Nat.le_of_ble_eq_true rfl) dX6_burn_28 rfl (fun s28 h => ?_)
      refine zv_aload_n X dX6_burn_31 0 rfl rfl rfl ?_
      refine zv_iload_n X dX6_burn_32 1 rfl rfl rfl ?_
      refine zv_cVv (k := 0) (ci := 6) X [.int x1] (kX6_rowsGo l hJ x1 hY h) jl_X6_206 ⟨rfl, rfl⟩ ⟨Nat.le_of_ble_eq_true rfl, Nat.le_of_ble_eq_true rfl⟩ (zz_mo_o hY).1 (by decide) (zz_mo_o hY).2 rfl rfl rfl (Nat.le_of_ble_eq_true rfl) dX6_burn_33 rfl (fun s33 h => ?_)
      refine zv_aload_n X dX6_burn_36 0 rfl rfl rfl ?_
      refine zv_cVv (k := 0) (ci := 6) X [] (kX6_settles l hJ  hY h) jl_X6_249 ⟨rfl, rfl⟩ ⟨Nat.le_of_ble_eq_true rfl, Nat.le_of_ble_eq_true rfl⟩ (zz_mo_o hY).1 (by decide) (zz_mo_o hY).2 rfl rfl rfl (Nat.le_of_ble_eq_true rfl) dX6_burn_37 rfl (fun s37 h => ?_)
      refine zv_aload_n X dX6_burn_40 0 rfl rfl rfl ?_
      refine zg_X6_14 (k := 0) X (zz_mo_o hY).1 (zz_mo_o hY).2 fl_X6_149 dX6_burn_41 rfl ?_
      exact zv_iret X hr hlk h dX6_burn_44
    · replace h := h.2 q21
      refine zv_bipush (v := (-3)) X dX6_burn_24 (by decide) rfl ?_
      exact zv_iret X hr hlk h dX6_burn_26
  · replace h := h.1 q4
    refine zv_iconst (v := (-1)) X dX6_burn_7 (by decide) rfl ?_
    exact zv_iret X hr hlk h dX6_burn_8
def rmX6_runs : Room := { frames := 5, cells := 0, slots := 0, locals := 124 }
def pX6_runs (x1 : Int32) (x2 : Int32) (σ : zz_T) (Q : Int32 → zz_T → Prop) : Prop :=
    pX6_isFar x1 σ (fun r1 s1 =>
    ((r1 = 0 → Q (-1) s1) ∧
    (¬ r1 = 0 → pX6_in (Int32.toInt64 x2) 0 3 s1 (fun r13 s13 =>
    ((r13 = 0 → Q (-1) s13) ∧
    (¬ r13 = 0 → pX6_starts s13 (fun s22 =>
    pX6_rowsGo x1 s22 (fun s27 =>
    ((x2 = 0 → Q (s27.1 0 14) s27) ∧
    (¬ x2 = 0 → ((x2 = 1 → Q (s27.1 0 15) s27) ∧
    (¬ x2 = 1 → ((x2 = 2 → Q (s27.1 0 16) s27) ∧
    (¬ x2 = 2 → Q (s27.1 0 17) s27))))))))))))))
set_option maxHeartbeats 4000000 in
set_option maxRecDepth 100000 in
theorem kX6_runs (l : Launch) {Y : zz_Y} (hJ : zz_J Y) (x1 : Int32) (x2 : Int32) (hY : zz_mo Y) {σ : zz_T} {Q : Int32 → zz_T → Prop} (h : pX6_runs x1 x2 σ Q) : zz_Mi l yX6_runs cX6_runs 3 (some .int) rmX6_runs Y [.ref (Y.2.1 0), .int x1, .int x2] σ Q := by
  refine zz_Mi.start (by decide) hJ (Nat.le_of_ble_eq_true rfl) (fun p e s m below meth c X hr hlk => ?_)
  have X : zz_X p m c cX6_runs 3 s _ RX6 := X
  refine zv_sub (lv2 := [(0, .ref (Y.2.1 0)), (1, .int x1), (2, .int x2)]) [0, 1, 2] rfl ?_
  unfold pX6_runs at h
  refine zv_iload_n X dX6_runs_0 1 rfl rfl rfl ?_
  refine zv_cSi X [.int x1] (kX6_isFar l hJ x1  h) jl_X6_246 ⟨rfl, rfl⟩ ⟨Nat.le_of_ble_eq_true rfl, Nat.le_of_ble_eq_true rfl⟩ rfl rfl (Nat.le_of_ble_eq_true rfl) dX6_runs_1 rfl (fun r1 s1 h => ?_)
  refine zv_if_eq (tgt := 19) X dX6_runs_4 (by decide) rfl (fun q4 => ?_) (fun q4 => ?_)
  · replace h := h.1 q4
    refine zv_iconst (v := (-1)) X dX6_runs_19 (by decide) rfl ?_
    exact zv_iret X hr hlk h dX6_runs_20
  · replace h := h.2 q4
    refine zv_iload_n X dX6_runs_7 2 rfl rfl rfl ?_
    refine zv_i2l X dX6_runs_8 rfl ?_
    refine zv_lconst (v := 0) X dX6_runs_9 (by decide) rfl ?_
    refine zv_ldc2 (v := 3) X dX6_runs_10 co_X6_219 rfl ?_
    refine zv_cSi X [.long (Int32.toInt64 x2), .long 0, .long 3] (kX6_in l hJ (Int32.toInt64 x2) 0 3  h) jl_X6_67 ⟨rfl, rfl⟩ ⟨Nat.le_of_ble_eq_true rfl, Nat.le_of_ble_eq_true rfl⟩ rfl rfl (Nat.le_of_ble_eq_true rfl) dX6_runs_13 rfl (fun r13 s13 h => ?_)
    refine zv_if_ne (tgt := 21) X dX6_runs_16 (by decide) rfl (fun q16 => ?_) (fun q16 => ?_)
    · replace h := h.2 q16
      refine zv_aload_n X dX6_runs_21 0 rfl rfl rfl ?_
      refine zv_cVv (k := 0) (ci := 6) X [] (kX6_starts l hJ  hY h) jl_X6_209 ⟨rfl, rfl⟩ ⟨Nat.le_of_ble_eq_true rfl, Nat.le_of_ble_eq_true rfl⟩ (zz_mo_o hY).1 (by decide) (zz_mo_o hY).2 rfl rfl rfl (Nat.le_of_ble_eq_true rfl) dX6_runs_22 rfl (fun s22 h => ?_)
      refine zv_aload_n X dX6_runs_25 0 rfl rfl rfl ?_
      refine zv_iload_n X dX6_runs_26 1 rfl rfl rfl ?_
      refine zv_cVv (k := 0) (ci := 6) X [.int x1] (kX6_rowsGo l hJ x1 hY h) jl_X6_206 ⟨rfl, rfl⟩ ⟨Nat.le_of_ble_eq_true rfl, Nat.le_of_ble_eq_true rfl⟩ (zz_mo_o hY).1 (by decide) (zz_mo_o hY).2 rfl rfl rfl (Nat.le_of_ble_eq_true rfl) dX6_runs_27 rfl (fun s27 h => ?_)
      refine zv_iload_n X dX6_runs_30 2 rfl rfl rfl ?_
      by_cases e31_0 : x2 = 0
      · replace h := h.1 e31_0
        refine zv_tableIn (tgt := 56) X 0 dX6_runs_31 e31_0 ⟨⟨by decide, by decide⟩, rfl⟩ (by decide) ?_
        refine zv_aload_n X dX6_runs_56 0 rfl rfl rfl ?_
        refine zg_X6_14 (k := 0) X (zz_mo_o hY).1 (zz_mo_o hY).2 fl_X6_149 dX6_runs_57 rfl ?_
        exact zv_iret X hr hlk h dX6_runs_60
      · replace h := h.2 e31_0
        by_cases e31_1 : x2 = 1
        · replace h := h.1 e31_1
          refine zv_tableIn (tgt := 61) X 1 dX6_runs_31 e31_1 ⟨⟨by decide, by decide⟩, rfl⟩ (by decide) ?_
          refine zv_aload_n X dX6_runs_61 0 rfl rfl rfl ?_
          refine zg_X6_15 (k := 0) X (zz_mo_o hY).1 (zz_mo_o hY).2 fl_X6_152 dX6_runs_62 rfl ?_
          exact zv_iret X hr hlk h dX6_runs_65
        · replace h := h.2 e31_1
          by_cases e31_2 : x2 = 2
          · replace h := h.1 e31_2
            refine zv_tableIn (tgt := 66) X 2 dX6_runs_31 e31_2 ⟨⟨by decide, by decide⟩, rfl⟩ (by decide) ?_
            refine zv_aload_n X dX6_runs_66 0 rfl rfl rfl ?_
            refine zg_X6_16 (k := 0) X (zz_mo_o hY).1 (zz_mo_o hY).2 fl_X6_155 dX6_runs_67 rfl ?_
            exact zv_iret X hr hlk h dX6_runs_70
          · replace h := h.2 e31_2
            refine zv_tableOut (tgt := 71) X dX6_runs_31 (by have := zz_nt e31_0 (z := 0) rfl; have := zz_nt e31_1 (z := 1) rfl; have := zz_nt e31_2 (z := 2) rfl; omega) (by decide) ?_
            refine zv_aload_n X dX6_runs_71 0 rfl rfl rfl ?_
            refine zg_X6_17 (k := 0) X (zz_mo_o hY).1 (zz_mo_o hY).2 fl_X6_158 dX6_runs_72 rfl ?_
            exact zv_iret X hr hlk h dX6_runs_75
    · replace h := h.1 q16
      refine zv_iconst (v := (-1)) X dX6_runs_19 (by decide) rfl ?_
      exact zv_iret X hr hlk h dX6_runs_20
def rmX6_black : Room := { frames := 5, cells := 0, slots := 0, locals := 124 }
def pX6_black (x1 : Int32) (x2 : Int32) (σ : zz_T) (Q : Int32 → zz_T → Prop) : Prop :=
    pX6_isHead x1 σ (fun r2 s2 =>
    ((r2 = 0 → Q (-1) s2) ∧
    (¬ r2 = 0 → pX6_isFar x2 s2 (fun r9 s9 =>
    ((r9 = 0 → Q (-1) s9) ∧
    (¬ r9 = 0 → pX6_starts s9 (fun s18 =>
    pX6_rowsGo (x2 + 1) s18 (fun s25 =>
    vp_in x1 3 ∧
    Q (s25.1 8 (Int32.toNatClampNeg x1)) s25))))))))
set_option maxHeartbeats 4000000 in
set_option maxRecDepth 100000 in
theorem kX6_black (l : Launch) {Y : zz_Y} (hJ : zz_J Y) (x1 : Int32) (x2 : Int32) (hY : zz_mo Y) {σ : zz_T} {Q : Int32 → zz_T → Prop} (h : pX6_black x1 x2 σ Q) : zz_Mi l yX6_black cX6_black 3 (some .int) rmX6_black Y [.ref (Y.2.1 0), .int x1, .int x2] σ Q := by
  refine zz_Mi.start (by decide) hJ (Nat.le_of_ble_eq_true rfl) (fun p e s m below meth c X hr hlk => ?_)
  have X : zz_X p m c cX6_black 3 s _ RX6 := X
  refine zv_sub (lv2 := [(0, .ref (Y.2.1 0)), (1, .int x1), (2, .int x2)]) [0, 1, 2] rfl ?_
  unfold pX6_black at h
  refine zv_aload_n X dX6_black_0 0 rfl rfl rfl ?_
  refine zv_iload_n X dX6_black_1 1 rfl rfl rfl ?_
  refine zv_cVi (k := 0) (ci := 6) X [.int x1] (kX6_isHead l hJ x1 hY h) jl_X6_215 ⟨rfl, rfl⟩ ⟨Nat.le_of_ble_eq_true rfl, Nat.le_of_ble_eq_true rfl⟩ (zz_mo_o hY).1 (by decide) (zz_mo_o hY).2 rfl rfl rfl (Nat.le_of_ble_eq_true rfl) dX6_black_2 rfl (fun r2 s2 h => ?_)
  refine zv_if_eq (tgt := 15) X dX6_black_5 (by decide) rfl (fun q5 => ?_) (fun q5 => ?_)
  · replace h := h.1 q5
    refine zv_iconst (v := (-1)) X dX6_black_15 (by decide) rfl ?_
    exact zv_iret X hr hlk h dX6_black_16
  · replace h := h.2 q5
    refine zv_iload_n X dX6_black_8 2 rfl rfl rfl ?_
    refine zv_cSi X [.int x2] (kX6_isFar l hJ x2  h) jl_X6_246 ⟨rfl, rfl⟩ ⟨Nat.le_of_ble_eq_true rfl, Nat.le_of_ble_eq_true rfl⟩ rfl rfl (Nat.le_of_ble_eq_true rfl) dX6_black_9 rfl (fun r9 s9 h => ?_)
    refine zv_if_ne (tgt := 17) X dX6_black_12 (by decide) rfl (fun q12 => ?_) (fun q12 => ?_)
    · replace h := h.2 q12
      refine zv_aload_n X dX6_black_17 0 rfl rfl rfl ?_
      refine zv_cVv (k := 0) (ci := 6) X [] (kX6_starts l hJ  hY h) jl_X6_209 ⟨rfl, rfl⟩ ⟨Nat.le_of_ble_eq_true rfl, Nat.le_of_ble_eq_true rfl⟩ (zz_mo_o hY).1 (by decide) (zz_mo_o hY).2 rfl rfl rfl (Nat.le_of_ble_eq_true rfl) dX6_black_18 rfl (fun s18 h => ?_)
      refine zv_aload_n X dX6_black_21 0 rfl rfl rfl ?_
      refine zv_iload_n X dX6_black_22 2 rfl rfl rfl ?_
      refine zv_iconst (v := 1) X dX6_black_23 (by decide) rfl ?_
      refine zv_iadd X dX6_black_24 rfl ?_
      refine zv_cVv (k := 0) (ci := 6) X [.int (x2 + 1)] (kX6_rowsGo l hJ (x2 + 1) hY h) jl_X6_206 ⟨rfl, rfl⟩ ⟨Nat.le_of_ble_eq_true rfl, Nat.le_of_ble_eq_true rfl⟩ (zz_mo_o hY).1 (by decide) (zz_mo_o hY).2 rfl rfl rfl (Nat.le_of_ble_eq_true rfl) dX6_black_25 rfl (fun s25 h => ?_)
      refine zv_aload_n X dX6_black_28 0 rfl rfl rfl ?_
      refine zg_X6_19 (k := 0) X (zz_mo_o hY).1 (zz_mo_o hY).2 fl_X6_32 dX6_black_29 rfl ?_
      refine zv_iload_n X dX6_black_32 1 rfl rfl rfl ?_
      obtain ⟨hi33, h⟩ := h
      refine zv_iald (k := 8) X (zz_mo_blackNow hY).1 (zz_mo_blackNow hY).2 hi33 dX6_black_33 rfl ?_
      exact zv_iret X hr hlk h dX6_black_34
    · replace h := h.1 q12
      refine zv_iconst (v := (-1)) X dX6_black_15 (by decide) rfl ?_
      exact zv_iret X hr hlk h dX6_black_16
def rmX6_ahead : Room := { frames := 5, cells := 0, slots := 0, locals := 124 }
def pX6_ahead (x1 : Int32) (x2 : Int32) (x3 : Int32) (σ : zz_T) (Q : Int32 → zz_T → Prop) : Prop :=
    pX6_isHead x1 σ (fun r2 s2 =>
    ((r2 = 0 → Q (-1) s2) ∧
    (¬ r2 = 0 → pX6_isDot x2 s2 (fun r9 s9 =>
    ((r9 = 0 → Q (-1) s9) ∧
    (¬ r9 = 0 → pX6_isFar x3 s9 (fun r16 s16 =>
    ((r16 = 0 → Q (-1) s16) ∧
    (¬ r16 = 0 → pX6_starts s16 (fun s25 =>
    pX6_rowsGo x3 s25 (fun s30 =>
    pX6_heat x1 x2 s30 (fun r36 s36 =>
    Q r36 s36))))))))))))
set_option maxHeartbeats 4000000 in
set_option maxRecDepth 100000 in
theorem kX6_ahead (l : Launch) {Y : zz_Y} (hJ : zz_J Y) (x1 : Int32) (x2 : Int32) (x3 : Int32) (hY : zz_mo Y) {σ : zz_T} {Q : Int32 → zz_T → Prop} (h : pX6_ahead x1 x2 x3 σ Q) : zz_Mi l yX6_ahead cX6_ahead 4 (some .int) rmX6_ahead Y [.ref (Y.2.1 0), .int x1, .int x2, .int x3] σ Q := by
  refine zz_Mi.start (by decide) hJ (Nat.le_of_ble_eq_true rfl) (fun p e s m below meth c X hr hlk => ?_)
  have X : zz_X p m c cX6_ahead 4 s _ RX6 := X
  refine zv_sub (lv2 := [(0, .ref (Y.2.1 0)), (1, .int x1), (2, .int x2), (3, .int x3)]) [0, 1, 2, 3] rfl ?_
  unfold pX6_ahead at h
  refine zv_aload_n X dX6_ahead_0 0 rfl rfl rfl ?_
  refine zv_iload_n X dX6_ahead_1 1 rfl rfl rfl ?_
  refine zv_cVi (k := 0) (ci := 6) X [.int x1] (kX6_isHead l hJ x1 hY h) jl_X6_215 ⟨rfl, rfl⟩ ⟨Nat.le_of_ble_eq_true rfl, Nat.le_of_ble_eq_true rfl⟩ (zz_mo_o hY).1 (by decide) (zz_mo_o hY).2 rfl rfl rfl (Nat.le_of_ble_eq_true rfl) dX6_ahead_2 rfl (fun r2 s2 h => ?_)
  refine zv_if_eq (tgt := 22) X dX6_ahead_5 (by decide) rfl (fun q5 => ?_) (fun q5 => ?_)
  · replace h := h.1 q5
    refine zv_iconst (v := (-1)) X dX6_ahead_22 (by decide) rfl ?_
    exact zv_iret X hr hlk h dX6_ahead_23
  · replace h := h.2 q5
    refine zv_iload_n X dX6_ahead_8 2 rfl rfl rfl ?_
    refine zv_cSi X [.int x2] (kX6_isDot l hJ x2  h) jl_X6_224 ⟨rfl, rfl⟩ ⟨Nat.le_of_ble_eq_true rfl, Nat.le_of_ble_eq_true rfl⟩ rfl rfl (Nat.le_of_ble_eq_true rfl) dX6_ahead_9 rfl (fun r9 s9 h => ?_)
    refine zv_if_eq (tgt := 22) X dX6_ahead_12 (by decide) rfl (fun q12 => ?_) (fun q12 => ?_)
    · replace h := h.1 q12
      refine zv_iconst (v := (-1)) X dX6_ahead_22 (by decide) rfl ?_
      exact zv_iret X hr hlk h dX6_ahead_23
    · replace h := h.2 q12
      refine zv_iload_n X dX6_ahead_15 3 rfl rfl rfl ?_
      refine zv_cSi X [.int x3] (kX6_isFar l hJ x3  h) jl_X6_246 ⟨rfl, rfl⟩ ⟨Nat.le_of_ble_eq_true rfl, Nat.le_of_ble_eq_true rfl⟩ rfl rfl (Nat.le_of_ble_eq_true rfl) dX6_ahead_16 rfl (fun r16 s16 h => ?_)
      refine zv_if_ne (tgt := 24) X dX6_ahead_19 (by decide) rfl (fun q19 => ?_) (fun q19 => ?_)
      · replace h := h.2 q19
        refine zv_aload_n X dX6_ahead_24 0 rfl rfl rfl ?_
        refine zv_cVv (k := 0) (ci := 6) X [] (kX6_starts l hJ  hY h) jl_X6_209 ⟨rfl, rfl⟩ ⟨Nat.le_of_ble_eq_true rfl, Nat.le_of_ble_eq_true rfl⟩ (zz_mo_o hY).1 (by decide) (zz_mo_o hY).2 rfl rfl rfl (Nat.le_of_ble_eq_true rfl) dX6_ahead_25 rfl (fun s25 h => ?_)
        refine zv_aload_n X dX6_ahead_28 0 rfl rfl rfl ?_
        refine zv_iload_n X dX6_ahead_29 3 rfl rfl rfl ?_
        refine zv_cVv (k := 0) (ci := 6) X [.int x3] (kX6_rowsGo l hJ x3 hY h) jl_X6_206 ⟨rfl, rfl⟩ ⟨Nat.le_of_ble_eq_true rfl, Nat.le_of_ble_eq_true rfl⟩ (zz_mo_o hY).1 (by decide) (zz_mo_o hY).2 rfl rfl rfl (Nat.le_of_ble_eq_true rfl) dX6_ahead_30 rfl (fun s30 h => ?_)
        refine zv_aload_n X dX6_ahead_33 0 rfl rfl rfl ?_
        refine zv_iload_n X dX6_ahead_34 1 rfl rfl rfl ?_
        refine zv_iload_n X dX6_ahead_35 2 rfl rfl rfl ?_
        refine zv_cVi (k := 0) (ci := 6) X [.int x1, .int x2] (kX6_heat l hJ x1 x2 hY h) jl_X6_167 ⟨rfl, rfl⟩ ⟨Nat.le_of_ble_eq_true rfl, Nat.le_of_ble_eq_true rfl⟩ (zz_mo_o hY).1 (by decide) (zz_mo_o hY).2 rfl rfl rfl (Nat.le_of_ble_eq_true rfl) dX6_ahead_36 rfl (fun r36 s36 h => ?_)
        exact zv_iret X hr hlk h dX6_ahead_39
      · replace h := h.1 q19
        refine zv_iconst (v := (-1)) X dX6_ahead_22 (by decide) rfl ?_
        exact zv_iret X hr hlk h dX6_ahead_23
def rmX6_when : Room := { frames := 5, cells := 0, slots := 0, locals := 124 }
def pX6_when_16  (Q : Int32 → zz_T → Prop) : Nat → Int32 → Int32 → zz_T → Prop
  | 0, _, _, _ => False
  | n + 1, x1, x2, σ =>
    ((60 < x2 → Q (-4) σ) ∧
    (¬ 60 < x2 → pX6_rowsGo 1 σ (fun s24 =>
    vp_in x1 3 ∧
    (((s24.1 7 (Int32.toNatClampNeg x1)) ≤ 0 → pX6_when_16  Q n x1 (x2 + 1) s24) ∧
    (¬ (s24.1 7 (Int32.toNatClampNeg x1)) ≤ 0 → Q x2 s24)))))
set_option maxHeartbeats 4000000 in
set_option maxRecDepth 100000 in
theorem vX6_when_16 {p : Program} {l : Launch} {e : Env} {s : State} {m : MethodId} {args : Array Value} {below : List Frame} {meth : Method} {c : Code} {Y : zz_Y}  {Q : Int32 → zz_T → Prop} (X : zz_X p m c cX6_when 3 s args RX6) (hr : meth.sig.returnType = (some .int)) (hlk : meth.locks = false) (hJ : zz_J Y) (hY : zz_mo Y)  : ∀ (n : Nat) (x1 : Int32) (x2 : Int32) (σ : zz_T), pX6_when_16  Q n x1 x2 σ → zz_V p l e rmX6_when s m args below meth c (MQ below (va_Qi Q (zz_E Y) (zz_A Y)) args s 0 0 (zz_A Y)) 3 Y σ 16 [(0, .ref (Y.2.1 0)), (1, .int x1), (2, .int x2)] [] := by
  intro n
  induction n with
  | zero => intro x1 x2 σ h; exact h.elim
  | succ n ih =>
    intro x1 x2 σ h 
    unfold pX6_when_16 at h
    refine zv_iload_n X dX6_when_16 2 rfl rfl rfl ?_
    refine zv_bipush (v := 60) X dX6_when_17 (by decide) rfl ?_
    refine zv_icmp_gt (tgt := 44) X dX6_when_19 (by decide) rfl (fun q19 => ?_) (fun q19 => ?_)
    · replace h := h.1 q19
      refine zv_bipush (v := (-4)) X dX6_when_44 (by decide) rfl ?_
      exact zv_iret X hr hlk h dX6_when_46
    · replace h := h.2 q19
      refine zv_aload_n X dX6_when_22 0 rfl rfl rfl ?_
      refine zv_iconst (v := 1) X dX6_when_23 (by decide) rfl ?_
      refine zv_cVv (k := 0) (ci := 6) X [.int 1] (kX6_rowsGo l hJ 1 hY h) jl_X6_206 ⟨rfl, rfl⟩ ⟨Nat.le_of_ble_eq_true rfl, Nat.le_of_ble_eq_true rfl⟩ (zz_mo_o hY).1 (by decide) (zz_mo_o hY).2 rfl rfl rfl (Nat.le_of_ble_eq_true rfl) dX6_when_24 rfl (fun s24 h => ?_)
      refine zv_aload_n X dX6_when_27 0 rfl rfl rfl ?_
      refine zg_X6_18 (k := 0) X (zz_mo_o hY).1 (zz_mo_o hY).2 fl_X6_29 dX6_when_28 rfl ?_
      refine zv_iload_n X dX6_when_31 1 rfl rfl rfl ?_
      obtain ⟨hi32, h⟩ := h
      refine zv_iald (k := 7) X (zz_mo_wrongBy hY).1 (zz_mo_wrongBy hY).2 hi32 dX6_when_32 rfl ?_
      refine zv_if_le (tgt := 38) X dX6_when_33 (by decide) rfl (fun q33 => ?_) (fun q33 => ?_)
      · replace h := h.1 q33
        refine zv_iinc (v := (x2 + 1)) (lv2 := [(2, .int (x2 + 1)), (0, .ref (Y.2.1 0)), (1, .int x1)]) X dX6_when_38 2 rfl rfl (by decide) rfl rfl ?_
        refine zv_goto (tgt := 16) X dX6_when_41 (by decide) ?_
        refine zv_sub (lv2 := [(0, .ref (Y.2.1 0)), (1, .int x1), (2, .int (x2 + 1))]) [1, 2, 0] rfl ?_
        exact ih x1 (x2 + 1) _ h
      · replace h := h.2 q33
        refine zv_iload_n X dX6_when_36 2 rfl rfl rfl ?_
        exact zv_iret X hr hlk h dX6_when_37
def pX6_when (x1 : Int32) (σ : zz_T) (Q : Int32 → zz_T → Prop) : Prop :=
    pX6_isHead x1 σ (fun r2 s2 =>
    ((r2 = 0 → Q (-1) s2) ∧
    (¬ r2 = 0 → pX6_starts s2 (fun s11 =>
    ∃ n16, pX6_when_16  Q n16 x1 0 s11))))
set_option maxHeartbeats 4000000 in
set_option maxRecDepth 100000 in
theorem kX6_when (l : Launch) {Y : zz_Y} (hJ : zz_J Y) (x1 : Int32) (hY : zz_mo Y) {σ : zz_T} {Q : Int32 → zz_T → Prop} (h : pX6_when x1 σ Q) : zz_Mi l yX6_when cX6_when 3 (some .int) rmX6_when Y [.ref (Y.2.1 0), .int x1] σ Q := by
  refine zz_Mi.start (by decide) hJ (Nat.le_of_ble_eq_true rfl) (fun p e s m below meth c X hr hlk => ?_)
  have X : zz_X p m c cX6_when 3 s _ RX6 := X
  refine zv_sub (lv2 := [(0, .ref (Y.2.1 0)), (1, .int x1)]) [0, 1] rfl ?_
  unfold pX6_when at h
  refine zv_aload_n X dX6_when_0 0 rfl rfl rfl ?_
  refine zv_iload_n X dX6_when_1 1 rfl rfl rfl ?_
  refine zv_cVi (k := 0) (ci := 6) X [.int x1] (kX6_isHead l hJ x1 hY h) jl_X6_215 ⟨rfl, rfl⟩ ⟨Nat.le_of_ble_eq_true rfl, Nat.le_of_ble_eq_true rfl⟩ (zz_mo_o hY).1 (by decide) (zz_mo_o hY).2 rfl rfl rfl (Nat.le_of_ble_eq_true rfl) dX6_when_2 rfl (fun r2 s2 h => ?_)
  refine zv_if_ne (tgt := 10) X dX6_when_5 (by decide) rfl (fun q5 => ?_) (fun q5 => ?_)
  · replace h := h.2 q5
    refine zv_aload_n X dX6_when_10 0 rfl rfl rfl ?_
    refine zv_cVv (k := 0) (ci := 6) X [] (kX6_starts l hJ  hY h) jl_X6_209 ⟨rfl, rfl⟩ ⟨Nat.le_of_ble_eq_true rfl, Nat.le_of_ble_eq_true rfl⟩ (zz_mo_o hY).1 (by decide) (zz_mo_o hY).2 rfl rfl rfl (Nat.le_of_ble_eq_true rfl) dX6_when_11 rfl (fun s11 h => ?_)
    refine zv_iconst (v := 0) X dX6_when_14 (by decide) rfl ?_
    refine zv_istore_n (lv2 := [(2, .int 0), (0, .ref (Y.2.1 0)), (1, .int x1)]) X dX6_when_15 rfl (by decide) rfl rfl ?_
    obtain ⟨n16, h⟩ := h
    refine zv_sub (lv2 := [(0, .ref (Y.2.1 0)), (1, .int x1), (2, .int 0)]) [1, 2, 0] rfl ?_
    exact vX6_when_16 X hr hlk hJ hY n16 x1 0 _ h
  · replace h := h.1 q5
    refine zv_iconst (v := (-1)) X dX6_when_8 (by decide) rfl ?_
    exact zv_iret X hr hlk h dX6_when_9
def rmX6_startsJudging : Room := { frames := 0, cells := 0, slots := 0, locals := 0 }
def pX6_startsJudging (x1 : Int32) (σ : zz_T) (Q : zz_T → Prop) : Prop :=
    Q (zz_i (zz_i σ 0 22 (-4)) 0 23 x1)
set_option maxHeartbeats 4000000 in
set_option maxRecDepth 100000 in
theorem kX6_startsJudging (l : Launch) {Y : zz_Y} (hJ : zz_J Y) (x1 : Int32) (hY : zz_mo Y) {σ : zz_T} {Q : zz_T → Prop} (h : pX6_startsJudging x1 σ Q) : zz_Mv l yX6_startsJudging cX6_startsJudging 2 none rmX6_startsJudging Y [.ref (Y.2.1 0), .int x1] σ Q := by
  refine zz_Mv.start (by decide) hJ (Nat.le_of_ble_eq_true rfl) (fun p e s m below meth c X hr hlk => ?_)
  have X : zz_X p m c cX6_startsJudging 2 s _ RX6 := X
  refine zv_sub (lv2 := [(0, .ref (Y.2.1 0)), (1, .int x1)]) [0, 1] rfl ?_
  unfold pX6_startsJudging at h
  refine zv_aload_n X dX6_startsJudging_0 0 rfl rfl rfl ?_
  refine zv_bipush (v := (-4)) X dX6_startsJudging_1 (by decide) rfl ?_
  refine zp_X6_22 (k := 0) X (zz_mo_o hY).1 (zz_mo_o hY).2 fl_X6_252 dX6_startsJudging_3 rfl ?_
  refine zv_aload_n X dX6_startsJudging_6 0 rfl rfl rfl ?_
  refine zv_iload_n X dX6_startsJudging_7 1 rfl rfl rfl ?_
  refine zp_X6_23 (k := 0) X (zz_mo_o hY).1 (zz_mo_o hY).2 fl_X6_255 dX6_startsJudging_8 rfl ?_
  exact zv_vret X hr hlk h dX6_startsJudging_11
def rmX6_judges : Room := { frames := 0, cells := 0, slots := 0, locals := 0 }
def pX6_judges (x1 : Int32) (x2 : Int32) (σ : zz_T) (Q : zz_T → Prop) : Prop :=
    (((σ.1 0 23) ≤ x2 → Q σ) ∧
    (¬ (σ.1 0 23) ≤ x2 → Q (zz_i (zz_i σ 0 22 x1) 0 23 x2)))
set_option maxHeartbeats 4000000 in
set_option maxRecDepth 100000 in
theorem kX6_judges (l : Launch) {Y : zz_Y} (hJ : zz_J Y) (x1 : Int32) (x2 : Int32) (hY : zz_mo Y) {σ : zz_T} {Q : zz_T → Prop} (h : pX6_judges x1 x2 σ Q) : zz_Mv l yX6_judges cX6_judges 3 none rmX6_judges Y [.ref (Y.2.1 0), .int x1, .int x2] σ Q := by
  refine zz_Mv.start (by decide) hJ (Nat.le_of_ble_eq_true rfl) (fun p e s m below meth c X hr hlk => ?_)
  have X : zz_X p m c cX6_judges 3 s _ RX6 := X
  refine zv_sub (lv2 := [(0, .ref (Y.2.1 0)), (1, .int x1), (2, .int x2)]) [0, 1, 2] rfl ?_
  unfold pX6_judges at h
  refine zv_iload_n X dX6_judges_0 2 rfl rfl rfl ?_
  refine zv_aload_n X dX6_judges_1 0 rfl rfl rfl ?_
  refine zg_X6_23 (k := 0) X (zz_mo_o hY).1 (zz_mo_o hY).2 fl_X6_255 dX6_judges_2 rfl ?_
  refine zv_icmp_ge (tgt := 18) X dX6_judges_5 (by decide) rfl (fun q5 => ?_) (fun q5 => ?_)
  · replace h := h.1 q5
    exact zv_vret X hr hlk h dX6_judges_18
  · replace h := h.2 q5
    refine zv_aload_n X dX6_judges_8 0 rfl rfl rfl ?_
    refine zv_iload_n X dX6_judges_9 1 rfl rfl rfl ?_
    refine zp_X6_22 (k := 0) X (zz_mo_o hY).1 (zz_mo_o hY).2 fl_X6_252 dX6_judges_10 rfl ?_
    refine zv_aload_n X dX6_judges_13 0 rfl rfl rfl ?_
    refine zv_iload_n X dX6_judges_14 2 rfl rfl rfl ?_
    refine zp_X6_23 (k := 0) X (zz_mo_o hY).1 (zz_mo_o hY).2 fl_X6_255 dX6_judges_15 rfl ?_
    exact zv_vret X hr hlk h dX6_judges_18
def rmX6_judged : Room := { frames := 0, cells := 0, slots := 0, locals := 0 }
def pX6_judged (x1 : Int32) (σ : zz_T) (Q : Int32 → zz_T → Prop) : Prop :=
    (((σ.1 0 22) = (-4) → Q (-4) σ) ∧
    (¬ (σ.1 0 22) = (-4) → ((x1 = 0 → Q (σ.1 0 22) σ) ∧
    (¬ x1 = 0 → Q (σ.1 0 23) σ))))
set_option maxHeartbeats 4000000 in
set_option maxRecDepth 100000 in
theorem kX6_judged (l : Launch) {Y : zz_Y} (hJ : zz_J Y) (x1 : Int32) (hY : zz_mo Y) {σ : zz_T} {Q : Int32 → zz_T → Prop} (h : pX6_judged x1 σ Q) : zz_Mi l yX6_judged cX6_judged 2 (some .int) rmX6_judged Y [.ref (Y.2.1 0), .int x1] σ Q := by
  refine zz_Mi.start (by decide) hJ (Nat.le_of_ble_eq_true rfl) (fun p e s m below meth c X hr hlk => ?_)
  have X : zz_X p m c cX6_judged 2 s _ RX6 := X
  refine zv_sub (lv2 := [(0, .ref (Y.2.1 0)), (1, .int x1)]) [0, 1] rfl ?_
  unfold pX6_judged at h
  refine zv_aload_n X dX6_judged_0 0 rfl rfl rfl ?_
  refine zg_X6_22 (k := 0) X (zz_mo_o hY).1 (zz_mo_o hY).2 fl_X6_252 dX6_judged_1 rfl ?_
  refine zv_bipush (v := (-4)) X dX6_judged_4 (by decide) rfl ?_
  refine zv_icmp_ne (tgt := 14) X dX6_judged_6 (by decide) rfl (fun q6 => ?_) (fun q6 => ?_)
  · replace h := h.2 q6
    refine zv_iload_n X dX6_judged_14 1 rfl rfl rfl ?_
    refine zv_if_ne (tgt := 25) X dX6_judged_15 (by decide) rfl (fun q15 => ?_) (fun q15 => ?_)
    · replace h := h.2 q15
      refine zv_aload_n X dX6_judged_25 0 rfl rfl rfl ?_
      refine zg_X6_23 (k := 0) X (zz_mo_o hY).1 (zz_mo_o hY).2 fl_X6_255 dX6_judged_26 rfl ?_
      exact zv_iret X hr hlk h dX6_judged_29
    · replace h := h.1 q15
      refine zv_aload_n X dX6_judged_18 0 rfl rfl rfl ?_
      refine zg_X6_22 (k := 0) X (zz_mo_o hY).1 (zz_mo_o hY).2 fl_X6_252 dX6_judged_19 rfl ?_
      refine zv_goto (tgt := 29) X dX6_judged_22 (by decide) ?_
      exact zv_iret X hr hlk h dX6_judged_29
  · replace h := h.1 q6
    refine zv_bipush (v := (-4)) X dX6_judged_9 (by decide) rfl ?_
    refine zv_goto (tgt := 29) X dX6_judged_11 (by decide) ?_
    exact zv_iret X hr hlk h dX6_judged_29
def rmX6_bestOf : Room := { frames := 5, cells := 0, slots := 0, locals := 124 }
def pX6_bestOf_9  (Q : Int32 → zz_T → Prop) : Nat → Int32 → Int32 → Int32 → Int32 → Int32 → Int32 → zz_T → Prop
  | 0, _, _, _, _, _, _, _ => False
  | n + 1, x1, x2, x3, x4, x5, x6, σ =>
    ((x3 < x6 → pX6_judged x5 σ (fun r59 s59 =>
    Q r59 s59)) ∧
    (¬ x3 < x6 → pX6_starts σ (fun s16 =>
    vp_in ((11 * x1) + x2) 70 ∧
    pX6_rowsGo x4 (zz_i s16 2 (Int32.toNatClampNeg ((11 * x1) + x2)) x6) (fun s35 =>
    vp_in x1 3 ∧
    pX6_judges x6 (s35.1 7 (Int32.toNatClampNeg x1)) s35 (fun s47 =>
    pX6_bestOf_9  Q n x1 x2 x3 x4 x5 (x6 + 1) s47)))))
set_option maxHeartbeats 4000000 in
set_option maxRecDepth 100000 in
theorem vX6_bestOf_9 {p : Program} {l : Launch} {e : Env} {s : State} {m : MethodId} {args : Array Value} {below : List Frame} {meth : Method} {c : Code} {Y : zz_Y}  {Q : Int32 → zz_T → Prop} (X : zz_X p m c cX6_bestOf 7 s args RX6) (hr : meth.sig.returnType = (some .int)) (hlk : meth.locks = false) (hJ : zz_J Y) (hY : zz_mo Y)  : ∀ (n : Nat) (x1 : Int32) (x2 : Int32) (x3 : Int32) (x4 : Int32) (x5 : Int32) (x6 : Int32) (σ : zz_T), pX6_bestOf_9  Q n x1 x2 x3 x4 x5 x6 σ → zz_V p l e rmX6_bestOf s m args below meth c (MQ below (va_Qi Q (zz_E Y) (zz_A Y)) args s 0 0 (zz_A Y)) 7 Y σ 9 [(0, .ref (Y.2.1 0)), (1, .int x1), (2, .int x2), (3, .int x3), (4, .int x4), (5, .int x5), (6, .int x6)] [] := by
  intro n
  induction n with
  | zero => intro x1 x2 x3 x4 x5 x6 σ h; exact h.elim
  | succ n ih =>
    intro x1 x2 x3 x4 x5 x6 σ h 
    unfold pX6_bestOf_9 at h
    refine zv_iload X dX6_bestOf_9 6 rfl rfl ?_
    refine zv_iload_n X dX6_bestOf_11 3 rfl rfl rfl ?_
    refine zv_icmp_gt (tgt := 56) X dX6_bestOf_12 (by decide) rfl (fun q12 => ?_) (fun q12 => ?_)
    · replace h := h.1 q12
      refine zv_aload_n X dX6_bestOf_56 0 rfl rfl rfl ?_
      refine zv_iload X dX6_bestOf_57 5 rfl rfl ?_
      refine zv_cVi (k := 0) (ci := 6) X [.int x5] (kX6_judged l hJ x5 hY h) jl_X6_265 ⟨rfl, rfl⟩ ⟨Nat.le_of_ble_eq_true rfl, Nat.le_of_ble_eq_true rfl⟩ (zz_mo_o hY).1 (by decide) (zz_mo_o hY).2 rfl rfl rfl (Nat.le_of_ble_eq_true rfl) dX6_bestOf_59 rfl (fun r59 s59 h => ?_)
      exact zv_iret X hr hlk h dX6_bestOf_62
    · replace h := h.2 q12
      refine zv_aload_n X dX6_bestOf_15 0 rfl rfl rfl ?_
      refine zv_cVv (k := 0) (ci := 6) X [] (kX6_starts l hJ  hY h) jl_X6_209 ⟨rfl, rfl⟩ ⟨Nat.le_of_ble_eq_true rfl, Nat.le_of_ble_eq_true rfl⟩ (zz_mo_o hY).1 (by decide) (zz_mo_o hY).2 rfl rfl rfl (Nat.le_of_ble_eq_true rfl) dX6_bestOf_16 rfl (fun s16 h => ?_)
      refine zv_aload_n X dX6_bestOf_19 0 rfl rfl rfl ?_
      refine zg_X6_1 (k := 0) X (zz_mo_o hY).1 (zz_mo_o hY).2 fl_X6_13 dX6_bestOf_20 rfl ?_
      refine zv_bipush (v := 11) X dX6_bestOf_23 (by decide) rfl ?_
      refine zv_iload_n X dX6_bestOf_25 1 rfl rfl rfl ?_
      refine zv_imul X dX6_bestOf_26 rfl ?_
      refine zv_iload_n X dX6_bestOf_27 2 rfl rfl rfl ?_
      refine zv_iadd X dX6_bestOf_28 rfl ?_
      refine zv_iload X dX6_bestOf_29 6 rfl rfl ?_
      obtain ⟨hi31, h⟩ := h
      refine zv_iast (k := 2) X (zz_mo_now hY).1 (zz_mo_now hY).2 hi31 dX6_bestOf_31 rfl ?_
      refine zv_aload_n X dX6_bestOf_32 0 rfl rfl rfl ?_
      refine zv_iload X dX6_bestOf_33 4 rfl rfl ?_
      refine zv_cVv (k := 0) (ci := 6) X [.int x4] (kX6_rowsGo l hJ x4 hY h) jl_X6_206 ⟨rfl, rfl⟩ ⟨Nat.le_of_ble_eq_true rfl, Nat.le_of_ble_eq_true rfl⟩ (zz_mo_o hY).1 (by decide) (zz_mo_o hY).2 rfl rfl rfl (Nat.le_of_ble_eq_true rfl) dX6_bestOf_35 rfl (fun s35 h => ?_)
      refine zv_aload_n X dX6_bestOf_38 0 rfl rfl rfl ?_
      refine zv_iload X dX6_bestOf_39 6 rfl rfl ?_
      refine zv_aload_n X dX6_bestOf_41 0 rfl rfl rfl ?_
      refine zg_X6_18 (k := 0) X (zz_mo_o hY).1 (zz_mo_o hY).2 fl_X6_29 dX6_bestOf_42 rfl ?_
      refine zv_iload_n X dX6_bestOf_45 1 rfl rfl rfl ?_
      obtain ⟨hi46, h⟩ := h
      refine zv_iald (k := 7) X (zz_mo_wrongBy hY).1 (zz_mo_wrongBy hY).2 hi46 dX6_bestOf_46 rfl ?_
      refine zv_cVv (k := 0) (ci := 6) X [.int x6, .int (s35.1 7 (Int32.toNatClampNeg x1))] (kX6_judges l hJ x6 (s35.1 7 (Int32.toNatClampNeg x1)) hY h) jl_X6_261 ⟨rfl, rfl⟩ ⟨Nat.le_of_ble_eq_true rfl, Nat.le_of_ble_eq_true rfl⟩ (zz_mo_o hY).1 (by decide) (zz_mo_o hY).2 rfl rfl rfl (Nat.le_of_ble_eq_true rfl) dX6_bestOf_47 rfl (fun s47 h => ?_)
      refine zv_iinc (v := (x6 + 1)) (lv2 := [(6, .int (x6 + 1)), (0, .ref (Y.2.1 0)), (1, .int x1), (2, .int x2), (3, .int x3), (4, .int x4), (5, .int x5)]) X dX6_bestOf_50 6 rfl rfl (by decide) rfl rfl ?_
      refine zv_goto (tgt := 9) X dX6_bestOf_53 (by decide) ?_
      refine zv_sub (lv2 := [(0, .ref (Y.2.1 0)), (1, .int x1), (2, .int x2), (3, .int x3), (4, .int x4), (5, .int x5), (6, .int (x6 + 1))]) [1, 2, 3, 4, 5, 6, 0] rfl ?_
      exact ih x1 x2 x3 x4 x5 (x6 + 1) _ h
def pX6_bestOf (x1 : Int32) (x2 : Int32) (x3 : Int32) (x4 : Int32) (x5 : Int32) (σ : zz_T) (Q : Int32 → zz_T → Prop) : Prop :=
    pX6_startsJudging 1000000 σ (fun s3 =>
    ∃ n9, pX6_bestOf_9  Q n9 x1 x2 x3 x4 x5 0 s3)
set_option maxHeartbeats 4000000 in
set_option maxRecDepth 100000 in
theorem kX6_bestOf (l : Launch) {Y : zz_Y} (hJ : zz_J Y) (x1 : Int32) (x2 : Int32) (x3 : Int32) (x4 : Int32) (x5 : Int32) (hY : zz_mo Y) {σ : zz_T} {Q : Int32 → zz_T → Prop} (h : pX6_bestOf x1 x2 x3 x4 x5 σ Q) : zz_Mi l yX6_bestOf cX6_bestOf 7 (some .int) rmX6_bestOf Y [.ref (Y.2.1 0), .int x1, .int x2, .int x3, .int x4, .int x5] σ Q := by
  refine zz_Mi.start (by decide) hJ (Nat.le_of_ble_eq_true rfl) (fun p e s m below meth c X hr hlk => ?_)
  have X : zz_X p m c cX6_bestOf 7 s _ RX6 := X
  refine zv_sub (lv2 := [(0, .ref (Y.2.1 0)), (1, .int x1), (2, .int x2), (3, .int x3), (4, .int x4), (5, .int x5)]) [0, 1, 2, 3, 4, 5] rfl ?_
  unfold pX6_bestOf at h
  refine zv_aload_n X dX6_bestOf_0 0 rfl rfl rfl ?_
  refine zv_ldc (v := 1000000) X dX6_bestOf_1 co_X6_170 rfl ?_
  refine zv_cVv (k := 0) (ci := 6) X [.int 1000000] (kX6_startsJudging l hJ 1000000 hY h) jl_X6_258 ⟨rfl, rfl⟩ ⟨Nat.le_of_ble_eq_true rfl, Nat.le_of_ble_eq_true rfl⟩ (zz_mo_o hY).1 (by decide) (zz_mo_o hY).2 rfl rfl rfl (Nat.le_of_ble_eq_true rfl) dX6_bestOf_3 rfl (fun s3 h => ?_)
  refine zv_iconst (v := 0) X dX6_bestOf_6 (by decide) rfl ?_
  refine zv_istore (lv2 := [(6, .int 0), (0, .ref (Y.2.1 0)), (1, .int x1), (2, .int x2), (3, .int x3), (4, .int x4), (5, .int x5)]) X dX6_bestOf_7 (by decide) rfl rfl ?_
  obtain ⟨n9, h⟩ := h
  refine zv_sub (lv2 := [(0, .ref (Y.2.1 0)), (1, .int x1), (2, .int x2), (3, .int x3), (4, .int x4), (5, .int x5), (6, .int 0)]) [1, 2, 3, 4, 5, 6, 0] rfl ?_
  exact vX6_bestOf_9 X hr hlk hJ hY n9 x1 x2 x3 x4 x5 0 _ h
def rmX6_power : Room := { frames := 6, cells := 0, slots := 0, locals := 150 }
def pX6_power (x1 : Int32) (x2 : Int32) (x3 : Int32) (σ : zz_T) (Q : Int32 → zz_T → Prop) : Prop :=
    pX6_isHead x1 σ (fun r2 s2 =>
    ((r2 = 0 → Q (-1) s2) ∧
    (¬ r2 = 0 → pX6_isFar x2 s2 (fun r9 s9 =>
    ((r9 = 0 → Q (-1) s9) ∧
    (¬ r9 = 0 → pX6_isPart x3 s9 (fun r16 s16 =>
    ((r16 = 0 → Q (-1) s16) ∧
    (¬ r16 = 0 → pX6_bestOf x1 1 30 x2 x3 s16 (fun r29 s29 =>
    Q r29 s29))))))))))
set_option maxHeartbeats 4000000 in
set_option maxRecDepth 100000 in
theorem kX6_power (l : Launch) {Y : zz_Y} (hJ : zz_J Y) (x1 : Int32) (x2 : Int32) (x3 : Int32) (hY : zz_mo Y) {σ : zz_T} {Q : Int32 → zz_T → Prop} (h : pX6_power x1 x2 x3 σ Q) : zz_Mi l yX6_power cX6_power 4 (some .int) rmX6_power Y [.ref (Y.2.1 0), .int x1, .int x2, .int x3] σ Q := by
  refine zz_Mi.start (by decide) hJ (Nat.le_of_ble_eq_true rfl) (fun p e s m below meth c X hr hlk => ?_)
  have X : zz_X p m c cX6_power 4 s _ RX6 := X
  refine zv_sub (lv2 := [(0, .ref (Y.2.1 0)), (1, .int x1), (2, .int x2), (3, .int x3)]) [0, 1, 2, 3] rfl ?_
  unfold pX6_power at h
  refine zv_aload_n X dX6_power_0 0 rfl rfl rfl ?_
  refine zv_iload_n X dX6_power_1 1 rfl rfl rfl ?_
  refine zv_cVi (k := 0) (ci := 6) X [.int x1] (kX6_isHead l hJ x1 hY h) jl_X6_215 ⟨rfl, rfl⟩ ⟨Nat.le_of_ble_eq_true rfl, Nat.le_of_ble_eq_true rfl⟩ (zz_mo_o hY).1 (by decide) (zz_mo_o hY).2 rfl rfl rfl (Nat.le_of_ble_eq_true rfl) dX6_power_2 rfl (fun r2 s2 h => ?_)
  refine zv_if_eq (tgt := 35) X dX6_power_5 (by decide) rfl (fun q5 => ?_) (fun q5 => ?_)
  · replace h := h.1 q5
    refine zv_iconst (v := (-1)) X dX6_power_35 (by decide) rfl ?_
    exact zv_iret X hr hlk h dX6_power_36
  · replace h := h.2 q5
    refine zv_iload_n X dX6_power_8 2 rfl rfl rfl ?_
    refine zv_cSi X [.int x2] (kX6_isFar l hJ x2  h) jl_X6_246 ⟨rfl, rfl⟩ ⟨Nat.le_of_ble_eq_true rfl, Nat.le_of_ble_eq_true rfl⟩ rfl rfl (Nat.le_of_ble_eq_true rfl) dX6_power_9 rfl (fun r9 s9 h => ?_)
    refine zv_if_eq (tgt := 35) X dX6_power_12 (by decide) rfl (fun q12 => ?_) (fun q12 => ?_)
    · replace h := h.1 q12
      refine zv_iconst (v := (-1)) X dX6_power_35 (by decide) rfl ?_
      exact zv_iret X hr hlk h dX6_power_36
    · replace h := h.2 q12
      refine zv_iload_n X dX6_power_15 3 rfl rfl rfl ?_
      refine zv_cSi X [.int x3] (kX6_isPart l hJ x3  h) jl_X6_227 ⟨rfl, rfl⟩ ⟨Nat.le_of_ble_eq_true rfl, Nat.le_of_ble_eq_true rfl⟩ rfl rfl (Nat.le_of_ble_eq_true rfl) dX6_power_16 rfl (fun r16 s16 h => ?_)
      refine zv_if_eq (tgt := 35) X dX6_power_19 (by decide) rfl (fun q19 => ?_) (fun q19 => ?_)
      · replace h := h.1 q19
        refine zv_iconst (v := (-1)) X dX6_power_35 (by decide) rfl ?_
        exact zv_iret X hr hlk h dX6_power_36
      · replace h := h.2 q19
        refine zv_aload_n X dX6_power_22 0 rfl rfl rfl ?_
        refine zv_iload_n X dX6_power_23 1 rfl rfl rfl ?_
        refine zv_iconst (v := 1) X dX6_power_24 (by decide) rfl ?_
        refine zv_bipush (v := 30) X dX6_power_25 (by decide) rfl ?_
        refine zv_iload_n X dX6_power_27 2 rfl rfl rfl ?_
        refine zv_iload_n X dX6_power_28 3 rfl rfl rfl ?_
        refine zv_cVi (k := 0) (ci := 6) X [.int x1, .int 1, .int 30, .int x2, .int x3] (kX6_bestOf l hJ x1 1 30 x2 x3 hY h) jl_X6_268 ⟨rfl, rfl⟩ ⟨Nat.le_of_ble_eq_true rfl, Nat.le_of_ble_eq_true rfl⟩ (zz_mo_o hY).1 (by decide) (zz_mo_o hY).2 rfl rfl rfl (Nat.le_of_ble_eq_true rfl) dX6_power_29 rfl (fun r29 s29 h => ?_)
        refine zv_goto (tgt := 36) X dX6_power_32 (by decide) ?_
        exact zv_iret X hr hlk h dX6_power_36
def rmX6_kind : Room := { frames := 6, cells := 0, slots := 0, locals := 150 }
def pX6_kind (x1 : Int32) (x2 : Int32) (x3 : Int32) (σ : zz_T) (Q : Int32 → zz_T → Prop) : Prop :=
    pX6_isHead x1 σ (fun r2 s2 =>
    ((r2 = 0 → Q (-1) s2) ∧
    (¬ r2 = 0 → pX6_isFar x2 s2 (fun r9 s9 =>
    ((r9 = 0 → Q (-1) s9) ∧
    (¬ r9 = 0 → pX6_isPart x3 s9 (fun r16 s16 =>
    ((r16 = 0 → Q (-1) s16) ∧
    (¬ r16 = 0 → pX6_bestOf x1 0 3 x2 x3 s16 (fun r28 s28 =>
    Q r28 s28))))))))))
set_option maxHeartbeats 4000000 in
set_option maxRecDepth 100000 in
theorem kX6_kind (l : Launch) {Y : zz_Y} (hJ : zz_J Y) (x1 : Int32) (x2 : Int32) (x3 : Int32) (hY : zz_mo Y) {σ : zz_T} {Q : Int32 → zz_T → Prop} (h : pX6_kind x1 x2 x3 σ Q) : zz_Mi l yX6_kind cX6_kind 4 (some .int) rmX6_kind Y [.ref (Y.2.1 0), .int x1, .int x2, .int x3] σ Q := by
  refine zz_Mi.start (by decide) hJ (Nat.le_of_ble_eq_true rfl) (fun p e s m below meth c X hr hlk => ?_)
  have X : zz_X p m c cX6_kind 4 s _ RX6 := X
  refine zv_sub (lv2 := [(0, .ref (Y.2.1 0)), (1, .int x1), (2, .int x2), (3, .int x3)]) [0, 1, 2, 3] rfl ?_
  unfold pX6_kind at h
  refine zv_aload_n X dX6_kind_0 0 rfl rfl rfl ?_
  refine zv_iload_n X dX6_kind_1 1 rfl rfl rfl ?_
  refine zv_cVi (k := 0) (ci := 6) X [.int x1] (kX6_isHead l hJ x1 hY h) jl_X6_215 ⟨rfl, rfl⟩ ⟨Nat.le_of_ble_eq_true rfl, Nat.le_of_ble_eq_true rfl⟩ (zz_mo_o hY).1 (by decide) (zz_mo_o hY).2 rfl rfl rfl (Nat.le_of_ble_eq_true rfl) dX6_kind_2 rfl (fun r2 s2 h => ?_)
  refine zv_if_eq (tgt := 34) X dX6_kind_5 (by decide) rfl (fun q5 => ?_) (fun q5 => ?_)
  · replace h := h.1 q5
    refine zv_iconst (v := (-1)) X dX6_kind_34 (by decide) rfl ?_
    exact zv_iret X hr hlk h dX6_kind_35
  · replace h := h.2 q5
    refine zv_iload_n X dX6_kind_8 2 rfl rfl rfl ?_
    refine zv_cSi X [.int x2] (kX6_isFar l hJ x2  h) jl_X6_246 ⟨rfl, rfl⟩ ⟨Nat.le_of_ble_eq_true rfl, Nat.le_of_ble_eq_true rfl⟩ rfl rfl (Nat.le_of_ble_eq_true rfl) dX6_kind_9 rfl (fun r9 s9 h => ?_)
    refine zv_if_eq (tgt := 34) X dX6_kind_12 (by decide) rfl (fun q12 => ?_) (fun q12 => ?_)
    · replace h := h.1 q12
      refine zv_iconst (v := (-1)) X dX6_kind_34 (by decide) rfl ?_
      exact zv_iret X hr hlk h dX6_kind_35
    · replace h := h.2 q12
      refine zv_iload_n X dX6_kind_15 3 rfl rfl rfl ?_
      refine zv_cSi X [.int x3] (kX6_isPart l hJ x3  h) jl_X6_227 ⟨rfl, rfl⟩ ⟨Nat.le_of_ble_eq_true rfl, Nat.le_of_ble_eq_true rfl⟩ rfl rfl (Nat.le_of_ble_eq_true rfl) dX6_kind_16 rfl (fun r16 s16 h => ?_)
      refine zv_if_eq (tgt := 34) X dX6_kind_19 (by decide) rfl (fun q19 => ?_) (fun q19 => ?_)
      · replace h := h.1 q19
        refine zv_iconst (v := (-1)) X dX6_kind_34 (by decide) rfl ?_
        exact zv_iret X hr hlk h dX6_kind_35
      · replace h := h.2 q19
        refine zv_aload_n X dX6_kind_22 0 rfl rfl rfl ?_
        refine zv_iload_n X dX6_kind_23 1 rfl rfl rfl ?_
        refine zv_iconst (v := 0) X dX6_kind_24 (by decide) rfl ?_
        refine zv_iconst (v := 3) X dX6_kind_25 (by decide) rfl ?_
        refine zv_iload_n X dX6_kind_26 2 rfl rfl rfl ?_
        refine zv_iload_n X dX6_kind_27 3 rfl rfl rfl ?_
        refine zv_cVi (k := 0) (ci := 6) X [.int x1, .int 0, .int 3, .int x2, .int x3] (kX6_bestOf l hJ x1 0 3 x2 x3 hY h) jl_X6_268 ⟨rfl, rfl⟩ ⟨Nat.le_of_ble_eq_true rfl, Nat.le_of_ble_eq_true rfl⟩ (zz_mo_o hY).1 (by decide) (zz_mo_o hY).2 rfl rfl rfl (Nat.le_of_ble_eq_true rfl) dX6_kind_28 rfl (fun r28 s28 h => ?_)
        refine zv_goto (tgt := 35) X dX6_kind_31 (by decide) ?_
        exact zv_iret X hr hlk h dX6_kind_35
def rmX6_best : Room := { frames := 6, cells := 0, slots := 0, locals := 145 }
def pX6_best_35  (Q : Int32 → zz_T → Prop) : Nat → Int32 → Int32 → Int32 → Int32 → zz_T → Prop
  | 0, _, _, _, _, _ => False
  | n + 1, x1, x2, x3, x4, σ =>
    pX6_mostOf x1 σ (fun r38 s38 =>
    ((r38 < x4 → pX6_judged x3 s38 (fun r78 s78 =>
    Q r78 s78)) ∧
    (¬ r38 < x4 → pX6_starts s38 (fun s45 =>
    vp_in (34 + x1) 70 ∧
    pX6_wrongIn x2 (zz_i s45 2 (Int32.toNatClampNeg (34 + x1)) x4) (fun r64 s64 =>
    pX6_judges x4 r64 s64 (fun s67 =>
    pX6_best_35  Q n x1 x2 x3 (x4 + 1) s67))))))
set_option maxHeartbeats 4000000 in
set_option maxRecDepth 100000 in
theorem vX6_best_35 {p : Program} {l : Launch} {e : Env} {s : State} {m : MethodId} {args : Array Value} {below : List Frame} {meth : Method} {c : Code} {Y : zz_Y}  {Q : Int32 → zz_T → Prop} (X : zz_X p m c cX6_best 5 s args RX6) (hr : meth.sig.returnType = (some .int)) (hlk : meth.locks = false) (hJ : zz_J Y) (hY : zz_mo Y)  : ∀ (n : Nat) (x1 : Int32) (x2 : Int32) (x3 : Int32) (x4 : Int32) (σ : zz_T), pX6_best_35  Q n x1 x2 x3 x4 σ → zz_V p l e rmX6_best s m args below meth c (MQ below (va_Qi Q (zz_E Y) (zz_A Y)) args s 0 0 (zz_A Y)) 5 Y σ 35 [(0, .ref (Y.2.1 0)), (1, .int x1), (2, .int x2), (3, .int x3), (4, .int x4)] [] := by
  intro n
  induction n with
  | zero => intro x1 x2 x3 x4 σ h; exact h.elim
  | succ n ih =>
    intro x1 x2 x3 x4 σ h 
    unfold pX6_best_35 at h
    refine zv_iload X dX6_best_35 4 rfl rfl ?_
    refine zv_iload_n X dX6_best_37 1 rfl rfl rfl ?_
    refine zv_cSi X [.int x1] (kX6_mostOf l hJ x1  h) jl_X6_130 ⟨rfl, rfl⟩ ⟨Nat.le_of_ble_eq_true rfl, Nat.le_of_ble_eq_true rfl⟩ rfl rfl (Nat.le_of_ble_eq_true rfl) dX6_best_38 rfl (fun r38 s38 h => ?_)
    refine zv_icmp_gt (tgt := 76) X dX6_best_41 (by decide) rfl (fun q41 => ?_) (fun q41 => ?_)
    · replace h := h.1 q41
      refine zv_aload_n X dX6_best_76 0 rfl rfl rfl ?_
      refine zv_iload_n X dX6_best_77 3 rfl rfl rfl ?_
      refine zv_cVi (k := 0) (ci := 6) X [.int x3] (kX6_judged l hJ x3 hY h) jl_X6_265 ⟨rfl, rfl⟩ ⟨Nat.le_of_ble_eq_true rfl, Nat.le_of_ble_eq_true rfl⟩ (zz_mo_o hY).1 (by decide) (zz_mo_o hY).2 rfl rfl rfl (Nat.le_of_ble_eq_true rfl) dX6_best_78 rfl (fun r78 s78 h => ?_)
      exact zv_iret X hr hlk h dX6_best_81
    · replace h := h.2 q41
      refine zv_aload_n X dX6_best_44 0 rfl rfl rfl ?_
      refine zv_cVv (k := 0) (ci := 6) X [] (kX6_starts l hJ  hY h) jl_X6_209 ⟨rfl, rfl⟩ ⟨Nat.le_of_ble_eq_true rfl, Nat.le_of_ble_eq_true rfl⟩ (zz_mo_o hY).1 (by decide) (zz_mo_o hY).2 rfl rfl rfl (Nat.le_of_ble_eq_true rfl) dX6_best_45 rfl (fun s45 h => ?_)
      refine zv_aload_n X dX6_best_48 0 rfl rfl rfl ?_
      refine zg_X6_1 (k := 0) X (zz_mo_o hY).1 (zz_mo_o hY).2 fl_X6_13 dX6_best_49 rfl ?_
      refine zv_bipush (v := 34) X dX6_best_52 (by decide) rfl ?_
      refine zv_iload_n X dX6_best_54 1 rfl rfl rfl ?_
      refine zv_iadd X dX6_best_55 rfl ?_
      refine zv_iload X dX6_best_56 4 rfl rfl ?_
      obtain ⟨hi58, h⟩ := h
      refine zv_iast (k := 2) X (zz_mo_now hY).1 (zz_mo_now hY).2 hi58 dX6_best_58 rfl ?_
      refine zv_aload_n X dX6_best_59 0 rfl rfl rfl ?_
      refine zv_iload X dX6_best_60 4 rfl rfl ?_
      refine zv_aload_n X dX6_best_62 0 rfl rfl rfl ?_
      refine zv_iload_n X dX6_best_63 2 rfl rfl rfl ?_
      refine zv_cVi (k := 0) (ci := 6) X [.int x2] (kX6_wrongIn l hJ x2 hY h) jl_X6_272 ⟨rfl, rfl⟩ ⟨Nat.le_of_ble_eq_true rfl, Nat.le_of_ble_eq_true rfl⟩ (zz_mo_o hY).1 (by decide) (zz_mo_o hY).2 rfl rfl rfl (Nat.le_of_ble_eq_true rfl) dX6_best_64 rfl (fun r64 s64 h => ?_)
      refine zv_cVv (k := 0) (ci := 6) X [.int x4, .int r64] (kX6_judges l hJ x4 r64 hY h) jl_X6_261 ⟨rfl, rfl⟩ ⟨Nat.le_of_ble_eq_true rfl, Nat.le_of_ble_eq_true rfl⟩ (zz_mo_o hY).1 (by decide) (zz_mo_o hY).2 rfl rfl rfl (Nat.le_of_ble_eq_true rfl) dX6_best_67 rfl (fun s67 h => ?_)
      refine zv_iinc (v := (x4 + 1)) (lv2 := [(4, .int (x4 + 1)), (0, .ref (Y.2.1 0)), (1, .int x1), (2, .int x2), (3, .int x3)]) X dX6_best_70 4 rfl rfl (by decide) rfl rfl ?_
      refine zv_goto (tgt := 35) X dX6_best_73 (by decide) ?_
      refine zv_sub (lv2 := [(0, .ref (Y.2.1 0)), (1, .int x1), (2, .int x2), (3, .int x3), (4, .int (x4 + 1))]) [1, 2, 3, 4, 0] rfl ?_
      exact ih x1 x2 x3 (x4 + 1) _ h
def pX6_best (x1 : Int32) (x2 : Int32) (x3 : Int32) (σ : zz_T) (Q : Int32 → zz_T → Prop) : Prop :=
    pX6_isPart x1 σ (fun r1 s1 =>
    ((r1 = 0 → Q (-1) s1) ∧
    (¬ r1 = 0 → pX6_isFar x2 s1 (fun r8 s8 =>
    ((r8 = 0 → Q (-1) s8) ∧
    (¬ r8 = 0 → pX6_isPart x3 s8 (fun r15 s15 =>
    ((r15 = 0 → Q (-1) s15) ∧
    (¬ r15 = 0 → pX6_startsJudging 1000000 s15 (fun s26 =>
    pX6_lowOf x1 s26 (fun r30 s30 =>
    ∃ n35, pX6_best_35  Q n35 x1 x2 x3 r30 s30)))))))))))
set_option maxHeartbeats 4000000 in
set_option maxRecDepth 100000 in
theorem kX6_best (l : Launch) {Y : zz_Y} (hJ : zz_J Y) (x1 : Int32) (x2 : Int32) (x3 : Int32) (hY : zz_mo Y) {σ : zz_T} {Q : Int32 → zz_T → Prop} (h : pX6_best x1 x2 x3 σ Q) : zz_Mi l yX6_best cX6_best 5 (some .int) rmX6_best Y [.ref (Y.2.1 0), .int x1, .int x2, .int x3] σ Q := by
  refine zz_Mi.start (by decide) hJ (Nat.le_of_ble_eq_true rfl) (fun p e s m below meth c X hr hlk => ?_)
  have X : zz_X p m c cX6_best 5 s _ RX6 := X
  refine zv_sub (lv2 := [(0, .ref (Y.2.1 0)), (1, .int x1), (2, .int x2), (3, .int x3)]) [0, 1, 2, 3] rfl ?_
  unfold pX6_best at h
  refine zv_iload_n X dX6_best_0 1 rfl rfl rfl ?_
  refine zv_cSi X [.int x1] (kX6_isPart l hJ x1  h) jl_X6_227 ⟨rfl, rfl⟩ ⟨Nat.le_of_ble_eq_true rfl, Nat.le_of_ble_eq_true rfl⟩ rfl rfl (Nat.le_of_ble_eq_true rfl) dX6_best_1 rfl (fun r1 s1 h => ?_)
  refine zv_if_eq (tgt := 21) X dX6_best_4 (by decide) rfl (fun q4 => ?_) (fun q4 => ?_)
  · replace h := h.1 q4
    refine zv_iconst (v := (-1)) X dX6_best_21 (by decide) rfl ?_
    exact zv_iret X hr hlk h dX6_best_22
  · replace h := h.2 q4
    refine zv_iload_n X dX6_best_7 2 rfl rfl rfl ?_
    refine zv_cSi X [.int x2] (kX6_isFar l hJ x2  h) jl_X6_246 ⟨rfl, rfl⟩ ⟨Nat.le_of_ble_eq_true rfl, Nat.le_of_ble_eq_true rfl⟩ rfl rfl (Nat.le_of_ble_eq_true rfl) dX6_best_8 rfl (fun r8 s8 h => ?_)
    refine zv_if_eq (tgt := 21) X dX6_best_11 (by decide) rfl (fun q11 => ?_) (fun q11 => ?_)
    · replace h := h.1 q11
      refine zv_iconst (v := (-1)) X dX6_best_21 (by decide) rfl ?_
      exact zv_iret X hr hlk h dX6_best_22
    · replace h := h.2 q11
      refine zv_iload_n X dX6_best_14 3 rfl rfl rfl ?_
      refine zv_cSi X [.int x3] (kX6_isPart l hJ x3  h) jl_X6_227 ⟨rfl, rfl⟩ ⟨Nat.le_of_ble_eq_true rfl, Nat.le_of_ble_eq_true rfl⟩ rfl rfl (Nat.le_of_ble_eq_true rfl) dX6_best_15 rfl (fun r15 s15 h => ?_)
      refine zv_if_ne (tgt := 23) X dX6_best_18 (by decide) rfl (fun q18 => ?_) (fun q18 => ?_)
      · replace h := h.2 q18
        refine zv_aload_n X dX6_best_23 0 rfl rfl rfl ?_
        refine zv_ldc (v := 1000000) X dX6_best_24 co_X6_170 rfl ?_
        refine zv_cVv (k := 0) (ci := 6) X [.int 1000000] (kX6_startsJudging l hJ 1000000 hY h) jl_X6_258 ⟨rfl, rfl⟩ ⟨Nat.le_of_ble_eq_true rfl, Nat.le_of_ble_eq_true rfl⟩ (zz_mo_o hY).1 (by decide) (zz_mo_o hY).2 rfl rfl rfl (Nat.le_of_ble_eq_true rfl) dX6_best_26 rfl (fun s26 h => ?_)
        refine zv_iload_n X dX6_best_29 1 rfl rfl rfl ?_
        refine zv_cSi X [.int x1] (kX6_lowOf l hJ x1  h) jl_X6_127 ⟨rfl, rfl⟩ ⟨Nat.le_of_ble_eq_true rfl, Nat.le_of_ble_eq_true rfl⟩ rfl rfl (Nat.le_of_ble_eq_true rfl) dX6_best_30 rfl (fun r30 s30 h => ?_)
        refine zv_istore (lv2 := [(4, .int r30), (0, .ref (Y.2.1 0)), (1, .int x1), (2, .int x2), (3, .int x3)]) X dX6_best_33 (by decide) rfl rfl ?_
        obtain ⟨n35, h⟩ := h
        refine zv_sub (lv2 := [(0, .ref (Y.2.1 0)), (1, .int x1), (2, .int x2), (3, .int x3), (4, .int r30)]) [1, 2, 3, 4, 0] rfl ?_
        exact vX6_best_35 X hr hlk hJ hY n35 x1 x2 x3 r30 _ h
      · replace h := h.1 q18
        refine zv_iconst (v := (-1)) X dX6_best_21 (by decide) rfl ?_
        exact zv_iret X hr hlk h dX6_best_22
def rmX6_swap : Room := { frames := 6, cells := 0, slots := 0, locals := 145 }
def pX6_swap_47  (Q : Int32 → zz_T → Prop) (K31 : Int32 → Int32 → Int32 → zz_T → Prop) : Nat → Int32 → Int32 → Int32 → Int32 → zz_T → Prop
  | 0, _, _, _, _, _ => False
  | n + 1, x1, x2, x3, x4, σ =>
    vp_in 49 210 ∧
    (((σ.1 1 (Int32.toNatClampNeg 49)) ≤ x4 → K31 x1 x2 (x3 + 1) σ) ∧
    (¬ (σ.1 1 (Int32.toNatClampNeg 49)) ≤ x4 → pX6_starts σ (fun s60 =>
    vp_in (37 + x4) 210 ∧
    vp_in (37 + x3) 70 ∧
    vp_in (37 + x3) 210 ∧
    vp_in (37 + x4) 70 ∧
    pX6_wrongIn x1 (zz_i (zz_i s60 2 (Int32.toNatClampNeg (37 + x3)) (s60.1 1 (Int32.toNatClampNeg (37 + x4)))) 2 (Int32.toNatClampNeg (37 + x4)) ((zz_i s60 2 (Int32.toNatClampNeg (37 + x3)) (s60.1 1 (Int32.toNatClampNeg (37 + x4)))).1 1 (Int32.toNatClampNeg (37 + x3)))) (fun r111 s111 =>
    pX6_judges ((100 * x3) + x4) r111 s111 (fun s114 =>
    pX6_swap_47  Q K31 n x1 x2 x3 (x4 + 1) s114)))))
set_option maxHeartbeats 4000000 in
set_option maxRecDepth 100000 in
theorem vX6_swap_47 {p : Program} {l : Launch} {e : Env} {s : State} {m : MethodId} {args : Array Value} {below : List Frame} {meth : Method} {c : Code} {Y : zz_Y}  {Q : Int32 → zz_T → Prop} {K31 : Int32 → Int32 → Int32 → zz_T → Prop} (X : zz_X p m c cX6_swap 5 s args RX6) (hr : meth.sig.returnType = (some .int)) (hlk : meth.locks = false) (hJ : zz_J Y) (hY : zz_mo Y) (hK31 : ∀ (x1 : Int32) (x2 : Int32) (x3 : Int32) (σ : zz_T), K31 x1 x2 x3 σ → zz_V p l e rmX6_swap s m args below meth c (MQ below (va_Qi Q (zz_E Y) (zz_A Y)) args s 0 0 (zz_A Y)) 5 Y σ 31 [(0, .ref (Y.2.1 0)), (1, .int x1), (2, .int x2), (3, .int x3)] []) : ∀ (n : Nat) (x1 : Int32) (x2 : Int32) (x3 : Int32) (x4 : Int32) (σ : zz_T), pX6_swap_47  Q K31 n x1 x2 x3 x4 σ → zz_V p l e rmX6_swap s m args below meth c (MQ below (va_Qi Q (zz_E Y) (zz_A Y)) args s 0 0 (zz_A Y)) 5 Y σ 47 [(0, .ref (Y.2.1 0)), (1, .int x1), (2, .int x2), (3, .int x3), (4, .int x4)] [] := by
  intro n
  induction n with
  | zero => intro x1 x2 x3 x4 σ h; exact h.elim
  | succ n ih =>
    intro x1 x2 x3 x4 σ h 
    unfold pX6_swap_47 at h
    refine zv_iload X dX6_swap_47 4 rfl rfl ?_
    refine zv_aload_n X dX6_swap_49 0 rfl rfl rfl ?_
    refine zg_X6_0 (k := 0) X (zz_mo_o hY).1 (zz_mo_o hY).2 fl_X6_7 dX6_swap_50 rfl ?_
    refine zv_bipush (v := 49) X dX6_swap_53 (by decide) rfl ?_
    obtain ⟨hi55, h⟩ := h
    refine zv_iald (k := 1) X (zz_mo_st hY).1 (zz_mo_st hY).2 hi55 dX6_swap_55 rfl ?_
    refine zv_icmp_ge (tgt := 123) X dX6_swap_56 (by decide) rfl (fun q56 => ?_) (fun q56 => ?_)
    · replace h := h.1 q56
      refine zv_iinc (v := (x3 + 1)) (lv2 := [(3, .int (x3 + 1)), (0, .ref (Y.2.1 0)), (1, .int x1), (2, .int x2), (4, .int x4)]) X dX6_swap_123 3 rfl rfl (by decide) rfl rfl ?_
      refine zv_goto (tgt := 31) X dX6_swap_126 (by decide) ?_
      refine zv_sub (lv2 := [(0, .ref (Y.2.1 0)), (1, .int x1), (2, .int x2), (3, .int (x3 + 1))]) [1, 2, 3, 0] rfl ?_
      exact hK31 x1 x2 (x3 + 1) _ h
    · replace h := h.2 q56
      refine zv_aload_n X dX6_swap_59 0 rfl rfl rfl ?_
      refine zv_cVv (k := 0) (ci := 6) X [] (kX6_starts l hJ  hY h) jl_X6_209 ⟨rfl, rfl⟩ ⟨Nat.le_of_ble_eq_true rfl, Nat.le_of_ble_eq_true rfl⟩ (zz_mo_o hY).1 (by decide) (zz_mo_o hY).2 rfl rfl rfl (Nat.le_of_ble_eq_true rfl) dX6_swap_60 rfl (fun s60 h => ?_)
      refine zv_aload_n X dX6_swap_63 0 rfl rfl rfl ?_
      refine zg_X6_1 (k := 0) X (zz_mo_o hY).1 (zz_mo_o hY).2 fl_X6_13 dX6_swap_64 rfl ?_
      refine zv_bipush (v := 37) X dX6_swap_67 (by decide) rfl ?_
      refine zv_iload_n X dX6_swap_69 3 rfl rfl rfl ?_
      refine zv_iadd X dX6_swap_70 rfl ?_
      refine zv_aload_n X dX6_swap_71 0 rfl rfl rfl ?_
      refine zg_X6_0 (k := 0) X (zz_mo_o hY).1 (zz_mo_o hY).2 fl_X6_7 dX6_swap_72 rfl ?_
      refine zv_bipush (v := 37) X dX6_swap_75 (by decide) rfl ?_
      refine zv_iload X dX6_swap_77 4 rfl rfl ?_
      refine zv_iadd X dX6_swap_79 rfl ?_
      obtain ⟨hi80, h⟩ := h
      refine zv_iald (k := 1) X (zz_mo_st hY).1 (zz_mo_st hY).2 hi80 dX6_swap_80 rfl ?_
      obtain ⟨hi81, h⟩ := h
      refine zv_iast (k := 2) X (zz_mo_now hY).1 (zz_mo_now hY).2 hi81 dX6_swap_81 rfl ?_
      refine zv_aload_n X dX6_swap_82 0 rfl rfl rfl ?_
      refine zg_X6_1 (k := 0) X (zz_mo_o hY).1 (zz_mo_o hY).2 fl_X6_13 dX6_swap_83 rfl ?_
      refine zv_bipush (v := 37) X dX6_swap_86 (by decide) rfl ?_
      refine zv_iload X dX6_swap_88 4 rfl rfl ?_
      refine zv_iadd X dX6_swap_90 rfl ?_
      refine zv_aload_n X dX6_swap_91 0 rfl rfl rfl ?_
      refine zg_X6_0 (k := 0) X (zz_mo_o hY).1 (zz_mo_o hY).2 fl_X6_7 dX6_swap_92 rfl ?_
      refine zv_bipush (v := 37) X dX6_swap_95 (by decide) rfl ?_
      refine zv_iload_n X dX6_swap_97 3 rfl rfl rfl ?_
      refine zv_iadd X dX6_swap_98 rfl ?_
      obtain ⟨hi99, h⟩ := h
      refine zv_iald (k := 1) X (zz_mo_st hY).1 (zz_mo_st hY).2 hi99 dX6_swap_99 rfl ?_
      obtain ⟨hi100, h⟩ := h
      refine zv_iast (k := 2) X (zz_mo_now hY).1 (zz_mo_now hY).2 hi100 dX6_swap_100 rfl ?_
      refine zv_aload_n X dX6_swap_101 0 rfl rfl rfl ?_
      refine zv_bipush (v := 100) X dX6_swap_102 (by decide) rfl ?_
      refine zv_iload_n X dX6_swap_104 3 rfl rfl rfl ?_
      refine zv_imul X dX6_swap_105 rfl ?_
      refine zv_iload X dX6_swap_106 4 rfl rfl ?_
      refine zv_iadd X dX6_swap_108 rfl ?_
      refine zv_aload_n X dX6_swap_109 0 rfl rfl rfl ?_
      refine zv_iload_n X dX6_swap_110 1 rfl rfl rfl ?_
      refine zv_cVi (k := 0) (ci := 6) X [.int x1] (kX6_wrongIn l hJ x1 hY h) jl_X6_272 ⟨rfl, rfl⟩ ⟨Nat.le_of_ble_eq_true rfl, Nat.le_of_ble_eq_true rfl⟩ (zz_mo_o hY).1 (by decide) (zz_mo_o hY).2 rfl rfl rfl (Nat.le_of_ble_eq_true rfl) dX6_swap_111 rfl (fun r111 s111 h => ?_)
      refine zv_cVv (k := 0) (ci := 6) X [.int ((100 * x3) + x4), .int r111] (kX6_judges l hJ ((100 * x3) + x4) r111 hY h) jl_X6_261 ⟨rfl, rfl⟩ ⟨Nat.le_of_ble_eq_true rfl, Nat.le_of_ble_eq_true rfl⟩ (zz_mo_o hY).1 (by decide) (zz_mo_o hY).2 rfl rfl rfl (Nat.le_of_ble_eq_true rfl) dX6_swap_114 rfl (fun s114 h => ?_)
      refine zv_iinc (v := (x4 + 1)) (lv2 := [(4, .int (x4 + 1)), (0, .ref (Y.2.1 0)), (1, .int x1), (2, .int x2), (3, .int x3)]) X dX6_swap_117 4 rfl rfl (by decide) rfl rfl ?_
      refine zv_goto (tgt := 47) X dX6_swap_120 (by decide) ?_
      refine zv_sub (lv2 := [(0, .ref (Y.2.1 0)), (1, .int x1), (2, .int x2), (3, .int x3), (4, .int (x4 + 1))]) [1, 2, 3, 4, 0] rfl ?_
      exact ih x1 x2 x3 (x4 + 1) _ h
def pX6_swap_31  (Q : Int32 → zz_T → Prop) : Nat → Int32 → Int32 → Int32 → zz_T → Prop
  | 0, _, _, _, _ => False
  | n + 1, x1, x2, x3, σ =>
    vp_in 49 210 ∧
    (((σ.1 1 (Int32.toNatClampNeg 49)) ≤ x3 → pX6_judged x2 σ (fun r131 s131 =>
    Q r131 s131)) ∧
    (¬ (σ.1 1 (Int32.toNatClampNeg 49)) ≤ x3 → ∃ n47, pX6_swap_47  Q (pX6_swap_31  Q n) n47 x1 x2 x3 (x3 + 1) σ))
set_option maxHeartbeats 4000000 in
set_option maxRecDepth 100000 in
theorem vX6_swap_31 {p : Program} {l : Launch} {e : Env} {s : State} {m : MethodId} {args : Array Value} {below : List Frame} {meth : Method} {c : Code} {Y : zz_Y}  {Q : Int32 → zz_T → Prop} (X : zz_X p m c cX6_swap 5 s args RX6) (hr : meth.sig.returnType = (some .int)) (hlk : meth.locks = false) (hJ : zz_J Y) (hY : zz_mo Y)  : ∀ (n : Nat) (x1 : Int32) (x2 : Int32) (x3 : Int32) (σ : zz_T), pX6_swap_31  Q n x1 x2 x3 σ → zz_V p l e rmX6_swap s m args below meth c (MQ below (va_Qi Q (zz_E Y) (zz_A Y)) args s 0 0 (zz_A Y)) 5 Y σ 31 [(0, .ref (Y.2.1 0)), (1, .int x1), (2, .int x2), (3, .int x3)] [] := by
  intro n
  induction n with
  | zero => intro x1 x2 x3 σ h; exact h.elim
  | succ n ih =>
    intro x1 x2 x3 σ h 
    unfold pX6_swap_31 at h
    refine zv_iload_n X dX6_swap_31 3 rfl rfl rfl ?_
    refine zv_aload_n X dX6_swap_32 0 rfl rfl rfl ?_
    refine zg_X6_0 (k := 0) X (zz_mo_o hY).1 (zz_mo_o hY).2 fl_X6_7 dX6_swap_33 rfl ?_
    refine zv_bipush (v := 49) X dX6_swap_36 (by decide) rfl ?_
    obtain ⟨hi38, h⟩ := h
    refine zv_iald (k := 1) X (zz_mo_st hY).1 (zz_mo_st hY).2 hi38 dX6_swap_38 rfl ?_
    refine zv_icmp_ge (tgt := 129) X dX6_swap_39 (by decide) rfl (fun q39 => ?_) (fun q39 => ?_)
    · replace h := h.1 q39
      refine zv_aload_n X dX6_swap_129 0 rfl rfl rfl ?_
      refine zv_iload_n X dX6_swap_130 2 rfl rfl rfl ?_
      refine zv_cVi (k := 0) (ci := 6) X [.int x2] (kX6_judged l hJ x2 hY h) jl_X6_265 ⟨rfl, rfl⟩ ⟨Nat.le_of_ble_eq_true rfl, Nat.le_of_ble_eq_true rfl⟩ (zz_mo_o hY).1 (by decide) (zz_mo_o hY).2 rfl rfl rfl (Nat.le_of_ble_eq_true rfl) dX6_swap_131 rfl (fun r131 s131 h => ?_)
      exact zv_iret X hr hlk h dX6_swap_134
    · replace h := h.2 q39
      refine zv_iload_n X dX6_swap_42 3 rfl rfl rfl ?_
      refine zv_iconst (v := 1) X dX6_swap_43 (by decide) rfl ?_
      refine zv_iadd X dX6_swap_44 rfl ?_
      refine zv_istore (lv2 := [(4, .int (x3 + 1)), (0, .ref (Y.2.1 0)), (1, .int x1), (2, .int x2), (3, .int x3)]) X dX6_swap_45 (by decide) rfl rfl ?_
      obtain ⟨n47, h⟩ := h
      refine zv_sub (lv2 := [(0, .ref (Y.2.1 0)), (1, .int x1), (2, .int x2), (3, .int x3), (4, .int (x3 + 1))]) [1, 2, 3, 4, 0] rfl ?_
      exact vX6_swap_47 X hr hlk hJ hY ih n47 x1 x2 x3 (x3 + 1) _ h
def pX6_swap (x1 : Int32) (x2 : Int32) (σ : zz_T) (Q : Int32 → zz_T → Prop) : Prop :=
    pX6_isFar x1 σ (fun r1 s1 =>
    ((r1 = 0 → Q (-1) s1) ∧
    (¬ r1 = 0 → pX6_isPart x2 s1 (fun r8 s8 =>
    ((r8 = 0 → Q (-1) s8) ∧
    (¬ r8 = 0 → pX6_starts s8 (fun s17 =>
    pX6_wrongIn x1 s17 (fun r23 s23 =>
    pX6_startsJudging r23 s23 (fun s26 =>
    ∃ n31, pX6_swap_31  Q n31 x1 x2 0 s26)))))))))
set_option maxHeartbeats 4000000 in
set_option maxRecDepth 100000 in
theorem kX6_swap (l : Launch) {Y : zz_Y} (hJ : zz_J Y) (x1 : Int32) (x2 : Int32) (hY : zz_mo Y) {σ : zz_T} {Q : Int32 → zz_T → Prop} (h : pX6_swap x1 x2 σ Q) : zz_Mi l yX6_swap cX6_swap 5 (some .int) rmX6_swap Y [.ref (Y.2.1 0), .int x1, .int x2] σ Q := by
  refine zz_Mi.start (by decide) hJ (Nat.le_of_ble_eq_true rfl) (fun p e s m below meth c X hr hlk => ?_)
  have X : zz_X p m c cX6_swap 5 s _ RX6 := X
  refine zv_sub (lv2 := [(0, .ref (Y.2.1 0)), (1, .int x1), (2, .int x2)]) [0, 1, 2] rfl ?_
  unfold pX6_swap at h
  refine zv_iload_n X dX6_swap_0 1 rfl rfl rfl ?_
  refine zv_cSi X [.int x1] (kX6_isFar l hJ x1  h) jl_X6_246 ⟨rfl, rfl⟩ ⟨Nat.le_of_ble_eq_true rfl, Nat.le_of_ble_eq_true rfl⟩ rfl rfl (Nat.le_of_ble_eq_true rfl) dX6_swap_1 rfl (fun r1 s1 h => ?_)
  refine zv_if_eq (tgt := 14) X dX6_swap_4 (by decide) rfl (fun q4 => ?_) (fun q4 => ?_)
  · replace h := h.1 q4
    refine zv_iconst (v := (-1)) X dX6_swap_14 (by decide) rfl ?_
    exact zv_iret X hr hlk h dX6_swap_15
  · replace h := h.2 q4
    refine zv_iload_n X dX6_swap_7 2 rfl rfl rfl ?_
    refine zv_cSi X [.int x2] (kX6_isPart l hJ x2  h) jl_X6_227 ⟨rfl, rfl⟩ ⟨Nat.le_of_ble_eq_true rfl, Nat.le_of_ble_eq_true rfl⟩ rfl rfl (Nat.le_of_ble_eq_true rfl) dX6_swap_8 rfl (fun r8 s8 h => ?_)
    refine zv_if_ne (tgt := 16) X dX6_swap_11 (by decide) rfl (fun q11 => ?_) (fun q11 => ?_)
    · replace h := h.2 q11
      refine zv_aload_n X dX6_swap_16 0 rfl rfl rfl ?_
      refine zv_cVv (k := 0) (ci := 6) X [] (kX6_starts l hJ  hY h) jl_X6_209 ⟨rfl, rfl⟩ ⟨Nat.le_of_ble_eq_true rfl, Nat.le_of_ble_eq_true rfl⟩ (zz_mo_o hY).1 (by decide) (zz_mo_o hY).2 rfl rfl rfl (Nat.le_of_ble_eq_true rfl) dX6_swap_17 rfl (fun s17 h => ?_)
      refine zv_aload_n X dX6_swap_20 0 rfl rfl rfl ?_
      refine zv_aload_n X dX6_swap_21 0 rfl rfl rfl ?_
      refine zv_iload_n X dX6_swap_22 1 rfl rfl rfl ?_
      refine zv_cVi (k := 0) (ci := 6) X [.int x1] (kX6_wrongIn l hJ x1 hY h) jl_X6_272 ⟨rfl, rfl⟩ ⟨Nat.le_of_ble_eq_true rfl, Nat.le_of_ble_eq_true rfl⟩ (zz_mo_o hY).1 (by decide) (zz_mo_o hY).2 rfl rfl rfl (Nat.le_of_ble_eq_true rfl) dX6_swap_23 rfl (fun r23 s23 h => ?_)
      refine zv_cVv (k := 0) (ci := 6) X [.int r23] (kX6_startsJudging l hJ r23 hY h) jl_X6_258 ⟨rfl, rfl⟩ ⟨Nat.le_of_ble_eq_true rfl, Nat.le_of_ble_eq_true rfl⟩ (zz_mo_o hY).1 (by decide) (zz_mo_o hY).2 rfl rfl rfl (Nat.le_of_ble_eq_true rfl) dX6_swap_26 rfl (fun s26 h => ?_)
      refine zv_iconst (v := 0) X dX6_swap_29 (by decide) rfl ?_
      refine zv_istore_n (lv2 := [(3, .int 0), (0, .ref (Y.2.1 0)), (1, .int x1), (2, .int x2)]) X dX6_swap_30 rfl (by decide) rfl rfl ?_
      obtain ⟨n31, h⟩ := h
      refine zv_sub (lv2 := [(0, .ref (Y.2.1 0)), (1, .int x1), (2, .int x2), (3, .int 0)]) [1, 2, 3, 0] rfl ?_
      exact vX6_swap_31 X hr hlk hJ hY n31 x1 x2 0 _ h
    · replace h := h.1 q11
      refine zv_iconst (v := (-1)) X dX6_swap_14 (by decide) rfl ?_
      exact zv_iret X hr hlk h dX6_swap_15
def rmX6_rest : Room := { frames := 6, cells := 0, slots := 0, locals := 145 }
def pX6_rest_31  (Q : Int32 → zz_T → Prop) : Nat → Int32 → Int32 → Int32 → zz_T → Prop
  | 0, _, _, _, _ => False
  | n + 1, x1, x2, x3, σ =>
    vp_in 49 210 ∧
    (((σ.1 1 (Int32.toNatClampNeg 49)) ≤ x3 → pX6_judged x2 σ (fun r69 s69 =>
    Q r69 s69)) ∧
    (¬ (σ.1 1 (Int32.toNatClampNeg 49)) ≤ x3 → pX6_starts σ (fun s43 =>
    pX6_wrongIn x1 (zz_i s43 0 13 x3) (fun r55 s55 =>
    pX6_judges x3 r55 s55 (fun s58 =>
    pX6_rest_31  Q n x1 x2 (x3 + 1) s58)))))
set_option maxHeartbeats 4000000 in
set_option maxRecDepth 100000 in
theorem vX6_rest_31 {p : Program} {l : Launch} {e : Env} {s : State} {m : MethodId} {args : Array Value} {below : List Frame} {meth : Method} {c : Code} {Y : zz_Y}  {Q : Int32 → zz_T → Prop} (X : zz_X p m c cX6_rest 4 s args RX6) (hr : meth.sig.returnType = (some .int)) (hlk : meth.locks = false) (hJ : zz_J Y) (hY : zz_mo Y)  : ∀ (n : Nat) (x1 : Int32) (x2 : Int32) (x3 : Int32) (σ : zz_T), pX6_rest_31  Q n x1 x2 x3 σ → zz_V p l e rmX6_rest s m args below meth c (MQ below (va_Qi Q (zz_E Y) (zz_A Y)) args s 0 0 (zz_A Y)) 4 Y σ 31 [(0, .ref (Y.2.1 0)), (1, .int x1), (2, .int x2), (3, .int x3)] [] := by
  intro n
  induction n with
  | zero => intro x1 x2 x3 σ h; exact h.elim
  | succ n ih =>
    intro x1 x2 x3 σ h 
    unfold pX6_rest_31 at h
    refine zv_iload_n X dX6_rest_31 3 rfl rfl rfl ?_
    refine zv_aload_n X dX6_rest_32 0 rfl rfl rfl ?_
    refine zg_X6_0 (k := 0) X (zz_mo_o hY).1 (zz_mo_o hY).2 fl_X6_7 dX6_rest_33 rfl ?_
    refine zv_bipush (v := 49) X dX6_rest_36 (by decide) rfl ?_
    obtain ⟨hi38, h⟩ := h
    refine zv_iald (k := 1) X (zz_mo_st hY).1 (zz_mo_st hY).2 hi38 dX6_rest_38 rfl ?_
    refine zv_icmp_ge (tgt := 67) X dX6_rest_39 (by decide) rfl (fun q39 => ?_) (fun q39 => ?_)
    · replace h := h.1 q39
      refine zv_aload_n X dX6_rest_67 0 rfl rfl rfl ?_
      refine zv_iload_n X dX6_rest_68 2 rfl rfl rfl ?_
      refine zv_cVi (k := 0) (ci := 6) X [.int x2] (kX6_judged l hJ x2 hY h) jl_X6_265 ⟨rfl, rfl⟩ ⟨Nat.le_of_ble_eq_true rfl, Nat.le_of_ble_eq_true rfl⟩ (zz_mo_o hY).1 (by decide) (zz_mo_o hY).2 rfl rfl rfl (Nat.le_of_ble_eq_true rfl) dX6_rest_69 rfl (fun r69 s69 h => ?_)
      exact zv_iret X hr hlk h dX6_rest_72
    · replace h := h.2 q39
      refine zv_aload_n X dX6_rest_42 0 rfl rfl rfl ?_
      refine zv_cVv (k := 0) (ci := 6) X [] (kX6_starts l hJ  hY h) jl_X6_209 ⟨rfl, rfl⟩ ⟨Nat.le_of_ble_eq_true rfl, Nat.le_of_ble_eq_true rfl⟩ (zz_mo_o hY).1 (by decide) (zz_mo_o hY).2 rfl rfl rfl (Nat.le_of_ble_eq_true rfl) dX6_rest_43 rfl (fun s43 h => ?_)
      refine zv_aload_n X dX6_rest_46 0 rfl rfl rfl ?_
      refine zv_iload_n X dX6_rest_47 3 rfl rfl rfl ?_
      refine zp_X6_13 (k := 0) X (zz_mo_o hY).1 (zz_mo_o hY).2 fl_X6_146 dX6_rest_48 rfl ?_
      refine zv_aload_n X dX6_rest_51 0 rfl rfl rfl ?_
      refine zv_iload_n X dX6_rest_52 3 rfl rfl rfl ?_
      refine zv_aload_n X dX6_rest_53 0 rfl rfl rfl ?_
      refine zv_iload_n X dX6_rest_54 1 rfl rfl rfl ?_
      refine zv_cVi (k := 0) (ci := 6) X [.int x1] (kX6_wrongIn l hJ x1 hY h) jl_X6_272 ⟨rfl, rfl⟩ ⟨Nat.le_of_ble_eq_true rfl, Nat.le_of_ble_eq_true rfl⟩ (zz_mo_o hY).1 (by decide) (zz_mo_o hY).2 rfl rfl rfl (Nat.le_of_ble_eq_true rfl) dX6_rest_55 rfl (fun r55 s55 h => ?_)
      refine zv_cVv (k := 0) (ci := 6) X [.int x3, .int r55] (kX6_judges l hJ x3 r55 hY h) jl_X6_261 ⟨rfl, rfl⟩ ⟨Nat.le_of_ble_eq_true rfl, Nat.le_of_ble_eq_true rfl⟩ (zz_mo_o hY).1 (by decide) (zz_mo_o hY).2 rfl rfl rfl (Nat.le_of_ble_eq_true rfl) dX6_rest_58 rfl (fun s58 h => ?_)
      refine zv_iinc (v := (x3 + 1)) (lv2 := [(3, .int (x3 + 1)), (0, .ref (Y.2.1 0)), (1, .int x1), (2, .int x2)]) X dX6_rest_61 3 rfl rfl (by decide) rfl rfl ?_
      refine zv_goto (tgt := 31) X dX6_rest_64 (by decide) ?_
      refine zv_sub (lv2 := [(0, .ref (Y.2.1 0)), (1, .int x1), (2, .int x2), (3, .int (x3 + 1))]) [1, 2, 3, 0] rfl ?_
      exact ih x1 x2 (x3 + 1) _ h
def pX6_rest (x1 : Int32) (x2 : Int32) (σ : zz_T) (Q : Int32 → zz_T → Prop) : Prop :=
    pX6_isFar x1 σ (fun r1 s1 =>
    ((r1 = 0 → Q (-1) s1) ∧
    (¬ r1 = 0 → pX6_isPart x2 s1 (fun r8 s8 =>
    ((r8 = 0 → Q (-1) s8) ∧
    (¬ r8 = 0 → pX6_starts s8 (fun s17 =>
    pX6_wrongIn x1 s17 (fun r23 s23 =>
    pX6_startsJudging r23 s23 (fun s26 =>
    ∃ n31, pX6_rest_31  Q n31 x1 x2 0 s26)))))))))
set_option maxHeartbeats 4000000 in
set_option maxRecDepth 100000 in
theorem kX6_rest (l : Launch) {Y : zz_Y} (hJ : zz_J Y) (x1 : Int32) (x2 : Int32) (hY : zz_mo Y) {σ : zz_T} {Q : Int32 → zz_T → Prop} (h : pX6_rest x1 x2 σ Q) : zz_Mi l yX6_rest cX6_rest 4 (some .int) rmX6_rest Y [.ref (Y.2.1 0), .int x1, .int x2] σ Q := by
  refine zz_Mi.start (by decide) hJ (Nat.le_of_ble_eq_true rfl) (fun p e s m below meth c X hr hlk => ?_)
  have X : zz_X p m c cX6_rest 4 s _ RX6 := X
  refine zv_sub (lv2 := [(0, .ref (Y.2.1 0)), (1, .int x1), (2, .int x2)]) [0, 1, 2] rfl ?_
  unfold pX6_rest at h
  refine zv_iload_n X dX6_rest_0 1 rfl rfl rfl ?_
  refine zv_cSi X [.int x1] (kX6_isFar l hJ x1  h) jl_X6_246 ⟨rfl, rfl⟩ ⟨Nat.le_of_ble_eq_true rfl, Nat.le_of_ble_eq_true rfl⟩ rfl rfl (Nat.le_of_ble_eq_true rfl) dX6_rest_1 rfl (fun r1 s1 h => ?_)
  refine zv_if_eq (tgt := 14) X dX6_rest_4 (by decide) rfl (fun q4 => ?_) (fun q4 => ?_)
  · replace h := h.1 q4
    refine zv_iconst (v := (-1)) X dX6_rest_14 (by decide) rfl ?_
    exact zv_iret X hr hlk h dX6_rest_15
  · replace h := h.2 q4
    refine zv_iload_n X dX6_rest_7 2 rfl rfl rfl ?_
    refine zv_cSi X [.int x2] (kX6_isPart l hJ x2  h) jl_X6_227 ⟨rfl, rfl⟩ ⟨Nat.le_of_ble_eq_true rfl, Nat.le_of_ble_eq_true rfl⟩ rfl rfl (Nat.le_of_ble_eq_true rfl) dX6_rest_8 rfl (fun r8 s8 h => ?_)
    refine zv_if_ne (tgt := 16) X dX6_rest_11 (by decide) rfl (fun q11 => ?_) (fun q11 => ?_)
    · replace h := h.2 q11
      refine zv_aload_n X dX6_rest_16 0 rfl rfl rfl ?_
      refine zv_cVv (k := 0) (ci := 6) X [] (kX6_starts l hJ  hY h) jl_X6_209 ⟨rfl, rfl⟩ ⟨Nat.le_of_ble_eq_true rfl, Nat.le_of_ble_eq_true rfl⟩ (zz_mo_o hY).1 (by decide) (zz_mo_o hY).2 rfl rfl rfl (Nat.le_of_ble_eq_true rfl) dX6_rest_17 rfl (fun s17 h => ?_)
      refine zv_aload_n X dX6_rest_20 0 rfl rfl rfl ?_
      refine zv_aload_n X dX6_rest_21 0 rfl rfl rfl ?_
      refine zv_iload_n X dX6_rest_22 1 rfl rfl rfl ?_
      refine zv_cVi (k := 0) (ci := 6) X [.int x1] (kX6_wrongIn l hJ x1 hY h) jl_X6_272 ⟨rfl, rfl⟩ ⟨Nat.le_of_ble_eq_true rfl, Nat.le_of_ble_eq_true rfl⟩ (zz_mo_o hY).1 (by decide) (zz_mo_o hY).2 rfl rfl rfl (Nat.le_of_ble_eq_true rfl) dX6_rest_23 rfl (fun r23 s23 h => ?_)
      refine zv_cVv (k := 0) (ci := 6) X [.int r23] (kX6_startsJudging l hJ r23 hY h) jl_X6_258 ⟨rfl, rfl⟩ ⟨Nat.le_of_ble_eq_true rfl, Nat.le_of_ble_eq_true rfl⟩ (zz_mo_o hY).1 (by decide) (zz_mo_o hY).2 rfl rfl rfl (Nat.le_of_ble_eq_true rfl) dX6_rest_26 rfl (fun s26 h => ?_)
      refine zv_iconst (v := 0) X dX6_rest_29 (by decide) rfl ?_
      refine zv_istore_n (lv2 := [(3, .int 0), (0, .ref (Y.2.1 0)), (1, .int x1), (2, .int x2)]) X dX6_rest_30 rfl (by decide) rfl rfl ?_
      obtain ⟨n31, h⟩ := h
      refine zv_sub (lv2 := [(0, .ref (Y.2.1 0)), (1, .int x1), (2, .int x2), (3, .int 0)]) [1, 2, 3, 0] rfl ?_
      exact vX6_rest_31 X hr hlk hJ hY n31 x1 x2 0 _ h
    · replace h := h.1 q11
      refine zv_iconst (v := (-1)) X dX6_rest_14 (by decide) rfl ?_
      exact zv_iret X hr hlk h dX6_rest_15
def rmX6_common : Room := { frames := 0, cells := 0, slots := 0, locals := 0 }
def pX6_common_6  (Q : Int64 → zz_T → Prop) : Nat → Int64 → Int64 → zz_T → Prop
  | 0, _, _, _ => False
  | n + 1, x4, x6, σ =>
    (((lg_cmp x6 0) = 0 → Q x4 σ) ∧
    (¬ (lg_cmp x6 0) = 0 → ¬ x6 = 0 ∧
    pX6_common_6  Q n x6 (x4 - x4 / x6 * x6) σ))
set_option maxHeartbeats 4000000 in
set_option maxRecDepth 100000 in
theorem vX6_common_6 {p : Program} {l : Launch} {e : Env} {s : State} {m : MethodId} {args : Array Value} {below : List Frame} {meth : Method} {c : Code} {Y : zz_Y}  {Q : Int64 → zz_T → Prop} (X : zz_X p m c cX6_common 10 s args RX6) (hr : meth.sig.returnType = (some .long)) (hlk : meth.locks = false) (hJ : zz_J Y)   : ∀ (n : Nat) (x4 : Int64) (x6 : Int64) (σ : zz_T), pX6_common_6  Q n x4 x6 σ → zz_V p l e rmX6_common s m args below meth c (MQ below (va_Ql Q (zz_E Y) (zz_A Y)) args s 0 0 (zz_A Y)) 10 Y σ 6 [(4, .long x4), (6, .long x6)] [] := by
  intro n
  induction n with
  | zero => intro x4 x6 σ h; exact h.elim
  | succ n ih =>
    intro x4 x6 σ h 
    unfold pX6_common_6 at h
    refine zv_lload X dX6_common_6 1 rfl rfl ?_
    refine zv_lconst (v := 0) X dX6_common_8 (by decide) rfl ?_
    refine zv_lcmp X dX6_common_9 rfl ?_
    refine zv_if_eq (tgt := 31) X dX6_common_10 (by decide) rfl (fun q10 => ?_) (fun q10 => ?_)
    · replace h := h.1 q10
      refine zv_lload X dX6_common_31 0 rfl rfl ?_
      exact zv_lret X hr hlk h dX6_common_33
    · replace h := h.2 q10
      refine zv_lload X dX6_common_13 0 rfl rfl ?_
      refine zv_lload X dX6_common_15 1 rfl rfl ?_
      obtain ⟨z17, h⟩ := h
      refine zv_lrem X dX6_common_17 z17 rfl ?_
      refine zv_lstore (lv2 := [(8, .long (x4 - x4 / x6 * x6)), (4, .long x4), (6, .long x6)]) X dX6_common_18 (by decide) rfl rfl ?_
      refine zv_lload X dX6_common_20 2 rfl rfl ?_
      refine zv_lstore (lv2 := [(4, .long x6), (8, .long (x4 - x4 / x6 * x6)), (6, .long x6)]) X dX6_common_22 (by decide) rfl rfl ?_
      refine zv_lload X dX6_common_24 1 rfl rfl ?_
      refine zv_lstore (lv2 := [(6, .long (x4 - x4 / x6 * x6)), (4, .long x6), (8, .long (x4 - x4 / x6 * x6))]) X dX6_common_26 (by decide) rfl rfl ?_
      refine zv_goto (tgt := 6) X dX6_common_28 (by decide) ?_
      refine zv_sub (lv2 := [(4, .long x6), (6, .long (x4 - x4 / x6 * x6))]) [1, 0] rfl ?_
      exact ih x6 (x4 - x4 / x6 * x6) _ h
def pX6_common (x0 : Int64) (x2 : Int64) (σ : zz_T) (Q : Int64 → zz_T → Prop) : Prop :=
    ∃ n6, pX6_common_6  Q n6 x0 x2 σ
set_option maxHeartbeats 4000000 in
set_option maxRecDepth 100000 in
theorem kX6_common (l : Launch) {Y : zz_Y} (hJ : zz_J Y) (x0 : Int64) (x2 : Int64)  {σ : zz_T} {Q : Int64 → zz_T → Prop} (h : pX6_common x0 x2 σ Q) : zz_Ml l yX6_common cX6_common 10 (some .long) rmX6_common Y [.long x0, .long x2] σ Q := by
  refine zz_Ml.start (by decide) hJ (Nat.le_of_ble_eq_true rfl) (fun p e s m below meth c X hr hlk => ?_)
  have X : zz_X p m c cX6_common 10 s _ RX6 := X
  refine zv_sub (lv2 := [(0, .long x0), (2, .long x2)]) [0, 1] rfl ?_
  unfold pX6_common at h
  refine zv_lload_n X dX6_common_0 0 rfl rfl rfl ?_
  refine zv_lstore (lv2 := [(4, .long x0), (0, .long x0), (2, .long x2)]) X dX6_common_1 (by decide) rfl rfl ?_
  refine zv_lload_n X dX6_common_3 2 rfl rfl rfl ?_
  refine zv_lstore (lv2 := [(6, .long x2), (4, .long x0), (0, .long x0), (2, .long x2)]) X dX6_common_4 (by decide) rfl rfl ?_
  obtain ⟨n6, h⟩ := h
  refine zv_sub (lv2 := [(4, .long x0), (6, .long x2)]) [1, 0] rfl ?_
  exact vX6_common_6 X hr hlk hJ  n6 x0 x2 _ h
def rmX6_lowest : Room := { frames := 1, cells := 0, slots := 0, locals := 29 }
def pX6_lowest (x0 : Int64) (x2 : Int64) (x4 : Int32) (σ : zz_T) (Q : Int64 → zz_T → Prop) : Prop :=
    pX6_common x2 x0 σ (fun r2 s2 =>
    ((x4 = 0 → ¬ r2 = 0 ∧
    Q (x0 / r2) s2) ∧
    (¬ x4 = 0 → ¬ r2 = 0 ∧
    Q (x2 / r2) s2)))
set_option maxHeartbeats 4000000 in
set_option maxRecDepth 100000 in
theorem kX6_lowest (l : Launch) {Y : zz_Y} (hJ : zz_J Y) (x0 : Int64) (x2 : Int64) (x4 : Int32)  {σ : zz_T} {Q : Int64 → zz_T → Prop} (h : pX6_lowest x0 x2 x4 σ Q) : zz_Ml l yX6_lowest cX6_lowest 7 (some .long) rmX6_lowest Y [.long x0, .long x2, .int x4] σ Q := by
  refine zz_Ml.start (by decide) hJ (Nat.le_of_ble_eq_true rfl) (fun p e s m below meth c X hr hlk => ?_)
  have X : zz_X p m c cX6_lowest 7 s _ RX6 := X
  refine zv_sub (lv2 := [(0, .long x0), (2, .long x2), (4, .int x4)]) [0, 1, 2] rfl ?_
  unfold pX6_lowest at h
  refine zv_lload_n X dX6_lowest_0 1 rfl rfl rfl ?_
  refine zv_lload_n X dX6_lowest_1 0 rfl rfl rfl ?_
  refine zv_cSl X [.long x2, .long x0] (kX6_common l hJ x2 x0  h) jl_X6_275 ⟨rfl, rfl⟩ ⟨Nat.le_of_ble_eq_true rfl, Nat.le_of_ble_eq_true rfl⟩ rfl rfl (Nat.le_of_ble_eq_true rfl) dX6_lowest_2 rfl (fun r2 s2 h => ?_)
  refine zv_lstore (lv2 := [(5, .long r2), (0, .long x0), (2, .long x2), (4, .int x4)]) X dX6_lowest_5 (by decide) rfl rfl ?_
  refine zv_iload X dX6_lowest_7 3 rfl rfl ?_
  refine zv_if_ne (tgt := 19) X dX6_lowest_9 (by decide) rfl (fun q9 => ?_) (fun q9 => ?_)
  · replace h := h.2 q9
    refine zv_lload_n X dX6_lowest_19 2 rfl rfl rfl ?_
    refine zv_lload X dX6_lowest_20 0 rfl rfl ?_
    obtain ⟨z22, h⟩ := h
    refine zv_ldiv X dX6_lowest_22 z22 rfl ?_
    exact zv_lret X hr hlk h dX6_lowest_23
  · replace h := h.1 q9
    refine zv_lload_n X dX6_lowest_12 1 rfl rfl rfl ?_
    refine zv_lload X dX6_lowest_13 0 rfl rfl ?_
    obtain ⟨z15, h⟩ := h
    refine zv_ldiv X dX6_lowest_15 z15 rfl ?_
    refine zv_goto (tgt := 23) X dX6_lowest_16 (by decide) ?_
    exact zv_lret X hr hlk h dX6_lowest_23
def rmX6_findOdds : Room := { frames := 4, cells := 0, slots := 0, locals := 102 }
def pX6_findOdds_169  (Q : zz_T → Prop) (K45 : Int32 → Int32 → Int32 → Int32 → zz_T → Prop) (x1 : Int32) (x2 : Int32) (x3 : Int32) (x4 : Int32) (x5 : Int64) (t1 : Int64) (t2 : Int64) (σ : zz_T) : Prop :=
    K45 x1 x2 x3 (x4 + 1) (zz_l (zz_l σ 24 (t1 + t2)) 25 (((zz_l σ 24 (t1 + t2)).2 25) + (x5 * (Int32.toInt64 ((zz_l σ 24 (t1 + t2)).1 0 14)))))
set_option maxHeartbeats 4000000 in
set_option maxRecDepth 100000 in
theorem vX6_findOdds_169 {p : Program} {l : Launch} {e : Env} {s : State} {m : MethodId} {args : Array Value} {below : List Frame} {meth : Method} {c : Code} {Y : zz_Y}  {Q : zz_T → Prop} {K45 : Int32 → Int32 → Int32 → Int32 → zz_T → Prop} (X : zz_X p m c cX6_findOdds 9 s args RX6) (hr : meth.sig.returnType = none) (hlk : meth.locks = false) (hJ : zz_J Y) (hY : zz_mo Y) (hK45 : ∀ (x1 : Int32) (x2 : Int32) (x3 : Int32) (x4 : Int32) (σ : zz_T), K45 x1 x2 x3 x4 σ → zz_V p l e rmX6_findOdds s m args below meth c (MQ below (va_Qv Q (zz_E Y) (zz_A Y)) args s 0 0 (zz_A Y)) 9 Y σ 45 [(0, .ref (Y.2.1 0)), (1, .int x1), (2, .int x2), (3, .int x3), (4, .int x4)] []) : ∀ (x1 : Int32) (x2 : Int32) (x3 : Int32) (x4 : Int32) (x5 : Int64) (t1 : Int64) (t2 : Int64) (σ : zz_T), pX6_findOdds_169  Q K45 x1 x2 x3 x4 x5 t1 t2 σ → zz_V p l e rmX6_findOdds s m args below meth c (MQ below (va_Qv Q (zz_E Y) (zz_A Y)) args s 0 0 (zz_A Y)) 9 Y σ 169 [(0, .ref (Y.2.1 0)), (1, .int x1), (2, .int x2), (3, .int x3), (4, .int x4), (5, .long x5)] [.long t2, .long t1, .ref (Y.2.1 0)] := by
  intro x1 x2 x3 x4 x5 t1 t2 σ h 
  unfold pX6_findOdds_169 at h
  refine zv_ladd X dX6_findOdds_169 rfl ?_
  refine zp_X6_24 (k := 0) X (zz_mo_o hY).1 (zz_mo_o hY).2 (zz_mo_l hY) fl_X6_279 dX6_findOdds_170 rfl ?_
  refine zv_aload_n X dX6_findOdds_173 0 rfl rfl rfl ?_
  refine zv_dup X dX6_findOdds_174 rfl rfl ?_
  refine zg_X6_25 (k := 0) X (zz_mo_o hY).1 (zz_mo_o hY).2 fl_X6_283 dX6_findOdds_175 rfl ?_
  refine zv_lload X dX6_findOdds_178 5 rfl rfl ?_
  refine zv_aload_n X dX6_findOdds_180 0 rfl rfl rfl ?_
  refine zg_X6_14 (k := 0) X (zz_mo_o hY).1 (zz_mo_o hY).2 fl_X6_149 dX6_findOdds_181 rfl ?_
  refine zv_i2l X dX6_findOdds_184 rfl ?_
  refine zv_lmul X dX6_findOdds_185 rfl ?_
  refine zv_ladd X dX6_findOdds_186 rfl ?_
  refine zp_X6_25 (k := 0) X (zz_mo_o hY).1 (zz_mo_o hY).2 (zz_mo_l hY) fl_X6_283 dX6_findOdds_187 rfl ?_
  refine zv_iinc (v := (x4 + 1)) (lv2 := [(4, .int (x4 + 1)), (0, .ref (Y.2.1 0)), (1, .int x1), (2, .int x2), (3, .int x3), (5, .long x5)]) X dX6_findOdds_190 4 rfl rfl (by decide) rfl rfl ?_
  refine zv_goto (tgt := 45) X dX6_findOdds_193 (by decide) ?_
  refine zv_sub (lv2 := [(0, .ref (Y.2.1 0)), (1, .int x1), (2, .int x2), (3, .int x3), (4, .int (x4 + 1))]) [1, 2, 3, 4, 0] rfl ?_
  exact hK45 x1 x2 x3 (x4 + 1) _ h
def pX6_findOdds_168  (Q : zz_T → Prop) (K45 : Int32 → Int32 → Int32 → Int32 → zz_T → Prop) (x1 : Int32) (x2 : Int32) (x3 : Int32) (x4 : Int32) (x5 : Int64) (t1 : Int64) (σ : zz_T) : Prop :=
    pX6_findOdds_169  Q K45 x1 x2 x3 x4 x5 t1 0 σ
set_option maxHeartbeats 4000000 in
set_option maxRecDepth 100000 in
theorem vX6_findOdds_168 {p : Program} {l : Launch} {e : Env} {s : State} {m : MethodId} {args : Array Value} {below : List Frame} {meth : Method} {c : Code} {Y : zz_Y}  {Q : zz_T → Prop} {K45 : Int32 → Int32 → Int32 → Int32 → zz_T → Prop} (X : zz_X p m c cX6_findOdds 9 s args RX6) (hr : meth.sig.returnType = none) (hlk : meth.locks = false) (hJ : zz_J Y) (hY : zz_mo Y) (hK45 : ∀ (x1 : Int32) (x2 : Int32) (x3 : Int32) (x4 : Int32) (σ : zz_T), K45 x1 x2 x3 x4 σ → zz_V p l e rmX6_findOdds s m args below meth c (MQ below (va_Qv Q (zz_E Y) (zz_A Y)) args s 0 0 (zz_A Y)) 9 Y σ 45 [(0, .ref (Y.2.1 0)), (1, .int x1), (2, .int x2), (3, .int x3), (4, .int x4)] []) : ∀ (x1 : Int32) (x2 : Int32) (x3 : Int32) (x4 : Int32) (x5 : Int64) (t1 : Int64) (σ : zz_T), pX6_findOdds_168  Q K45 x1 x2 x3 x4 x5 t1 σ → zz_V p l e rmX6_findOdds s m args below meth c (MQ below (va_Qv Q (zz_E Y) (zz_A Y)) args s 0 0 (zz_A Y)) 9 Y σ 168 [(0, .ref (Y.2.1 0)), (1, .int x1), (2, .int x2), (3, .int x3), (4, .int x4), (5, .long x5)] [.long t1, .ref (Y.2.1 0)] := by
  intro x1 x2 x3 x4 x5 t1 σ h 
  unfold pX6_findOdds_168 at h
  refine zv_lconst (v := 0) X dX6_findOdds_168 (by decide) rfl ?_
  exact vX6_findOdds_169 X hr hlk hJ hY hK45 x1 x2 x3 x4 x5 t1 0 _ h
def pX6_findOdds_104  (Q : zz_T → Prop) (K45 : Int32 → Int32 → Int32 → Int32 → zz_T → Prop) (K63 : Int32 → Int32 → Int32 → Int32 → Int64 → Int32 → zz_T → Prop) (x1 : Int32) (x2 : Int32) (x3 : Int32) (x4 : Int32) (x7 : Int32) (x8 : Int32) (t0 : Int64) (t1 : Int64) (σ : zz_T) : Prop :=
    vp_in 50 70 ∧
    pX6_lineAt (σ.1 2 (Int32.toNatClampNeg 50)) σ (fun r116 s116 =>
    vp_in 50 70 ∧
    pX6_lineAt ((s116.1 2 (Int32.toNatClampNeg 50)) + 1) s116 (fun r129 s129 =>
    pX6_rowGoes r116 r129 x8 s129 (fun s134 =>
    K63 x1 x2 x3 x4 (t0 * t1) (x7 + 1) s134)))
set_option maxHeartbeats 4000000 in
set_option maxRecDepth 100000 in
theorem vX6_findOdds_104 {p : Program} {l : Launch} {e : Env} {s : State} {m : MethodId} {args : Array Value} {below : List Frame} {meth : Method} {c : Code} {Y : zz_Y}  {Q : zz_T → Prop} {K45 : Int32 → Int32 → Int32 → Int32 → zz_T → Prop} {K63 : Int32 → Int32 → Int32 → Int32 → Int64 → Int32 → zz_T → Prop} (X : zz_X p m c cX6_findOdds 9 s args RX6) (hr : meth.sig.returnType = none) (hlk : meth.locks = false) (hJ : zz_J Y) (hY : zz_mo Y) (hK45 : ∀ (x1 : Int32) (x2 : Int32) (x3 : Int32) (x4 : Int32) (σ : zz_T), K45 x1 x2 x3 x4 σ → zz_V p l e rmX6_findOdds s m args below meth c (MQ below (va_Qv Q (zz_E Y) (zz_A Y)) args s 0 0 (zz_A Y)) 9 Y σ 45 [(0, .ref (Y.2.1 0)), (1, .int x1), (2, .int x2), (3, .int x3), (4, .int x4)] []) (hK63 : ∀ (x1 : Int32) (x2 : Int32) (x3 : Int32) (x4 : Int32) (x5 : Int64) (x7 : Int32) (σ : zz_T), K63 x1 x2 x3 x4 x5 x7 σ → zz_V p l e rmX6_findOdds s m args below meth c (MQ below (va_Qv Q (zz_E Y) (zz_A Y)) args s 0 0 (zz_A Y)) 9 Y σ 63 [(0, .ref (Y.2.1 0)), (1, .int x1), (2, .int x2), (3, .int x3), (4, .int x4), (5, .long x5), (7, .int x7)] []) : ∀ (x1 : Int32) (x2 : Int32) (x3 : Int32) (x4 : Int32) (x7 : Int32) (x8 : Int32) (t0 : Int64) (t1 : Int64) (σ : zz_T), pX6_findOdds_104  Q K45 K63 x1 x2 x3 x4 x7 x8 t0 t1 σ → zz_V p l e rmX6_findOdds s m args below meth c (MQ below (va_Qv Q (zz_E Y) (zz_A Y)) args s 0 0 (zz_A Y)) 9 Y σ 104 [(0, .ref (Y.2.1 0)), (1, .int x1), (2, .int x2), (3, .int x3), (4, .int x4), (7, .int x7), (8, .int x8)] [.long t1, .long t0] := by
  intro x1 x2 x3 x4 x7 x8 t0 t1 σ h 
  unfold pX6_findOdds_104 at h
  refine zv_lmul X dX6_findOdds_104 rfl ?_
  refine zv_lstore (lv2 := [(5, .long (t0 * t1)), (0, .ref (Y.2.1 0)), (1, .int x1), (2, .int x2), (3, .int x3), (4, .int x4), (7, .int x7), (8, .int x8)]) X dX6_findOdds_105 (by decide) rfl rfl ?_
  refine zv_aload_n X dX6_findOdds_107 1 rfl rfl rfl ?_
  refine zv_aload_n X dX6_findOdds_108 1 rfl rfl rfl ?_
  refine zv_aload_n X dX6_findOdds_109 1 rfl rfl rfl ?_
  refine zg_X6_1 (k := 0) X (zz_mo_o hY).1 (zz_mo_o hY).2 fl_X6_13 dX6_findOdds_110 rfl ?_
  refine zv_bipush (v := 50) X dX6_findOdds_113 (by decide) rfl ?_
  obtain ⟨hi115, h⟩ := h
  refine zv_iald (k := 2) X (zz_mo_now hY).1 (zz_mo_now hY).2 hi115 dX6_findOdds_115 rfl ?_
  refine zv_cVi (k := 0) (ci := 6) X [.int (σ.1 2 (Int32.toNatClampNeg 50))] (kX6_lineAt l hJ (σ.1 2 (Int32.toNatClampNeg 50)) hY h) jl_X6_199 ⟨rfl, rfl⟩ ⟨Nat.le_of_ble_eq_true rfl, Nat.le_of_ble_eq_true rfl⟩ (zz_mo_o hY).1 (by decide) (zz_mo_o hY).2 rfl rfl rfl (Nat.le_of_ble_eq_true rfl) dX6_findOdds_116 rfl (fun r116 s116 h => ?_)
  refine zv_aload_n X dX6_findOdds_119 1 rfl rfl rfl ?_
  refine zv_aload_n X dX6_findOdds_120 1 rfl rfl rfl ?_
  refine zg_X6_1 (k := 0) X (zz_mo_o hY).1 (zz_mo_o hY).2 fl_X6_13 dX6_findOdds_121 rfl ?_
  refine zv_bipush (v := 50) X dX6_findOdds_124 (by decide) rfl ?_
  obtain ⟨hi126, h⟩ := h
  refine zv_iald (k := 2) X (zz_mo_now hY).1 (zz_mo_now hY).2 hi126 dX6_findOdds_126 rfl ?_
  refine zv_iconst (v := 1) X dX6_findOdds_127 (by decide) rfl ?_
  refine zv_iadd X dX6_findOdds_128 rfl ?_
  refine zv_cVi (k := 0) (ci := 6) X [.int ((s116.1 2 (Int32.toNatClampNeg 50)) + 1)] (kX6_lineAt l hJ ((s116.1 2 (Int32.toNatClampNeg 50)) + 1) hY h) jl_X6_199 ⟨rfl, rfl⟩ ⟨Nat.le_of_ble_eq_true rfl, Nat.le_of_ble_eq_true rfl⟩ (zz_mo_o hY).1 (by decide) (zz_mo_o hY).2 rfl rfl rfl (Nat.le_of_ble_eq_true rfl) dX6_findOdds_129 rfl (fun r129 s129 h => ?_)
  refine zv_iload X dX6_findOdds_132 7 rfl rfl ?_
  refine zv_cVv (k := 0) (ci := 6) X [.int r116, .int r129, .int x8] (kX6_rowGoes l hJ r116 r129 x8 hY h) jl_X6_202 ⟨rfl, rfl⟩ ⟨Nat.le_of_ble_eq_true rfl, Nat.le_of_ble_eq_true rfl⟩ (zz_mo_o hY).1 (by decide) (zz_mo_o hY).2 rfl rfl rfl (Nat.le_of_ble_eq_true rfl) dX6_findOdds_134 rfl (fun s134 h => ?_)
  refine zv_iinc (v := (x7 + 1)) (lv2 := [(7, .int (x7 + 1)), (5, .long (t0 * t1)), (0, .ref (Y.2.1 0)), (1, .int x1), (2, .int x2), (3, .int x3), (4, .int x4), (8, .int x8)]) X dX6_findOdds_137 6 rfl rfl (by decide) rfl rfl ?_
  refine zv_goto (tgt := 63) X dX6_findOdds_140 (by decide) ?_
  refine zv_sub (lv2 := [(0, .ref (Y.2.1 0)), (1, .int x1), (2, .int x2), (3, .int x3), (4, .int x4), (5, .long (t0 * t1)), (7, .int (x7 + 1))]) [2, 3, 4, 5, 6, 1, 0] rfl ?_
  exact hK63 x1 x2 x3 x4 (t0 * t1) (x7 + 1) _ h
def pX6_findOdds_85  (Q : zz_T → Prop) (K45 : Int32 → Int32 → Int32 → Int32 → zz_T → Prop) (K63 : Int32 → Int32 → Int32 → Int32 → Int64 → Int32 → zz_T → Prop) (x1 : Int32) (x2 : Int32) (x3 : Int32) (x4 : Int32) (x5 : Int64) (x7 : Int32) (t0 : Int32) (σ : zz_T) : Prop :=
    ((t0 = 0 → pX6_findOdds_104  Q K45 K63 x1 x2 x3 x4 x7 t0 x5 (Int32.toInt64 (10 - x1)) σ) ∧
    (¬ t0 = 0 → pX6_findOdds_104  Q K45 K63 x1 x2 x3 x4 x7 t0 x5 (Int32.toInt64 x1) σ))
set_option maxHeartbeats 4000000 in
set_option maxRecDepth 100000 in
theorem vX6_findOdds_85 {p : Program} {l : Launch} {e : Env} {s : State} {m : MethodId} {args : Array Value} {below : List Frame} {meth : Method} {c : Code} {Y : zz_Y}  {Q : zz_T → Prop} {K45 : Int32 → Int32 → Int32 → Int32 → zz_T → Prop} {K63 : Int32 → Int32 → Int32 → Int32 → Int64 → Int32 → zz_T → Prop} (X : zz_X p m c cX6_findOdds 9 s args RX6) (hr : meth.sig.returnType = none) (hlk : meth.locks = false) (hJ : zz_J Y) (hY : zz_mo Y) (hK45 : ∀ (x1 : Int32) (x2 : Int32) (x3 : Int32) (x4 : Int32) (σ : zz_T), K45 x1 x2 x3 x4 σ → zz_V p l e rmX6_findOdds s m args below meth c (MQ below (va_Qv Q (zz_E Y) (zz_A Y)) args s 0 0 (zz_A Y)) 9 Y σ 45 [(0, .ref (Y.2.1 0)), (1, .int x1), (2, .int x2), (3, .int x3), (4, .int x4)] []) (hK63 : ∀ (x1 : Int32) (x2 : Int32) (x3 : Int32) (x4 : Int32) (x5 : Int64) (x7 : Int32) (σ : zz_T), K63 x1 x2 x3 x4 x5 x7 σ → zz_V p l e rmX6_findOdds s m args below meth c (MQ below (va_Qv Q (zz_E Y) (zz_A Y)) args s 0 0 (zz_A Y)) 9 Y σ 63 [(0, .ref (Y.2.1 0)), (1, .int x1), (2, .int x2), (3, .int x3), (4, .int x4), (5, .long x5), (7, .int x7)] []) : ∀ (x1 : Int32) (x2 : Int32) (x3 : Int32) (x4 : Int32) (x5 : Int64) (x7 : Int32) (t0 : Int32) (σ : zz_T), pX6_findOdds_85  Q K45 K63 x1 x2 x3 x4 x5 x7 t0 σ → zz_V p l e rmX6_findOdds s m args below meth c (MQ below (va_Qv Q (zz_E Y) (zz_A Y)) args s 0 0 (zz_A Y)) 9 Y σ 85 [(0, .ref (Y.2.1 0)), (1, .int x1), (2, .int x2), (3, .int x3), (4, .int x4), (5, .long x5), (7, .int x7)] [.int t0] := by
  intro x1 x2 x3 x4 x5 x7 t0 σ h 
  unfold pX6_findOdds_85 at h
  refine zv_istore (lv2 := [(8, .int t0), (0, .ref (Y.2.1 0)), (1, .int x1), (2, .int x2), (3, .int x3), (4, .int x4), (5, .long x5), (7, .int x7)]) X dX6_findOdds_85 (by decide) rfl rfl ?_
  refine zv_lload X dX6_findOdds_87 6 rfl rfl ?_
  refine zv_iload X dX6_findOdds_89 0 rfl rfl ?_
  refine zv_if_eq (tgt := 99) X dX6_findOdds_91 (by decide) rfl (fun q91 => ?_) (fun q91 => ?_)
  · replace h := h.1 q91
    refine zv_bipush (v := 10) X dX6_findOdds_99 (by decide) rfl ?_
    refine zv_iload_n X dX6_findOdds_101 2 rfl rfl rfl ?_
    refine zv_isub X dX6_findOdds_102 rfl ?_
    refine zv_i2l X dX6_findOdds_103 rfl ?_
    refine zv_sub (lv2 := [(0, .ref (Y.2.1 0)), (1, .int x1), (2, .int x2), (3, .int x3), (4, .int x4), (7, .int x7), (8, .int t0)]) [1, 2, 3, 4, 5, 7, 0] rfl ?_
    exact vX6_findOdds_104 X hr hlk hJ hY hK45 hK63 x1 x2 x3 x4 x7 t0 x5 (Int32.toInt64 (10 - x1)) _ h
  · replace h := h.2 q91
    refine zv_iload_n X dX6_findOdds_94 2 rfl rfl rfl ?_
    refine zv_i2l X dX6_findOdds_95 rfl ?_
    refine zv_goto (tgt := 104) X dX6_findOdds_96 (by decide) ?_
    refine zv_sub (lv2 := [(0, .ref (Y.2.1 0)), (1, .int x1), (2, .int x2), (3, .int x3), (4, .int x4), (7, .int x7), (8, .int t0)]) [1, 2, 3, 4, 5, 7, 0] rfl ?_
    exact vX6_findOdds_104 X hr hlk hJ hY hK45 hK63 x1 x2 x3 x4 x7 t0 x5 (Int32.toInt64 x1) _ h
def pX6_findOdds_63  (Q : zz_T → Prop) (K45 : Int32 → Int32 → Int32 → Int32 → zz_T → Prop) : Nat → Int32 → Int32 → Int32 → Int32 → Int64 → Int32 → zz_T → Prop
  | 0, _, _, _, _, _, _, _ => False
  | n + 1, x1, x2, x3, x4, x5, x7, σ =>
    ((x3 ≤ x7 → ((x2 = (-4) → pX6_findOdds_168  Q K45 x1 x2 x3 x4 x5 (σ.2 24) σ) ∧
    (¬ x2 = (-4) → vp_in x2 3 ∧
    (((σ.1 7 (Int32.toNatClampNeg x2)) = 0 → pX6_findOdds_169  Q K45 x1 x2 x3 x4 x5 (σ.2 24) x5 σ) ∧
    (¬ (σ.1 7 (Int32.toNatClampNeg x2)) = 0 → pX6_findOdds_168  Q K45 x1 x2 x3 x4 x5 (σ.2 24) σ))))) ∧
    (¬ x3 ≤ x7 → ((((x4 >>> (x7 &&& (31 : Int32))) &&& 1) = 1 → pX6_findOdds_85  Q K45 (pX6_findOdds_63  Q K45 n) x1 x2 x3 x4 x5 x7 1 σ) ∧
    (¬ ((x4 >>> (x7 &&& (31 : Int32))) &&& 1) = 1 → pX6_findOdds_85  Q K45 (pX6_findOdds_63  Q K45 n) x1 x2 x3 x4 x5 x7 0 σ))))
set_option maxHeartbeats 4000000 in
set_option maxRecDepth 100000 in
theorem vX6_findOdds_63 {p : Program} {l : Launch} {e : Env} {s : State} {m : MethodId} {args : Array Value} {below : List Frame} {meth : Method} {c : Code} {Y : zz_Y}  {Q : zz_T → Prop} {K45 : Int32 → Int32 → Int32 → Int32 → zz_T → Prop} (X : zz_X p m c cX6_findOdds 9 s args RX6) (hr : meth.sig.returnType = none) (hlk : meth.locks = false) (hJ : zz_J Y) (hY : zz_mo Y) (hK45 : ∀ (x1 : Int32) (x2 : Int32) (x3 : Int32) (x4 : Int32) (σ : zz_T), K45 x1 x2 x3 x4 σ → zz_V p l e rmX6_findOdds s m args below meth c (MQ below (va_Qv Q (zz_E Y) (zz_A Y)) args s 0 0 (zz_A Y)) 9 Y σ 45 [(0, .ref (Y.2.1 0)), (1, .int x1), (2, .int x2), (3, .int x3), (4, .int x4)] []) : ∀ (n : Nat) (x1 : Int32) (x2 : Int32) (x3 : Int32) (x4 : Int32) (x5 : Int64) (x7 : Int32) (σ : zz_T), pX6_findOdds_63  Q K45 n x1 x2 x3 x4 x5 x7 σ → zz_V p l e rmX6_findOdds s m args below meth c (MQ below (va_Qv Q (zz_E Y) (zz_A Y)) args s 0 0 (zz_A Y)) 9 Y σ 63 [(0, .ref (Y.2.1 0)), (1, .int x1), (2, .int x2), (3, .int x3), (4, .int x4), (5, .long x5), (7, .int x7)] [] := by
  intro n
  induction n with
  | zero => intro x1 x2 x3 x4 x5 x7 σ h; exact h.elim
  | succ n ih =>
    intro x1 x2 x3 x4 x5 x7 σ h 
    unfold pX6_findOdds_63 at h
    refine zv_iload X dX6_findOdds_63 6 rfl rfl ?_
    refine zv_iload_n X dX6_findOdds_65 3 rfl rfl rfl ?_
    refine zv_icmp_ge (tgt := 143) X dX6_findOdds_66 (by decide) rfl (fun q66 => ?_) (fun q66 => ?_)
    · replace h := h.1 q66
      refine zv_aload_n X dX6_findOdds_143 0 rfl rfl rfl ?_
      refine zv_dup X dX6_findOdds_144 rfl rfl ?_
      refine zg_X6_24 (k := 0) X (zz_mo_o hY).1 (zz_mo_o hY).2 fl_X6_279 dX6_findOdds_145 rfl ?_
      refine zv_iload_n X dX6_findOdds_148 2 rfl rfl rfl ?_
      refine zv_bipush (v := (-4)) X dX6_findOdds_149 (by decide) rfl ?_
      refine zv_icmp_eq (tgt := 168) X dX6_findOdds_151 (by decide) rfl (fun q151 => ?_) (fun q151 => ?_)
      · replace h := h.1 q151
        refine zv_sub (lv2 := [(0, .ref (Y.2.1 0)), (1, .int x1), (2, .int x2), (3, .int x3), (4, .int x4), (5, .long x5)]) [0, 1, 2, 3, 4, 5] rfl ?_
        exact vX6_findOdds_168 X hr hlk hJ hY hK45 x1 x2 x3 x4 x5 (σ.2 24) _ h
      · replace h := h.2 q151
        refine zv_aload_n X dX6_findOdds_154 0 rfl rfl rfl ?_
        refine zg_X6_18 (k := 0) X (zz_mo_o hY).1 (zz_mo_o hY).2 fl_X6_29 dX6_findOdds_155 rfl ?_
        refine zv_iload_n X dX6_findOdds_158 2 rfl rfl rfl ?_
        obtain ⟨hi159, h⟩ := h
        refine zv_iald (k := 7) X (zz_mo_wrongBy hY).1 (zz_mo_wrongBy hY).2 hi159 dX6_findOdds_159 rfl ?_
        refine zv_if_ne (tgt := 168) X dX6_findOdds_160 (by decide) rfl (fun q160 => ?_) (fun q160 => ?_)
        · replace h := h.2 q160
          refine zv_sub (lv2 := [(0, .ref (Y.2.1 0)), (1, .int x1), (2, .int x2), (3, .int x3), (4, .int x4), (5, .long x5)]) [0, 1, 2, 3, 4, 5] rfl ?_
          exact vX6_findOdds_168 X hr hlk hJ hY hK45 x1 x2 x3 x4 x5 (σ.2 24) _ h
        · replace h := h.1 q160
          refine zv_lload X dX6_findOdds_163 5 rfl rfl ?_
          refine zv_goto (tgt := 169) X dX6_findOdds_165 (by decide) ?_
          refine zv_sub (lv2 := [(0, .ref (Y.2.1 0)), (1, .int x1), (2, .int x2), (3, .int x3), (4, .int x4), (5, .long x5)]) [0, 1, 2, 3, 4, 5] rfl ?_
          exact vX6_findOdds_169 X hr hlk hJ hY hK45 x1 x2 x3 x4 x5 (σ.2 24) x5 _ h
    · replace h := h.2 q66
      refine zv_iload X dX6_findOdds_69 4 rfl rfl ?_
      refine zv_iload X dX6_findOdds_71 6 rfl rfl ?_
      refine zv_ishr X dX6_findOdds_73 rfl ?_
      refine zv_iconst (v := 1) X dX6_findOdds_74 (by decide) rfl ?_
      refine zv_iand X dX6_findOdds_75 rfl ?_
      refine zv_iconst (v := 1) X dX6_findOdds_76 (by decide) rfl ?_
      refine zv_icmp_ne (tgt := 84) X dX6_findOdds_77 (by decide) rfl (fun q77 => ?_) (fun q77 => ?_)
      · replace h := h.2 q77
        refine zv_iconst (v := 0) X dX6_findOdds_84 (by decide) rfl ?_
        exact vX6_findOdds_85 X hr hlk hJ hY hK45 ih x1 x2 x3 x4 x5 x7 0 _ h
      · replace h := h.1 q77
        refine zv_iconst (v := 1) X dX6_findOdds_80 (by decide) rfl ?_
        refine zv_goto (tgt := 85) X dX6_findOdds_81 (by decide) ?_
        exact vX6_findOdds_85 X hr hlk hJ hY hK45 ih x1 x2 x3 x4 x5 x7 1 _ h
def pX6_findOdds_45  (Q : zz_T → Prop) : Nat → Int32 → Int32 → Int32 → Int32 → zz_T → Prop
  | 0, _, _, _, _, _ => False
  | n + 1, x1, x2, x3, x4, σ =>
    (((1 <<< (x3 &&& (31 : Int32))) ≤ x4 → Q σ) ∧
    (¬ (1 <<< (x3 &&& (31 : Int32))) ≤ x4 → pX6_starts σ (fun s57 =>
    ∃ n63, pX6_findOdds_63  Q (pX6_findOdds_45  Q n) n63 x1 x2 x3 x4 1 0 s57)))
set_option maxHeartbeats 4000000 in
set_option maxRecDepth 100000 in
theorem vX6_findOdds_45 {p : Program} {l : Launch} {e : Env} {s : State} {m : MethodId} {args : Array Value} {below : List Frame} {meth : Method} {c : Code} {Y : zz_Y}  {Q : zz_T → Prop} (X : zz_X p m c cX6_findOdds 9 s args RX6) (hr : meth.sig.returnType = none) (hlk : meth.locks = false) (hJ : zz_J Y) (hY : zz_mo Y)  : ∀ (n : Nat) (x1 : Int32) (x2 : Int32) (x3 : Int32) (x4 : Int32) (σ : zz_T), pX6_findOdds_45  Q n x1 x2 x3 x4 σ → zz_V p l e rmX6_findOdds s m args below meth c (MQ below (va_Qv Q (zz_E Y) (zz_A Y)) args s 0 0 (zz_A Y)) 9 Y σ 45 [(0, .ref (Y.2.1 0)), (1, .int x1), (2, .int x2), (3, .int x3), (4, .int x4)] [] := by
  intro n
  induction n with
  | zero => intro x1 x2 x3 x4 σ h; exact h.elim
  | succ n ih =>
    intro x1 x2 x3 x4 σ h 
    unfold pX6_findOdds_45 at h
    refine zv_iload X dX6_findOdds_45 4 rfl rfl ?_
    refine zv_iconst (v := 1) X dX6_findOdds_47 (by decide) rfl ?_
    refine zv_iload_n X dX6_findOdds_48 3 rfl rfl rfl ?_
    refine zv_ishl X dX6_findOdds_49 rfl ?_
    refine zv_icmp_ge (tgt := 196) X dX6_findOdds_50 (by decide) rfl (fun q50 => ?_) (fun q50 => ?_)
    · replace h := h.1 q50
      exact zv_vret X hr hlk h dX6_findOdds_196
    · replace h := h.2 q50
      refine zv_lconst (v := 1) X dX6_findOdds_53 (by decide) rfl ?_
      refine zv_lstore (lv2 := [(5, .long 1), (0, .ref (Y.2.1 0)), (1, .int x1), (2, .int x2), (3, .int x3), (4, .int x4)]) X dX6_findOdds_54 (by decide) rfl rfl ?_
      refine zv_aload_n X dX6_findOdds_56 1 rfl rfl rfl ?_
      refine zv_cVv (k := 0) (ci := 6) X [] (kX6_starts l hJ  hY h) jl_X6_209 ⟨rfl, rfl⟩ ⟨Nat.le_of_ble_eq_true rfl, Nat.le_of_ble_eq_true rfl⟩ (zz_mo_o hY).1 (by decide) (zz_mo_o hY).2 rfl rfl rfl (Nat.le_of_ble_eq_true rfl) dX6_findOdds_57 rfl (fun s57 h => ?_)
      refine zv_iconst (v := 0) X dX6_findOdds_60 (by decide) rfl ?_
      refine zv_istore (lv2 := [(7, .int 0), (5, .long 1), (0, .ref (Y.2.1 0)), (1, .int x1), (2, .int x2), (3, .int x3), (4, .int x4)]) X dX6_findOdds_61 (by decide) rfl rfl ?_
      obtain ⟨n63, h⟩ := h
      refine zv_sub (lv2 := [(0, .ref (Y.2.1 0)), (1, .int x1), (2, .int x2), (3, .int x3), (4, .int x4), (5, .long 1), (7, .int 0)]) [2, 3, 4, 5, 6, 1, 0] rfl ?_
      exact vX6_findOdds_63 X hr hlk hJ hY ih n63 x1 x2 x3 x4 1 0 _ h
def pX6_findOdds_18  (Q : zz_T → Prop) : Nat → Int32 → Int32 → Int32 → Int32 → zz_T → Prop
  | 0, _, _, _, _, _ => False
  | n + 1, x1, x2, x3, x4, σ =>
    ((x3 ≤ x4 → ∃ n45, pX6_findOdds_45  Q n45 x1 x2 x3 0 σ) ∧
    (¬ x3 ≤ x4 → pX6_findOdds_18  Q n x1 x2 x3 (x4 + 1) (zz_l σ 26 ((σ.2 26) * 10))))
set_option maxHeartbeats 4000000 in
set_option maxRecDepth 100000 in
theorem vX6_findOdds_18 {p : Program} {l : Launch} {e : Env} {s : State} {m : MethodId} {args : Array Value} {below : List Frame} {meth : Method} {c : Code} {Y : zz_Y}  {Q : zz_T → Prop} (X : zz_X p m c cX6_findOdds 9 s args RX6) (hr : meth.sig.returnType = none) (hlk : meth.locks = false) (hJ : zz_J Y) (hY : zz_mo Y)  : ∀ (n : Nat) (x1 : Int32) (x2 : Int32) (x3 : Int32) (x4 : Int32) (σ : zz_T), pX6_findOdds_18  Q n x1 x2 x3 x4 σ → zz_V p l e rmX6_findOdds s m args below meth c (MQ below (va_Qv Q (zz_E Y) (zz_A Y)) args s 0 0 (zz_A Y)) 9 Y σ 18 [(0, .ref (Y.2.1 0)), (1, .int x1), (2, .int x2), (3, .int x3), (4, .int x4)] [] := by
  intro n
  induction n with
  | zero => intro x1 x2 x3 x4 σ h; exact h.elim
  | succ n ih =>
    intro x1 x2 x3 x4 σ h 
    unfold pX6_findOdds_18 at h
    refine zv_iload X dX6_findOdds_18 4 rfl rfl ?_
    refine zv_iload_n X dX6_findOdds_20 3 rfl rfl rfl ?_
    refine zv_icmp_ge (tgt := 42) X dX6_findOdds_21 (by decide) rfl (fun q21 => ?_) (fun q21 => ?_)
    · replace h := h.1 q21
      refine zv_iconst (v := 0) X dX6_findOdds_42 (by decide) rfl ?_
      refine zv_istore (lv2 := [(4, .int 0), (0, .ref (Y.2.1 0)), (1, .int x1), (2, .int x2), (3, .int x3)]) X dX6_findOdds_43 (by decide) rfl rfl ?_
      obtain ⟨n45, h⟩ := h
      refine zv_sub (lv2 := [(0, .ref (Y.2.1 0)), (1, .int x1), (2, .int x2), (3, .int x3), (4, .int 0)]) [1, 2, 3, 4, 0] rfl ?_
      exact vX6_findOdds_45 X hr hlk hJ hY n45 x1 x2 x3 0 _ h
    · replace h := h.2 q21
      refine zv_aload_n X dX6_findOdds_24 0 rfl rfl rfl ?_
      refine zv_dup X dX6_findOdds_25 rfl rfl ?_
      refine zg_X6_26 (k := 0) X (zz_mo_o hY).1 (zz_mo_o hY).2 fl_X6_286 dX6_findOdds_26 rfl ?_
      refine zv_ldc2 (v := 10) X dX6_findOdds_29 co_X6_289 rfl ?_
      refine zv_lmul X dX6_findOdds_32 rfl ?_
      refine zp_X6_26 (k := 0) X (zz_mo_o hY).1 (zz_mo_o hY).2 (zz_mo_l hY) fl_X6_286 dX6_findOdds_33 rfl ?_
      refine zv_iinc (v := (x4 + 1)) (lv2 := [(4, .int (x4 + 1)), (0, .ref (Y.2.1 0)), (1, .int x1), (2, .int x2), (3, .int x3)]) X dX6_findOdds_36 4 rfl rfl (by decide) rfl rfl ?_
      refine zv_goto (tgt := 18) X dX6_findOdds_39 (by decide) ?_
      refine zv_sub (lv2 := [(0, .ref (Y.2.1 0)), (1, .int x1), (2, .int x2), (3, .int x3), (4, .int (x4 + 1))]) [1, 2, 3, 4, 0] rfl ?_
      exact ih x1 x2 x3 (x4 + 1) _ h
def pX6_findOdds (x1 : Int32) (x2 : Int32) (x3 : Int32) (σ : zz_T) (Q : zz_T → Prop) : Prop :=
    ∃ n18, pX6_findOdds_18  Q n18 x1 x2 x3 0 (zz_l (zz_l (zz_l σ 24 0) 25 0) 26 1)
set_option maxHeartbeats 4000000 in
set_option maxRecDepth 100000 in
theorem kX6_findOdds (l : Launch) {Y : zz_Y} (hJ : zz_J Y) (x1 : Int32) (x2 : Int32) (x3 : Int32) (hY : zz_mo Y) {σ : zz_T} {Q : zz_T → Prop} (h : pX6_findOdds x1 x2 x3 σ Q) : zz_Mv l yX6_findOdds cX6_findOdds 9 none rmX6_findOdds Y [.ref (Y.2.1 0), .int x1, .int x2, .int x3] σ Q := by
  refine zz_Mv.start (by decide) hJ (Nat.le_of_ble_eq_true rfl) (fun p e s m below meth c X hr hlk => ?_)
  have X : zz_X p m c cX6_findOdds 9 s _ RX6 := X
  refine zv_sub (lv2 := [(0, .ref (Y.2.1 0)), (1, .int x1), (2, .int x2), (3, .int x3)]) [0, 1, 2, 3] rfl ?_
  unfold pX6_findOdds at h
  refine zv_aload_n X dX6_findOdds_0 0 rfl rfl rfl ?_
  refine zv_lconst (v := 0) X dX6_findOdds_1 (by decide) rfl ?_
  refine zp_X6_24 (k := 0) X (zz_mo_o hY).1 (zz_mo_o hY).2 (zz_mo_l hY) fl_X6_279 dX6_findOdds_2 rfl ?_
  refine zv_aload_n X dX6_findOdds_5 0 rfl rfl rfl ?_
  refine zv_lconst (v := 0) X dX6_findOdds_6 (by decide) rfl ?_
  refine zp_X6_25 (k := 0) X (zz_mo_o hY).1 (zz_mo_o hY).2 (zz_mo_l hY) fl_X6_283 dX6_findOdds_7 rfl ?_
  refine zv_aload_n X dX6_findOdds_10 0 rfl rfl rfl ?_
  refine zv_lconst (v := 1) X dX6_findOdds_11 (by decide) rfl ?_
  refine zp_X6_26 (k := 0) X (zz_mo_o hY).1 (zz_mo_o hY).2 (zz_mo_l hY) fl_X6_286 dX6_findOdds_12 rfl ?_
  refine zv_iconst (v := 0) X dX6_findOdds_15 (by decide) rfl ?_
  refine zv_istore (lv2 := [(4, .int 0), (0, .ref (Y.2.1 0)), (1, .int x1), (2, .int x2), (3, .int x3)]) X dX6_findOdds_16 (by decide) rfl rfl ?_
  obtain ⟨n18, h⟩ := h
  refine zv_sub (lv2 := [(0, .ref (Y.2.1 0)), (1, .int x1), (2, .int x2), (3, .int x3), (4, .int 0)]) [1, 2, 3, 4, 0] rfl ?_
  exact vX6_findOdds_18 X hr hlk hJ hY n18 x1 x2 x3 0 _ h
def rmX6_luck : Room := { frames := 5, cells := 0, slots := 0, locals := 130 }
def pX6_luck (x1 : Int32) (x2 : Int32) (x3 : Int32) (x4 : Int32) (σ : zz_T) (Q : Int64 → zz_T → Prop) : Prop :=
    pX6_in (Int32.toInt64 x1) 0 10 σ (fun r6 s6 =>
    ((r6 = 0 → Q (-1) s6) ∧
    (¬ r6 = 0 → pX6_isHead x2 s6 (fun r14 s14 =>
    ((r14 = 0 → Q (-1) s14) ∧
    (¬ r14 = 0 → pX6_in (Int32.toInt64 x3) 0 6 s14 (fun r26 s26 =>
    ((r26 = 0 → Q (-1) s26) ∧
    (¬ r26 = 0 → pX6_isPart x4 s26 (fun r34 s34 =>
    ((r34 = 0 → Q (-1) s34) ∧
    (¬ r34 = 0 → pX6_findOdds x1 x2 x3 s34 (fun s48 =>
    pX6_lowest (s48.2 24) (s48.2 26) x4 s48 (fun r61 s61 =>
    Q r61 s61))))))))))))))
set_option maxHeartbeats 4000000 in
set_option maxRecDepth 100000 in
theorem kX6_luck (l : Launch) {Y : zz_Y} (hJ : zz_J Y) (x1 : Int32) (x2 : Int32) (x3 : Int32) (x4 : Int32) (hY : zz_mo Y) {σ : zz_T} {Q : Int64 → zz_T → Prop} (h : pX6_luck x1 x2 x3 x4 σ Q) : zz_Ml l yX6_luck cX6_luck 5 (some .long) rmX6_luck Y [.ref (Y.2.1 0), .int x1, .int x2, .int x3, .int x4] σ Q := by
  refine zz_Ml.start (by decide) hJ (Nat.le_of_ble_eq_true rfl) (fun p e s m below meth c X hr hlk => ?_)
  have X : zz_X p m c cX6_luck 5 s _ RX6 := X
  refine zv_sub (lv2 := [(0, .ref (Y.2.1 0)), (1, .int x1), (2, .int x2), (3, .int x3), (4, .int x4)]) [0, 1, 2, 3, 4] rfl ?_
  unfold pX6_luck at h
  refine zv_iload_n X dX6_luck_0 1 rfl rfl rfl ?_
  refine zv_i2l X dX6_luck_1 rfl ?_
  refine zv_lconst (v := 0) X dX6_luck_2 (by decide) rfl ?_
  refine zv_ldc2 (v := 10) X dX6_luck_3 co_X6_289 rfl ?_
  refine zv_cSi X [.long (Int32.toInt64 x1), .long 0, .long 10] (kX6_in l hJ (Int32.toInt64 x1) 0 10  h) jl_X6_67 ⟨rfl, rfl⟩ ⟨Nat.le_of_ble_eq_true rfl, Nat.le_of_ble_eq_true rfl⟩ rfl rfl (Nat.le_of_ble_eq_true rfl) dX6_luck_6 rfl (fun r6 s6 h => ?_)
  refine zv_if_eq (tgt := 40) X dX6_luck_9 (by decide) rfl (fun q9 => ?_) (fun q9 => ?_)
  · replace h := h.1 q9
    refine zv_ldc2 (v := (-1)) X dX6_luck_40 co_X6_293 rfl ?_
    exact zv_lret X hr hlk h dX6_luck_43
  · replace h := h.2 q9
    refine zv_aload_n X dX6_luck_12 0 rfl rfl rfl ?_
    refine zv_iload_n X dX6_luck_13 2 rfl rfl rfl ?_
    refine zv_cVi (k := 0) (ci := 6) X [.int x2] (kX6_isHead l hJ x2 hY h) jl_X6_215 ⟨rfl, rfl⟩ ⟨Nat.le_of_ble_eq_true rfl, Nat.le_of_ble_eq_true rfl⟩ (zz_mo_o hY).1 (by decide) (zz_mo_o hY).2 rfl rfl rfl (Nat.le_of_ble_eq_true rfl) dX6_luck_14 rfl (fun r14 s14 h => ?_)
    refine zv_if_eq (tgt := 40) X dX6_luck_17 (by decide) rfl (fun q17 => ?_) (fun q17 => ?_)
    · replace h := h.1 q17
      refine zv_ldc2 (v := (-1)) X dX6_luck_40 co_X6_293 rfl ?_
      exact zv_lret X hr hlk h dX6_luck_43
    · replace h := h.2 q17
      refine zv_iload_n X dX6_luck_20 3 rfl rfl rfl ?_
      refine zv_i2l X dX6_luck_21 rfl ?_
      refine zv_lconst (v := 0) X dX6_luck_22 (by decide) rfl ?_
      refine zv_ldc2 (v := 6) X dX6_luck_23 co_X6_291 rfl ?_
      refine zv_cSi X [.long (Int32.toInt64 x3), .long 0, .long 6] (kX6_in l hJ (Int32.toInt64 x3) 0 6  h) jl_X6_67 ⟨rfl, rfl⟩ ⟨Nat.le_of_ble_eq_true rfl, Nat.le_of_ble_eq_true rfl⟩ rfl rfl (Nat.le_of_ble_eq_true rfl) dX6_luck_26 rfl (fun r26 s26 h => ?_)
      refine zv_if_eq (tgt := 40) X dX6_luck_29 (by decide) rfl (fun q29 => ?_) (fun q29 => ?_)
      · replace h := h.1 q29
        refine zv_ldc2 (v := (-1)) X dX6_luck_40 co_X6_293 rfl ?_
        exact zv_lret X hr hlk h dX6_luck_43
      · replace h := h.2 q29
        refine zv_iload X dX6_luck_32 4 rfl rfl ?_
        refine zv_cSi X [.int x4] (kX6_isPart l hJ x4  h) jl_X6_227 ⟨rfl, rfl⟩ ⟨Nat.le_of_ble_eq_true rfl, Nat.le_of_ble_eq_true rfl⟩ rfl rfl (Nat.le_of_ble_eq_true rfl) dX6_luck_34 rfl (fun r34 s34 h => ?_)
        refine zv_if_ne (tgt := 44) X dX6_luck_37 (by decide) rfl (fun q37 => ?_) (fun q37 => ?_)
        · replace h := h.2 q37
          refine zv_aload_n X dX6_luck_44 0 rfl rfl rfl ?_
          refine zv_iload_n X dX6_luck_45 1 rfl rfl rfl ?_
          refine zv_iload_n X dX6_luck_46 2 rfl rfl rfl ?_
          refine zv_iload_n X dX6_luck_47 3 rfl rfl rfl ?_
          refine zv_cVv (k := 0) (ci := 6) X [.int x1, .int x2, .int x3] (kX6_findOdds l hJ x1 x2 x3 hY h) jl_X6_295 ⟨rfl, rfl⟩ ⟨Nat.le_of_ble_eq_true rfl, Nat.le_of_ble_eq_true rfl⟩ (zz_mo_o hY).1 (by decide) (zz_mo_o hY).2 rfl rfl rfl (Nat.le_of_ble_eq_true rfl) dX6_luck_48 rfl (fun s48 h => ?_)
          refine zv_aload_n X dX6_luck_51 0 rfl rfl rfl ?_
          refine zg_X6_24 (k := 0) X (zz_mo_o hY).1 (zz_mo_o hY).2 fl_X6_279 dX6_luck_52 rfl ?_
          refine zv_aload_n X dX6_luck_55 0 rfl rfl rfl ?_
          refine zg_X6_26 (k := 0) X (zz_mo_o hY).1 (zz_mo_o hY).2 fl_X6_286 dX6_luck_56 rfl ?_
          refine zv_iload X dX6_luck_59 4 rfl rfl ?_
          refine zv_cSl X [.long (s48.2 24), .long (s48.2 26), .int x4] (kX6_lowest l hJ (s48.2 24) (s48.2 26) x4  h) jl_X6_298 ⟨rfl, rfl⟩ ⟨Nat.le_of_ble_eq_true rfl, Nat.le_of_ble_eq_true rfl⟩ rfl rfl (Nat.le_of_ble_eq_true rfl) dX6_luck_61 rfl (fun r61 s61 h => ?_)
          exact zv_lret X hr hlk h dX6_luck_64
        · replace h := h.1 q37
          refine zv_ldc2 (v := (-1)) X dX6_luck_40 co_X6_293 rfl ?_
          exact zv_lret X hr hlk h dX6_luck_43
def rmX6_mean : Room := { frames := 5, cells := 0, slots := 0, locals := 130 }
def pX6_mean (x1 : Int32) (x2 : Int32) (x3 : Int32) (σ : zz_T) (Q : Int64 → zz_T → Prop) : Prop :=
    pX6_in (Int32.toInt64 x1) 0 10 σ (fun r6 s6 =>
    ((r6 = 0 → Q (-1) s6) ∧
    (¬ r6 = 0 → pX6_in (Int32.toInt64 x2) 0 6 s6 (fun r18 s18 =>
    ((r18 = 0 → Q (-1) s18) ∧
    (¬ r18 = 0 → pX6_isPart x3 s18 (fun r25 s25 =>
    ((r25 = 0 → Q (-1) s25) ∧
    (¬ r25 = 0 → pX6_findOdds x1 (-4) x2 s25 (fun s40 =>
    pX6_lowest (s40.2 25) (s40.2 26) x3 s40 (fun r52 s52 =>
    Q r52 s52)))))))))))
set_option maxHeartbeats 4000000 in
set_option maxRecDepth 100000 in
theorem kX6_mean (l : Launch) {Y : zz_Y} (hJ : zz_J Y) (x1 : Int32) (x2 : Int32) (x3 : Int32) (hY : zz_mo Y) {σ : zz_T} {Q : Int64 → zz_T → Prop} (h : pX6_mean x1 x2 x3 σ Q) : zz_Ml l yX6_mean cX6_mean 4 (some .long) rmX6_mean Y [.ref (Y.2.1 0), .int x1, .int x2, .int x3] σ Q := by
  refine zz_Ml.start (by decide) hJ (Nat.le_of_ble_eq_true rfl) (fun p e s m below meth c X hr hlk => ?_)
  have X : zz_X p m c cX6_mean 4 s _ RX6 := X
  refine zv_sub (lv2 := [(0, .ref (Y.2.1 0)), (1, .int x1), (2, .int x2), (3, .int x3)]) [0, 1, 2, 3] rfl ?_
  unfold pX6_mean at h
  refine zv_iload_n X dX6_mean_0 1 rfl rfl rfl ?_
  refine zv_i2l X dX6_mean_1 rfl ?_
  refine zv_lconst (v := 0) X dX6_mean_2 (by decide) rfl ?_
  refine zv_ldc2 (v := 10) X dX6_mean_3 co_X6_289 rfl ?_
  refine zv_cSi X [.long (Int32.toInt64 x1), .long 0, .long 10] (kX6_in l hJ (Int32.toInt64 x1) 0 10  h) jl_X6_67 ⟨rfl, rfl⟩ ⟨Nat.le_of_ble_eq_true rfl, Nat.le_of_ble_eq_true rfl⟩ rfl rfl (Nat.le_of_ble_eq_true rfl) dX6_mean_6 rfl (fun r6 s6 h => ?_)
  refine zv_if_eq (tgt := 31) X dX6_mean_9 (by decide) rfl (fun q9 => ?_) (fun q9 => ?_)
  · replace h := h.1 q9
    refine zv_ldc2 (v := (-1)) X dX6_mean_31 co_X6_293 rfl ?_
    exact zv_lret X hr hlk h dX6_mean_34
  · replace h := h.2 q9
    refine zv_iload_n X dX6_mean_12 2 rfl rfl rfl ?_
    refine zv_i2l X dX6_mean_13 rfl ?_
    refine zv_lconst (v := 0) X dX6_mean_14 (by decide) rfl ?_
    refine zv_ldc2 (v := 6) X dX6_mean_15 co_X6_291 rfl ?_
    refine zv_cSi X [.long (Int32.toInt64 x2), .long 0, .long 6] (kX6_in l hJ (Int32.toInt64 x2) 0 6  h) jl_X6_67 ⟨rfl, rfl⟩ ⟨Nat.le_of_ble_eq_true rfl, Nat.le_of_ble_eq_true rfl⟩ rfl rfl (Nat.le_of_ble_eq_true rfl) dX6_mean_18 rfl (fun r18 s18 h => ?_)
    refine zv_if_eq (tgt := 31) X dX6_mean_21 (by decide) rfl (fun q21 => ?_) (fun q21 => ?_)
    · replace h := h.1 q21
      refine zv_ldc2 (v := (-1)) X dX6_mean_31 co_X6_293 rfl ?_
      exact zv_lret X hr hlk h dX6_mean_34
    · replace h := h.2 q21
      refine zv_iload_n X dX6_mean_24 3 rfl rfl rfl ?_
      refine zv_cSi X [.int x3] (kX6_isPart l hJ x3  h) jl_X6_227 ⟨rfl, rfl⟩ ⟨Nat.le_of_ble_eq_true rfl, Nat.le_of_ble_eq_true rfl⟩ rfl rfl (Nat.le_of_ble_eq_true rfl) dX6_mean_25 rfl (fun r25 s25 h => ?_)
      refine zv_if_ne (tgt := 35) X dX6_mean_28 (by decide) rfl (fun q28 => ?_) (fun q28 => ?_)
      · replace h := h.2 q28
        refine zv_aload_n X dX6_mean_35 0 rfl rfl rfl ?_
        refine zv_iload_n X dX6_mean_36 1 rfl rfl rfl ?_
        refine zv_bipush (v := (-4)) X dX6_mean_37 (by decide) rfl ?_
        refine zv_iload_n X dX6_mean_39 2 rfl rfl rfl ?_
        refine zv_cVv (k := 0) (ci := 6) X [.int x1, .int (-4), .int x2] (kX6_findOdds l hJ x1 (-4) x2 hY h) jl_X6_295 ⟨rfl, rfl⟩ ⟨Nat.le_of_ble_eq_true rfl, Nat.le_of_ble_eq_true rfl⟩ (zz_mo_o hY).1 (by decide) (zz_mo_o hY).2 rfl rfl rfl (Nat.le_of_ble_eq_true rfl) dX6_mean_40 rfl (fun s40 h => ?_)
        refine zv_aload_n X dX6_mean_43 0 rfl rfl rfl ?_
        refine zg_X6_25 (k := 0) X (zz_mo_o hY).1 (zz_mo_o hY).2 fl_X6_283 dX6_mean_44 rfl ?_
        refine zv_aload_n X dX6_mean_47 0 rfl rfl rfl ?_
        refine zg_X6_26 (k := 0) X (zz_mo_o hY).1 (zz_mo_o hY).2 fl_X6_286 dX6_mean_48 rfl ?_
        refine zv_iload_n X dX6_mean_51 3 rfl rfl rfl ?_
        refine zv_cSl X [.long (s40.2 25), .long (s40.2 26), .int x3] (kX6_lowest l hJ (s40.2 25) (s40.2 26) x3  h) jl_X6_298 ⟨rfl, rfl⟩ ⟨Nat.le_of_ble_eq_true rfl, Nat.le_of_ble_eq_true rfl⟩ rfl rfl (Nat.le_of_ble_eq_true rfl) dX6_mean_52 rfl (fun r52 s52 h => ?_)
        exact zv_lret X hr hlk h dX6_mean_55
      · replace h := h.1 q28
        refine zv_ldc2 (v := (-1)) X dX6_mean_31 co_X6_293 rfl ?_
        exact zv_lret X hr hlk h dX6_mean_34
def rmX6_see : Room := { frames := 2, cells := 0, slots := 0, locals := 46 }
def pX6_see (x1 : Int32) (x2 : Int32) (x3 : Int32) (σ : zz_T) (Q : Int32 → zz_T → Prop) : Prop :=
    pX6_in (Int32.toInt64 x1) 0 40 σ (fun r6 s6 =>
    ((r6 = 0 → Q (-1) s6) ∧
    (¬ r6 = 0 → pX6_isHead x2 s6 (fun r14 s14 =>
    ((r14 = 0 → Q (-1) s14) ∧
    (¬ r14 = 0 → pX6_in (Int32.toInt64 x3) 0 255 s14 (fun r26 s26 =>
    ((r26 = 0 → Q (-1) s26) ∧
    (¬ r26 = 0 → vp_in 51 210 ∧
    (((s26.1 1 (Int32.toNatClampNeg 51)) = 6 → Q (-3) s26) ∧
    (¬ (s26.1 1 (Int32.toNatClampNeg 51)) = 6 → vp_in 51 210 ∧
    vp_in (52 + (3 * (s26.1 1 (Int32.toNatClampNeg 51)))) 210 ∧
    vp_in ((52 + (3 * (s26.1 1 (Int32.toNatClampNeg 51)))) + 1) 210 ∧
    vp_in ((52 + (3 * (s26.1 1 (Int32.toNatClampNeg 51)))) + 2) 210 ∧
    vp_in 51 210 ∧
    vp_in 51 210 ∧
    vp_in 51 210 ∧
    Q ((zz_i (zz_i (zz_i (zz_i s26 1 (Int32.toNatClampNeg (52 + (3 * (s26.1 1 (Int32.toNatClampNeg 51))))) x1) 1 (Int32.toNatClampNeg ((52 + (3 * (s26.1 1 (Int32.toNatClampNeg 51)))) + 1)) x2) 1 (Int32.toNatClampNeg ((52 + (3 * (s26.1 1 (Int32.toNatClampNeg 51)))) + 2)) x3) 1 (Int32.toNatClampNeg 51) (((zz_i (zz_i (zz_i s26 1 (Int32.toNatClampNeg (52 + (3 * (s26.1 1 (Int32.toNatClampNeg 51))))) x1) 1 (Int32.toNatClampNeg ((52 + (3 * (s26.1 1 (Int32.toNatClampNeg 51)))) + 1)) x2) 1 (Int32.toNatClampNeg ((52 + (3 * (s26.1 1 (Int32.toNatClampNeg 51)))) + 2)) x3).1 1 (Int32.toNatClampNeg 51)) + 1)).1 1 (Int32.toNatClampNeg 51)) (zz_i (zz_i (zz_i (zz_i s26 1 (Int32.toNatClampNeg (52 + (3 * (s26.1 1 (Int32.toNatClampNeg 51))))) x1) 1 (Int32.toNatClampNeg ((52 + (3 * (s26.1 1 (Int32.toNatClampNeg 51)))) + 1)) x2) 1 (Int32.toNatClampNeg ((52 + (3 * (s26.1 1 (Int32.toNatClampNeg 51)))) + 2)) x3) 1 (Int32.toNatClampNeg 51) (((zz_i (zz_i (zz_i s26 1 (Int32.toNatClampNeg (52 + (3 * (s26.1 1 (Int32.toNatClampNeg 51))))) x1) 1 (Int32.toNatClampNeg ((52 + (3 * (s26.1 1 (Int32.toNatClampNeg 51)))) + 1)) x2) 1 (Int32.toNatClampNeg ((52 + (3 * (s26.1 1 (Int32.toNatClampNeg 51)))) + 2)) x3).1 1 (Int32.toNatClampNeg 51)) + 1)))))))))))))
set_option maxHeartbeats 4000000 in
set_option maxRecDepth 100000 in
theorem kX6_see (l : Launch) {Y : zz_Y} (hJ : zz_J Y) (x1 : Int32) (x2 : Int32) (x3 : Int32) (hY : zz_mo Y) {σ : zz_T} {Q : Int32 → zz_T → Prop} (h : pX6_see x1 x2 x3 σ Q) : zz_Mi l yX6_see cX6_see 5 (some .int) rmX6_see Y [.ref (Y.2.1 0), .int x1, .int x2, .int x3] σ Q := by
  refine zz_Mi.start (by decide) hJ (Nat.le_of_ble_eq_true rfl) (fun p e s m below meth c X hr hlk => ?_)
  have X : zz_X p m c cX6_see 5 s _ RX6 := X
  refine zv_sub (lv2 := [(0, .ref (Y.2.1 0)), (1, .int x1), (2, .int x2), (3, .int x3)]) [0, 1, 2, 3] rfl ?_
  unfold pX6_see at h
  refine zv_iload_n X dX6_see_0 1 rfl rfl rfl ?_
  refine zv_i2l X dX6_see_1 rfl ?_
  refine zv_lconst (v := 0) X dX6_see_2 (by decide) rfl ?_
  refine zv_ldc2 (v := 40) X dX6_see_3 co_X6_302 rfl ?_
  refine zv_cSi X [.long (Int32.toInt64 x1), .long 0, .long 40] (kX6_in l hJ (Int32.toInt64 x1) 0 40  h) jl_X6_67 ⟨rfl, rfl⟩ ⟨Nat.le_of_ble_eq_true rfl, Nat.le_of_ble_eq_true rfl⟩ rfl rfl (Nat.le_of_ble_eq_true rfl) dX6_see_6 rfl (fun r6 s6 h => ?_)
  refine zv_if_eq (tgt := 32) X dX6_see_9 (by decide) rfl (fun q9 => ?_) (fun q9 => ?_)
  · replace h := h.1 q9
    refine zv_iconst (v := (-1)) X dX6_see_32 (by decide) rfl ?_
    exact zv_iret X hr hlk h dX6_see_33
  · replace h := h.2 q9
    refine zv_aload_n X dX6_see_12 0 rfl rfl rfl ?_
    refine zv_iload_n X dX6_see_13 2 rfl rfl rfl ?_
    refine zv_cVi (k := 0) (ci := 6) X [.int x2] (kX6_isHead l hJ x2 hY h) jl_X6_215 ⟨rfl, rfl⟩ ⟨Nat.le_of_ble_eq_true rfl, Nat.le_of_ble_eq_true rfl⟩ (zz_mo_o hY).1 (by decide) (zz_mo_o hY).2 rfl rfl rfl (Nat.le_of_ble_eq_true rfl) dX6_see_14 rfl (fun r14 s14 h => ?_)
    refine zv_if_eq (tgt := 32) X dX6_see_17 (by decide) rfl (fun q17 => ?_) (fun q17 => ?_)
    · replace h := h.1 q17
      refine zv_iconst (v := (-1)) X dX6_see_32 (by decide) rfl ?_
      exact zv_iret X hr hlk h dX6_see_33
    · replace h := h.2 q17
      refine zv_iload_n X dX6_see_20 3 rfl rfl rfl ?_
      refine zv_i2l X dX6_see_21 rfl ?_
      refine zv_lconst (v := 0) X dX6_see_22 (by decide) rfl ?_
      refine zv_ldc2 (v := 255) X dX6_see_23 co_X6_242 rfl ?_
      refine zv_cSi X [.long (Int32.toInt64 x3), .long 0, .long 255] (kX6_in l hJ (Int32.toInt64 x3) 0 255  h) jl_X6_67 ⟨rfl, rfl⟩ ⟨Nat.le_of_ble_eq_true rfl, Nat.le_of_ble_eq_true rfl⟩ rfl rfl (Nat.le_of_ble_eq_true rfl) dX6_see_26 rfl (fun r26 s26 h => ?_)
      refine zv_if_ne (tgt := 34) X dX6_see_29 (by decide) rfl (fun q29 => ?_) (fun q29 => ?_)
      · replace h := h.2 q29
        refine zv_aload_n X dX6_see_34 0 rfl rfl rfl ?_
        refine zg_X6_0 (k := 0) X (zz_mo_o hY).1 (zz_mo_o hY).2 fl_X6_7 dX6_see_35 rfl ?_
        refine zv_bipush (v := 51) X dX6_see_38 (by decide) rfl ?_
        obtain ⟨hi40, h⟩ := h
        refine zv_iald (k := 1) X (zz_mo_st hY).1 (zz_mo_st hY).2 hi40 dX6_see_40 rfl ?_
        refine zv_bipush (v := 6) X dX6_see_41 (by decide) rfl ?_
        refine zv_icmp_ne (tgt := 49) X dX6_see_43 (by decide) rfl (fun q43 => ?_) (fun q43 => ?_)
        · replace h := h.2 q43
          refine zv_bipush (v := 52) X dX6_see_49 (by decide) rfl ?_
          refine zv_iconst (v := 3) X dX6_see_51 (by decide) rfl ?_
          refine zv_aload_n X dX6_see_52 0 rfl rfl rfl ?_
          refine zg_X6_0 (k := 0) X (zz_mo_o hY).1 (zz_mo_o hY).2 fl_X6_7 dX6_see_53 rfl ?_
          refine zv_bipush (v := 51) X dX6_see_56 (by decide) rfl ?_
          obtain ⟨hi58, h⟩ := h
          refine zv_iald (k := 1) X (zz_mo_st hY).1 (zz_mo_st hY).2 hi58 dX6_see_58 rfl ?_
          refine zv_imul X dX6_see_59 rfl ?_
          refine zv_iadd X dX6_see_60 rfl ?_
          refine zv_istore (lv2 := [(4, .int (52 + (3 * (s26.1 1 (Int32.toNatClampNeg 51))))), (0, .ref (Y.2.1 0)), (1, .int x1), (2, .int x2), (3, .int x3)]) X dX6_see_61 (by decide) rfl rfl ?_
          refine zv_aload_n X dX6_see_63 1 rfl rfl rfl ?_
          refine zg_X6_0 (k := 0) X (zz_mo_o hY).1 (zz_mo_o hY).2 fl_X6_7 dX6_see_64 rfl ?_
          refine zv_iload X dX6_see_67 0 rfl rfl ?_
          refine zv_iload_n X dX6_see_69 2 rfl rfl rfl ?_
          obtain ⟨hi70, h⟩ := h
          refine zv_iast (k := 1) X (zz_mo_st hY).1 (zz_mo_st hY).2 hi70 dX6_see_70 rfl ?_
          refine zv_aload_n X dX6_see_71 1 rfl rfl rfl ?_
          refine zg_X6_0 (k := 0) X (zz_mo_o hY).1 (zz_mo_o hY).2 fl_X6_7 dX6_see_72 rfl ?_
          refine zv_iload X dX6_see_75 0 rfl rfl ?_
          refine zv_iconst (v := 1) X dX6_see_77 (by decide) rfl ?_
          refine zv_iadd X dX6_see_78 rfl ?_
          refine zv_iload_n X dX6_see_79 3 rfl rfl rfl ?_
          obtain ⟨hi80, h⟩ := h
          refine zv_iast (k := 1) X (zz_mo_st hY).1 (zz_mo_st hY).2 hi80 dX6_see_80 rfl ?_
          refine zv_aload_n X dX6_see_81 1 rfl rfl rfl ?_
          refine zg_X6_0 (k := 0) X (zz_mo_o hY).1 (zz_mo_o hY).2 fl_X6_7 dX6_see_82 rfl ?_
          refine zv_iload X dX6_see_85 0 rfl rfl ?_
          refine zv_iconst (v := 2) X dX6_see_87 (by decide) rfl ?_
          refine zv_iadd X dX6_see_88 rfl ?_
          refine zv_iload_n X dX6_see_89 4 rfl rfl rfl ?_
          obtain ⟨hi90, h⟩ := h
          refine zv_iast (k := 1) X (zz_mo_st hY).1 (zz_mo_st hY).2 hi90 dX6_see_90 rfl ?_
          refine zv_aload_n X dX6_see_91 1 rfl rfl rfl ?_
          refine zg_X6_0 (k := 0) X (zz_mo_o hY).1 (zz_mo_o hY).2 fl_X6_7 dX6_see_92 rfl ?_
          refine zv_bipush (v := 51) X dX6_see_95 (by decide) rfl ?_
          refine zv_dup2_11 X dX6_see_97 rfl rfl rfl ?_
          obtain ⟨hi98, h⟩ := h
          refine zv_iald (k := 1) X (zz_mo_st hY).1 (zz_mo_st hY).2 hi98 dX6_see_98 rfl ?_
          refine zv_iconst (v := 1) X dX6_see_99 (by decide) rfl ?_
          refine zv_iadd X dX6_see_100 rfl ?_
          obtain ⟨hi101, h⟩ := h
          refine zv_iast (k := 1) X (zz_mo_st hY).1 (zz_mo_st hY).2 hi101 dX6_see_101 rfl ?_
          refine zv_aload_n X dX6_see_102 1 rfl rfl rfl ?_
          refine zg_X6_0 (k := 0) X (zz_mo_o hY).1 (zz_mo_o hY).2 fl_X6_7 dX6_see_103 rfl ?_
          refine zv_bipush (v := 51) X dX6_see_106 (by decide) rfl ?_
          obtain ⟨hi108, h⟩ := h
          refine zv_iald (k := 1) X (zz_mo_st hY).1 (zz_mo_st hY).2 hi108 dX6_see_108 rfl ?_
          exact zv_iret X hr hlk h dX6_see_109
        · replace h := h.1 q43
          refine zv_bipush (v := (-3)) X dX6_see_46 (by decide) rfl ?_
          exact zv_iret X hr hlk h dX6_see_48
      · replace h := h.1 q29
        refine zv_iconst (v := (-1)) X dX6_see_32 (by decide) rfl ?_
        exact zv_iret X hr hlk h dX6_see_33
def rmX6_forget : Room := { frames := 1, cells := 0, slots := 0, locals := 25 }
def pX6_forget (x1 : Int32) (σ : zz_T) (Q : Int32 → zz_T → Prop) : Prop :=
    vp_in 51 210 ∧
    pX6_in (Int32.toInt64 x1) 0 (Int32.toInt64 (σ.1 1 (Int32.toNatClampNeg 51))) σ (fun r11 s11 =>
    ((r11 = 0 → Q (-1) s11) ∧
    (¬ r11 = 0 → pX6_becomes 51 x1 s11 (fun r21 s21 =>
    Q r21 s21))))
set_option maxHeartbeats 4000000 in
set_option maxRecDepth 100000 in
theorem kX6_forget (l : Launch) {Y : zz_Y} (hJ : zz_J Y) (x1 : Int32) (hY : zz_mo Y) {σ : zz_T} {Q : Int32 → zz_T → Prop} (h : pX6_forget x1 σ Q) : zz_Mi l yX6_forget cX6_forget 2 (some .int) rmX6_forget Y [.ref (Y.2.1 0), .int x1] σ Q := by
  refine zz_Mi.start (by decide) hJ (Nat.le_of_ble_eq_true rfl) (fun p e s m below meth c X hr hlk => ?_)
  have X : zz_X p m c cX6_forget 2 s _ RX6 := X
  refine zv_sub (lv2 := [(0, .ref (Y.2.1 0)), (1, .int x1)]) [0, 1] rfl ?_
  unfold pX6_forget at h
  refine zv_iload_n X dX6_forget_0 1 rfl rfl rfl ?_
  refine zv_i2l X dX6_forget_1 rfl ?_
  refine zv_lconst (v := 0) X dX6_forget_2 (by decide) rfl ?_
  refine zv_aload_n X dX6_forget_3 0 rfl rfl rfl ?_
  refine zg_X6_0 (k := 0) X (zz_mo_o hY).1 (zz_mo_o hY).2 fl_X6_7 dX6_forget_4 rfl ?_
  refine zv_bipush (v := 51) X dX6_forget_7 (by decide) rfl ?_
  obtain ⟨hi9, h⟩ := h
  refine zv_iald (k := 1) X (zz_mo_st hY).1 (zz_mo_st hY).2 hi9 dX6_forget_9 rfl ?_
  refine zv_i2l X dX6_forget_10 rfl ?_
  refine zv_cSi X [.long (Int32.toInt64 x1), .long 0, .long (Int32.toInt64 (σ.1 1 (Int32.toNatClampNeg 51)))] (kX6_in l hJ (Int32.toInt64 x1) 0 (Int32.toInt64 (σ.1 1 (Int32.toNatClampNeg 51)))  h) jl_X6_67 ⟨rfl, rfl⟩ ⟨Nat.le_of_ble_eq_true rfl, Nat.le_of_ble_eq_true rfl⟩ rfl rfl (Nat.le_of_ble_eq_true rfl) dX6_forget_11 rfl (fun r11 s11 h => ?_)
  refine zv_if_eq (tgt := 27) X dX6_forget_14 (by decide) rfl (fun q14 => ?_) (fun q14 => ?_)
  · replace h := h.1 q14
    refine zv_iconst (v := (-1)) X dX6_forget_27 (by decide) rfl ?_
    exact zv_iret X hr hlk h dX6_forget_28
  · replace h := h.2 q14
    refine zv_aload_n X dX6_forget_17 0 rfl rfl rfl ?_
    refine zv_bipush (v := 51) X dX6_forget_18 (by decide) rfl ?_
    refine zv_iload_n X dX6_forget_20 1 rfl rfl rfl ?_
    refine zv_cVi (k := 0) (ci := 6) X [.int 51, .int x1] (kX6_becomes l hJ 51 x1 hY h) jl_X6_235 ⟨rfl, rfl⟩ ⟨Nat.le_of_ble_eq_true rfl, Nat.le_of_ble_eq_true rfl⟩ (zz_mo_o hY).1 (by decide) (zz_mo_o hY).2 rfl rfl rfl (Nat.le_of_ble_eq_true rfl) dX6_forget_21 rfl (fun r21 s21 h => ?_)
    refine zv_goto (tgt := 28) X dX6_forget_24 (by decide) ?_
    exact zv_iret X hr hlk h dX6_forget_28
def rmX6_isSoWith : Room := { frames := 5, cells := 0, slots := 0, locals := 124 }
def pX6_isSoWith_140  (Q : Int32 → zz_T → Prop) (K74 : Int32 → Int32 → zz_T → Prop) (x4 : Int32) (t0 : Int32) (σ : zz_T) : Prop :=
    K74 t0 (x4 + 1) σ
set_option maxHeartbeats 4000000 in
set_option maxRecDepth 100000 in
theorem vX6_isSoWith_140 {p : Program} {l : Launch} {e : Env} {s : State} {m : MethodId} {args : Array Value} {below : List Frame} {meth : Method} {c : Code} {Y : zz_Y}  {Q : Int32 → zz_T → Prop} {K74 : Int32 → Int32 → zz_T → Prop} (X : zz_X p m c cX6_isSoWith 6 s args RX6) (hr : meth.sig.returnType = (some .boolean)) (hlk : meth.locks = false) (hJ : zz_J Y) (hY : zz_mo Y) (hK74 : ∀ (x3 : Int32) (x4 : Int32) (σ : zz_T), K74 x3 x4 σ → zz_V p l e rmX6_isSoWith s m args below meth c (MQ below (va_Qi Q (zz_E Y) (zz_A Y)) args s 0 0 (zz_A Y)) 6 Y σ 74 [(0, .ref (Y.2.1 0)), (3, .int x3), (4, .int x4)] []) : ∀ (x4 : Int32) (t0 : Int32) (σ : zz_T), pX6_isSoWith_140  Q K74 x4 t0 σ → zz_V p l e rmX6_isSoWith s m args below meth c (MQ below (va_Qi Q (zz_E Y) (zz_A Y)) args s 0 0 (zz_A Y)) 6 Y σ 140 [(0, .ref (Y.2.1 0)), (4, .int x4)] [.int t0] := by
  intro x4 t0 σ h 
  unfold pX6_isSoWith_140 at h
  refine zv_istore_n (lv2 := [(3, .int t0), (0, .ref (Y.2.1 0)), (4, .int x4)]) X dX6_isSoWith_140 rfl (by decide) rfl rfl ?_
  refine zv_iinc (v := (x4 + 1)) (lv2 := [(4, .int (x4 + 1)), (3, .int t0), (0, .ref (Y.2.1 0))]) X dX6_isSoWith_141 2 rfl rfl (by decide) rfl rfl ?_
  refine zv_goto (tgt := 74) X dX6_isSoWith_144 (by decide) ?_
  refine zv_sub (lv2 := [(0, .ref (Y.2.1 0)), (3, .int t0), (4, .int (x4 + 1))]) [2, 1, 0] rfl ?_
  exact hK74 t0 (x4 + 1) _ h
def pX6_isSoWith_139  (Q : Int32 → zz_T → Prop) (K74 : Int32 → Int32 → zz_T → Prop) (x4 : Int32) (σ : zz_T) : Prop :=
    pX6_isSoWith_140  Q K74 x4 0 σ
set_option maxHeartbeats 4000000 in
set_option maxRecDepth 100000 in
theorem vX6_isSoWith_139 {p : Program} {l : Launch} {e : Env} {s : State} {m : MethodId} {args : Array Value} {below : List Frame} {meth : Method} {c : Code} {Y : zz_Y}  {Q : Int32 → zz_T → Prop} {K74 : Int32 → Int32 → zz_T → Prop} (X : zz_X p m c cX6_isSoWith 6 s args RX6) (hr : meth.sig.returnType = (some .boolean)) (hlk : meth.locks = false) (hJ : zz_J Y) (hY : zz_mo Y) (hK74 : ∀ (x3 : Int32) (x4 : Int32) (σ : zz_T), K74 x3 x4 σ → zz_V p l e rmX6_isSoWith s m args below meth c (MQ below (va_Qi Q (zz_E Y) (zz_A Y)) args s 0 0 (zz_A Y)) 6 Y σ 74 [(0, .ref (Y.2.1 0)), (3, .int x3), (4, .int x4)] []) : ∀ (x4 : Int32) (σ : zz_T), pX6_isSoWith_139  Q K74 x4 σ → zz_V p l e rmX6_isSoWith s m args below meth c (MQ below (va_Qi Q (zz_E Y) (zz_A Y)) args s 0 0 (zz_A Y)) 6 Y σ 139 [(0, .ref (Y.2.1 0)), (4, .int x4)] [] := by
  intro x4 σ h 
  unfold pX6_isSoWith_139 at h
  refine zv_iconst (v := 0) X dX6_isSoWith_139 (by decide) rfl ?_
  exact vX6_isSoWith_140 X hr hlk hJ hY hK74 x4 0 _ h
def pX6_isSoWith_74  (Q : Int32 → zz_T → Prop) : Nat → Int32 → Int32 → zz_T → Prop
  | 0, _, _, _ => False
  | n + 1, x3, x4, σ =>
    vp_in 51 210 ∧
    (((σ.1 1 (Int32.toNatClampNeg 51)) ≤ x4 → (zz_bo x3 ∧ Q x3 σ)) ∧
    (¬ (σ.1 1 (Int32.toNatClampNeg 51)) ≤ x4 → ((x3 = 0 → pX6_isSoWith_139  Q (pX6_isSoWith_74  Q n) x4 σ) ∧
    (¬ x3 = 0 → vp_in (52 + (3 * x4)) 210 ∧
    vp_in ((52 + (3 * x4)) + 1) 210 ∧
    vp_in ((3 * (σ.1 1 (Int32.toNatClampNeg (52 + (3 * x4))))) + (σ.1 1 (Int32.toNatClampNeg ((52 + (3 * x4)) + 1)))) 123 ∧
    vp_in ((52 + (3 * x4)) + 2) 210 ∧
    (((σ.1 11 (Int32.toNatClampNeg ((3 * (σ.1 1 (Int32.toNatClampNeg (52 + (3 * x4))))) + (σ.1 1 (Int32.toNatClampNeg ((52 + (3 * x4)) + 1)))))) = (σ.1 1 (Int32.toNatClampNeg ((52 + (3 * x4)) + 2))) → pX6_isSoWith_140  Q (pX6_isSoWith_74  Q n) x4 1 σ) ∧
    (¬ (σ.1 11 (Int32.toNatClampNeg ((3 * (σ.1 1 (Int32.toNatClampNeg (52 + (3 * x4))))) + (σ.1 1 (Int32.toNatClampNeg ((52 + (3 * x4)) + 1)))))) = (σ.1 1 (Int32.toNatClampNeg ((52 + (3 * x4)) + 2))) → pX6_isSoWith_139  Q (pX6_isSoWith_74  Q n) x4 σ))))))
set_option maxHeartbeats 4000000 in
set_option maxRecDepth 100000 in
theorem vX6_isSoWith_74 {p : Program} {l : Launch} {e : Env} {s : State} {m : MethodId} {args : Array Value} {below : List Frame} {meth : Method} {c : Code} {Y : zz_Y}  {Q : Int32 → zz_T → Prop} (X : zz_X p m c cX6_isSoWith 6 s args RX6) (hr : meth.sig.returnType = (some .boolean)) (hlk : meth.locks = false) (hJ : zz_J Y) (hY : zz_mo Y)  : ∀ (n : Nat) (x3 : Int32) (x4 : Int32) (σ : zz_T), pX6_isSoWith_74  Q n x3 x4 σ → zz_V p l e rmX6_isSoWith s m args below meth c (MQ below (va_Qi Q (zz_E Y) (zz_A Y)) args s 0 0 (zz_A Y)) 6 Y σ 74 [(0, .ref (Y.2.1 0)), (3, .int x3), (4, .int x4)] [] := by
  intro n
  induction n with
  | zero => intro x3 x4 σ h; exact h.elim
  | succ n ih =>
    intro x3 x4 σ h 
    unfold pX6_isSoWith_74 at h
    refine zv_iload X dX6_isSoWith_74 2 rfl rfl ?_
    refine zv_aload_n X dX6_isSoWith_76 0 rfl rfl rfl ?_
    refine zg_X6_0 (k := 0) X (zz_mo_o hY).1 (zz_mo_o hY).2 fl_X6_7 dX6_isSoWith_77 rfl ?_
    refine zv_bipush (v := 51) X dX6_isSoWith_80 (by decide) rfl ?_
    obtain ⟨hi82, h⟩ := h
    refine zv_iald (k := 1) X (zz_mo_st hY).1 (zz_mo_st hY).2 hi82 dX6_isSoWith_82 rfl ?_
    refine zv_icmp_ge (tgt := 147) X dX6_isSoWith_83 (by decide) rfl (fun q83 => ?_) (fun q83 => ?_)
    · replace h := h.1 q83
      refine zv_iload_n X dX6_isSoWith_147 1 rfl rfl rfl ?_
      exact zv_zret X hr hlk h dX6_isSoWith_148
    · replace h := h.2 q83
      refine zv_bipush (v := 52) X dX6_isSoWith_86 (by decide) rfl ?_
      refine zv_iconst (v := 3) X dX6_isSoWith_88 (by decide) rfl ?_
      refine zv_iload X dX6_isSoWith_89 2 rfl rfl ?_
      refine zv_imul X dX6_isSoWith_91 rfl ?_
      refine zv_iadd X dX6_isSoWith_92 rfl ?_
      refine zv_istore (lv2 := [(5, .int (52 + (3 * x4))), (0, .ref (Y.2.1 0)), (3, .int x3), (4, .int x4)]) X dX6_isSoWith_93 (by decide) rfl rfl ?_
      refine zv_iload_n X dX6_isSoWith_95 2 rfl rfl rfl ?_
      refine zv_if_eq (tgt := 139) X dX6_isSoWith_96 (by decide) rfl (fun q96 => ?_) (fun q96 => ?_)
      · replace h := h.1 q96
        refine zv_sub (lv2 := [(0, .ref (Y.2.1 0)), (4, .int x4)]) [1, 3] rfl ?_
        exact vX6_isSoWith_139 X hr hlk hJ hY ih x4 _ h
      · replace h := h.2 q96
        refine zv_aload_n X dX6_isSoWith_99 1 rfl rfl rfl ?_
        refine zg_X6_27 (k := 0) X (zz_mo_o hY).1 (zz_mo_o hY).2 fl_X6_41 dX6_isSoWith_100 rfl ?_
        refine zv_iconst (v := 3) X dX6_isSoWith_103 (by decide) rfl ?_
        refine zv_aload_n X dX6_isSoWith_104 1 rfl rfl rfl ?_
        refine zg_X6_0 (k := 0) X (zz_mo_o hY).1 (zz_mo_o hY).2 fl_X6_7 dX6_isSoWith_105 rfl ?_
        refine zv_iload X dX6_isSoWith_108 0 rfl rfl ?_
        obtain ⟨hi110, h⟩ := h
        refine zv_iald (k := 1) X (zz_mo_st hY).1 (zz_mo_st hY).2 hi110 dX6_isSoWith_110 rfl ?_
        refine zv_imul X dX6_isSoWith_111 rfl ?_
        refine zv_aload_n X dX6_isSoWith_112 1 rfl rfl rfl ?_
        refine zg_X6_0 (k := 0) X (zz_mo_o hY).1 (zz_mo_o hY).2 fl_X6_7 dX6_isSoWith_113 rfl ?_
        refine zv_iload X dX6_isSoWith_116 0 rfl rfl ?_
        refine zv_iconst (v := 1) X dX6_isSoWith_118 (by decide) rfl ?_
        refine zv_iadd X dX6_isSoWith_119 rfl ?_
        obtain ⟨hi120, h⟩ := h
        refine zv_iald (k := 1) X (zz_mo_st hY).1 (zz_mo_st hY).2 hi120 dX6_isSoWith_120 rfl ?_
        refine zv_iadd X dX6_isSoWith_121 rfl ?_
        obtain ⟨hi122, h⟩ := h
        refine zv_iald (k := 11) X (zz_mo_blacks hY).1 (zz_mo_blacks hY).2 hi122 dX6_isSoWith_122 rfl ?_
        refine zv_aload_n X dX6_isSoWith_123 1 rfl rfl rfl ?_
        refine zg_X6_0 (k := 0) X (zz_mo_o hY).1 (zz_mo_o hY).2 fl_X6_7 dX6_isSoWith_124 rfl ?_
        refine zv_iload X dX6_isSoWith_127 0 rfl rfl ?_
        refine zv_iconst (v := 2) X dX6_isSoWith_129 (by decide) rfl ?_
        refine zv_iadd X dX6_isSoWith_130 rfl ?_
        obtain ⟨hi131, h⟩ := h
        refine zv_iald (k := 1) X (zz_mo_st hY).1 (zz_mo_st hY).2 hi131 dX6_isSoWith_131 rfl ?_
        refine zv_icmp_ne (tgt := 139) X dX6_isSoWith_132 (by decide) rfl (fun q132 => ?_) (fun q132 => ?_)
        · replace h := h.2 q132
          refine zv_sub (lv2 := [(0, .ref (Y.2.1 0)), (4, .int x4)]) [1, 3] rfl ?_
          exact vX6_isSoWith_139 X hr hlk hJ hY ih x4 _ h
        · replace h := h.1 q132
          refine zv_iconst (v := 1) X dX6_isSoWith_135 (by decide) rfl ?_
          refine zv_goto (tgt := 140) X dX6_isSoWith_136 (by decide) ?_
          refine zv_sub (lv2 := [(0, .ref (Y.2.1 0)), (4, .int x4)]) [1, 3] rfl ?_
          exact vX6_isSoWith_140 X hr hlk hJ hY ih x4 1 _ h
def pX6_isSoWith_27  (Q : Int32 → zz_T → Prop) (K13 : Int32 → zz_T → Prop) : Nat → Int32 → Int32 → zz_T → Prop
  | 0, _, _, _ => False
  | n + 1, x3, x4, σ =>
    vp_in 33 70 ∧
    (((σ.1 2 (Int32.toNatClampNeg 33)) ≤ x4 → K13 (x3 + 1) σ) ∧
    (¬ (σ.1 2 (Int32.toNatClampNeg 33)) ≤ x4 → vp_in x4 3 ∧
    vp_in ((3 * x3) + x4) 123 ∧
    pX6_isSoWith_27  Q K13 n x3 (x4 + 1) (zz_i σ 11 (Int32.toNatClampNeg ((3 * x3) + x4)) (σ.1 8 (Int32.toNatClampNeg x4)))))
set_option maxHeartbeats 4000000 in
set_option maxRecDepth 100000 in
theorem vX6_isSoWith_27 {p : Program} {l : Launch} {e : Env} {s : State} {m : MethodId} {args : Array Value} {below : List Frame} {meth : Method} {c : Code} {Y : zz_Y}  {Q : Int32 → zz_T → Prop} {K13 : Int32 → zz_T → Prop} (X : zz_X p m c cX6_isSoWith 6 s args RX6) (hr : meth.sig.returnType = (some .boolean)) (hlk : meth.locks = false) (hJ : zz_J Y) (hY : zz_mo Y) (hK13 : ∀ (x3 : Int32) (σ : zz_T), K13 x3 σ → zz_V p l e rmX6_isSoWith s m args below meth c (MQ below (va_Qi Q (zz_E Y) (zz_A Y)) args s 0 0 (zz_A Y)) 6 Y σ 13 [(0, .ref (Y.2.1 0)), (3, .int x3)] []) : ∀ (n : Nat) (x3 : Int32) (x4 : Int32) (σ : zz_T), pX6_isSoWith_27  Q K13 n x3 x4 σ → zz_V p l e rmX6_isSoWith s m args below meth c (MQ below (va_Qi Q (zz_E Y) (zz_A Y)) args s 0 0 (zz_A Y)) 6 Y σ 27 [(0, .ref (Y.2.1 0)), (3, .int x3), (4, .int x4)] [] := by
  intro n
  induction n with
  | zero => intro x3 x4 σ h; exact h.elim
  | succ n ih =>
    intro x3 x4 σ h 
    unfold pX6_isSoWith_27 at h
    refine zv_iload X dX6_isSoWith_27 2 rfl rfl ?_
    refine zv_aload_n X dX6_isSoWith_29 0 rfl rfl rfl ?_
    refine zg_X6_1 (k := 0) X (zz_mo_o hY).1 (zz_mo_o hY).2 fl_X6_13 dX6_isSoWith_30 rfl ?_
    refine zv_bipush (v := 33) X dX6_isSoWith_33 (by decide) rfl ?_
    obtain ⟨hi35, h⟩ := h
    refine zv_iald (k := 2) X (zz_mo_now hY).1 (zz_mo_now hY).2 hi35 dX6_isSoWith_35 rfl ?_
    refine zv_icmp_ge (tgt := 63) X dX6_isSoWith_36 (by decide) rfl (fun q36 => ?_) (fun q36 => ?_)
    · replace h := h.1 q36
      refine zv_iinc (v := (x3 + 1)) (lv2 := [(3, .int (x3 + 1)), (0, .ref (Y.2.1 0)), (4, .int x4)]) X dX6_isSoWith_63 1 rfl rfl (by decide) rfl rfl ?_
      refine zv_goto (tgt := 13) X dX6_isSoWith_66 (by decide) ?_
      refine zv_sub (lv2 := [(0, .ref (Y.2.1 0)), (3, .int (x3 + 1))]) [1, 0] rfl ?_
      exact hK13 (x3 + 1) _ h
    · replace h := h.2 q36
      refine zv_aload_n X dX6_isSoWith_39 0 rfl rfl rfl ?_
      refine zg_X6_27 (k := 0) X (zz_mo_o hY).1 (zz_mo_o hY).2 fl_X6_41 dX6_isSoWith_40 rfl ?_
      refine zv_iconst (v := 3) X dX6_isSoWith_43 (by decide) rfl ?_
      refine zv_iload_n X dX6_isSoWith_44 1 rfl rfl rfl ?_
      refine zv_imul X dX6_isSoWith_45 rfl ?_
      refine zv_iload X dX6_isSoWith_46 2 rfl rfl ?_
      refine zv_iadd X dX6_isSoWith_48 rfl ?_
      refine zv_aload_n X dX6_isSoWith_49 0 rfl rfl rfl ?_
      refine zg_X6_19 (k := 0) X (zz_mo_o hY).1 (zz_mo_o hY).2 fl_X6_32 dX6_isSoWith_50 rfl ?_
      refine zv_iload X dX6_isSoWith_53 2 rfl rfl ?_
      obtain ⟨hi55, h⟩ := h
      refine zv_iald (k := 8) X (zz_mo_blackNow hY).1 (zz_mo_blackNow hY).2 hi55 dX6_isSoWith_55 rfl ?_
      obtain ⟨hi56, h⟩ := h
      refine zv_iast (k := 11) X (zz_mo_blacks hY).1 (zz_mo_blacks hY).2 hi56 dX6_isSoWith_56 rfl ?_
      refine zv_iinc (v := (x4 + 1)) (lv2 := [(4, .int (x4 + 1)), (0, .ref (Y.2.1 0)), (3, .int x3)]) X dX6_isSoWith_57 2 rfl rfl (by decide) rfl rfl ?_
      refine zv_goto (tgt := 27) X dX6_isSoWith_60 (by decide) ?_
      refine zv_sub (lv2 := [(0, .ref (Y.2.1 0)), (3, .int x3), (4, .int (x4 + 1))]) [1, 2, 0] rfl ?_
      exact ih x3 (x4 + 1) _ h
def pX6_isSoWith_13  (Q : Int32 → zz_T → Prop) : Nat → Int32 → zz_T → Prop
  | 0, _, _ => False
  | n + 1, x3, σ =>
    ((40 < x3 → ∃ n74, pX6_isSoWith_74  Q n74 1 0 σ) ∧
    (¬ 40 < x3 → pX6_rowsGo 1 σ (fun s21 =>
    ∃ n27, pX6_isSoWith_27  Q (pX6_isSoWith_13  Q n) n27 x3 0 s21)))
set_option maxHeartbeats 4000000 in
set_option maxRecDepth 100000 in
theorem vX6_isSoWith_13 {p : Program} {l : Launch} {e : Env} {s : State} {m : MethodId} {args : Array Value} {below : List Frame} {meth : Method} {c : Code} {Y : zz_Y}  {Q : Int32 → zz_T → Prop} (X : zz_X p m c cX6_isSoWith 6 s args RX6) (hr : meth.sig.returnType = (some .boolean)) (hlk : meth.locks = false) (hJ : zz_J Y) (hY : zz_mo Y)  : ∀ (n : Nat) (x3 : Int32) (σ : zz_T), pX6_isSoWith_13  Q n x3 σ → zz_V p l e rmX6_isSoWith s m args below meth c (MQ below (va_Qi Q (zz_E Y) (zz_A Y)) args s 0 0 (zz_A Y)) 6 Y σ 13 [(0, .ref (Y.2.1 0)), (3, .int x3)] [] := by
  intro n
  induction n with
  | zero => intro x3 σ h; exact h.elim
  | succ n ih =>
    intro x3 σ h 
    unfold pX6_isSoWith_13 at h
    refine zv_iload_n X dX6_isSoWith_13 1 rfl rfl rfl ?_
    refine zv_bipush (v := 40) X dX6_isSoWith_14 (by decide) rfl ?_
    refine zv_icmp_gt (tgt := 69) X dX6_isSoWith_16 (by decide) rfl (fun q16 => ?_) (fun q16 => ?_)
    · replace h := h.1 q16
      refine zv_iconst (v := 1) X dX6_isSoWith_69 (by decide) rfl ?_
      refine zv_istore_n (lv2 := [(3, .int 1), (0, .ref (Y.2.1 0))]) X dX6_isSoWith_70 rfl (by decide) rfl rfl ?_
      refine zv_iconst (v := 0) X dX6_isSoWith_71 (by decide) rfl ?_
      refine zv_istore (lv2 := [(4, .int 0), (3, .int 1), (0, .ref (Y.2.1 0))]) X dX6_isSoWith_72 (by decide) rfl rfl ?_
      obtain ⟨n74, h⟩ := h
      refine zv_sub (lv2 := [(0, .ref (Y.2.1 0)), (3, .int 1), (4, .int 0)]) [2, 1, 0] rfl ?_
      exact vX6_isSoWith_74 X hr hlk hJ hY n74 1 0 _ h
    · replace h := h.2 q16
      refine zv_aload_n X dX6_isSoWith_19 0 rfl rfl rfl ?_
      refine zv_iconst (v := 1) X dX6_isSoWith_20 (by decide) rfl ?_
      refine zv_cVv (k := 0) (ci := 6) X [.int 1] (kX6_rowsGo l hJ 1 hY h) jl_X6_206 ⟨rfl, rfl⟩ ⟨Nat.le_of_ble_eq_true rfl, Nat.le_of_ble_eq_true rfl⟩ (zz_mo_o hY).1 (by decide) (zz_mo_o hY).2 rfl rfl rfl (Nat.le_of_ble_eq_true rfl) dX6_isSoWith_21 rfl (fun s21 h => ?_)
      refine zv_iconst (v := 0) X dX6_isSoWith_24 (by decide) rfl ?_
      refine zv_istore (lv2 := [(4, .int 0), (0, .ref (Y.2.1 0)), (3, .int x3)]) X dX6_isSoWith_25 (by decide) rfl rfl ?_
      obtain ⟨n27, h⟩ := h
      refine zv_sub (lv2 := [(0, .ref (Y.2.1 0)), (3, .int x3), (4, .int 0)]) [1, 2, 0] rfl ?_
      exact vX6_isSoWith_27 X hr hlk hJ hY ih n27 x3 0 _ h
def pX6_isSoWith (x1 : Int32) (x2 : Int32) (σ : zz_T) (Q : Int32 → zz_T → Prop) : Prop :=
    pX6_starts σ (fun s1 =>
    vp_in x1 70 ∧
    ∃ n13, pX6_isSoWith_13  Q n13 0 (zz_i s1 2 (Int32.toNatClampNeg x1) x2))
set_option maxHeartbeats 4000000 in
set_option maxRecDepth 100000 in
theorem kX6_isSoWith (l : Launch) {Y : zz_Y} (hJ : zz_J Y) (x1 : Int32) (x2 : Int32) (hY : zz_mo Y) {σ : zz_T} {Q : Int32 → zz_T → Prop} (h : pX6_isSoWith x1 x2 σ Q) : zz_Mi l yX6_isSoWith cX6_isSoWith 6 (some .boolean) rmX6_isSoWith Y [.ref (Y.2.1 0), .int x1, .int x2] σ Q := by
  refine zz_Mi.start (by decide) hJ (Nat.le_of_ble_eq_true rfl) (fun p e s m below meth c X hr hlk => ?_)
  have X : zz_X p m c cX6_isSoWith 6 s _ RX6 := X
  refine zv_sub (lv2 := [(0, .ref (Y.2.1 0)), (1, .int x1), (2, .int x2)]) [0, 1, 2] rfl ?_
  unfold pX6_isSoWith at h
  refine zv_aload_n X dX6_isSoWith_0 0 rfl rfl rfl ?_
  refine zv_cVv (k := 0) (ci := 6) X [] (kX6_starts l hJ  hY h) jl_X6_209 ⟨rfl, rfl⟩ ⟨Nat.le_of_ble_eq_true rfl, Nat.le_of_ble_eq_true rfl⟩ (zz_mo_o hY).1 (by decide) (zz_mo_o hY).2 rfl rfl rfl (Nat.le_of_ble_eq_true rfl) dX6_isSoWith_1 rfl (fun s1 h => ?_)
  refine zv_aload_n X dX6_isSoWith_4 0 rfl rfl rfl ?_
  refine zg_X6_1 (k := 0) X (zz_mo_o hY).1 (zz_mo_o hY).2 fl_X6_13 dX6_isSoWith_5 rfl ?_
  refine zv_iload_n X dX6_isSoWith_8 1 rfl rfl rfl ?_
  refine zv_iload_n X dX6_isSoWith_9 2 rfl rfl rfl ?_
  obtain ⟨hi10, h⟩ := h
  refine zv_iast (k := 2) X (zz_mo_now hY).1 (zz_mo_now hY).2 hi10 dX6_isSoWith_10 rfl ?_
  refine zv_iconst (v := 0) X dX6_isSoWith_11 (by decide) rfl ?_
  refine zv_istore_n (lv2 := [(3, .int 0), (0, .ref (Y.2.1 0)), (1, .int x1), (2, .int x2)]) X dX6_isSoWith_12 rfl (by decide) rfl rfl ?_
  obtain ⟨n13, h⟩ := h
  refine zv_sub (lv2 := [(0, .ref (Y.2.1 0)), (3, .int 0)]) [1, 0] rfl ?_
  exact vX6_isSoWith_13 X hr hlk hJ hY n13 0 _ h
