def rmX6_settles : Room := { frames := 0, cells := 0, slots := 0, locals := 0 }
def pX6_settles_2  (Q : zz_T → Prop) : Nat → Int32 → zz_T → Prop
  | 0, _, _ => False
  | n + 1, x1, σ =>
    ((70 ≤ x1 → Q σ) ∧
    (¬ 70 ≤ x1 → vp_in x1 70 ∧
    vp_in x1 210 ∧
    pX6_settles_2  Q n (x1 + 1) (zz_i σ 1 (Int32.toNatClampNeg x1) (σ.1 2 (Int32.toNatClampNeg x1)))))
set_option maxHeartbeats 4000000 in
set_option maxRecDepth 100000 in
theorem vX6_settles_2 {p : Program} {l : Launch} {e : Env} {s : State} {m : MethodId} {args : Array Value} {below : List Frame} {meth : Method} {c : Code} {Y : zz_Y}  {Q : zz_T → Prop} (X : zz_X p m c cX6_settles 2 s args RX6) (hr : meth.sig.returnType = none) (hlk : meth.locks = false) (hJ : zz_J Y) (hY : zz_mo Y)  : ∀ (n : Nat) (x1 : Int32) (σ : zz_T), pX6_settles_2  Q n x1 σ → zz_V p l e rmX6_settles s m args below meth c (MQ below (va_Qv Q (zz_E Y) (zz_A Y)) args s 0 0 (zz_A Y)) 2 Y σ 2 [(0, .ref (Y.2.1 0)), (1, .int x1)] [] := by
  intro n
  induction n with
  | zero => intro x1 σ h; exact h.elim
  | succ n ih =>
    intro x1 σ h 
    unfold pX6_settles_2 at h
    refine zv_iload_n X dX6_settles_2 1 rfl rfl rfl ?_
    refine zv_bipush (v := 70) X dX6_settles_3 (by decide) rfl ?_
    refine zv_icmp_ge (tgt := 26) X dX6_settles_5 (by decide) rfl (fun q5 => ?_) (fun q5 => ?_)
    · replace h := h.1 q5
      exact zv_vret X hr hlk h dX6_settles_26
    · replace h := h.2 q5
      refine zv_aload_n X dX6_settles_8 0 rfl rfl rfl ?_
      refine zg_X6_0 (k := 0) X (zz_mo_o hY).1 (zz_mo_o hY).2 fl_X6_7 dX6_settles_9 rfl ?_
      refine zv_iload_n X dX6_settles_12 1 rfl rfl rfl ?_
      refine zv_aload_n X dX6_settles_13 0 rfl rfl rfl ?_
      refine zg_X6_1 (k := 0) X (zz_mo_o hY).1 (zz_mo_o hY).2 fl_X6_13 dX6_settles_14 rfl ?_
      refine zv_iload_n X dX6_settles_17 1 rfl rfl rfl ?_
      obtain ⟨hi18, h⟩ := h
      refine zv_iald (k := 2) X (zz_mo_now hY).1 (zz_mo_now hY).2 hi18 dX6_settles_18 rfl ?_
      obtain ⟨hi19, h⟩ := h
      refine zv_iast (k := 1) X (zz_mo_st hY).1 (zz_mo_st hY).2 hi19 dX6_settles_19 rfl ?_
      refine zv_iinc (v := (x1 + 1)) (lv2 := [(1, .int (x1 + 1)), (0, .ref (Y.2.1 0))]) X dX6_settles_20 1 rfl rfl (by decide) rfl rfl ?_
      refine zv_goto (tgt := 2) X dX6_settles_23 (by decide) ?_
      refine zv_sub (lv2 := [(0, .ref (Y.2.1 0)), (1, .int (x1 + 1))]) [1, 0] rfl ?_
      exact ih (x1 + 1) _ h
def pX6_settles  (σ : zz_T) (Q : zz_T → Prop) : Prop :=
    ∃ n2, pX6_settles_2  Q n2 0 σ
set_option maxHeartbeats 4000000 in
set_option maxRecDepth 100000 in
theorem kX6_settles (l : Launch) {Y : zz_Y} (hJ : zz_J Y)  (hY : zz_mo Y) {σ : zz_T} {Q : zz_T → Prop} (h : pX6_settles  σ Q) : zz_Mv l yX6_settles cX6_settles 2 none rmX6_settles Y [.ref (Y.2.1 0)] σ Q := by
  refine zz_Mv.start (by decide) hJ (Nat.le_of_ble_eq_true rfl) (fun p e s m below meth c X hr hlk => ?_)
  have X : zz_X p m c cX6_settles 2 s _ RX6 := X
  refine zv_sub (lv2 := [(0, .ref (Y.2.1 0))]) [0] rfl ?_
  unfold pX6_settles at h
  refine zv_iconst (v := 0) X dX6_settles_0 (by decide) rfl ?_
  refine zv_istore_n (lv2 := [(1, .int 0), (0, .ref (Y.2.1 0))]) X dX6_settles_1 rfl (by decide) rfl rfl ?_
  obtain ⟨n2, h⟩ := h
  refine zv_sub (lv2 := [(0, .ref (Y.2.1 0)), (1, .int 0)]) [1, 0] rfl ?_
  exact vX6_settles_2 X hr hlk hJ hY n2 0 _ h
def rmX6_of : Room := { frames := 0, cells := 0, slots := 0, locals := 0 }
def pX6_of (x1 : Int32) (x2 : Int32) (σ : zz_T) (Q : Int32 → zz_T → Prop) : Prop :=
    vp_in ((11 * x1) + x2) 70 ∧
    Q (σ.1 2 (Int32.toNatClampNeg ((11 * x1) + x2))) σ
set_option maxHeartbeats 4000000 in
set_option maxRecDepth 100000 in
theorem kX6_of (l : Launch) {Y : zz_Y} (hJ : zz_J Y) (x1 : Int32) (x2 : Int32) (hY : zz_mo Y) {σ : zz_T} {Q : Int32 → zz_T → Prop} (h : pX6_of x1 x2 σ Q) : zz_Mi l yX6_of cX6_of 3 (some .int) rmX6_of Y [.ref (Y.2.1 0), .int x1, .int x2] σ Q := by
  refine zz_Mi.start (by decide) hJ (Nat.le_of_ble_eq_true rfl) (fun p e s m below meth c X hr hlk => ?_)
  have X : zz_X p m c cX6_of 3 s _ RX6 := X
  refine zv_sub (lv2 := [(0, .ref (Y.2.1 0)), (1, .int x1), (2, .int x2)]) [0, 1, 2] rfl ?_
  unfold pX6_of at h
  refine zv_aload_n X dX6_of_0 0 rfl rfl rfl ?_
  refine zg_X6_1 (k := 0) X (zz_mo_o hY).1 (zz_mo_o hY).2 fl_X6_13 dX6_of_1 rfl ?_
  refine zv_bipush (v := 11) X dX6_of_4 (by decide) rfl ?_
  refine zv_iload_n X dX6_of_6 1 rfl rfl rfl ?_
  refine zv_imul X dX6_of_7 rfl ?_
  refine zv_iload_n X dX6_of_8 2 rfl rfl rfl ?_
  refine zv_iadd X dX6_of_9 rfl ?_
  obtain ⟨hi10, h⟩ := h
  refine zv_iald (k := 2) X (zz_mo_now hY).1 (zz_mo_now hY).2 hi10 dX6_of_10 rfl ?_
  exact zv_iret X hr hlk h dX6_of_11
def rmX6_heat : Room := { frames := 0, cells := 0, slots := 0, locals := 0 }
def pX6_heat (x1 : Int32) (x2 : Int32) (σ : zz_T) (Q : Int32 → zz_T → Prop) : Prop :=
    vp_in (((11 * x1) + 3) + x2) 70 ∧
    Q (σ.1 2 (Int32.toNatClampNeg (((11 * x1) + 3) + x2))) σ
set_option maxHeartbeats 4000000 in
set_option maxRecDepth 100000 in
theorem kX6_heat (l : Launch) {Y : zz_Y} (hJ : zz_J Y) (x1 : Int32) (x2 : Int32) (hY : zz_mo Y) {σ : zz_T} {Q : Int32 → zz_T → Prop} (h : pX6_heat x1 x2 σ Q) : zz_Mi l yX6_heat cX6_heat 3 (some .int) rmX6_heat Y [.ref (Y.2.1 0), .int x1, .int x2] σ Q := by
  refine zz_Mi.start (by decide) hJ (Nat.le_of_ble_eq_true rfl) (fun p e s m below meth c X hr hlk => ?_)
  have X : zz_X p m c cX6_heat 3 s _ RX6 := X
  refine zv_sub (lv2 := [(0, .ref (Y.2.1 0)), (1, .int x1), (2, .int x2)]) [0, 1, 2] rfl ?_
  unfold pX6_heat at h
  refine zv_aload_n X dX6_heat_0 0 rfl rfl rfl ?_
  refine zg_X6_1 (k := 0) X (zz_mo_o hY).1 (zz_mo_o hY).2 fl_X6_13 dX6_heat_1 rfl ?_
  refine zv_bipush (v := 11) X dX6_heat_4 (by decide) rfl ?_
  refine zv_iload_n X dX6_heat_6 1 rfl rfl rfl ?_
  refine zv_imul X dX6_heat_7 rfl ?_
  refine zv_iconst (v := 3) X dX6_heat_8 (by decide) rfl ?_
  refine zv_iadd X dX6_heat_9 rfl ?_
  refine zv_iload_n X dX6_heat_10 2 rfl rfl rfl ?_
  refine zv_iadd X dX6_heat_11 rfl ?_
  obtain ⟨hi12, h⟩ := h
  refine zv_iald (k := 2) X (zz_mo_now hY).1 (zz_mo_now hY).2 hi12 dX6_heat_12 rfl ?_
  exact zv_iret X hr hlk h dX6_heat_13
def rmX6_heatBecomes : Room := { frames := 0, cells := 0, slots := 0, locals := 0 }
def pX6_heatBecomes (x1 : Int32) (x2 : Int32) (x3 : Int32) (σ : zz_T) (Q : zz_T → Prop) : Prop :=
    vp_in (((11 * x1) + 3) + x2) 70 ∧
    Q (zz_i σ 2 (Int32.toNatClampNeg (((11 * x1) + 3) + x2)) x3)
set_option maxHeartbeats 4000000 in
set_option maxRecDepth 100000 in
theorem kX6_heatBecomes (l : Launch) {Y : zz_Y} (hJ : zz_J Y) (x1 : Int32) (x2 : Int32) (x3 : Int32) (hY : zz_mo Y) {σ : zz_T} {Q : zz_T → Prop} (h : pX6_heatBecomes x1 x2 x3 σ Q) : zz_Mv l yX6_heatBecomes cX6_heatBecomes 4 none rmX6_heatBecomes Y [.ref (Y.2.1 0), .int x1, .int x2, .int x3] σ Q := by
  refine zz_Mv.start (by decide) hJ (Nat.le_of_ble_eq_true rfl) (fun p e s m below meth c X hr hlk => ?_)
  have X : zz_X p m c cX6_heatBecomes 4 s _ RX6 := X
  refine zv_sub (lv2 := [(0, .ref (Y.2.1 0)), (1, .int x1), (2, .int x2), (3, .int x3)]) [0, 1, 2, 3] rfl ?_
  unfold pX6_heatBecomes at h
  refine zv_aload_n X dX6_heatBecomes_0 0 rfl rfl rfl ?_
  refine zg_X6_1 (k := 0) X (zz_mo_o hY).1 (zz_mo_o hY).2 fl_X6_13 dX6_heatBecomes_1 rfl ?_
  refine zv_bipush (v := 11) X dX6_heatBecomes_4 (by decide) rfl ?_
  refine zv_iload_n X dX6_heatBecomes_6 1 rfl rfl rfl ?_
  refine zv_imul X dX6_heatBecomes_7 rfl ?_
  refine zv_iconst (v := 3) X dX6_heatBecomes_8 (by decide) rfl ?_
  refine zv_iadd X dX6_heatBecomes_9 rfl ?_
  refine zv_iload_n X dX6_heatBecomes_10 2 rfl rfl rfl ?_
  refine zv_iadd X dX6_heatBecomes_11 rfl ?_
  refine zv_iload_n X dX6_heatBecomes_12 3 rfl rfl rfl ?_
  obtain ⟨hi13, h⟩ := h
  refine zv_iast (k := 2) X (zz_mo_now hY).1 (zz_mo_now hY).2 hi13 dX6_heatBecomes_13 rfl ?_
  exact zv_vret X hr hlk h dX6_heatBecomes_14
def rmX6_lineAt : Room := { frames := 0, cells := 0, slots := 0, locals := 0 }
def pX6_lineAt (x1 : Int32) (σ : zz_T) (Q : Int32 → zz_T → Prop) : Prop :=
    vp_in 49 70 ∧
    (((σ.1 2 (Int32.toNatClampNeg 49)) = 0 → Q 0 σ) ∧
    (¬ (σ.1 2 (Int32.toNatClampNeg 49)) = 0 → vp_in 49 70 ∧
    ¬ (σ.1 2 (Int32.toNatClampNeg 49)) = 0 ∧
    vp_in (37 + (x1 - x1 / (σ.1 2 (Int32.toNatClampNeg 49)) * (σ.1 2 (Int32.toNatClampNeg 49)))) 70 ∧
    Q (σ.1 2 (Int32.toNatClampNeg (37 + (x1 - x1 / (σ.1 2 (Int32.toNatClampNeg 49)) * (σ.1 2 (Int32.toNatClampNeg 49)))))) σ))
set_option maxHeartbeats 4000000 in
set_option maxRecDepth 100000 in
theorem kX6_lineAt (l : Launch) {Y : zz_Y} (hJ : zz_J Y) (x1 : Int32) (hY : zz_mo Y) {σ : zz_T} {Q : Int32 → zz_T → Prop} (h : pX6_lineAt x1 σ Q) : zz_Mi l yX6_lineAt cX6_lineAt 2 (some .int) rmX6_lineAt Y [.ref (Y.2.1 0), .int x1] σ Q := by
  refine zz_Mi.start (by decide) hJ (Nat.le_of_ble_eq_true rfl) (fun p e s m below meth c X hr hlk => ?_)
  have X : zz_X p m c cX6_lineAt 2 s _ RX6 := X
  refine zv_sub (lv2 := [(0, .ref (Y.2.1 0)), (1, .int x1)]) [0, 1] rfl ?_
  unfold pX6_lineAt at h
  refine zv_aload_n X dX6_lineAt_0 0 rfl rfl rfl ?_
  refine zg_X6_1 (k := 0) X (zz_mo_o hY).1 (zz_mo_o hY).2 fl_X6_13 dX6_lineAt_1 rfl ?_
  refine zv_bipush (v := 49) X dX6_lineAt_4 (by decide) rfl ?_
  obtain ⟨hi6, h⟩ := h
  refine zv_iald (k := 2) X (zz_mo_now hY).1 (zz_mo_now hY).2 hi6 dX6_lineAt_6 rfl ?_
  refine zv_if_ne (tgt := 14) X dX6_lineAt_7 (by decide) rfl (fun q7 => ?_) (fun q7 => ?_)
  · replace h := h.2 q7
    refine zv_aload_n X dX6_lineAt_14 0 rfl rfl rfl ?_
    refine zg_X6_1 (k := 0) X (zz_mo_o hY).1 (zz_mo_o hY).2 fl_X6_13 dX6_lineAt_15 rfl ?_
    refine zv_bipush (v := 37) X dX6_lineAt_18 (by decide) rfl ?_
    refine zv_iload_n X dX6_lineAt_20 1 rfl rfl rfl ?_
    refine zv_aload_n X dX6_lineAt_21 0 rfl rfl rfl ?_
    refine zg_X6_1 (k := 0) X (zz_mo_o hY).1 (zz_mo_o hY).2 fl_X6_13 dX6_lineAt_22 rfl ?_
    refine zv_bipush (v := 49) X dX6_lineAt_25 (by decide) rfl ?_
    obtain ⟨hi27, h⟩ := h
    refine zv_iald (k := 2) X (zz_mo_now hY).1 (zz_mo_now hY).2 hi27 dX6_lineAt_27 rfl ?_
    obtain ⟨z28, h⟩ := h
    refine zv_irem X dX6_lineAt_28 z28 rfl ?_
    refine zv_iadd X dX6_lineAt_29 rfl ?_
    obtain ⟨hi30, h⟩ := h
    refine zv_iald (k := 2) X (zz_mo_now hY).1 (zz_mo_now hY).2 hi30 dX6_lineAt_30 rfl ?_
    exact zv_iret X hr hlk h dX6_lineAt_31
  · replace h := h.1 q7
    refine zv_iconst (v := 0) X dX6_lineAt_10 (by decide) rfl ?_
    refine zv_goto (tgt := 31) X dX6_lineAt_11 (by decide) ?_
    exact zv_iret X hr hlk h dX6_lineAt_31
def rmX6_isIn : Room := { frames := 0, cells := 0, slots := 0, locals := 0 }
def pX6_isIn (x0 : Int32) (x1 : Int32) (σ : zz_T) (Q : Int32 → zz_T → Prop) : Prop :=
    ((((x0 >>> (x1 &&& (31 : Int32))) &&& 1) = 1 → (zz_bo 1 ∧ Q 1 σ)) ∧
    (¬ ((x0 >>> (x1 &&& (31 : Int32))) &&& 1) = 1 → (zz_bo 0 ∧ Q 0 σ)))
set_option maxHeartbeats 4000000 in
set_option maxRecDepth 100000 in
theorem kX6_isIn (l : Launch) {Y : zz_Y} (hJ : zz_J Y) (x0 : Int32) (x1 : Int32)  {σ : zz_T} {Q : Int32 → zz_T → Prop} (h : pX6_isIn x0 x1 σ Q) : zz_Mi l yX6_isIn cX6_isIn 2 (some .boolean) rmX6_isIn Y [.int x0, .int x1] σ Q := by
  refine zz_Mi.start (by decide) hJ (Nat.le_of_ble_eq_true rfl) (fun p e s m below meth c X hr hlk => ?_)
  have X : zz_X p m c cX6_isIn 2 s _ RX6 := X
  refine zv_sub (lv2 := [(0, .int x0), (1, .int x1)]) [0, 1] rfl ?_
  unfold pX6_isIn at h
  refine zv_iload_n X dX6_isIn_0 0 rfl rfl rfl ?_
  refine zv_iload_n X dX6_isIn_1 1 rfl rfl rfl ?_
  refine zv_ishr X dX6_isIn_2 rfl ?_
  refine zv_iconst (v := 1) X dX6_isIn_3 (by decide) rfl ?_
  refine zv_iand X dX6_isIn_4 rfl ?_
  refine zv_iconst (v := 1) X dX6_isIn_5 (by decide) rfl ?_
  refine zv_icmp_ne (tgt := 13) X dX6_isIn_6 (by decide) rfl (fun q6 => ?_) (fun q6 => ?_)
  · replace h := h.2 q6
    refine zv_iconst (v := 0) X dX6_isIn_13 (by decide) rfl ?_
    exact zv_zret X hr hlk h dX6_isIn_14
  · replace h := h.1 q6
    refine zv_iconst (v := 1) X dX6_isIn_9 (by decide) rfl ?_
    refine zv_goto (tgt := 14) X dX6_isIn_10 (by decide) ?_
    exact zv_zret X hr hlk h dX6_isIn_14
def rmX6_gets : Room := { frames := 1, cells := 0, slots := 0, locals := 22 }
def pX6_gets_108  (Q : Int32 → zz_T → Prop) (x1 : Int32) (x2 : Int32) (x6 : Int32) (t0 : Int32) (σ : zz_T) : Prop :=
    pX6_heat x1 x2 σ (fun r115 s115 =>
    pX6_within (x6 - (r115 / 4)) 1000000 s115 (fun r123 s123 =>
    ((t0 = 0 → Q r123 s123) ∧
    (¬ t0 = 0 → pX6_within (r123 - 2) 1000000 s123 (fun r139 s139 =>
    Q r139 s139)))))
set_option maxHeartbeats 4000000 in
set_option maxRecDepth 100000 in
theorem vX6_gets_108 {p : Program} {l : Launch} {e : Env} {s : State} {m : MethodId} {args : Array Value} {below : List Frame} {meth : Method} {c : Code} {Y : zz_Y}  {Q : Int32 → zz_T → Prop} (X : zz_X p m c cX6_gets 9 s args RX6) (hr : meth.sig.returnType = (some .int)) (hlk : meth.locks = false) (hJ : zz_J Y) (hY : zz_mo Y)  : ∀ (x1 : Int32) (x2 : Int32) (x6 : Int32) (t0 : Int32) (σ : zz_T), pX6_gets_108  Q x1 x2 x6 t0 σ → zz_V p l e rmX6_gets s m args below meth c (MQ below (va_Qi Q (zz_E Y) (zz_A Y)) args s 0 0 (zz_A Y)) 9 Y σ 108 [(0, .ref (Y.2.1 0)), (1, .int x1), (2, .int x2), (6, .int x6)] [.int t0] := by
  intro x1 x2 x6 t0 σ h 
  unfold pX6_gets_108 at h
  refine zv_istore (lv2 := [(7, .int t0), (0, .ref (Y.2.1 0)), (1, .int x1), (2, .int x2), (6, .int x6)]) X dX6_gets_108 (by decide) rfl rfl ?_
  refine zv_iload X dX6_gets_110 4 rfl rfl ?_
  refine zv_aload_n X dX6_gets_112 1 rfl rfl rfl ?_
  refine zv_iload_n X dX6_gets_113 2 rfl rfl rfl ?_
  refine zv_iload_n X dX6_gets_114 3 rfl rfl rfl ?_
  refine zv_cVi (k := 0) (ci := 6) X [.int x1, .int x2] (kX6_heat l hJ x1 x2 hY h) jl_X6_167 ⟨rfl, rfl⟩ ⟨Nat.le_of_ble_eq_true rfl, Nat.le_of_ble_eq_true rfl⟩ (zz_mo_o hY).1 (by decide) (zz_mo_o hY).2 rfl rfl rfl (Nat.le_of_ble_eq_true rfl) dX6_gets_115 rfl (fun r115 s115 h => ?_)
  refine zv_iconst (v := 4) X dX6_gets_118 (by decide) rfl ?_
  refine zv_idiv X dX6_gets_119 (by decide) rfl ?_
  refine zv_isub X dX6_gets_120 rfl ?_
  refine zv_ldc (v := 1000000) X dX6_gets_121 co_X6_170 rfl ?_
  refine zv_cSi X [.int (x6 - (r115 / 4)), .int 1000000] (kX6_within l hJ (x6 - (r115 / 4)) 1000000  h) jl_X6_171 ⟨rfl, rfl⟩ ⟨Nat.le_of_ble_eq_true rfl, Nat.le_of_ble_eq_true rfl⟩ rfl rfl (Nat.le_of_ble_eq_true rfl) dX6_gets_123 rfl (fun r123 s123 h => ?_)
  refine zv_istore (lv2 := [(8, .int r123), (7, .int t0), (0, .ref (Y.2.1 0)), (1, .int x1), (2, .int x2), (6, .int x6)]) X dX6_gets_126 (by decide) rfl rfl ?_
  refine zv_iload X dX6_gets_128 1 rfl rfl ?_
  refine zv_if_eq (tgt := 145) X dX6_gets_130 (by decide) rfl (fun q130 => ?_) (fun q130 => ?_)
  · replace h := h.1 q130
    refine zv_iload X dX6_gets_145 0 rfl rfl ?_
    exact zv_iret X hr hlk h dX6_gets_147
  · replace h := h.2 q130
    refine zv_iload X dX6_gets_133 0 rfl rfl ?_
    refine zv_iconst (v := 2) X dX6_gets_135 (by decide) rfl ?_
    refine zv_isub X dX6_gets_136 rfl ?_
    refine zv_ldc (v := 1000000) X dX6_gets_137 co_X6_170 rfl ?_
    refine zv_cSi X [.int (r123 - 2), .int 1000000] (kX6_within l hJ (r123 - 2) 1000000  h) jl_X6_171 ⟨rfl, rfl⟩ ⟨Nat.le_of_ble_eq_true rfl, Nat.le_of_ble_eq_true rfl⟩ rfl rfl (Nat.le_of_ble_eq_true rfl) dX6_gets_139 rfl (fun r139 s139 h => ?_)
    refine zv_goto (tgt := 147) X dX6_gets_142 (by decide) ?_
    exact zv_iret X hr hlk h dX6_gets_147
def pX6_gets_107  (Q : Int32 → zz_T → Prop) (x1 : Int32) (x2 : Int32) (x6 : Int32) (σ : zz_T) : Prop :=
    pX6_gets_108  Q x1 x2 x6 0 σ
set_option maxHeartbeats 4000000 in
set_option maxRecDepth 100000 in
theorem vX6_gets_107 {p : Program} {l : Launch} {e : Env} {s : State} {m : MethodId} {args : Array Value} {below : List Frame} {meth : Method} {c : Code} {Y : zz_Y}  {Q : Int32 → zz_T → Prop} (X : zz_X p m c cX6_gets 9 s args RX6) (hr : meth.sig.returnType = (some .int)) (hlk : meth.locks = false) (hJ : zz_J Y) (hY : zz_mo Y)  : ∀ (x1 : Int32) (x2 : Int32) (x6 : Int32) (σ : zz_T), pX6_gets_107  Q x1 x2 x6 σ → zz_V p l e rmX6_gets s m args below meth c (MQ below (va_Qi Q (zz_E Y) (zz_A Y)) args s 0 0 (zz_A Y)) 9 Y σ 107 [(0, .ref (Y.2.1 0)), (1, .int x1), (2, .int x2), (6, .int x6)] [] := by
  intro x1 x2 x6 σ h 
  unfold pX6_gets_107 at h
  refine zv_iconst (v := 0) X dX6_gets_107 (by decide) rfl ?_
  exact vX6_gets_108 X hr hlk hJ hY x1 x2 x6 0 _ h
def pX6_gets_22  (Q : Int32 → zz_T → Prop) (x1 : Int32) (x2 : Int32) (x3 : Int32) (x4 : Int32) (x5 : Int32) (t0 : Int32) (σ : zz_T) : Prop :=
    pX6_of x1 0 σ (fun r27 s27 =>
    ((r27 = 1 → pX6_heat x1 x2 s27 (fun r61 s61 =>
    pX6_within (t0 - (r61 / 4)) 1000000 s61 (fun r69 s69 =>
    Q r69 s69))) ∧
    (¬ r27 = 1 → ((r27 = 2 → ((x2 ≤ 0 → pX6_gets_107  Q x1 x2 t0 s27) ∧
    (¬ x2 ≤ 0 → ((7 ≤ x2 → pX6_gets_107  Q x1 x2 t0 s27) ∧
    (¬ 7 ≤ x2 → pX6_isIn x3 (x2 - 1) s27 (fun r87 s87 =>
    ((r87 = 0 → pX6_gets_107  Q x1 x2 t0 s87) ∧
    (¬ r87 = 0 → pX6_isIn x3 (x2 + 1) s87 (fun r97 s97 =>
    ((r97 = 0 → pX6_gets_107  Q x1 x2 t0 s97) ∧
    (¬ r97 = 0 → pX6_gets_108  Q x1 x2 t0 1 s97))))))))))) ∧
    (¬ r27 = 2 → ((r27 = 3 → pX6_isIn x3 x2 s27 (fun r150 s150 =>
    ((r150 = 0 → pX6_isIn x4 x2 s150 (fun r159 s159 =>
    ((r159 = 0 → Q t0 s159) ∧
    (¬ r159 = 0 → Q (t0 + (x5 / 3)) s159)))) ∧
    (¬ r150 = 0 → Q t0 s150)))) ∧
    (¬ r27 = 3 → Q t0 s27)))))))
set_option maxHeartbeats 4000000 in
set_option maxRecDepth 100000 in
theorem vX6_gets_22 {p : Program} {l : Launch} {e : Env} {s : State} {m : MethodId} {args : Array Value} {below : List Frame} {meth : Method} {c : Code} {Y : zz_Y}  {Q : Int32 → zz_T → Prop} (X : zz_X p m c cX6_gets 9 s args RX6) (hr : meth.sig.returnType = (some .int)) (hlk : meth.locks = false) (hJ : zz_J Y) (hY : zz_mo Y)  : ∀ (x1 : Int32) (x2 : Int32) (x3 : Int32) (x4 : Int32) (x5 : Int32) (t0 : Int32) (σ : zz_T), pX6_gets_22  Q x1 x2 x3 x4 x5 t0 σ → zz_V p l e rmX6_gets s m args below meth c (MQ below (va_Qi Q (zz_E Y) (zz_A Y)) args s 0 0 (zz_A Y)) 9 Y σ 22 [(0, .ref (Y.2.1 0)), (1, .int x1), (2, .int x2), (3, .int x3), (4, .int x4), (5, .int x5)] [.int t0] := by
  intro x1 x2 x3 x4 x5 t0 σ h 
  unfold pX6_gets_22 at h
  refine zv_istore (lv2 := [(6, .int t0), (0, .ref (Y.2.1 0)), (1, .int x1), (2, .int x2), (3, .int x3), (4, .int x4), (5, .int x5)]) X dX6_gets_22 (by decide) rfl rfl ?_
  refine zv_aload_n X dX6_gets_24 1 rfl rfl rfl ?_
  refine zv_iload_n X dX6_gets_25 2 rfl rfl rfl ?_
  refine zv_iconst (v := 0) X dX6_gets_26 (by decide) rfl ?_
  refine zv_cVi (k := 0) (ci := 6) X [.int x1, .int 0] (kX6_of l hJ x1 0 hY h) jl_X6_161 ⟨rfl, rfl⟩ ⟨Nat.le_of_ble_eq_true rfl, Nat.le_of_ble_eq_true rfl⟩ (zz_mo_o hY).1 (by decide) (zz_mo_o hY).2 rfl rfl rfl (Nat.le_of_ble_eq_true rfl) dX6_gets_27 rfl (fun r27 s27 h => ?_)
  by_cases e30_1 : r27 = 1
  · replace h := h.1 e30_1
    refine zv_tableIn (tgt := 56) X 1 dX6_gets_30 e30_1 ⟨⟨by decide, by decide⟩, rfl⟩ (by decide) ?_
    refine zv_iload X dX6_gets_56 0 rfl rfl ?_
    refine zv_aload_n X dX6_gets_58 1 rfl rfl rfl ?_
    refine zv_iload_n X dX6_gets_59 2 rfl rfl rfl ?_
    refine zv_iload_n X dX6_gets_60 3 rfl rfl rfl ?_
    refine zv_cVi (k := 0) (ci := 6) X [.int x1, .int x2] (kX6_heat l hJ x1 x2 hY h) jl_X6_167 ⟨rfl, rfl⟩ ⟨Nat.le_of_ble_eq_true rfl, Nat.le_of_ble_eq_true rfl⟩ (zz_mo_o hY).1 (by decide) (zz_mo_o hY).2 rfl rfl rfl (Nat.le_of_ble_eq_true rfl) dX6_gets_61 rfl (fun r61 s61 h => ?_)
    refine zv_iconst (v := 4) X dX6_gets_64 (by decide) rfl ?_
    refine zv_idiv X dX6_gets_65 (by decide) rfl ?_
    refine zv_isub X dX6_gets_66 rfl ?_
    refine zv_ldc (v := 1000000) X dX6_gets_67 co_X6_170 rfl ?_
    refine zv_cSi X [.int (t0 - (r61 / 4)), .int 1000000] (kX6_within l hJ (t0 - (r61 / 4)) 1000000  h) jl_X6_171 ⟨rfl, rfl⟩ ⟨Nat.le_of_ble_eq_true rfl, Nat.le_of_ble_eq_true rfl⟩ rfl rfl (Nat.le_of_ble_eq_true rfl) dX6_gets_69 rfl (fun r69 s69 h => ?_)
    exact zv_iret X hr hlk h dX6_gets_72
  · replace h := h.2 e30_1
    by_cases e30_2 : r27 = 2
    · replace h := h.1 e30_2
      refine zv_tableIn (tgt := 73) X 2 dX6_gets_30 e30_2 ⟨⟨by decide, by decide⟩, rfl⟩ (by decide) ?_
      refine zv_iload_n X dX6_gets_73 3 rfl rfl rfl ?_
      refine zv_if_le (tgt := 107) X dX6_gets_74 (by decide) rfl (fun q74 => ?_) (fun q74 => ?_)
      · replace h := h.1 q74
        refine zv_sub (lv2 := [(0, .ref (Y.2.1 0)), (1, .int x1), (2, .int x2), (6, .int t0)]) [1, 2, 3, 0] rfl ?_
        exact vX6_gets_107 X hr hlk hJ hY x1 x2 t0 _ h
      · replace h := h.2 q74
        refine zv_iload_n X dX6_gets_77 3 rfl rfl rfl ?_
        refine zv_bipush (v := 7) X dX6_gets_78 (by decide) rfl ?_
        refine zv_icmp_ge (tgt := 107) X dX6_gets_80 (by decide) rfl (fun q80 => ?_) (fun q80 => ?_)
        · replace h := h.1 q80
          refine zv_sub (lv2 := [(0, .ref (Y.2.1 0)), (1, .int x1), (2, .int x2), (6, .int t0)]) [1, 2, 3, 0] rfl ?_
          exact vX6_gets_107 X hr hlk hJ hY x1 x2 t0 _ h
        · replace h := h.2 q80
          refine zv_iload_n X dX6_gets_83 4 rfl rfl rfl ?_
          refine zv_iload_n X dX6_gets_84 3 rfl rfl rfl ?_
          refine zv_iconst (v := 1) X dX6_gets_85 (by decide) rfl ?_
          refine zv_isub X dX6_gets_86 rfl ?_
          refine zv_cSi X [.int x3, .int (x2 - 1)] (kX6_isIn l hJ x3 (x2 - 1)  h) jl_X6_164 ⟨rfl, rfl⟩ ⟨Nat.le_of_ble_eq_true rfl, Nat.le_of_ble_eq_true rfl⟩ rfl rfl (Nat.le_of_ble_eq_true rfl) dX6_gets_87 rfl (fun r87 s87 h => ?_)
          refine zv_if_eq (tgt := 107) X dX6_gets_90 (by decide) rfl (fun q90 => ?_) (fun q90 => ?_)
          · replace h := h.1 q90
            refine zv_sub (lv2 := [(0, .ref (Y.2.1 0)), (1, .int x1), (2, .int x2), (6, .int t0)]) [1, 2, 3, 0] rfl ?_
            exact vX6_gets_107 X hr hlk hJ hY x1 x2 t0 _ h
          · replace h := h.2 q90
            refine zv_iload_n X dX6_gets_93 4 rfl rfl rfl ?_
            refine zv_iload_n X dX6_gets_94 3 rfl rfl rfl ?_
            refine zv_iconst (v := 1) X dX6_gets_95 (by decide) rfl ?_
            refine zv_iadd X dX6_gets_96 rfl ?_
            refine zv_cSi X [.int x3, .int (x2 + 1)] (kX6_isIn l hJ x3 (x2 + 1)  h) jl_X6_164 ⟨rfl, rfl⟩ ⟨Nat.le_of_ble_eq_true rfl, Nat.le_of_ble_eq_true rfl⟩ rfl rfl (Nat.le_of_ble_eq_true rfl) dX6_gets_97 rfl (fun r97 s97 h => ?_)
            refine zv_if_eq (tgt := 107) X dX6_gets_100 (by decide) rfl (fun q100 => ?_) (fun q100 => ?_)
            · replace h := h.1 q100
              refine zv_sub (lv2 := [(0, .ref (Y.2.1 0)), (1, .int x1), (2, .int x2), (6, .int t0)]) [1, 2, 3, 0] rfl ?_
              exact vX6_gets_107 X hr hlk hJ hY x1 x2 t0 _ h
            · replace h := h.2 q100
              refine zv_iconst (v := 1) X dX6_gets_103 (by decide) rfl ?_
              refine zv_goto (tgt := 108) X dX6_gets_104 (by decide) ?_
              refine zv_sub (lv2 := [(0, .ref (Y.2.1 0)), (1, .int x1), (2, .int x2), (6, .int t0)]) [1, 2, 3, 0] rfl ?_
              exact vX6_gets_108 X hr hlk hJ hY x1 x2 t0 1 _ h
    · replace h := h.2 e30_2
      by_cases e30_3 : r27 = 3
      · replace h := h.1 e30_3
        refine zv_tableIn (tgt := 148) X 3 dX6_gets_30 e30_3 ⟨⟨by decide, by decide⟩, rfl⟩ (by decide) ?_
        refine zv_iload_n X dX6_gets_148 4 rfl rfl rfl ?_
        refine zv_iload_n X dX6_gets_149 3 rfl rfl rfl ?_
        refine zv_cSi X [.int x3, .int x2] (kX6_isIn l hJ x3 x2  h) jl_X6_164 ⟨rfl, rfl⟩ ⟨Nat.le_of_ble_eq_true rfl, Nat.le_of_ble_eq_true rfl⟩ rfl rfl (Nat.le_of_ble_eq_true rfl) dX6_gets_150 rfl (fun r150 s150 h => ?_)
        refine zv_if_ne (tgt := 175) X dX6_gets_153 (by decide) rfl (fun q153 => ?_) (fun q153 => ?_)
        · replace h := h.2 q153
          refine zv_iload X dX6_gets_175 0 rfl rfl ?_
          exact zv_iret X hr hlk h dX6_gets_177
        · replace h := h.1 q153
          refine zv_iload X dX6_gets_156 5 rfl rfl ?_
          refine zv_iload_n X dX6_gets_158 3 rfl rfl rfl ?_
          refine zv_cSi X [.int x4, .int x2] (kX6_isIn l hJ x4 x2  h) jl_X6_164 ⟨rfl, rfl⟩ ⟨Nat.le_of_ble_eq_true rfl, Nat.le_of_ble_eq_true rfl⟩ rfl rfl (Nat.le_of_ble_eq_true rfl) dX6_gets_159 rfl (fun r159 s159 h => ?_)
          refine zv_if_eq (tgt := 175) X dX6_gets_162 (by decide) rfl (fun q162 => ?_) (fun q162 => ?_)
          · replace h := h.1 q162
            refine zv_iload X dX6_gets_175 0 rfl rfl ?_
            exact zv_iret X hr hlk h dX6_gets_177
          · replace h := h.2 q162
            refine zv_iload X dX6_gets_165 0 rfl rfl ?_
            refine zv_iload X dX6_gets_167 6 rfl rfl ?_
            refine zv_iconst (v := 3) X dX6_gets_169 (by decide) rfl ?_
            refine zv_idiv X dX6_gets_170 (by decide) rfl ?_
            refine zv_iadd X dX6_gets_171 rfl ?_
            refine zv_goto (tgt := 177) X dX6_gets_172 (by decide) ?_
            exact zv_iret X hr hlk h dX6_gets_177
      · replace h := h.2 e30_3
        refine zv_tableOut (tgt := 178) X dX6_gets_30 (by have := zz_nt e30_1 (z := 1) rfl; have := zz_nt e30_2 (z := 2) rfl; have := zz_nt e30_3 (z := 3) rfl; omega) (by decide) ?_
        refine zv_iload X dX6_gets_178 0 rfl rfl ?_
        exact zv_iret X hr hlk h dX6_gets_180
def pX6_gets (x1 : Int32) (x2 : Int32) (x3 : Int32) (x4 : Int32) (σ : zz_T) (Q : Int32 → zz_T → Prop) : Prop :=
    pX6_of x1 1 σ (fun r3 s3 =>
    pX6_isIn x3 x2 s3 (fun r10 s10 =>
    ((r10 = 0 → pX6_gets_22  Q x1 x2 x3 x4 r3 0 s10) ∧
    (¬ r10 = 0 → pX6_gets_22  Q x1 x2 x3 x4 r3 r3 s10))))
set_option maxHeartbeats 4000000 in
set_option maxRecDepth 100000 in
theorem kX6_gets (l : Launch) {Y : zz_Y} (hJ : zz_J Y) (x1 : Int32) (x2 : Int32) (x3 : Int32) (x4 : Int32) (hY : zz_mo Y) {σ : zz_T} {Q : Int32 → zz_T → Prop} (h : pX6_gets x1 x2 x3 x4 σ Q) : zz_Mi l yX6_gets cX6_gets 9 (some .int) rmX6_gets Y [.ref (Y.2.1 0), .int x1, .int x2, .int x3, .int x4] σ Q := by
  refine zz_Mi.start (by decide) hJ (Nat.le_of_ble_eq_true rfl) (fun p e s m below meth c X hr hlk => ?_)
  have X : zz_X p m c cX6_gets 9 s _ RX6 := X
  refine zv_sub (lv2 := [(0, .ref (Y.2.1 0)), (1, .int x1), (2, .int x2), (3, .int x3), (4, .int x4)]) [0, 1, 2, 3, 4] rfl ?_
  unfold pX6_gets at h
  refine zv_aload_n X dX6_gets_0 0 rfl rfl rfl ?_
  refine zv_iload_n X dX6_gets_1 1 rfl rfl rfl ?_
  refine zv_iconst (v := 1) X dX6_gets_2 (by decide) rfl ?_
  refine zv_cVi (k := 0) (ci := 6) X [.int x1, .int 1] (kX6_of l hJ x1 1 hY h) jl_X6_161 ⟨rfl, rfl⟩ ⟨Nat.le_of_ble_eq_true rfl, Nat.le_of_ble_eq_true rfl⟩ (zz_mo_o hY).1 (by decide) (zz_mo_o hY).2 rfl rfl rfl (Nat.le_of_ble_eq_true rfl) dX6_gets_3 rfl (fun r3 s3 h => ?_)
  refine zv_istore (lv2 := [(5, .int r3), (0, .ref (Y.2.1 0)), (1, .int x1), (2, .int x2), (3, .int x3), (4, .int x4)]) X dX6_gets_6 (by decide) rfl rfl ?_
  refine zv_iload_n X dX6_gets_8 4 rfl rfl rfl ?_
  refine zv_iload_n X dX6_gets_9 3 rfl rfl rfl ?_
  refine zv_cSi X [.int x3, .int x2] (kX6_isIn l hJ x3 x2  h) jl_X6_164 ⟨rfl, rfl⟩ ⟨Nat.le_of_ble_eq_true rfl, Nat.le_of_ble_eq_true rfl⟩ rfl rfl (Nat.le_of_ble_eq_true rfl) dX6_gets_10 rfl (fun r10 s10 h => ?_)
  refine zv_if_eq (tgt := 21) X dX6_gets_13 (by decide) rfl (fun q13 => ?_) (fun q13 => ?_)
  · replace h := h.1 q13
    refine zv_iconst (v := 0) X dX6_gets_21 (by decide) rfl ?_
    refine zv_sub (lv2 := [(0, .ref (Y.2.1 0)), (1, .int x1), (2, .int x2), (3, .int x3), (4, .int x4), (5, .int r3)]) [1, 2, 3, 4, 5, 0] rfl ?_
    exact vX6_gets_22 X hr hlk hJ hY x1 x2 x3 x4 r3 0 _ h
  · replace h := h.2 q13
    refine zv_iload X dX6_gets_16 0 rfl rfl ?_
    refine zv_goto (tgt := 22) X dX6_gets_18 (by decide) ?_
    refine zv_sub (lv2 := [(0, .ref (Y.2.1 0)), (1, .int x1), (2, .int x2), (3, .int x3), (4, .int x4), (5, .int r3)]) [1, 2, 3, 4, 5, 0] rfl ?_
    exact vX6_gets_22 X hr hlk hJ hY x1 x2 x3 x4 r3 r3 _ h
def rmX6_blackOf : Room := { frames := 1, cells := 0, slots := 0, locals := 22 }
def pX6_blackOf_32  (Q : Int32 → zz_T → Prop) (K4 : Int32 → Int32 → Int32 → zz_T → Prop) (x1 : Int32) (x3 : Int32) (t0 : Int32) (t1 : Int32) (σ : zz_T) : Prop :=
    pX6_flag t1 σ (fun r32 s32 =>
    K4 x1 (t0 ||| (r32 <<< (x3 &&& (31 : Int32)))) (x3 + 1) s32)
set_option maxHeartbeats 4000000 in
set_option maxRecDepth 100000 in
theorem vX6_blackOf_32 {p : Program} {l : Launch} {e : Env} {s : State} {m : MethodId} {args : Array Value} {below : List Frame} {meth : Method} {c : Code} {Y : zz_Y}  {Q : Int32 → zz_T → Prop} {K4 : Int32 → Int32 → Int32 → zz_T → Prop} (X : zz_X p m c cX6_blackOf 4 s args RX6) (hr : meth.sig.returnType = (some .int)) (hlk : meth.locks = false) (hJ : zz_J Y) (hY : zz_mo Y) (hK4 : ∀ (x1 : Int32) (x2 : Int32) (x3 : Int32) (σ : zz_T), K4 x1 x2 x3 σ → zz_V p l e rmX6_blackOf s m args below meth c (MQ below (va_Qi Q (zz_E Y) (zz_A Y)) args s 0 0 (zz_A Y)) 4 Y σ 4 [(0, .ref (Y.2.1 0)), (1, .int x1), (2, .int x2), (3, .int x3)] []) : ∀ (x1 : Int32) (x3 : Int32) (t0 : Int32) (t1 : Int32) (σ : zz_T), pX6_blackOf_32  Q K4 x1 x3 t0 t1 σ → zz_V p l e rmX6_blackOf s m args below meth c (MQ below (va_Qi Q (zz_E Y) (zz_A Y)) args s 0 0 (zz_A Y)) 4 Y σ 32 [(0, .ref (Y.2.1 0)), (1, .int x1), (3, .int x3)] [.int t1, .int t0] := by
  intro x1 x3 t0 t1 σ h 
  unfold pX6_blackOf_32 at h
  refine zv_cSi X [.int t1] (kX6_flag l hJ t1  h) jl_X6_174 ⟨rfl, rfl⟩ ⟨Nat.le_of_ble_eq_true rfl, Nat.le_of_ble_eq_true rfl⟩ rfl rfl (Nat.le_of_ble_eq_true rfl) dX6_blackOf_32 rfl (fun r32 s32 h => ?_)
  refine zv_iload_n X dX6_blackOf_35 2 rfl rfl rfl ?_
  refine zv_ishl X dX6_blackOf_36 rfl ?_
  refine zv_ior X dX6_blackOf_37 rfl ?_
  refine zv_istore_n (lv2 := [(2, .int (t0 ||| (r32 <<< (x3 &&& (31 : Int32))))), (0, .ref (Y.2.1 0)), (1, .int x1), (3, .int x3)]) X dX6_blackOf_38 rfl (by decide) rfl rfl ?_
  refine zv_iinc (v := (x3 + 1)) (lv2 := [(3, .int (x3 + 1)), (2, .int (t0 ||| (r32 <<< (x3 &&& (31 : Int32))))), (0, .ref (Y.2.1 0)), (1, .int x1)]) X dX6_blackOf_39 3 rfl rfl (by decide) rfl rfl ?_
  refine zv_goto (tgt := 4) X dX6_blackOf_42 (by decide) ?_
  refine zv_sub (lv2 := [(0, .ref (Y.2.1 0)), (1, .int x1), (2, .int (t0 ||| (r32 <<< (x3 &&& (31 : Int32))))), (3, .int (x3 + 1))]) [2, 3, 1, 0] rfl ?_
  exact hK4 x1 (t0 ||| (r32 <<< (x3 &&& (31 : Int32)))) (x3 + 1) _ h
def pX6_blackOf_4  (Q : Int32 → zz_T → Prop) : Nat → Int32 → Int32 → Int32 → zz_T → Prop
  | 0, _, _, _, _ => False
  | n + 1, x1, x2, x3, σ =>
    ((8 ≤ x3 → Q x2 σ) ∧
    (¬ 8 ≤ x3 → pX6_heat x1 x3 σ (fun r14 s14 =>
    vp_in 34 70 ∧
    ((r14 < (s14.1 2 (Int32.toNatClampNeg 34)) → pX6_blackOf_32  Q (pX6_blackOf_4  Q n) x1 x3 x2 0 s14) ∧
    (¬ r14 < (s14.1 2 (Int32.toNatClampNeg 34)) → pX6_blackOf_32  Q (pX6_blackOf_4  Q n) x1 x3 x2 1 s14)))))
set_option maxHeartbeats 4000000 in
set_option maxRecDepth 100000 in
theorem vX6_blackOf_4 {p : Program} {l : Launch} {e : Env} {s : State} {m : MethodId} {args : Array Value} {below : List Frame} {meth : Method} {c : Code} {Y : zz_Y}  {Q : Int32 → zz_T → Prop} (X : zz_X p m c cX6_blackOf 4 s args RX6) (hr : meth.sig.returnType = (some .int)) (hlk : meth.locks = false) (hJ : zz_J Y) (hY : zz_mo Y)  : ∀ (n : Nat) (x1 : Int32) (x2 : Int32) (x3 : Int32) (σ : zz_T), pX6_blackOf_4  Q n x1 x2 x3 σ → zz_V p l e rmX6_blackOf s m args below meth c (MQ below (va_Qi Q (zz_E Y) (zz_A Y)) args s 0 0 (zz_A Y)) 4 Y σ 4 [(0, .ref (Y.2.1 0)), (1, .int x1), (2, .int x2), (3, .int x3)] [] := by
  intro n
  induction n with
  | zero => intro x1 x2 x3 σ h; exact h.elim
  | succ n ih =>
    intro x1 x2 x3 σ h 
    unfold pX6_blackOf_4 at h
    refine zv_iload_n X dX6_blackOf_4 3 rfl rfl rfl ?_
    refine zv_bipush (v := 8) X dX6_blackOf_5 (by decide) rfl ?_
    refine zv_icmp_ge (tgt := 45) X dX6_blackOf_7 (by decide) rfl (fun q7 => ?_) (fun q7 => ?_)
    · replace h := h.1 q7
      refine zv_iload_n X dX6_blackOf_45 2 rfl rfl rfl ?_
      exact zv_iret X hr hlk h dX6_blackOf_46
    · replace h := h.2 q7
      refine zv_iload_n X dX6_blackOf_10 2 rfl rfl rfl ?_
      refine zv_aload_n X dX6_blackOf_11 0 rfl rfl rfl ?_
      refine zv_iload_n X dX6_blackOf_12 1 rfl rfl rfl ?_
      refine zv_iload_n X dX6_blackOf_13 3 rfl rfl rfl ?_
      refine zv_cVi (k := 0) (ci := 6) X [.int x1, .int x3] (kX6_heat l hJ x1 x3 hY h) jl_X6_167 ⟨rfl, rfl⟩ ⟨Nat.le_of_ble_eq_true rfl, Nat.le_of_ble_eq_true rfl⟩ (zz_mo_o hY).1 (by decide) (zz_mo_o hY).2 rfl rfl rfl (Nat.le_of_ble_eq_true rfl) dX6_blackOf_14 rfl (fun r14 s14 h => ?_)
      refine zv_aload_n X dX6_blackOf_17 0 rfl rfl rfl ?_
      refine zg_X6_1 (k := 0) X (zz_mo_o hY).1 (zz_mo_o hY).2 fl_X6_13 dX6_blackOf_18 rfl ?_
      refine zv_bipush (v := 34) X dX6_blackOf_21 (by decide) rfl ?_
      obtain ⟨hi23, h⟩ := h
      refine zv_iald (k := 2) X (zz_mo_now hY).1 (zz_mo_now hY).2 hi23 dX6_blackOf_23 rfl ?_
      refine zv_icmp_lt (tgt := 31) X dX6_blackOf_24 (by decide) rfl (fun q24 => ?_) (fun q24 => ?_)
      · replace h := h.1 q24
        refine zv_iconst (v := 0) X dX6_blackOf_31 (by decide) rfl ?_
        refine zv_sub (lv2 := [(0, .ref (Y.2.1 0)), (1, .int x1), (3, .int x3)]) [0, 1, 3] rfl ?_
        exact vX6_blackOf_32 X hr hlk hJ hY ih x1 x3 x2 0 _ h
      · replace h := h.2 q24
        refine zv_iconst (v := 1) X dX6_blackOf_27 (by decide) rfl ?_
        refine zv_goto (tgt := 32) X dX6_blackOf_28 (by decide) ?_
        refine zv_sub (lv2 := [(0, .ref (Y.2.1 0)), (1, .int x1), (3, .int x3)]) [0, 1, 3] rfl ?_
        exact vX6_blackOf_32 X hr hlk hJ hY ih x1 x3 x2 1 _ h
def pX6_blackOf (x1 : Int32) (σ : zz_T) (Q : Int32 → zz_T → Prop) : Prop :=
    ∃ n4, pX6_blackOf_4  Q n4 x1 0 0 σ
set_option maxHeartbeats 4000000 in
set_option maxRecDepth 100000 in
theorem kX6_blackOf (l : Launch) {Y : zz_Y} (hJ : zz_J Y) (x1 : Int32) (hY : zz_mo Y) {σ : zz_T} {Q : Int32 → zz_T → Prop} (h : pX6_blackOf x1 σ Q) : zz_Mi l yX6_blackOf cX6_blackOf 4 (some .int) rmX6_blackOf Y [.ref (Y.2.1 0), .int x1] σ Q := by
  refine zz_Mi.start (by decide) hJ (Nat.le_of_ble_eq_true rfl) (fun p e s m below meth c X hr hlk => ?_)
  have X : zz_X p m c cX6_blackOf 4 s _ RX6 := X
  refine zv_sub (lv2 := [(0, .ref (Y.2.1 0)), (1, .int x1)]) [0, 1] rfl ?_
  unfold pX6_blackOf at h
  refine zv_iconst (v := 0) X dX6_blackOf_0 (by decide) rfl ?_
  refine zv_istore_n (lv2 := [(2, .int 0), (0, .ref (Y.2.1 0)), (1, .int x1)]) X dX6_blackOf_1 rfl (by decide) rfl rfl ?_
  refine zv_iconst (v := 0) X dX6_blackOf_2 (by decide) rfl ?_
  refine zv_istore_n (lv2 := [(3, .int 0), (2, .int 0), (0, .ref (Y.2.1 0)), (1, .int x1)]) X dX6_blackOf_3 rfl (by decide) rfl rfl ?_
  obtain ⟨n4, h⟩ := h
  refine zv_sub (lv2 := [(0, .ref (Y.2.1 0)), (1, .int x1), (2, .int 0), (3, .int 0)]) [2, 3, 1, 0] rfl ?_
  exact vX6_blackOf_4 X hr hlk hJ hY n4 x1 0 0 _ h
def rmX6_cools : Room := { frames := 1, cells := 0, slots := 0, locals := 23 }
def pX6_cools_101  (Q : zz_T → Prop) : Nat → Int32 → Int32 → zz_T → Prop
  | 0, _, _, _ => False
  | n + 1, x1, x2, σ =>
    ((8 ≤ x2 → Q σ) ∧
    (¬ 8 ≤ x2 → vp_in x2 8 ∧
    pX6_within (σ.1 10 (Int32.toNatClampNeg x2)) 99 σ (fun r118 s118 =>
    pX6_heatBecomes x1 x2 r118 s118 (fun s121 =>
    pX6_cools_101  Q n x1 (x2 + 1) s121))))
set_option maxHeartbeats 4000000 in
set_option maxRecDepth 100000 in
theorem vX6_cools_101 {p : Program} {l : Launch} {e : Env} {s : State} {m : MethodId} {args : Array Value} {below : List Frame} {meth : Method} {c : Code} {Y : zz_Y}  {Q : zz_T → Prop} (X : zz_X p m c cX6_cools 4 s args RX6) (hr : meth.sig.returnType = none) (hlk : meth.locks = false) (hJ : zz_J Y) (hY : zz_mo Y)  : ∀ (n : Nat) (x1 : Int32) (x2 : Int32) (σ : zz_T), pX6_cools_101  Q n x1 x2 σ → zz_V p l e rmX6_cools s m args below meth c (MQ below (va_Qv Q (zz_E Y) (zz_A Y)) args s 0 0 (zz_A Y)) 4 Y σ 101 [(0, .ref (Y.2.1 0)), (1, .int x1), (2, .int x2)] [] := by
  intro n
  induction n with
  | zero => intro x1 x2 σ h; exact h.elim
  | succ n ih =>
    intro x1 x2 σ h 
    unfold pX6_cools_101 at h
    refine zv_iload_n X dX6_cools_101 2 rfl rfl rfl ?_
    refine zv_bipush (v := 8) X dX6_cools_102 (by decide) rfl ?_
    refine zv_icmp_ge (tgt := 130) X dX6_cools_104 (by decide) rfl (fun q104 => ?_) (fun q104 => ?_)
    · replace h := h.1 q104
      exact zv_vret X hr hlk h dX6_cools_130
    · replace h := h.2 q104
      refine zv_aload_n X dX6_cools_107 0 rfl rfl rfl ?_
      refine zv_iload_n X dX6_cools_108 1 rfl rfl rfl ?_
      refine zv_iload_n X dX6_cools_109 2 rfl rfl rfl ?_
      refine zv_aload_n X dX6_cools_110 0 rfl rfl rfl ?_
      refine zg_X6_21 (k := 0) X (zz_mo_o hY).1 (zz_mo_o hY).2 fl_X6_38 dX6_cools_111 rfl ?_
      refine zv_iload_n X dX6_cools_114 2 rfl rfl rfl ?_
      obtain ⟨hi115, h⟩ := h
      refine zv_iald (k := 10) X (zz_mo_to hY).1 (zz_mo_to hY).2 hi115 dX6_cools_115 rfl ?_
      refine zv_bipush (v := 99) X dX6_cools_116 (by decide) rfl ?_
      refine zv_cSi X [.int (σ.1 10 (Int32.toNatClampNeg x2)), .int 99] (kX6_within l hJ (σ.1 10 (Int32.toNatClampNeg x2)) 99  h) jl_X6_171 ⟨rfl, rfl⟩ ⟨Nat.le_of_ble_eq_true rfl, Nat.le_of_ble_eq_true rfl⟩ rfl rfl (Nat.le_of_ble_eq_true rfl) dX6_cools_118 rfl (fun r118 s118 h => ?_)
      refine zv_cVv (k := 0) (ci := 6) X [.int x1, .int x2, .int r118] (kX6_heatBecomes l hJ x1 x2 r118 hY h) jl_X6_178 ⟨rfl, rfl⟩ ⟨Nat.le_of_ble_eq_true rfl, Nat.le_of_ble_eq_true rfl⟩ (zz_mo_o hY).1 (by decide) (zz_mo_o hY).2 rfl rfl rfl (Nat.le_of_ble_eq_true rfl) dX6_cools_121 rfl (fun s121 h => ?_)
      refine zv_iinc (v := (x2 + 1)) (lv2 := [(2, .int (x2 + 1)), (0, .ref (Y.2.1 0)), (1, .int x1)]) X dX6_cools_124 2 rfl rfl (by decide) rfl rfl ?_
      refine zv_goto (tgt := 101) X dX6_cools_127 (by decide) ?_
      refine zv_sub (lv2 := [(0, .ref (Y.2.1 0)), (1, .int x1), (2, .int (x2 + 1))]) [1, 2, 0] rfl ?_
      exact ih x1 (x2 + 1) _ h
def pX6_cools_36  (Q : zz_T → Prop) : Nat → Int32 → Int32 → zz_T → Prop
  | 0, _, _, _ => False
  | n + 1, x1, x2, σ =>
    ((8 ≤ (x2 + 1) → ∃ n101, pX6_cools_101  Q n101 x1 0 σ) ∧
    (¬ 8 ≤ (x2 + 1) → pX6_heat x1 x2 σ (fun r47 s47 =>
    pX6_heat x1 (x2 + 1) s47 (fun r55 s55 =>
    vp_in 36 70 ∧
    vp_in x2 8 ∧
    vp_in x2 8 ∧
    vp_in (x2 + 1) 8 ∧
    vp_in (x2 + 1) 8 ∧
    pX6_cools_36  Q n x1 (x2 + 1) (zz_i (zz_i s55 10 (Int32.toNatClampNeg x2) ((s55.1 10 (Int32.toNatClampNeg x2)) - (((r47 - r55) * (s55.1 2 (Int32.toNatClampNeg 36))) / 8))) 10 (Int32.toNatClampNeg (x2 + 1)) (((zz_i s55 10 (Int32.toNatClampNeg x2) ((s55.1 10 (Int32.toNatClampNeg x2)) - (((r47 - r55) * (s55.1 2 (Int32.toNatClampNeg 36))) / 8))).1 10 (Int32.toNatClampNeg (x2 + 1))) + (((r47 - r55) * (s55.1 2 (Int32.toNatClampNeg 36))) / 8)))))))
set_option maxHeartbeats 4000000 in
set_option maxRecDepth 100000 in
theorem vX6_cools_36 {p : Program} {l : Launch} {e : Env} {s : State} {m : MethodId} {args : Array Value} {below : List Frame} {meth : Method} {c : Code} {Y : zz_Y}  {Q : zz_T → Prop} (X : zz_X p m c cX6_cools 4 s args RX6) (hr : meth.sig.returnType = none) (hlk : meth.locks = false) (hJ : zz_J Y) (hY : zz_mo Y)  : ∀ (n : Nat) (x1 : Int32) (x2 : Int32) (σ : zz_T), pX6_cools_36  Q n x1 x2 σ → zz_V p l e rmX6_cools s m args below meth c (MQ below (va_Qv Q (zz_E Y) (zz_A Y)) args s 0 0 (zz_A Y)) 4 Y σ 36 [(0, .ref (Y.2.1 0)), (1, .int x1), (2, .int x2)] [] := by
  intro n
  induction n with
  | zero => intro x1 x2 σ h; exact h.elim
  | succ n ih =>
    intro x1 x2 σ h 
    unfold pX6_cools_36 at h
    refine zv_iload_n X dX6_cools_36 2 rfl rfl rfl ?_
    refine zv_iconst (v := 1) X dX6_cools_37 (by decide) rfl ?_
    refine zv_iadd X dX6_cools_38 rfl ?_
    refine zv_bipush (v := 8) X dX6_cools_39 (by decide) rfl ?_
    refine zv_icmp_ge (tgt := 99) X dX6_cools_41 (by decide) rfl (fun q41 => ?_) (fun q41 => ?_)
    · replace h := h.1 q41
      refine zv_iconst (v := 0) X dX6_cools_99 (by decide) rfl ?_
      refine zv_istore_n (lv2 := [(2, .int 0), (0, .ref (Y.2.1 0)), (1, .int x1)]) X dX6_cools_100 rfl (by decide) rfl rfl ?_
      obtain ⟨n101, h⟩ := h
      refine zv_sub (lv2 := [(0, .ref (Y.2.1 0)), (1, .int x1), (2, .int 0)]) [1, 2, 0] rfl ?_
      exact vX6_cools_101 X hr hlk hJ hY n101 x1 0 _ h
    · replace h := h.2 q41
      refine zv_aload_n X dX6_cools_44 0 rfl rfl rfl ?_
      refine zv_iload_n X dX6_cools_45 1 rfl rfl rfl ?_
      refine zv_iload_n X dX6_cools_46 2 rfl rfl rfl ?_
      refine zv_cVi (k := 0) (ci := 6) X [.int x1, .int x2] (kX6_heat l hJ x1 x2 hY h) jl_X6_167 ⟨rfl, rfl⟩ ⟨Nat.le_of_ble_eq_true rfl, Nat.le_of_ble_eq_true rfl⟩ (zz_mo_o hY).1 (by decide) (zz_mo_o hY).2 rfl rfl rfl (Nat.le_of_ble_eq_true rfl) dX6_cools_47 rfl (fun r47 s47 h => ?_)
      refine zv_aload_n X dX6_cools_50 0 rfl rfl rfl ?_
      refine zv_iload_n X dX6_cools_51 1 rfl rfl rfl ?_
      refine zv_iload_n X dX6_cools_52 2 rfl rfl rfl ?_
      refine zv_iconst (v := 1) X dX6_cools_53 (by decide) rfl ?_
      refine zv_iadd X dX6_cools_54 rfl ?_
      refine zv_cVi (k := 0) (ci := 6) X [.int x1, .int (x2 + 1)] (kX6_heat l hJ x1 (x2 + 1) hY h) jl_X6_167 ⟨rfl, rfl⟩ ⟨Nat.le_of_ble_eq_true rfl, Nat.le_of_ble_eq_true rfl⟩ (zz_mo_o hY).1 (by decide) (zz_mo_o hY).2 rfl rfl rfl (Nat.le_of_ble_eq_true rfl) dX6_cools_55 rfl (fun r55 s55 h => ?_)
      refine zv_isub X dX6_cools_58 rfl ?_
      refine zv_aload_n X dX6_cools_59 0 rfl rfl rfl ?_
      refine zg_X6_1 (k := 0) X (zz_mo_o hY).1 (zz_mo_o hY).2 fl_X6_13 dX6_cools_60 rfl ?_
      refine zv_bipush (v := 36) X dX6_cools_63 (by decide) rfl ?_
      obtain ⟨hi65, h⟩ := h
      refine zv_iald (k := 2) X (zz_mo_now hY).1 (zz_mo_now hY).2 hi65 dX6_cools_65 rfl ?_
      refine zv_imul X dX6_cools_66 rfl ?_
      refine zv_bipush (v := 8) X dX6_cools_67 (by decide) rfl ?_
      refine zv_idiv X dX6_cools_69 (by decide) rfl ?_
      refine zv_istore_n (lv2 := [(3, .int (((r47 - r55) * (s55.1 2 (Int32.toNatClampNeg 36))) / 8)), (0, .ref (Y.2.1 0)), (1, .int x1), (2, .int x2)]) X dX6_cools_70 rfl (by decide) rfl rfl ?_
      refine zv_aload_n X dX6_cools_71 1 rfl rfl rfl ?_
      refine zg_X6_21 (k := 0) X (zz_mo_o hY).1 (zz_mo_o hY).2 fl_X6_38 dX6_cools_72 rfl ?_
      refine zv_iload_n X dX6_cools_75 3 rfl rfl rfl ?_
      refine zv_dup2_11 X dX6_cools_76 rfl rfl rfl ?_
      obtain ⟨hi77, h⟩ := h
      refine zv_iald (k := 10) X (zz_mo_to hY).1 (zz_mo_to hY).2 hi77 dX6_cools_77 rfl ?_
      refine zv_iload_n X dX6_cools_78 0 rfl rfl rfl ?_
      refine zv_isub X dX6_cools_79 rfl ?_
      obtain ⟨hi80, h⟩ := h
      refine zv_iast (k := 10) X (zz_mo_to hY).1 (zz_mo_to hY).2 hi80 dX6_cools_80 rfl ?_
      refine zv_aload_n X dX6_cools_81 1 rfl rfl rfl ?_
      refine zg_X6_21 (k := 0) X (zz_mo_o hY).1 (zz_mo_o hY).2 fl_X6_38 dX6_cools_82 rfl ?_
      refine zv_iload_n X dX6_cools_85 3 rfl rfl rfl ?_
      refine zv_iconst (v := 1) X dX6_cools_86 (by decide) rfl ?_
      refine zv_iadd X dX6_cools_87 rfl ?_
      refine zv_dup2_11 X dX6_cools_88 rfl rfl rfl ?_
      obtain ⟨hi89, h⟩ := h
      refine zv_iald (k := 10) X (zz_mo_to hY).1 (zz_mo_to hY).2 hi89 dX6_cools_89 rfl ?_
      refine zv_iload_n X dX6_cools_90 0 rfl rfl rfl ?_
      refine zv_iadd X dX6_cools_91 rfl ?_
      obtain ⟨hi92, h⟩ := h
      refine zv_iast (k := 10) X (zz_mo_to hY).1 (zz_mo_to hY).2 hi92 dX6_cools_92 rfl ?_
      refine zv_iinc (v := (x2 + 1)) (lv2 := [(2, .int (x2 + 1)), (3, .int (((r47 - r55) * (s55.1 2 (Int32.toNatClampNeg 36))) / 8)), (0, .ref (Y.2.1 0)), (1, .int x1)]) X dX6_cools_93 3 rfl rfl (by decide) rfl rfl ?_
      refine zv_goto (tgt := 36) X dX6_cools_96 (by decide) ?_
      refine zv_sub (lv2 := [(0, .ref (Y.2.1 0)), (1, .int x1), (2, .int (x2 + 1))]) [2, 3, 0] rfl ?_
      exact ih x1 (x2 + 1) _ h
def pX6_cools_2  (Q : zz_T → Prop) : Nat → Int32 → Int32 → zz_T → Prop
  | 0, _, _, _ => False
  | n + 1, x1, x2, σ =>
    ((8 ≤ x2 → ∃ n36, pX6_cools_36  Q n36 x1 0 σ) ∧
    (¬ 8 ≤ x2 → pX6_heat x1 x2 σ (fun r16 s16 =>
    vp_in 35 70 ∧
    vp_in x2 8 ∧
    pX6_cools_2  Q n x1 (x2 + 1) (zz_i s16 10 (Int32.toNatClampNeg x2) (r16 - (s16.1 2 (Int32.toNatClampNeg 35)))))))
set_option maxHeartbeats 4000000 in
set_option maxRecDepth 100000 in
theorem vX6_cools_2 {p : Program} {l : Launch} {e : Env} {s : State} {m : MethodId} {args : Array Value} {below : List Frame} {meth : Method} {c : Code} {Y : zz_Y}  {Q : zz_T → Prop} (X : zz_X p m c cX6_cools 4 s args RX6) (hr : meth.sig.returnType = none) (hlk : meth.locks = false) (hJ : zz_J Y) (hY : zz_mo Y)  : ∀ (n : Nat) (x1 : Int32) (x2 : Int32) (σ : zz_T), pX6_cools_2  Q n x1 x2 σ → zz_V p l e rmX6_cools s m args below meth c (MQ below (va_Qv Q (zz_E Y) (zz_A Y)) args s 0 0 (zz_A Y)) 4 Y σ 2 [(0, .ref (Y.2.1 0)), (1, .int x1), (2, .int x2)] [] := by
  intro n
  induction n with
  | zero => intro x1 x2 σ h; exact h.elim
  | succ n ih =>
    intro x1 x2 σ h 
    unfold pX6_cools_2 at h
    refine zv_iload_n X dX6_cools_2 2 rfl rfl rfl ?_
    refine zv_bipush (v := 8) X dX6_cools_3 (by decide) rfl ?_
    refine zv_icmp_ge (tgt := 34) X dX6_cools_5 (by decide) rfl (fun q5 => ?_) (fun q5 => ?_)
    · replace h := h.1 q5
      refine zv_iconst (v := 0) X dX6_cools_34 (by decide) rfl ?_
      refine zv_istore_n (lv2 := [(2, .int 0), (0, .ref (Y.2.1 0)), (1, .int x1)]) X dX6_cools_35 rfl (by decide) rfl rfl ?_
      obtain ⟨n36, h⟩ := h
      refine zv_sub (lv2 := [(0, .ref (Y.2.1 0)), (1, .int x1), (2, .int 0)]) [1, 2, 0] rfl ?_
      exact vX6_cools_36 X hr hlk hJ hY n36 x1 0 _ h
    · replace h := h.2 q5
      refine zv_aload_n X dX6_cools_8 0 rfl rfl rfl ?_
      refine zg_X6_21 (k := 0) X (zz_mo_o hY).1 (zz_mo_o hY).2 fl_X6_38 dX6_cools_9 rfl ?_
      refine zv_iload_n X dX6_cools_12 2 rfl rfl rfl ?_
      refine zv_aload_n X dX6_cools_13 0 rfl rfl rfl ?_
      refine zv_iload_n X dX6_cools_14 1 rfl rfl rfl ?_
      refine zv_iload_n X dX6_cools_15 2 rfl rfl rfl ?_
      refine zv_cVi (k := 0) (ci := 6) X [.int x1, .int x2] (kX6_heat l hJ x1 x2 hY h) jl_X6_167 ⟨rfl, rfl⟩ ⟨Nat.le_of_ble_eq_true rfl, Nat.le_of_ble_eq_true rfl⟩ (zz_mo_o hY).1 (by decide) (zz_mo_o hY).2 rfl rfl rfl (Nat.le_of_ble_eq_true rfl) dX6_cools_16 rfl (fun r16 s16 h => ?_)
      refine zv_aload_n X dX6_cools_19 0 rfl rfl rfl ?_
      refine zg_X6_1 (k := 0) X (zz_mo_o hY).1 (zz_mo_o hY).2 fl_X6_13 dX6_cools_20 rfl ?_
      refine zv_bipush (v := 35) X dX6_cools_23 (by decide) rfl ?_
      obtain ⟨hi25, h⟩ := h
      refine zv_iald (k := 2) X (zz_mo_now hY).1 (zz_mo_now hY).2 hi25 dX6_cools_25 rfl ?_
      refine zv_isub X dX6_cools_26 rfl ?_
      obtain ⟨hi27, h⟩ := h
      refine zv_iast (k := 10) X (zz_mo_to hY).1 (zz_mo_to hY).2 hi27 dX6_cools_27 rfl ?_
      refine zv_iinc (v := (x2 + 1)) (lv2 := [(2, .int (x2 + 1)), (0, .ref (Y.2.1 0)), (1, .int x1)]) X dX6_cools_28 2 rfl rfl (by decide) rfl rfl ?_
      refine zv_goto (tgt := 2) X dX6_cools_31 (by decide) ?_
      refine zv_sub (lv2 := [(0, .ref (Y.2.1 0)), (1, .int x1), (2, .int (x2 + 1))]) [1, 2, 0] rfl ?_
      exact ih x1 (x2 + 1) _ h
def pX6_cools (x1 : Int32) (σ : zz_T) (Q : zz_T → Prop) : Prop :=
    ∃ n2, pX6_cools_2  Q n2 x1 0 σ
set_option maxHeartbeats 4000000 in
set_option maxRecDepth 100000 in
theorem kX6_cools (l : Launch) {Y : zz_Y} (hJ : zz_J Y) (x1 : Int32) (hY : zz_mo Y) {σ : zz_T} {Q : zz_T → Prop} (h : pX6_cools x1 σ Q) : zz_Mv l yX6_cools cX6_cools 4 none rmX6_cools Y [.ref (Y.2.1 0), .int x1] σ Q := by
  refine zz_Mv.start (by decide) hJ (Nat.le_of_ble_eq_true rfl) (fun p e s m below meth c X hr hlk => ?_)
  have X : zz_X p m c cX6_cools 4 s _ RX6 := X
  refine zv_sub (lv2 := [(0, .ref (Y.2.1 0)), (1, .int x1)]) [0, 1] rfl ?_
  unfold pX6_cools at h
  refine zv_iconst (v := 0) X dX6_cools_0 (by decide) rfl ?_
  refine zv_istore_n (lv2 := [(2, .int 0), (0, .ref (Y.2.1 0)), (1, .int x1)]) X dX6_cools_1 rfl (by decide) rfl rfl ?_
  obtain ⟨n2, h⟩ := h
  refine zv_sub (lv2 := [(0, .ref (Y.2.1 0)), (1, .int x1), (2, .int 0)]) [1, 2, 0] rfl ?_
  exact vX6_cools_2 X hr hlk hJ hY n2 x1 0 _ h
def rmX6_headBurns : Room := { frames := 2, cells := 0, slots := 0, locals := 50 }
def pX6_headBurns_101  (Q : zz_T → Prop) (K44 : Int32 → Int32 → Int32 → zz_T → Prop) (x1 : Int32) (x2 : Int32) (x5 : Int32) (t1 : Int32) (σ : zz_T) : Prop :=
    K44 x1 x2 (x5 + 1) (zz_i σ 0 16 t1)
set_option maxHeartbeats 4000000 in
set_option maxRecDepth 100000 in
theorem vX6_headBurns_101 {p : Program} {l : Launch} {e : Env} {s : State} {m : MethodId} {args : Array Value} {below : List Frame} {meth : Method} {c : Code} {Y : zz_Y}  {Q : zz_T → Prop} {K44 : Int32 → Int32 → Int32 → zz_T → Prop} (X : zz_X p m c cX6_headBurns 7 s args RX6) (hr : meth.sig.returnType = none) (hlk : meth.locks = false) (hJ : zz_J Y) (hY : zz_mo Y) (hK44 : ∀ (x1 : Int32) (x2 : Int32) (x5 : Int32) (σ : zz_T), K44 x1 x2 x5 σ → zz_V p l e rmX6_headBurns s m args below meth c (MQ below (va_Qv Q (zz_E Y) (zz_A Y)) args s 0 0 (zz_A Y)) 7 Y σ 44 [(0, .ref (Y.2.1 0)), (1, .int x1), (2, .int x2), (5, .int x5)] []) : ∀ (x1 : Int32) (x2 : Int32) (x5 : Int32) (t1 : Int32) (σ : zz_T), pX6_headBurns_101  Q K44 x1 x2 x5 t1 σ → zz_V p l e rmX6_headBurns s m args below meth c (MQ below (va_Qv Q (zz_E Y) (zz_A Y)) args s 0 0 (zz_A Y)) 7 Y σ 101 [(0, .ref (Y.2.1 0)), (1, .int x1), (2, .int x2), (5, .int x5)] [.int t1, .ref (Y.2.1 0)] := by
  intro x1 x2 x5 t1 σ h 
  unfold pX6_headBurns_101 at h
  refine zp_X6_16 (k := 0) X (zz_mo_o hY).1 (zz_mo_o hY).2 fl_X6_155 dX6_headBurns_101 rfl ?_
  refine zv_iinc (v := (x5 + 1)) (lv2 := [(5, .int (x5 + 1)), (0, .ref (Y.2.1 0)), (1, .int x1), (2, .int x2)]) X dX6_headBurns_104 3 rfl rfl (by decide) rfl rfl ?_
  refine zv_goto (tgt := 44) X dX6_headBurns_107 (by decide) ?_
  refine zv_sub (lv2 := [(0, .ref (Y.2.1 0)), (1, .int x1), (2, .int x2), (5, .int (x5 + 1))]) [1, 2, 3, 0] rfl ?_
  exact hK44 x1 x2 (x5 + 1) _ h
def pX6_headBurns_44  (Q : zz_T → Prop) : Nat → Int32 → Int32 → Int32 → zz_T → Prop
  | 0, _, _, _, _ => False
  | n + 1, x1, x2, x5, σ =>
    ((8 ≤ x5 → pX6_blackOf x1 σ (fun r117 s117 =>
    vp_in x1 3 ∧
    vp_in x1 3 ∧
    pX6_bitsOf (((zz_i s117 8 (Int32.toNatClampNeg x1) r117).1 8 (Int32.toNatClampNeg x1)) ^^^ x2) (zz_i s117 8 (Int32.toNatClampNeg x1) r117) (fun r129 s129 =>
    vp_in x1 3 ∧
    pX6_bitsOf (s129.1 8 (Int32.toNatClampNeg x1)) s129 (fun r145 s145 =>
    vp_in x1 3 ∧
    vp_in x1 3 ∧
    pX6_of x1 2 (zz_i (zz_i (zz_i s145 0 15 ((s129.1 0 15) + r145)) 0 14 (((zz_i s145 0 15 ((s129.1 0 15) + r145)).1 0 14) + r129)) 7 (Int32.toNatClampNeg x1) (((zz_i (zz_i s145 0 15 ((s129.1 0 15) + r145)) 0 14 (((zz_i s145 0 15 ((s129.1 0 15) + r145)).1 0 14) + r129)).1 7 (Int32.toNatClampNeg x1)) + r129)) (fun r187 s187 =>
    pX6_within (r187 + r129) 9999 s187 (fun r196 s196 =>
    vp_in ((11 * x1) + 2) 70 ∧
    pX6_cools x1 (zz_i s196 2 (Int32.toNatClampNeg ((11 * x1) + 2)) r196) (fun s202 =>
    Q s202))))))) ∧
    (¬ 8 ≤ x5 → pX6_heat x1 x5 σ (fun r55 s55 =>
    vp_in x5 8 ∧
    pX6_within (r55 + (s55.1 9 (Int32.toNatClampNeg x5))) 99 s55 (fun r68 s68 =>
    pX6_heatBecomes x1 x5 r68 s68 (fun s79 =>
    ((r68 ≤ (s79.1 0 16) → pX6_headBurns_101  Q (pX6_headBurns_44  Q n) x1 x2 x5 (s79.1 0 16) s79) ∧
    (¬ r68 ≤ (s79.1 0 16) → pX6_headBurns_101  Q (pX6_headBurns_44  Q n) x1 x2 x5 r68 s79)))))))
set_option maxHeartbeats 4000000 in
set_option maxRecDepth 100000 in
theorem vX6_headBurns_44 {p : Program} {l : Launch} {e : Env} {s : State} {m : MethodId} {args : Array Value} {below : List Frame} {meth : Method} {c : Code} {Y : zz_Y}  {Q : zz_T → Prop} (X : zz_X p m c cX6_headBurns 7 s args RX6) (hr : meth.sig.returnType = none) (hlk : meth.locks = false) (hJ : zz_J Y) (hY : zz_mo Y)  : ∀ (n : Nat) (x1 : Int32) (x2 : Int32) (x5 : Int32) (σ : zz_T), pX6_headBurns_44  Q n x1 x2 x5 σ → zz_V p l e rmX6_headBurns s m args below meth c (MQ below (va_Qv Q (zz_E Y) (zz_A Y)) args s 0 0 (zz_A Y)) 7 Y σ 44 [(0, .ref (Y.2.1 0)), (1, .int x1), (2, .int x2), (5, .int x5)] [] := by
  intro n
  induction n with
  | zero => intro x1 x2 x5 σ h; exact h.elim
  | succ n ih =>
    intro x1 x2 x5 σ h 
    unfold pX6_headBurns_44 at h
    refine zv_iload X dX6_headBurns_44 3 rfl rfl ?_
    refine zv_bipush (v := 8) X dX6_headBurns_46 (by decide) rfl ?_
    refine zv_icmp_ge (tgt := 110) X dX6_headBurns_48 (by decide) rfl (fun q48 => ?_) (fun q48 => ?_)
    · replace h := h.1 q48
      refine zv_aload_n X dX6_headBurns_110 0 rfl rfl rfl ?_
      refine zg_X6_19 (k := 0) X (zz_mo_o hY).1 (zz_mo_o hY).2 fl_X6_32 dX6_headBurns_111 rfl ?_
      refine zv_iload_n X dX6_headBurns_114 1 rfl rfl rfl ?_
      refine zv_aload_n X dX6_headBurns_115 0 rfl rfl rfl ?_
      refine zv_iload_n X dX6_headBurns_116 1 rfl rfl rfl ?_
      refine zv_cVi (k := 0) (ci := 6) X [.int x1] (kX6_blackOf l hJ x1 hY h) jl_X6_186 ⟨rfl, rfl⟩ ⟨Nat.le_of_ble_eq_true rfl, Nat.le_of_ble_eq_true rfl⟩ (zz_mo_o hY).1 (by decide) (zz_mo_o hY).2 rfl rfl rfl (Nat.le_of_ble_eq_true rfl) dX6_headBurns_117 rfl (fun r117 s117 h => ?_)
      obtain ⟨hi120, h⟩ := h
      refine zv_iast (k := 8) X (zz_mo_blackNow hY).1 (zz_mo_blackNow hY).2 hi120 dX6_headBurns_120 rfl ?_
      refine zv_aload_n X dX6_headBurns_121 0 rfl rfl rfl ?_
      refine zg_X6_19 (k := 0) X (zz_mo_o hY).1 (zz_mo_o hY).2 fl_X6_32 dX6_headBurns_122 rfl ?_
      refine zv_iload_n X dX6_headBurns_125 1 rfl rfl rfl ?_
      obtain ⟨hi126, h⟩ := h
      refine zv_iald (k := 8) X (zz_mo_blackNow hY).1 (zz_mo_blackNow hY).2 hi126 dX6_headBurns_126 rfl ?_
      refine zv_iload_n X dX6_headBurns_127 2 rfl rfl rfl ?_
      refine zv_ixor X dX6_headBurns_128 rfl ?_
      refine zv_cSi X [.int (((zz_i s117 8 (Int32.toNatClampNeg x1) r117).1 8 (Int32.toNatClampNeg x1)) ^^^ x2)] (kX6_bitsOf l hJ (((zz_i s117 8 (Int32.toNatClampNeg x1) r117).1 8 (Int32.toNatClampNeg x1)) ^^^ x2)  h) jl_X6_189 ⟨rfl, rfl⟩ ⟨Nat.le_of_ble_eq_true rfl, Nat.le_of_ble_eq_true rfl⟩ rfl rfl (Nat.le_of_ble_eq_true rfl) dX6_headBurns_129 rfl (fun r129 s129 h => ?_)
      refine zv_istore (lv2 := [(5, .int r129), (0, .ref (Y.2.1 0)), (1, .int x1), (2, .int x2)]) X dX6_headBurns_132 (by decide) rfl rfl ?_
      refine zv_aload_n X dX6_headBurns_134 1 rfl rfl rfl ?_
      refine zv_dup X dX6_headBurns_135 rfl rfl ?_
      refine zg_X6_15 (k := 0) X (zz_mo_o hY).1 (zz_mo_o hY).2 fl_X6_152 dX6_headBurns_136 rfl ?_
      refine zv_aload_n X dX6_headBurns_139 1 rfl rfl rfl ?_
      refine zg_X6_19 (k := 0) X (zz_mo_o hY).1 (zz_mo_o hY).2 fl_X6_32 dX6_headBurns_140 rfl ?_
      refine zv_iload_n X dX6_headBurns_143 2 rfl rfl rfl ?_
      obtain ⟨hi144, h⟩ := h
      refine zv_iald (k := 8) X (zz_mo_blackNow hY).1 (zz_mo_blackNow hY).2 hi144 dX6_headBurns_144 rfl ?_
      refine zv_cSi X [.int (s129.1 8 (Int32.toNatClampNeg x1))] (kX6_bitsOf l hJ (s129.1 8 (Int32.toNatClampNeg x1))  h) jl_X6_189 ⟨rfl, rfl⟩ ⟨Nat.le_of_ble_eq_true rfl, Nat.le_of_ble_eq_true rfl⟩ rfl rfl (Nat.le_of_ble_eq_true rfl) dX6_headBurns_145 rfl (fun r145 s145 h => ?_)
      refine zv_iadd X dX6_headBurns_148 rfl ?_
      refine zp_X6_15 (k := 0) X (zz_mo_o hY).1 (zz_mo_o hY).2 fl_X6_152 dX6_headBurns_149 rfl ?_
      refine zv_aload_n X dX6_headBurns_152 1 rfl rfl rfl ?_
      refine zv_dup X dX6_headBurns_153 rfl rfl ?_
      refine zg_X6_14 (k := 0) X (zz_mo_o hY).1 (zz_mo_o hY).2 fl_X6_149 dX6_headBurns_154 rfl ?_
      refine zv_iload X dX6_headBurns_157 0 rfl rfl ?_
      refine zv_iadd X dX6_headBurns_159 rfl ?_
      refine zp_X6_14 (k := 0) X (zz_mo_o hY).1 (zz_mo_o hY).2 fl_X6_149 dX6_headBurns_160 rfl ?_
      refine zv_aload_n X dX6_headBurns_163 1 rfl rfl rfl ?_
      refine zg_X6_18 (k := 0) X (zz_mo_o hY).1 (zz_mo_o hY).2 fl_X6_29 dX6_headBurns_164 rfl ?_
      refine zv_iload_n X dX6_headBurns_167 2 rfl rfl rfl ?_
      refine zv_dup2_11 X dX6_headBurns_168 rfl rfl rfl ?_
      obtain ⟨hi169, h⟩ := h
      refine zv_iald (k := 7) X (zz_mo_wrongBy hY).1 (zz_mo_wrongBy hY).2 hi169 dX6_headBurns_169 rfl ?_
      refine zv_iload X dX6_headBurns_170 0 rfl rfl ?_
      refine zv_iadd X dX6_headBurns_172 rfl ?_
      obtain ⟨hi173, h⟩ := h
      refine zv_iast (k := 7) X (zz_mo_wrongBy hY).1 (zz_mo_wrongBy hY).2 hi173 dX6_headBurns_173 rfl ?_
      refine zv_aload_n X dX6_headBurns_174 1 rfl rfl rfl ?_
      refine zg_X6_1 (k := 0) X (zz_mo_o hY).1 (zz_mo_o hY).2 fl_X6_13 dX6_headBurns_175 rfl ?_
      refine zv_bipush (v := 11) X dX6_headBurns_178 (by decide) rfl ?_
      refine zv_iload_n X dX6_headBurns_180 2 rfl rfl rfl ?_
      refine zv_imul X dX6_headBurns_181 rfl ?_
      refine zv_iconst (v := 2) X dX6_headBurns_182 (by decide) rfl ?_
      refine zv_iadd X dX6_headBurns_183 rfl ?_
      refine zv_aload_n X dX6_headBurns_184 1 rfl rfl rfl ?_
      refine zv_iload_n X dX6_headBurns_185 2 rfl rfl rfl ?_
      refine zv_iconst (v := 2) X dX6_headBurns_186 (by decide) rfl ?_
      refine zv_cVi (k := 0) (ci := 6) X [.int x1, .int 2] (kX6_of l hJ x1 2 hY h) jl_X6_161 ⟨rfl, rfl⟩ ⟨Nat.le_of_ble_eq_true rfl, Nat.le_of_ble_eq_true rfl⟩ (zz_mo_o hY).1 (by decide) (zz_mo_o hY).2 rfl rfl rfl (Nat.le_of_ble_eq_true rfl) dX6_headBurns_187 rfl (fun r187 s187 h => ?_)
      refine zv_iload X dX6_headBurns_190 0 rfl rfl ?_
      refine zv_iadd X dX6_headBurns_192 rfl ?_
      refine zv_sipush (v := 9999) X dX6_headBurns_193 (by decide) rfl ?_
      refine zv_cSi X [.int (r187 + r129), .int 9999] (kX6_within l hJ (r187 + r129) 9999  h) jl_X6_171 ⟨rfl, rfl⟩ ⟨Nat.le_of_ble_eq_true rfl, Nat.le_of_ble_eq_true rfl⟩ rfl rfl (Nat.le_of_ble_eq_true rfl) dX6_headBurns_196 rfl (fun r196 s196 h => ?_)
      obtain ⟨hi199, h⟩ := h
      refine zv_iast (k := 2) X (zz_mo_now hY).1 (zz_mo_now hY).2 hi199 dX6_headBurns_199 rfl ?_
      refine zv_aload_n X dX6_headBurns_200 1 rfl rfl rfl ?_
      refine zv_iload_n X dX6_headBurns_201 2 rfl rfl rfl ?_
      refine zv_cVv (k := 0) (ci := 6) X [.int x1] (kX6_cools l hJ x1 hY h) jl_X6_192 ⟨rfl, rfl⟩ ⟨Nat.le_of_ble_eq_true rfl, Nat.le_of_ble_eq_true rfl⟩ (zz_mo_o hY).1 (by decide) (zz_mo_o hY).2 rfl rfl rfl (Nat.le_of_ble_eq_true rfl) dX6_headBurns_202 rfl (fun s202 h => ?_)
      exact zv_vret X hr hlk h dX6_headBurns_205
    · replace h := h.2 q48
      refine zv_aload_n X dX6_headBurns_51 0 rfl rfl rfl ?_
      refine zv_iload_n X dX6_headBurns_52 1 rfl rfl rfl ?_
      refine zv_iload X dX6_headBurns_53 3 rfl rfl ?_
      refine zv_cVi (k := 0) (ci := 6) X [.int x1, .int x5] (kX6_heat l hJ x1 x5 hY h) jl_X6_167 ⟨rfl, rfl⟩ ⟨Nat.le_of_ble_eq_true rfl, Nat.le_of_ble_eq_true rfl⟩ (zz_mo_o hY).1 (by decide) (zz_mo_o hY).2 rfl rfl rfl (Nat.le_of_ble_eq_true rfl) dX6_headBurns_55 rfl (fun r55 s55 h => ?_)
      refine zv_aload_n X dX6_headBurns_58 0 rfl rfl rfl ?_
      refine zg_X6_20 (k := 0) X (zz_mo_o hY).1 (zz_mo_o hY).2 fl_X6_35 dX6_headBurns_59 rfl ?_
      refine zv_iload X dX6_headBurns_62 3 rfl rfl ?_
      obtain ⟨hi64, h⟩ := h
      refine zv_iald (k := 9) X (zz_mo_got hY).1 (zz_mo_got hY).2 hi64 dX6_headBurns_64 rfl ?_
      refine zv_iadd X dX6_headBurns_65 rfl ?_
      refine zv_bipush (v := 99) X dX6_headBurns_66 (by decide) rfl ?_
      refine zv_cSi X [.int (r55 + (s55.1 9 (Int32.toNatClampNeg x5))), .int 99] (kX6_within l hJ (r55 + (s55.1 9 (Int32.toNatClampNeg x5))) 99  h) jl_X6_171 ⟨rfl, rfl⟩ ⟨Nat.le_of_ble_eq_true rfl, Nat.le_of_ble_eq_true rfl⟩ rfl rfl (Nat.le_of_ble_eq_true rfl) dX6_headBurns_68 rfl (fun r68 s68 h => ?_)
      refine zv_istore (lv2 := [(6, .int r68), (0, .ref (Y.2.1 0)), (1, .int x1), (2, .int x2), (5, .int x5)]) X dX6_headBurns_71 (by decide) rfl rfl ?_
      refine zv_aload_n X dX6_headBurns_73 1 rfl rfl rfl ?_
      refine zv_iload_n X dX6_headBurns_74 2 rfl rfl rfl ?_
      refine zv_iload X dX6_headBurns_75 4 rfl rfl ?_
      refine zv_iload X dX6_headBurns_77 0 rfl rfl ?_
      refine zv_cVv (k := 0) (ci := 6) X [.int x1, .int x5, .int r68] (kX6_heatBecomes l hJ x1 x5 r68 hY h) jl_X6_178 ⟨rfl, rfl⟩ ⟨Nat.le_of_ble_eq_true rfl, Nat.le_of_ble_eq_true rfl⟩ (zz_mo_o hY).1 (by decide) (zz_mo_o hY).2 rfl rfl rfl (Nat.le_of_ble_eq_true rfl) dX6_headBurns_79 rfl (fun s79 h => ?_)
      refine zv_aload_n X dX6_headBurns_82 1 rfl rfl rfl ?_
      refine zv_iload X dX6_headBurns_83 0 rfl rfl ?_
      refine zv_aload_n X dX6_headBurns_85 1 rfl rfl rfl ?_
      refine zg_X6_16 (k := 0) X (zz_mo_o hY).1 (zz_mo_o hY).2 fl_X6_155 dX6_headBurns_86 rfl ?_
      refine zv_icmp_le (tgt := 97) X dX6_headBurns_89 (by decide) rfl (fun q89 => ?_) (fun q89 => ?_)
      · replace h := h.1 q89
        refine zv_aload_n X dX6_headBurns_97 1 rfl rfl rfl ?_
        refine zg_X6_16 (k := 0) X (zz_mo_o hY).1 (zz_mo_o hY).2 fl_X6_155 dX6_headBurns_98 rfl ?_
        refine zv_sub (lv2 := [(0, .ref (Y.2.1 0)), (1, .int x1), (2, .int x2), (5, .int x5)]) [1, 2, 3, 4] rfl ?_
        exact vX6_headBurns_101 X hr hlk hJ hY ih x1 x2 x5 (s79.1 0 16) _ h
      · replace h := h.2 q89
        refine zv_iload X dX6_headBurns_92 0 rfl rfl ?_
        refine zv_goto (tgt := 101) X dX6_headBurns_94 (by decide) ?_
        refine zv_sub (lv2 := [(0, .ref (Y.2.1 0)), (1, .int x1), (2, .int x2), (5, .int x5)]) [1, 2, 3, 4] rfl ?_
        exact vX6_headBurns_101 X hr hlk hJ hY ih x1 x2 x5 r68 _ h
def pX6_headBurns_34  (Q : zz_T → Prop) (K3 : Int32 → Int32 → Int32 → Int32 → Int32 → zz_T → Prop) (x1 : Int32) (x2 : Int32) (x3 : Int32) (x4 : Int32) (x5 : Int32) (t1 : Int32) (t2 : Int32) (σ : zz_T) : Prop :=
    vp_in t1 8 ∧
    K3 x1 x2 x3 x4 (x5 + 1) (zz_i σ 9 (Int32.toNatClampNeg t1) t2)
set_option maxHeartbeats 4000000 in
set_option maxRecDepth 100000 in
theorem vX6_headBurns_34 {p : Program} {l : Launch} {e : Env} {s : State} {m : MethodId} {args : Array Value} {below : List Frame} {meth : Method} {c : Code} {Y : zz_Y}  {Q : zz_T → Prop} {K3 : Int32 → Int32 → Int32 → Int32 → Int32 → zz_T → Prop} (X : zz_X p m c cX6_headBurns 7 s args RX6) (hr : meth.sig.returnType = none) (hlk : meth.locks = false) (hJ : zz_J Y) (hY : zz_mo Y) (hK3 : ∀ (x1 : Int32) (x2 : Int32) (x3 : Int32) (x4 : Int32) (x5 : Int32) (σ : zz_T), K3 x1 x2 x3 x4 x5 σ → zz_V p l e rmX6_headBurns s m args below meth c (MQ below (va_Qv Q (zz_E Y) (zz_A Y)) args s 0 0 (zz_A Y)) 7 Y σ 3 [(0, .ref (Y.2.1 0)), (1, .int x1), (2, .int x2), (3, .int x3), (4, .int x4), (5, .int x5)] []) : ∀ (x1 : Int32) (x2 : Int32) (x3 : Int32) (x4 : Int32) (x5 : Int32) (t1 : Int32) (t2 : Int32) (σ : zz_T), pX6_headBurns_34  Q K3 x1 x2 x3 x4 x5 t1 t2 σ → zz_V p l e rmX6_headBurns s m args below meth c (MQ below (va_Qv Q (zz_E Y) (zz_A Y)) args s 0 0 (zz_A Y)) 7 Y σ 34 [(0, .ref (Y.2.1 0)), (1, .int x1), (2, .int x2), (3, .int x3), (4, .int x4), (5, .int x5)] [.int t2, .int t1, .ref (Y.2.1 9)] := by
  intro x1 x2 x3 x4 x5 t1 t2 σ h 
  unfold pX6_headBurns_34 at h
  obtain ⟨hi34, h⟩ := h
  refine zv_iast (k := 9) X (zz_mo_got hY).1 (zz_mo_got hY).2 hi34 dX6_headBurns_34 rfl ?_
  refine zv_iinc (v := (x5 + 1)) (lv2 := [(5, .int (x5 + 1)), (0, .ref (Y.2.1 0)), (1, .int x1), (2, .int x2), (3, .int x3), (4, .int x4)]) X dX6_headBurns_35 5 rfl rfl (by decide) rfl rfl ?_
  refine zv_goto (tgt := 3) X dX6_headBurns_38 (by decide) ?_
  refine zv_sub (lv2 := [(0, .ref (Y.2.1 0)), (1, .int x1), (2, .int x2), (3, .int x3), (4, .int x4), (5, .int (x5 + 1))]) [1, 2, 3, 4, 5, 0] rfl ?_
  exact hK3 x1 x2 x3 x4 (x5 + 1) _ h
def pX6_headBurns_3  (Q : zz_T → Prop) : Nat → Int32 → Int32 → Int32 → Int32 → Int32 → zz_T → Prop
  | 0, _, _, _, _, _, _ => False
  | n + 1, x1, x2, x3, x4, x5, σ =>
    ((8 ≤ x5 → ∃ n44, pX6_headBurns_44  Q n44 x1 x2 0 σ) ∧
    (¬ 8 ≤ x5 → ((x4 = 0 → pX6_gets x1 x5 x2 x3 σ (fun r31 s31 =>
    pX6_headBurns_34  Q (pX6_headBurns_3  Q n) x1 x2 x3 x4 x5 x5 r31 s31)) ∧
    (¬ x4 = 0 → pX6_headBurns_34  Q (pX6_headBurns_3  Q n) x1 x2 x3 x4 x5 x5 0 σ))))
set_option maxHeartbeats 4000000 in
set_option maxRecDepth 100000 in
theorem vX6_headBurns_3 {p : Program} {l : Launch} {e : Env} {s : State} {m : MethodId} {args : Array Value} {below : List Frame} {meth : Method} {c : Code} {Y : zz_Y}  {Q : zz_T → Prop} (X : zz_X p m c cX6_headBurns 7 s args RX6) (hr : meth.sig.returnType = none) (hlk : meth.locks = false) (hJ : zz_J Y) (hY : zz_mo Y)  : ∀ (n : Nat) (x1 : Int32) (x2 : Int32) (x3 : Int32) (x4 : Int32) (x5 : Int32) (σ : zz_T), pX6_headBurns_3  Q n x1 x2 x3 x4 x5 σ → zz_V p l e rmX6_headBurns s m args below meth c (MQ below (va_Qv Q (zz_E Y) (zz_A Y)) args s 0 0 (zz_A Y)) 7 Y σ 3 [(0, .ref (Y.2.1 0)), (1, .int x1), (2, .int x2), (3, .int x3), (4, .int x4), (5, .int x5)] [] := by
  intro n
  induction n with
  | zero => intro x1 x2 x3 x4 x5 σ h; exact h.elim
  | succ n ih =>
    intro x1 x2 x3 x4 x5 σ h 
    unfold pX6_headBurns_3 at h
    refine zv_iload X dX6_headBurns_3 5 rfl rfl ?_
    refine zv_bipush (v := 8) X dX6_headBurns_5 (by decide) rfl ?_
    refine zv_icmp_ge (tgt := 41) X dX6_headBurns_7 (by decide) rfl (fun q7 => ?_) (fun q7 => ?_)
    · replace h := h.1 q7
      refine zv_iconst (v := 0) X dX6_headBurns_41 (by decide) rfl ?_
      refine zv_istore (lv2 := [(5, .int 0), (0, .ref (Y.2.1 0)), (1, .int x1), (2, .int x2), (3, .int x3), (4, .int x4)]) X dX6_headBurns_42 (by decide) rfl rfl ?_
      obtain ⟨n44, h⟩ := h
      refine zv_sub (lv2 := [(0, .ref (Y.2.1 0)), (1, .int x1), (2, .int x2), (5, .int 0)]) [1, 2, 3, 0] rfl ?_
      exact vX6_headBurns_44 X hr hlk hJ hY n44 x1 x2 0 _ h
    · replace h := h.2 q7
      refine zv_aload_n X dX6_headBurns_10 0 rfl rfl rfl ?_
      refine zg_X6_20 (k := 0) X (zz_mo_o hY).1 (zz_mo_o hY).2 fl_X6_35 dX6_headBurns_11 rfl ?_
      refine zv_iload X dX6_headBurns_14 5 rfl rfl ?_
      refine zv_iload X dX6_headBurns_16 4 rfl rfl ?_
      refine zv_if_eq (tgt := 25) X dX6_headBurns_18 (by decide) rfl (fun q18 => ?_) (fun q18 => ?_)
      · replace h := h.1 q18
        refine zv_aload_n X dX6_headBurns_25 0 rfl rfl rfl ?_
        refine zv_iload_n X dX6_headBurns_26 1 rfl rfl rfl ?_
        refine zv_iload X dX6_headBurns_27 5 rfl rfl ?_
        refine zv_iload_n X dX6_headBurns_29 2 rfl rfl rfl ?_
        refine zv_iload_n X dX6_headBurns_30 3 rfl rfl rfl ?_
        refine zv_cVi (k := 0) (ci := 6) X [.int x1, .int x5, .int x2, .int x3] (kX6_gets l hJ x1 x5 x2 x3 hY h) jl_X6_182 ⟨rfl, rfl⟩ ⟨Nat.le_of_ble_eq_true rfl, Nat.le_of_ble_eq_true rfl⟩ (zz_mo_o hY).1 (by decide) (zz_mo_o hY).2 rfl rfl rfl (Nat.le_of_ble_eq_true rfl) dX6_headBurns_31 rfl (fun r31 s31 h => ?_)
        exact vX6_headBurns_34 X hr hlk hJ hY ih x1 x2 x3 x4 x5 x5 r31 _ h
      · replace h := h.2 q18
        refine zv_iconst (v := 0) X dX6_headBurns_21 (by decide) rfl ?_
        refine zv_goto (tgt := 34) X dX6_headBurns_22 (by decide) ?_
        exact vX6_headBurns_34 X hr hlk hJ hY ih x1 x2 x3 x4 x5 x5 0 _ h
def pX6_headBurns (x1 : Int32) (x2 : Int32) (x3 : Int32) (x4 : Int32) (σ : zz_T) (Q : zz_T → Prop) : Prop :=
    ∃ n3, pX6_headBurns_3  Q n3 x1 x2 x3 x4 0 σ
set_option maxHeartbeats 4000000 in
set_option maxRecDepth 100000 in
theorem kX6_headBurns (l : Launch) {Y : zz_Y} (hJ : zz_J Y) (x1 : Int32) (x2 : Int32) (x3 : Int32) (x4 : Int32) (hY : zz_mo Y) {σ : zz_T} {Q : zz_T → Prop} (h : pX6_headBurns x1 x2 x3 x4 σ Q) : zz_Mv l yX6_headBurns cX6_headBurns 7 none rmX6_headBurns Y [.ref (Y.2.1 0), .int x1, .int x2, .int x3, .int x4] σ Q := by
  refine zz_Mv.start (by decide) hJ (Nat.le_of_ble_eq_true rfl) (fun p e s m below meth c X hr hlk => ?_)
  have X : zz_X p m c cX6_headBurns 7 s _ RX6 := X
  refine zv_sub (lv2 := [(0, .ref (Y.2.1 0)), (1, .int x1), (2, .int x2), (3, .int x3), (4, .int x4)]) [0, 1, 2, 3, 4] rfl ?_
  unfold pX6_headBurns at h
  refine zv_iconst (v := 0) X dX6_headBurns_0 (by decide) rfl ?_
  refine zv_istore (lv2 := [(5, .int 0), (0, .ref (Y.2.1 0)), (1, .int x1), (2, .int x2), (3, .int x3), (4, .int x4)]) X dX6_headBurns_1 (by decide) rfl rfl ?_
  obtain ⟨n3, h⟩ := h
  refine zv_sub (lv2 := [(0, .ref (Y.2.1 0)), (1, .int x1), (2, .int x2), (3, .int x3), (4, .int x4), (5, .int 0)]) [1, 2, 3, 4, 5, 0] rfl ?_
  exact vX6_headBurns_3 X hr hlk hJ hY n3 x1 x2 x3 x4 0 _ h
def rmX6_rowGoes : Room := { frames := 3, cells := 0, slots := 0, locals := 76 }
def pX6_rowGoes_139  (Q : zz_T → Prop) (σ : zz_T) : Prop :=
    vp_in 50 70 ∧
    vp_in 50 70 ∧
    Q (zz_i σ 2 (Int32.toNatClampNeg 50) ((σ.1 2 (Int32.toNatClampNeg 50)) + 1))
set_option maxHeartbeats 4000000 in
set_option maxRecDepth 100000 in
theorem vX6_rowGoes_139 {p : Program} {l : Launch} {e : Env} {s : State} {m : MethodId} {args : Array Value} {below : List Frame} {meth : Method} {c : Code} {Y : zz_Y}  {Q : zz_T → Prop} (X : zz_X p m c cX6_rowGoes 7 s args RX6) (hr : meth.sig.returnType = none) (hlk : meth.locks = false) (hJ : zz_J Y) (hY : zz_mo Y)  : ∀ (σ : zz_T), pX6_rowGoes_139  Q σ → zz_V p l e rmX6_rowGoes s m args below meth c (MQ below (va_Qv Q (zz_E Y) (zz_A Y)) args s 0 0 (zz_A Y)) 7 Y σ 139 [(0, .ref (Y.2.1 0))] [] := by
  intro σ h 
  unfold pX6_rowGoes_139 at h
  refine zv_aload_n X dX6_rowGoes_139 0 rfl rfl rfl ?_
  refine zg_X6_1 (k := 0) X (zz_mo_o hY).1 (zz_mo_o hY).2 fl_X6_13 dX6_rowGoes_140 rfl ?_
  refine zv_bipush (v := 50) X dX6_rowGoes_143 (by decide) rfl ?_
  refine zv_dup2_11 X dX6_rowGoes_145 rfl rfl rfl ?_
  obtain ⟨hi146, h⟩ := h
  refine zv_iald (k := 2) X (zz_mo_now hY).1 (zz_mo_now hY).2 hi146 dX6_rowGoes_146 rfl ?_
  refine zv_iconst (v := 1) X dX6_rowGoes_147 (by decide) rfl ?_
  refine zv_iadd X dX6_rowGoes_148 rfl ?_
  obtain ⟨hi149, h⟩ := h
  refine zv_iast (k := 2) X (zz_mo_now hY).1 (zz_mo_now hY).2 hi149 dX6_rowGoes_149 rfl ?_
  exact zv_vret X hr hlk h dX6_rowGoes_150
def pX6_rowGoes_111  (Q : zz_T → Prop) (K96 : Int32 → zz_T → Prop) : Nat → Int32 → Int32 → zz_T → Prop
  | 0, _, _, _ => False
  | n + 1, x5, x6, σ =>
    ((8 ≤ x6 → K96 (x5 + 1) σ) ∧
    (¬ 8 ≤ x6 → pX6_heatBecomes x5 x6 0 σ (fun s124 =>
    pX6_rowGoes_111  Q K96 n x5 (x6 + 1) s124)))
set_option maxHeartbeats 4000000 in
set_option maxRecDepth 100000 in
theorem vX6_rowGoes_111 {p : Program} {l : Launch} {e : Env} {s : State} {m : MethodId} {args : Array Value} {below : List Frame} {meth : Method} {c : Code} {Y : zz_Y}  {Q : zz_T → Prop} {K96 : Int32 → zz_T → Prop} (X : zz_X p m c cX6_rowGoes 7 s args RX6) (hr : meth.sig.returnType = none) (hlk : meth.locks = false) (hJ : zz_J Y) (hY : zz_mo Y) (hK96 : ∀ (x5 : Int32) (σ : zz_T), K96 x5 σ → zz_V p l e rmX6_rowGoes s m args below meth c (MQ below (va_Qv Q (zz_E Y) (zz_A Y)) args s 0 0 (zz_A Y)) 7 Y σ 96 [(0, .ref (Y.2.1 0)), (5, .int x5)] []) : ∀ (n : Nat) (x5 : Int32) (x6 : Int32) (σ : zz_T), pX6_rowGoes_111  Q K96 n x5 x6 σ → zz_V p l e rmX6_rowGoes s m args below meth c (MQ below (va_Qv Q (zz_E Y) (zz_A Y)) args s 0 0 (zz_A Y)) 7 Y σ 111 [(0, .ref (Y.2.1 0)), (5, .int x5), (6, .int x6)] [] := by
  intro n
  induction n with
  | zero => intro x5 x6 σ h; exact h.elim
  | succ n ih =>
    intro x5 x6 σ h 
    unfold pX6_rowGoes_111 at h
    refine zv_iload X dX6_rowGoes_111 2 rfl rfl ?_
    refine zv_bipush (v := 8) X dX6_rowGoes_113 (by decide) rfl ?_
    refine zv_icmp_ge (tgt := 133) X dX6_rowGoes_115 (by decide) rfl (fun q115 => ?_) (fun q115 => ?_)
    · replace h := h.1 q115
      refine zv_iinc (v := (x5 + 1)) (lv2 := [(5, .int (x5 + 1)), (0, .ref (Y.2.1 0)), (6, .int x6)]) X dX6_rowGoes_133 1 rfl rfl (by decide) rfl rfl ?_
      refine zv_goto (tgt := 96) X dX6_rowGoes_136 (by decide) ?_
      refine zv_sub (lv2 := [(0, .ref (Y.2.1 0)), (5, .int (x5 + 1))]) [1, 0] rfl ?_
      exact hK96 (x5 + 1) _ h
    · replace h := h.2 q115
      refine zv_aload_n X dX6_rowGoes_118 0 rfl rfl rfl ?_
      refine zv_iload X dX6_rowGoes_119 1 rfl rfl ?_
      refine zv_iload X dX6_rowGoes_121 2 rfl rfl ?_
      refine zv_iconst (v := 0) X dX6_rowGoes_123 (by decide) rfl ?_
      refine zv_cVv (k := 0) (ci := 6) X [.int x5, .int x6, .int 0] (kX6_heatBecomes l hJ x5 x6 0 hY h) jl_X6_178 ⟨rfl, rfl⟩ ⟨Nat.le_of_ble_eq_true rfl, Nat.le_of_ble_eq_true rfl⟩ (zz_mo_o hY).1 (by decide) (zz_mo_o hY).2 rfl rfl rfl (Nat.le_of_ble_eq_true rfl) dX6_rowGoes_124 rfl (fun s124 h => ?_)
      refine zv_iinc (v := (x6 + 1)) (lv2 := [(6, .int (x6 + 1)), (0, .ref (Y.2.1 0)), (5, .int x5)]) X dX6_rowGoes_127 2 rfl rfl (by decide) rfl rfl ?_
      refine zv_goto (tgt := 111) X dX6_rowGoes_130 (by decide) ?_
      refine zv_sub (lv2 := [(0, .ref (Y.2.1 0)), (5, .int x5), (6, .int (x6 + 1))]) [1, 2, 0] rfl ?_
      exact ih x5 (x6 + 1) _ h
def pX6_rowGoes_96  (Q : zz_T → Prop) : Nat → Int32 → zz_T → Prop
  | 0, _, _ => False
  | n + 1, x5, σ =>
    vp_in 33 70 ∧
    (((σ.1 2 (Int32.toNatClampNeg 33)) ≤ x5 → pX6_rowGoes_139  Q σ) ∧
    (¬ (σ.1 2 (Int32.toNatClampNeg 33)) ≤ x5 → ∃ n111, pX6_rowGoes_111  Q (pX6_rowGoes_96  Q n) n111 x5 0 σ))
set_option maxHeartbeats 4000000 in
set_option maxRecDepth 100000 in
theorem vX6_rowGoes_96 {p : Program} {l : Launch} {e : Env} {s : State} {m : MethodId} {args : Array Value} {below : List Frame} {meth : Method} {c : Code} {Y : zz_Y}  {Q : zz_T → Prop} (X : zz_X p m c cX6_rowGoes 7 s args RX6) (hr : meth.sig.returnType = none) (hlk : meth.locks = false) (hJ : zz_J Y) (hY : zz_mo Y)  : ∀ (n : Nat) (x5 : Int32) (σ : zz_T), pX6_rowGoes_96  Q n x5 σ → zz_V p l e rmX6_rowGoes s m args below meth c (MQ below (va_Qv Q (zz_E Y) (zz_A Y)) args s 0 0 (zz_A Y)) 7 Y σ 96 [(0, .ref (Y.2.1 0)), (5, .int x5)] [] := by
  intro n
  induction n with
  | zero => intro x5 σ h; exact h.elim
  | succ n ih =>
    intro x5 σ h 
    unfold pX6_rowGoes_96 at h
    refine zv_iload X dX6_rowGoes_96 1 rfl rfl ?_
    refine zv_aload_n X dX6_rowGoes_98 0 rfl rfl rfl ?_
    refine zg_X6_1 (k := 0) X (zz_mo_o hY).1 (zz_mo_o hY).2 fl_X6_13 dX6_rowGoes_99 rfl ?_
    refine zv_bipush (v := 33) X dX6_rowGoes_102 (by decide) rfl ?_
    obtain ⟨hi104, h⟩ := h
    refine zv_iald (k := 2) X (zz_mo_now hY).1 (zz_mo_now hY).2 hi104 dX6_rowGoes_104 rfl ?_
    refine zv_icmp_ge (tgt := 139) X dX6_rowGoes_105 (by decide) rfl (fun q105 => ?_) (fun q105 => ?_)
    · replace h := h.1 q105
      refine zv_sub (lv2 := [(0, .ref (Y.2.1 0))]) [0] rfl ?_
      exact vX6_rowGoes_139 X hr hlk hJ hY _ h
    · replace h := h.2 q105
      refine zv_iconst (v := 0) X dX6_rowGoes_108 (by decide) rfl ?_
      refine zv_istore (lv2 := [(6, .int 0), (0, .ref (Y.2.1 0)), (5, .int x5)]) X dX6_rowGoes_109 (by decide) rfl rfl ?_
      obtain ⟨n111, h⟩ := h
      refine zv_sub (lv2 := [(0, .ref (Y.2.1 0)), (5, .int x5), (6, .int 0)]) [1, 2, 0] rfl ?_
      exact vX6_rowGoes_111 X hr hlk hJ hY ih n111 x5 0 _ h
def pX6_rowGoes_55  (Q : zz_T → Prop) (t1 : Int32) (t2 : Int32) (σ : zz_T) : Prop :=
    pX6_flag t2 σ (fun r55 s55 =>
    ((((zz_i s55 0 17 (t1 + r55)).1 0 13) = (-4) → pX6_rowGoes_139  Q (zz_i s55 0 17 (t1 + r55))) ∧
    (¬ ((zz_i s55 0 17 (t1 + r55)).1 0 13) = (-4) → vp_in 50 70 ∧
    vp_in 49 70 ∧
    ¬ ((zz_i s55 0 17 (t1 + r55)).1 2 (Int32.toNatClampNeg 49)) = 0 ∧
    (((((zz_i s55 0 17 (t1 + r55)).1 2 (Int32.toNatClampNeg 50)) - ((zz_i s55 0 17 (t1 + r55)).1 2 (Int32.toNatClampNeg 50)) / ((zz_i s55 0 17 (t1 + r55)).1 2 (Int32.toNatClampNeg 49)) * ((zz_i s55 0 17 (t1 + r55)).1 2 (Int32.toNatClampNeg 49))) = ((zz_i s55 0 17 (t1 + r55)).1 0 13) → ∃ n96, pX6_rowGoes_96  Q n96 0 (zz_i s55 0 17 (t1 + r55))) ∧
    (¬ (((zz_i s55 0 17 (t1 + r55)).1 2 (Int32.toNatClampNeg 50)) - ((zz_i s55 0 17 (t1 + r55)).1 2 (Int32.toNatClampNeg 50)) / ((zz_i s55 0 17 (t1 + r55)).1 2 (Int32.toNatClampNeg 49)) * ((zz_i s55 0 17 (t1 + r55)).1 2 (Int32.toNatClampNeg 49))) = ((zz_i s55 0 17 (t1 + r55)).1 0 13) → pX6_rowGoes_139  Q (zz_i s55 0 17 (t1 + r55)))))))
set_option maxHeartbeats 4000000 in
set_option maxRecDepth 100000 in
theorem vX6_rowGoes_55 {p : Program} {l : Launch} {e : Env} {s : State} {m : MethodId} {args : Array Value} {below : List Frame} {meth : Method} {c : Code} {Y : zz_Y}  {Q : zz_T → Prop} (X : zz_X p m c cX6_rowGoes 7 s args RX6) (hr : meth.sig.returnType = none) (hlk : meth.locks = false) (hJ : zz_J Y) (hY : zz_mo Y)  : ∀ (t1 : Int32) (t2 : Int32) (σ : zz_T), pX6_rowGoes_55  Q t1 t2 σ → zz_V p l e rmX6_rowGoes s m args below meth c (MQ below (va_Qv Q (zz_E Y) (zz_A Y)) args s 0 0 (zz_A Y)) 7 Y σ 55 [(0, .ref (Y.2.1 0))] [.int t2, .int t1, .ref (Y.2.1 0)] := by
  intro t1 t2 σ h 
  unfold pX6_rowGoes_55 at h
  refine zv_cSi X [.int t2] (kX6_flag l hJ t2  h) jl_X6_174 ⟨rfl, rfl⟩ ⟨Nat.le_of_ble_eq_true rfl, Nat.le_of_ble_eq_true rfl⟩ rfl rfl (Nat.le_of_ble_eq_true rfl) dX6_rowGoes_55 rfl (fun r55 s55 h => ?_)
  refine zv_iadd X dX6_rowGoes_58 rfl ?_
  refine zp_X6_17 (k := 0) X (zz_mo_o hY).1 (zz_mo_o hY).2 fl_X6_158 dX6_rowGoes_59 rfl ?_
  refine zv_aload_n X dX6_rowGoes_62 0 rfl rfl rfl ?_
  refine zg_X6_13 (k := 0) X (zz_mo_o hY).1 (zz_mo_o hY).2 fl_X6_146 dX6_rowGoes_63 rfl ?_
  refine zv_bipush (v := (-4)) X dX6_rowGoes_66 (by decide) rfl ?_
  refine zv_icmp_eq (tgt := 139) X dX6_rowGoes_68 (by decide) rfl (fun q68 => ?_) (fun q68 => ?_)
  · replace h := h.1 q68
    exact vX6_rowGoes_139 X hr hlk hJ hY _ h
  · replace h := h.2 q68
    refine zv_aload_n X dX6_rowGoes_71 0 rfl rfl rfl ?_
    refine zg_X6_1 (k := 0) X (zz_mo_o hY).1 (zz_mo_o hY).2 fl_X6_13 dX6_rowGoes_72 rfl ?_
    refine zv_bipush (v := 50) X dX6_rowGoes_75 (by decide) rfl ?_
    obtain ⟨hi77, h⟩ := h
    refine zv_iald (k := 2) X (zz_mo_now hY).1 (zz_mo_now hY).2 hi77 dX6_rowGoes_77 rfl ?_
    refine zv_aload_n X dX6_rowGoes_78 0 rfl rfl rfl ?_
    refine zg_X6_1 (k := 0) X (zz_mo_o hY).1 (zz_mo_o hY).2 fl_X6_13 dX6_rowGoes_79 rfl ?_
    refine zv_bipush (v := 49) X dX6_rowGoes_82 (by decide) rfl ?_
    obtain ⟨hi84, h⟩ := h
    refine zv_iald (k := 2) X (zz_mo_now hY).1 (zz_mo_now hY).2 hi84 dX6_rowGoes_84 rfl ?_
    obtain ⟨z85, h⟩ := h
    refine zv_irem X dX6_rowGoes_85 z85 rfl ?_
    refine zv_aload_n X dX6_rowGoes_86 0 rfl rfl rfl ?_
    refine zg_X6_13 (k := 0) X (zz_mo_o hY).1 (zz_mo_o hY).2 fl_X6_146 dX6_rowGoes_87 rfl ?_
    refine zv_icmp_ne (tgt := 139) X dX6_rowGoes_90 (by decide) rfl (fun q90 => ?_) (fun q90 => ?_)
    · replace h := h.2 q90
      exact vX6_rowGoes_139 X hr hlk hJ hY _ h
    · replace h := h.1 q90
      refine zv_iconst (v := 0) X dX6_rowGoes_93 (by decide) rfl ?_
      refine zv_istore (lv2 := [(5, .int 0), (0, .ref (Y.2.1 0))]) X dX6_rowGoes_94 (by decide) rfl rfl ?_
      obtain ⟨n96, h⟩ := h
      refine zv_sub (lv2 := [(0, .ref (Y.2.1 0)), (5, .int 0)]) [1, 0] rfl ?_
      exact vX6_rowGoes_96 X hr hlk hJ hY n96 0 _ h
def pX6_rowGoes_9  (Q : zz_T → Prop) : Nat → Int32 → Int32 → Int32 → Int32 → Int32 → zz_T → Prop
  | 0, _, _, _, _, _, _ => False
  | n + 1, x1, x2, x3, x4, x5, σ =>
    vp_in 33 70 ∧
    (((σ.1 2 (Int32.toNatClampNeg 33)) ≤ x5 → (((σ.1 0 14) ≤ x4 → pX6_rowGoes_55  Q (σ.1 0 17) 0 σ) ∧
    (¬ (σ.1 0 14) ≤ x4 → pX6_rowGoes_55  Q (σ.1 0 17) 1 σ))) ∧
    (¬ (σ.1 2 (Int32.toNatClampNeg 33)) ≤ x5 → pX6_headBurns x5 x1 x2 x3 σ (fun s27 =>
    pX6_rowGoes_9  Q n x1 x2 x3 x4 (x5 + 1) s27)))
set_option maxHeartbeats 4000000 in
set_option maxRecDepth 100000 in
theorem vX6_rowGoes_9 {p : Program} {l : Launch} {e : Env} {s : State} {m : MethodId} {args : Array Value} {below : List Frame} {meth : Method} {c : Code} {Y : zz_Y}  {Q : zz_T → Prop} (X : zz_X p m c cX6_rowGoes 7 s args RX6) (hr : meth.sig.returnType = none) (hlk : meth.locks = false) (hJ : zz_J Y) (hY : zz_mo Y)  : ∀ (n : Nat) (x1 : Int32) (x2 : Int32) (x3 : Int32) (x4 : Int32) (x5 : Int32) (σ : zz_T), pX6_rowGoes_9  Q n x1 x2 x3 x4 x5 σ → zz_V p l e rmX6_rowGoes s m args below meth c (MQ below (va_Qv Q (zz_E Y) (zz_A Y)) args s 0 0 (zz_A Y)) 7 Y σ 9 [(0, .ref (Y.2.1 0)), (1, .int x1), (2, .int x2), (3, .int x3), (4, .int x4), (5, .int x5)] [] := by
  intro n
  induction n with
  | zero => intro x1 x2 x3 x4 x5 σ h; exact h.elim
  | succ n ih =>
    intro x1 x2 x3 x4 x5 σ h 
    unfold pX6_rowGoes_9 at h
    refine zv_iload X dX6_rowGoes_9 5 rfl rfl ?_
    refine zv_aload_n X dX6_rowGoes_11 0 rfl rfl rfl ?_
    refine zg_X6_1 (k := 0) X (zz_mo_o hY).1 (zz_mo_o hY).2 fl_X6_13 dX6_rowGoes_12 rfl ?_
    refine zv_bipush (v := 33) X dX6_rowGoes_15 (by decide) rfl ?_
    obtain ⟨hi17, h⟩ := h
    refine zv_iald (k := 2) X (zz_mo_now hY).1 (zz_mo_now hY).2 hi17 dX6_rowGoes_17 rfl ?_
    refine zv_icmp_ge (tgt := 36) X dX6_rowGoes_18 (by decide) rfl (fun q18 => ?_) (fun q18 => ?_)
    · replace h := h.1 q18
      refine zv_aload_n X dX6_rowGoes_36 0 rfl rfl rfl ?_
      refine zv_dup X dX6_rowGoes_37 rfl rfl ?_
      refine zg_X6_17 (k := 0) X (zz_mo_o hY).1 (zz_mo_o hY).2 fl_X6_158 dX6_rowGoes_38 rfl ?_
      refine zv_aload_n X dX6_rowGoes_41 0 rfl rfl rfl ?_
      refine zg_X6_14 (k := 0) X (zz_mo_o hY).1 (zz_mo_o hY).2 fl_X6_149 dX6_rowGoes_42 rfl ?_
      refine zv_iload X dX6_rowGoes_45 4 rfl rfl ?_
      refine zv_icmp_le (tgt := 54) X dX6_rowGoes_47 (by decide) rfl (fun q47 => ?_) (fun q47 => ?_)
      · replace h := h.1 q47
        refine zv_iconst (v := 0) X dX6_rowGoes_54 (by decide) rfl ?_
        refine zv_sub (lv2 := [(0, .ref (Y.2.1 0))]) [0] rfl ?_
        exact vX6_rowGoes_55 X hr hlk hJ hY (σ.1 0 17) 0 _ h
      · replace h := h.2 q47
        refine zv_iconst (v := 1) X dX6_rowGoes_50 (by decide) rfl ?_
        refine zv_goto (tgt := 55) X dX6_rowGoes_51 (by decide) ?_
        refine zv_sub (lv2 := [(0, .ref (Y.2.1 0))]) [0] rfl ?_
        exact vX6_rowGoes_55 X hr hlk hJ hY (σ.1 0 17) 1 _ h
    · replace h := h.2 q18
      refine zv_aload_n X dX6_rowGoes_21 0 rfl rfl rfl ?_
      refine zv_iload X dX6_rowGoes_22 5 rfl rfl ?_
      refine zv_iload_n X dX6_rowGoes_24 1 rfl rfl rfl ?_
      refine zv_iload_n X dX6_rowGoes_25 2 rfl rfl rfl ?_
      refine zv_iload_n X dX6_rowGoes_26 3 rfl rfl rfl ?_
      refine zv_cVv (k := 0) (ci := 6) X [.int x5, .int x1, .int x2, .int x3] (kX6_headBurns l hJ x5 x1 x2 x3 hY h) jl_X6_195 ⟨rfl, rfl⟩ ⟨Nat.le_of_ble_eq_true rfl, Nat.le_of_ble_eq_true rfl⟩ (zz_mo_o hY).1 (by decide) (zz_mo_o hY).2 rfl rfl rfl (Nat.le_of_ble_eq_true rfl) dX6_rowGoes_27 rfl (fun s27 h => ?_)
      refine zv_iinc (v := (x5 + 1)) (lv2 := [(5, .int (x5 + 1)), (0, .ref (Y.2.1 0)), (1, .int x1), (2, .int x2), (3, .int x3), (4, .int x4)]) X dX6_rowGoes_30 5 rfl rfl (by decide) rfl rfl ?_
      refine zv_goto (tgt := 9) X dX6_rowGoes_33 (by decide) ?_
      refine zv_sub (lv2 := [(0, .ref (Y.2.1 0)), (1, .int x1), (2, .int x2), (3, .int x3), (4, .int x4), (5, .int (x5 + 1))]) [1, 2, 3, 4, 5, 0] rfl ?_
      exact ih x1 x2 x3 x4 (x5 + 1) _ h
def pX6_rowGoes (x1 : Int32) (x2 : Int32) (x3 : Int32) (σ : zz_T) (Q : zz_T → Prop) : Prop :=
    ∃ n9, pX6_rowGoes_9  Q n9 x1 x2 x3 (σ.1 0 14) 0 σ
set_option maxHeartbeats 4000000 in
set_option maxRecDepth 100000 in
theorem kX6_rowGoes (l : Launch) {Y : zz_Y} (hJ : zz_J Y) (x1 : Int32) (x2 : Int32) (x3 : Int32) (hY : zz_mo Y) {σ : zz_T} {Q : zz_T → Prop} (h : pX6_rowGoes x1 x2 x3 σ Q) : zz_Mv l yX6_rowGoes cX6_rowGoes 7 none rmX6_rowGoes Y [.ref (Y.2.1 0), .int x1, .int x2, .int x3] σ Q := by
  refine zz_Mv.start (by decide) hJ (Nat.le_of_ble_eq_true rfl) (fun p e s m below meth c X hr hlk => ?_)
  have X : zz_X p m c cX6_rowGoes 7 s _ RX6 := X
  refine zv_sub (lv2 := [(0, .ref (Y.2.1 0)), (1, .int x1), (2, .int x2), (3, .int x3)]) [0, 1, 2, 3] rfl ?_
  unfold pX6_rowGoes at h
  refine zv_aload_n X dX6_rowGoes_0 0 rfl rfl rfl ?_
  refine zg_X6_14 (k := 0) X (zz_mo_o hY).1 (zz_mo_o hY).2 fl_X6_149 dX6_rowGoes_1 rfl ?_
  refine zv_istore (lv2 := [(4, .int (σ.1 0 14)), (0, .ref (Y.2.1 0)), (1, .int x1), (2, .int x2), (3, .int x3)]) X dX6_rowGoes_4 (by decide) rfl rfl ?_
  refine zv_iconst (v := 0) X dX6_rowGoes_6 (by decide) rfl ?_
  refine zv_istore (lv2 := [(5, .int 0), (4, .int (σ.1 0 14)), (0, .ref (Y.2.1 0)), (1, .int x1), (2, .int x2), (3, .int x3)]) X dX6_rowGoes_7 (by decide) rfl rfl ?_
  obtain ⟨n9, h⟩ := h
  refine zv_sub (lv2 := [(0, .ref (Y.2.1 0)), (1, .int x1), (2, .int x2), (3, .int x3), (4, .int (σ.1 0 14)), (5, .int 0)]) [2, 3, 4, 5, 1, 0] rfl ?_
  exact vX6_rowGoes_9 X hr hlk hJ hY n9 x1 x2 x3 (σ.1 0 14) 0 _ h
def rmX6_rowsGo : Room := { frames := 4, cells := 0, slots := 0, locals := 102 }
def pX6_rowsGo_2  (Q : zz_T → Prop) : Nat → Int32 → Int32 → zz_T → Prop
  | 0, _, _, _ => False
  | n + 1, x1, x2, σ =>
    ((x1 ≤ x2 → Q σ) ∧
    (¬ x1 ≤ x2 → vp_in 50 70 ∧
    pX6_lineAt (σ.1 2 (Int32.toNatClampNeg 50)) σ (fun r16 s16 =>
    vp_in 50 70 ∧
    pX6_lineAt ((s16.1 2 (Int32.toNatClampNeg 50)) + 1) s16 (fun r29 s29 =>
    pX6_rowGoes r16 r29 0 s29 (fun s33 =>
    pX6_rowsGo_2  Q n x1 (x2 + 1) s33)))))
set_option maxHeartbeats 4000000 in
set_option maxRecDepth 100000 in
theorem vX6_rowsGo_2 {p : Program} {l : Launch} {e : Env} {s : State} {m : MethodId} {args : Array Value} {below : List Frame} {meth : Method} {c : Code} {Y : zz_Y}  {Q : zz_T → Prop} (X : zz_X p m c cX6_rowsGo 3 s args RX6) (hr : meth.sig.returnType = none) (hlk : meth.locks = false) (hJ : zz_J Y) (hY : zz_mo Y)  : ∀ (n : Nat) (x1 : Int32) (x2 : Int32) (σ : zz_T), pX6_rowsGo_2  Q n x1 x2 σ → zz_V p l e rmX6_rowsGo s m args below meth c (MQ below (va_Qv Q (zz_E Y) (zz_A Y)) args s 0 0 (zz_A Y)) 3 Y σ 2 [(0, .ref (Y.2.1 0)), (1, .int x1), (2, .int x2)] [] := by
  intro n
  induction n with
  | zero => intro x1 x2 σ h; exact h.elim
  | succ n ih =>
    intro x1 x2 σ h 
    unfold pX6_rowsGo_2 at h
    refine zv_iload_n X dX6_rowsGo_2 2 rfl rfl rfl ?_
    refine zv_iload_n X dX6_rowsGo_3 1 rfl rfl rfl ?_
    refine zv_icmp_ge (tgt := 42) X dX6_rowsGo_4 (by decide) rfl (fun q4 => ?_) (fun q4 => ?_)
    · replace h := h.1 q4
      exact zv_vret X hr hlk h dX6_rowsGo_42
    · replace h := h.2 q4
      refine zv_aload_n X dX6_rowsGo_7 0 rfl rfl rfl ?_
      refine zv_aload_n X dX6_rowsGo_8 0 rfl rfl rfl ?_
      refine zv_aload_n X dX6_rowsGo_9 0 rfl rfl rfl ?_
      refine zg_X6_1 (k := 0) X (zz_mo_o hY).1 (zz_mo_o hY).2 fl_X6_13 dX6_rowsGo_10 rfl ?_
      refine zv_bipush (v := 50) X dX6_rowsGo_13 (by decide) rfl ?_
      obtain ⟨hi15, h⟩ := h
      refine zv_iald (k := 2) X (zz_mo_now hY).1 (zz_mo_now hY).2 hi15 dX6_rowsGo_15 rfl ?_
      refine zv_cVi (k := 0) (ci := 6) X [.int (σ.1 2 (Int32.toNatClampNeg 50))] (kX6_lineAt l hJ (σ.1 2 (Int32.toNatClampNeg 50)) hY h) jl_X6_199 ⟨rfl, rfl⟩ ⟨Nat.le_of_ble_eq_true rfl, Nat.le_of_ble_eq_true rfl⟩ (zz_mo_o hY).1 (by decide) (zz_mo_o hY).2 rfl rfl rfl (Nat.le_of_ble_eq_true rfl) dX6_rowsGo_16 rfl (fun r16 s16 h => ?_)
      refine zv_aload_n X dX6_rowsGo_19 0 rfl rfl rfl ?_
      refine zv_aload_n X dX6_rowsGo_20 0 rfl rfl rfl ?_
      refine zg_X6_1 (k := 0) X (zz_mo_o hY).1 (zz_mo_o hY).2 fl_X6_13 dX6_rowsGo_21 rfl ?_
      refine zv_bipush (v := 50) X dX6_rowsGo_24 (by decide) rfl ?_
      obtain ⟨hi26, h⟩ := h
      refine zv_iald (k := 2) X (zz_mo_now hY).1 (zz_mo_now hY).2 hi26 dX6_rowsGo_26 rfl ?_
      refine zv_iconst (v := 1) X dX6_rowsGo_27 (by decide) rfl ?_
      refine zv_iadd X dX6_rowsGo_28 rfl ?_
      refine zv_cVi (k := 0) (ci := 6) X [.int ((s16.1 2 (Int32.toNatClampNeg 50)) + 1)] (kX6_lineAt l hJ ((s16.1 2 (Int32.toNatClampNeg 50)) + 1) hY h) jl_X6_199 ⟨rfl, rfl⟩ ⟨Nat.le_of_ble_eq_true rfl, Nat.le_of_ble_eq_true rfl⟩ (zz_mo_o hY).1 (by decide) (zz_mo_o hY).2 rfl rfl rfl (Nat.le_of_ble_eq_true rfl) dX6_rowsGo_29 rfl (fun r29 s29 h => ?_)
      refine zv_iconst (v := 0) X dX6_rowsGo_32 (by decide) rfl ?_
      refine zv_cVv (k := 0) (ci := 6) X [.int r16, .int r29, .int 0] (kX6_rowGoes l hJ r16 r29 0 hY h) jl_X6_202 ⟨rfl, rfl⟩ ⟨Nat.le_of_ble_eq_true rfl, Nat.le_of_ble_eq_true rfl⟩ (zz_mo_o hY).1 (by decide) (zz_mo_o hY).2 rfl rfl rfl (Nat.le_of_ble_eq_true rfl) dX6_rowsGo_33 rfl (fun s33 h => ?_)
      refine zv_iinc (v := (x2 + 1)) (lv2 := [(2, .int (x2 + 1)), (0, .ref (Y.2.1 0)), (1, .int x1)]) X dX6_rowsGo_36 2 rfl rfl (by decide) rfl rfl ?_
      refine zv_goto (tgt := 2) X dX6_rowsGo_39 (by decide) ?_
      refine zv_sub (lv2 := [(0, .ref (Y.2.1 0)), (1, .int x1), (2, .int (x2 + 1))]) [1, 2, 0] rfl ?_
      exact ih x1 (x2 + 1) _ h
def pX6_rowsGo (x1 : Int32) (σ : zz_T) (Q : zz_T → Prop) : Prop :=
    ∃ n2, pX6_rowsGo_2  Q n2 x1 0 σ
set_option maxHeartbeats 4000000 in
set_option maxRecDepth 100000 in
theorem kX6_rowsGo (l : Launch) {Y : zz_Y} (hJ : zz_J Y) (x1 : Int32) (hY : zz_mo Y) {σ : zz_T} {Q : zz_T → Prop} (h : pX6_rowsGo x1 σ Q) : zz_Mv l yX6_rowsGo cX6_rowsGo 3 none rmX6_rowsGo Y [.ref (Y.2.1 0), .int x1] σ Q := by
  refine zz_Mv.start (by decide) hJ (Nat.le_of_ble_eq_true rfl) (fun p e s m below meth c X hr hlk => ?_)
  have X : zz_X p m c cX6_rowsGo 3 s _ RX6 := X
  refine zv_sub (lv2 := [(0, .ref (Y.2.1 0)), (1, .int x1)]) [0, 1] rfl ?_
  unfold pX6_rowsGo at h
  refine zv_iconst (v := 0) X dX6_rowsGo_0 (by decide) rfl ?_
  refine zv_istore_n (lv2 := [(2, .int 0), (0, .ref (Y.2.1 0)), (1, .int x1)]) X dX6_rowsGo_1 rfl (by decide) rfl rfl ?_
  obtain ⟨n2, h⟩ := h
  refine zv_sub (lv2 := [(0, .ref (Y.2.1 0)), (1, .int x1), (2, .int 0)]) [1, 2, 0] rfl ?_
  exact vX6_rowsGo_2 X hr hlk hJ hY n2 x1 0 _ h
def rmX6_wrongIn : Room := { frames := 5, cells := 0, slots := 0, locals := 124 }
def pX6_wrongIn (x1 : Int32) (σ : zz_T) (Q : Int32 → zz_T → Prop) : Prop :=
    pX6_rowsGo x1 σ (fun s2 =>
    Q (s2.1 0 14) s2)
set_option maxHeartbeats 4000000 in
set_option maxRecDepth 100000 in
theorem kX6_wrongIn (l : Launch) {Y : zz_Y} (hJ : zz_J Y) (x1 : Int32) (hY : zz_mo Y) {σ : zz_T} {Q : Int32 → zz_T → Prop} (h : pX6_wrongIn x1 σ Q) : zz_Mi l yX6_wrongIn cX6_wrongIn 2 (some .int) rmX6_wrongIn Y [.ref (Y.2.1 0), .int x1] σ Q := by
  refine zz_Mi.start (by decide) hJ (Nat.le_of_ble_eq_true rfl) (fun p e s m below meth c X hr hlk => ?_)
  have X : zz_X p m c cX6_wrongIn 2 s _ RX6 := X
  refine zv_sub (lv2 := [(0, .ref (Y.2.1 0)), (1, .int x1)]) [0, 1] rfl ?_
  unfold pX6_wrongIn at h
  refine zv_aload_n X dX6_wrongIn_0 0 rfl rfl rfl ?_
  refine zv_iload_n X dX6_wrongIn_1 1 rfl rfl rfl ?_
  refine zv_cVv (k := 0) (ci := 6) X [.int x1] (kX6_rowsGo l hJ x1 hY h) jl_X6_206 ⟨rfl, rfl⟩ ⟨Nat.le_of_ble_eq_true rfl, Nat.le_of_ble_eq_true rfl⟩ (zz_mo_o hY).1 (by decide) (zz_mo_o hY).2 rfl rfl rfl (Nat.le_of_ble_eq_true rfl) dX6_wrongIn_2 rfl (fun s2 h => ?_)
  refine zv_aload_n X dX6_wrongIn_5 0 rfl rfl rfl ?_
  refine zg_X6_14 (k := 0) X (zz_mo_o hY).1 (zz_mo_o hY).2 fl_X6_149 dX6_wrongIn_6 rfl ?_
  exact zv_iret X hr hlk h dX6_wrongIn_9
def rmX6_heatsOf : Room := { frames := 1, cells := 0, slots := 0, locals := 22 }
def pX6_heatsOf_4  (Q : Int32 → zz_T → Prop) : Nat → Int32 → Int32 → Int32 → zz_T → Prop
  | 0, _, _, _, _ => False
  | n + 1, x1, x2, x3, σ =>
    ((8 ≤ x3 → Q x2 σ) ∧
    (¬ 8 ≤ x3 → pX6_heat x1 x3 σ (fun r14 s14 =>
    pX6_heatsOf_4  Q n x1 (x2 + r14) (x3 + 1) s14)))
set_option maxHeartbeats 4000000 in
set_option maxRecDepth 100000 in
theorem vX6_heatsOf_4 {p : Program} {l : Launch} {e : Env} {s : State} {m : MethodId} {args : Array Value} {below : List Frame} {meth : Method} {c : Code} {Y : zz_Y}  {Q : Int32 → zz_T → Prop} (X : zz_X p m c cX6_heatsOf 4 s args RX6) (hr : meth.sig.returnType = (some .int)) (hlk : meth.locks = false) (hJ : zz_J Y) (hY : zz_mo Y)  : ∀ (n : Nat) (x1 : Int32) (x2 : Int32) (x3 : Int32) (σ : zz_T), pX6_heatsOf_4  Q n x1 x2 x3 σ → zz_V p l e rmX6_heatsOf s m args below meth c (MQ below (va_Qi Q (zz_E Y) (zz_A Y)) args s 0 0 (zz_A Y)) 4 Y σ 4 [(0, .ref (Y.2.1 0)), (1, .int x1), (2, .int x2), (3, .int x3)] [] := by
  intro n
  induction n with
  | zero => intro x1 x2 x3 σ h; exact h.elim
  | succ n ih =>
    intro x1 x2 x3 σ h 
    unfold pX6_heatsOf_4 at h
    refine zv_iload_n X dX6_heatsOf_4 3 rfl rfl rfl ?_
    refine zv_bipush (v := 8) X dX6_heatsOf_5 (by decide) rfl ?_
    refine zv_icmp_ge (tgt := 25) X dX6_heatsOf_7 (by decide) rfl (fun q7 => ?_) (fun q7 => ?_)
    · replace h := h.1 q7
      refine zv_iload_n X dX6_heatsOf_25 2 rfl rfl rfl ?_
      exact zv_iret X hr hlk h dX6_heatsOf_26
    · replace h := h.2 q7
      refine zv_iload_n X dX6_heatsOf_10 2 rfl rfl rfl ?_
      refine zv_aload_n X dX6_heatsOf_11 0 rfl rfl rfl ?_
      refine zv_iload_n X dX6_heatsOf_12 1 rfl rfl rfl ?_
      refine zv_iload_n X dX6_heatsOf_13 3 rfl rfl rfl ?_
      refine zv_cVi (k := 0) (ci := 6) X [.int x1, .int x3] (kX6_heat l hJ x1 x3 hY h) jl_X6_167 ⟨rfl, rfl⟩ ⟨Nat.le_of_ble_eq_true rfl, Nat.le_of_ble_eq_true rfl⟩ (zz_mo_o hY).1 (by decide) (zz_mo_o hY).2 rfl rfl rfl (Nat.le_of_ble_eq_true rfl) dX6_heatsOf_14 rfl (fun r14 s14 h => ?_)
      refine zv_iadd X dX6_heatsOf_17 rfl ?_
      refine zv_istore_n (lv2 := [(2, .int (x2 + r14)), (0, .ref (Y.2.1 0)), (1, .int x1), (3, .int x3)]) X dX6_heatsOf_18 rfl (by decide) rfl rfl ?_
      refine zv_iinc (v := (x3 + 1)) (lv2 := [(3, .int (x3 + 1)), (2, .int (x2 + r14)), (0, .ref (Y.2.1 0)), (1, .int x1)]) X dX6_heatsOf_19 3 rfl rfl (by decide) rfl rfl ?_
      refine zv_goto (tgt := 4) X dX6_heatsOf_22 (by decide) ?_
      refine zv_sub (lv2 := [(0, .ref (Y.2.1 0)), (1, .int x1), (2, .int (x2 + r14)), (3, .int (x3 + 1))]) [2, 3, 1, 0] rfl ?_
      exact ih x1 (x2 + r14) (x3 + 1) _ h
def pX6_heatsOf (x1 : Int32) (σ : zz_T) (Q : Int32 → zz_T → Prop) : Prop :=
    ∃ n4, pX6_heatsOf_4  Q n4 x1 0 0 σ
set_option maxHeartbeats 4000000 in
set_option maxRecDepth 100000 in
theorem kX6_heatsOf (l : Launch) {Y : zz_Y} (hJ : zz_J Y) (x1 : Int32) (hY : zz_mo Y) {σ : zz_T} {Q : Int32 → zz_T → Prop} (h : pX6_heatsOf x1 σ Q) : zz_Mi l yX6_heatsOf cX6_heatsOf 4 (some .int) rmX6_heatsOf Y [.ref (Y.2.1 0), .int x1] σ Q := by
  refine zz_Mi.start (by decide) hJ (Nat.le_of_ble_eq_true rfl) (fun p e s m below meth c X hr hlk => ?_)
  have X : zz_X p m c cX6_heatsOf 4 s _ RX6 := X
  refine zv_sub (lv2 := [(0, .ref (Y.2.1 0)), (1, .int x1)]) [0, 1] rfl ?_
  unfold pX6_heatsOf at h
  refine zv_iconst (v := 0) X dX6_heatsOf_0 (by decide) rfl ?_
  refine zv_istore_n (lv2 := [(2, .int 0), (0, .ref (Y.2.1 0)), (1, .int x1)]) X dX6_heatsOf_1 rfl (by decide) rfl rfl ?_
  refine zv_iconst (v := 0) X dX6_heatsOf_2 (by decide) rfl ?_
  refine zv_istore_n (lv2 := [(3, .int 0), (2, .int 0), (0, .ref (Y.2.1 0)), (1, .int x1)]) X dX6_heatsOf_3 rfl (by decide) rfl rfl ?_
  obtain ⟨n4, h⟩ := h
  refine zv_sub (lv2 := [(0, .ref (Y.2.1 0)), (1, .int x1), (2, .int 0), (3, .int 0)]) [2, 3, 1, 0] rfl ?_
  exact vX6_heatsOf_4 X hr hlk hJ hY n4 x1 0 0 _ h
def rmX6_sumOf : Room := { frames := 1, cells := 0, slots := 0, locals := 22 }
def pX6_sumOf_4  (Q : Int32 → zz_T → Prop) : Nat → Int32 → Int32 → Int32 → zz_T → Prop
  | 0, _, _, _, _ => False
  | n + 1, x1, x2, x3, σ =>
    vp_in 33 70 ∧
    (((σ.1 2 (Int32.toNatClampNeg 33)) ≤ x3 → Q x2 σ) ∧
    (¬ (σ.1 2 (Int32.toNatClampNeg 33)) ≤ x3 → pX6_of x3 x1 σ (fun r19 s19 =>
    pX6_sumOf_4  Q n x1 (x2 + r19) (x3 + 1) s19)))
set_option maxHeartbeats 4000000 in
set_option maxRecDepth 100000 in
theorem vX6_sumOf_4 {p : Program} {l : Launch} {e : Env} {s : State} {m : MethodId} {args : Array Value} {below : List Frame} {meth : Method} {c : Code} {Y : zz_Y}  {Q : Int32 → zz_T → Prop} (X : zz_X p m c cX6_sumOf 4 s args RX6) (hr : meth.sig.returnType = (some .int)) (hlk : meth.locks = false) (hJ : zz_J Y) (hY : zz_mo Y)  : ∀ (n : Nat) (x1 : Int32) (x2 : Int32) (x3 : Int32) (σ : zz_T), pX6_sumOf_4  Q n x1 x2 x3 σ → zz_V p l e rmX6_sumOf s m args below meth c (MQ below (va_Qi Q (zz_E Y) (zz_A Y)) args s 0 0 (zz_A Y)) 4 Y σ 4 [(0, .ref (Y.2.1 0)), (1, .int x1), (2, .int x2), (3, .int x3)] [] := by
  intro n
  induction n with
  | zero => intro x1 x2 x3 σ h; exact h.elim
  | succ n ih =>
    intro x1 x2 x3 σ h 
    unfold pX6_sumOf_4 at h
    refine zv_iload_n X dX6_sumOf_4 3 rfl rfl rfl ?_
    refine zv_aload_n X dX6_sumOf_5 0 rfl rfl rfl ?_
    refine zg_X6_1 (k := 0) X (zz_mo_o hY).1 (zz_mo_o hY).2 fl_X6_13 dX6_sumOf_6 rfl ?_
    refine zv_bipush (v := 33) X dX6_sumOf_9 (by decide) rfl ?_
    obtain ⟨hi11, h⟩ := h
    refine zv_iald (k := 2) X (zz_mo_now hY).1 (zz_mo_now hY).2 hi11 dX6_sumOf_11 rfl ?_
    refine zv_icmp_ge (tgt := 30) X dX6_sumOf_12 (by decide) rfl (fun q12 => ?_) (fun q12 => ?_)
    · replace h := h.1 q12
      refine zv_iload_n X dX6_sumOf_30 2 rfl rfl rfl ?_
      exact zv_iret X hr hlk h dX6_sumOf_31
    · replace h := h.2 q12
      refine zv_iload_n X dX6_sumOf_15 2 rfl rfl rfl ?_
      refine zv_aload_n X dX6_sumOf_16 0 rfl rfl rfl ?_
      refine zv_iload_n X dX6_sumOf_17 3 rfl rfl rfl ?_
      refine zv_iload_n X dX6_sumOf_18 1 rfl rfl rfl ?_
      refine zv_cVi (k := 0) (ci := 6) X [.int x3, .int x1] (kX6_of l hJ x3 x1 hY h) jl_X6_161 ⟨rfl, rfl⟩ ⟨Nat.le_of_ble_eq_true rfl, Nat.le_of_ble_eq_true rfl⟩ (zz_mo_o hY).1 (by decide) (zz_mo_o hY).2 rfl rfl rfl (Nat.le_of_ble_eq_true rfl) dX6_sumOf_19 rfl (fun r19 s19 h => ?_)
      refine zv_iadd X dX6_sumOf_22 rfl ?_
      refine zv_istore_n (lv2 := [(2, .int (x2 + r19)), (0, .ref (Y.2.1 0)), (1, .int x1), (3, .int x3)]) X dX6_sumOf_23 rfl (by decide) rfl rfl ?_
      refine zv_iinc (v := (x3 + 1)) (lv2 := [(3, .int (x3 + 1)), (2, .int (x2 + r19)), (0, .ref (Y.2.1 0)), (1, .int x1)]) X dX6_sumOf_24 3 rfl rfl (by decide) rfl rfl ?_
      refine zv_goto (tgt := 4) X dX6_sumOf_27 (by decide) ?_
      refine zv_sub (lv2 := [(0, .ref (Y.2.1 0)), (1, .int x1), (2, .int (x2 + r19)), (3, .int (x3 + 1))]) [2, 3, 1, 0] rfl ?_
      exact ih x1 (x2 + r19) (x3 + 1) _ h
def pX6_sumOf (x1 : Int32) (σ : zz_T) (Q : Int32 → zz_T → Prop) : Prop :=
    ∃ n4, pX6_sumOf_4  Q n4 x1 0 0 σ
set_option maxHeartbeats 4000000 in
set_option maxRecDepth 100000 in
theorem kX6_sumOf (l : Launch) {Y : zz_Y} (hJ : zz_J Y) (x1 : Int32) (hY : zz_mo Y) {σ : zz_T} {Q : Int32 → zz_T → Prop} (h : pX6_sumOf x1 σ Q) : zz_Mi l yX6_sumOf cX6_sumOf 4 (some .int) rmX6_sumOf Y [.ref (Y.2.1 0), .int x1] σ Q := by
  refine zz_Mi.start (by decide) hJ (Nat.le_of_ble_eq_true rfl) (fun p e s m below meth c X hr hlk => ?_)
  have X : zz_X p m c cX6_sumOf 4 s _ RX6 := X
  refine zv_sub (lv2 := [(0, .ref (Y.2.1 0)), (1, .int x1)]) [0, 1] rfl ?_
  unfold pX6_sumOf at h
  refine zv_iconst (v := 0) X dX6_sumOf_0 (by decide) rfl ?_
  refine zv_istore_n (lv2 := [(2, .int 0), (0, .ref (Y.2.1 0)), (1, .int x1)]) X dX6_sumOf_1 rfl (by decide) rfl rfl ?_
  refine zv_iconst (v := 0) X dX6_sumOf_2 (by decide) rfl ?_
  refine zv_istore_n (lv2 := [(3, .int 0), (2, .int 0), (0, .ref (Y.2.1 0)), (1, .int x1)]) X dX6_sumOf_3 rfl (by decide) rfl rfl ?_
  obtain ⟨n4, h⟩ := h
  refine zv_sub (lv2 := [(0, .ref (Y.2.1 0)), (1, .int x1), (2, .int 0), (3, .int 0)]) [2, 3, 1, 0] rfl ?_
  exact vX6_sumOf_4 X hr hlk hJ hY n4 x1 0 0 _ h
def rmX6_rule : Room := { frames := 2, cells := 0, slots := 0, locals := 45 }
def pX6_rule (x1 : Int32) (σ : zz_T) (Q : Int32 → zz_T → Prop) : Prop :=
    pX6_starts σ (fun s1 =>
    ((x1 = 0 → vp_in 33 210 ∧
    Q (s1.1 1 (Int32.toNatClampNeg 33)) s1) ∧
    (¬ x1 = 0 → ((x1 = 1 → vp_in 49 210 ∧
    Q (s1.1 1 (Int32.toNatClampNeg 49)) s1) ∧
    (¬ x1 = 1 → ((x1 = 2 → vp_in 50 210 ∧
    Q (s1.1 1 (Int32.toNatClampNeg 50)) s1) ∧
    (¬ x1 = 2 → ((x1 = 3 → vp_in ((34 + x1) - 3) 210 ∧
    Q (s1.1 1 (Int32.toNatClampNeg ((34 + x1) - 3))) s1) ∧
    (¬ x1 = 3 → ((x1 = 4 → vp_in ((34 + x1) - 3) 210 ∧
    Q (s1.1 1 (Int32.toNatClampNeg ((34 + x1) - 3))) s1) ∧
    (¬ x1 = 4 → ((x1 = 5 → vp_in ((34 + x1) - 3) 210 ∧
    Q (s1.1 1 (Int32.toNatClampNeg ((34 + x1) - 3))) s1) ∧
    (¬ x1 = 5 → ((x1 = 6 → pX6_sumOf 2 s1 (fun r90 s90 =>
    Q r90 s90)) ∧
    (¬ x1 = 6 → ((x1 = 7 → vp_in 50 70 ∧
    pX6_lineAt (s1.1 2 (Int32.toNatClampNeg 50)) s1 (fun r102 s102 =>
    Q r102 s102)) ∧
    (¬ x1 = 7 → Q (-1) s1)))))))))))))))))
set_option maxHeartbeats 4000000 in
set_option maxRecDepth 100000 in
theorem kX6_rule (l : Launch) {Y : zz_Y} (hJ : zz_J Y) (x1 : Int32) (hY : zz_mo Y) {σ : zz_T} {Q : Int32 → zz_T → Prop} (h : pX6_rule x1 σ Q) : zz_Mi l yX6_rule cX6_rule 2 (some .int) rmX6_rule Y [.ref (Y.2.1 0), .int x1] σ Q := by
  refine zz_Mi.start (by decide) hJ (Nat.le_of_ble_eq_true rfl) (fun p e s m below meth c X hr hlk => ?_)
  have X : zz_X p m c cX6_rule 2 s _ RX6 := X
  refine zv_sub (lv2 := [(0, .ref (Y.2.1 0)), (1, .int x1)]) [0, 1] rfl ?_
  unfold pX6_rule at h
  refine zv_aload_n X dX6_rule_0 0 rfl rfl rfl ?_
  refine zv_cVv (k := 0) (ci := 6) X [] (kX6_starts l hJ  hY h) jl_X6_209 ⟨rfl, rfl⟩ ⟨Nat.le_of_ble_eq_true rfl, Nat.le_of_ble_eq_true rfl⟩ (zz_mo_o hY).1 (by decide) (zz_mo_o hY).2 rfl rfl rfl (Nat.le_of_ble_eq_true rfl) dX6_rule_1 rfl (fun s1 h => ?_)
  refine zv_iload_n X dX6_rule_4 1 rfl rfl rfl ?_
  by_cases e5_0 : x1 = 0
  · replace h := h.1 e5_0
    refine zv_tableIn (tgt := 52) X 0 dX6_rule_5 e5_0 ⟨⟨by decide, by decide⟩, rfl⟩ (by decide) ?_
    refine zv_aload_n X dX6_rule_52 0 rfl rfl rfl ?_
    refine zg_X6_0 (k := 0) X (zz_mo_o hY).1 (zz_mo_o hY).2 fl_X6_7 dX6_rule_53 rfl ?_
    refine zv_bipush (v := 33) X dX6_rule_56 (by decide) rfl ?_
    obtain ⟨hi58, h⟩ := h
    refine zv_iald (k := 1) X (zz_mo_st hY).1 (zz_mo_st hY).2 hi58 dX6_rule_58 rfl ?_
    exact zv_iret X hr hlk h dX6_rule_59
  · replace h := h.2 e5_0
    by_cases e5_1 : x1 = 1
    · replace h := h.1 e5_1
      refine zv_tableIn (tgt := 60) X 1 dX6_rule_5 e5_1 ⟨⟨by decide, by decide⟩, rfl⟩ (by decide) ?_
      refine zv_aload_n X dX6_rule_60 0 rfl rfl rfl ?_
      refine zg_X6_0 (k := 0) X (zz_mo_o hY).1 (zz_mo_o hY).2 fl_X6_7 dX6_rule_61 rfl ?_
      refine zv_bipush (v := 49) X dX6_rule_64 (by decide) rfl ?_
      obtain ⟨hi66, h⟩ := h
      refine zv_iald (k := 1) X (zz_mo_st hY).1 (zz_mo_st hY).2 hi66 dX6_rule_66 rfl ?_
      exact zv_iret X hr hlk h dX6_rule_67
    · replace h := h.2 e5_1
      by_cases e5_2 : x1 = 2
      · replace h := h.1 e5_2
        refine zv_tableIn (tgt := 68) X 2 dX6_rule_5 e5_2 ⟨⟨by decide, by decide⟩, rfl⟩ (by decide) ?_
        refine zv_aload_n X dX6_rule_68 0 rfl rfl rfl ?_
        refine zg_X6_0 (k := 0) X (zz_mo_o hY).1 (zz_mo_o hY).2 fl_X6_7 dX6_rule_69 rfl ?_
        refine zv_bipush (v := 50) X dX6_rule_72 (by decide) rfl ?_
        obtain ⟨hi74, h⟩ := h
        refine zv_iald (k := 1) X (zz_mo_st hY).1 (zz_mo_st hY).2 hi74 dX6_rule_74 rfl ?_
        exact zv_iret X hr hlk h dX6_rule_75
      · replace h := h.2 e5_2
        by_cases e5_3 : x1 = 3
        · replace h := h.1 e5_3
          refine zv_tableIn (tgt := 76) X 3 dX6_rule_5 e5_3 ⟨⟨by decide, by decide⟩, rfl⟩ (by decide) ?_
          refine zv_aload_n X dX6_rule_76 0 rfl rfl rfl ?_
          refine zg_X6_0 (k := 0) X (zz_mo_o hY).1 (zz_mo_o hY).2 fl_X6_7 dX6_rule_77 rfl ?_
          refine zv_bipush (v := 34) X dX6_rule_80 (by decide) rfl ?_
          refine zv_iload_n X dX6_rule_82 1 rfl rfl rfl ?_
          refine zv_iadd X dX6_rule_83 rfl ?_
          refine zv_iconst (v := 3) X dX6_rule_84 (by decide) rfl ?_
          refine zv_isub X dX6_rule_85 rfl ?_
          obtain ⟨hi86, h⟩ := h
          refine zv_iald (k := 1) X (zz_mo_st hY).1 (zz_mo_st hY).2 hi86 dX6_rule_86 rfl ?_
          exact zv_iret X hr hlk h dX6_rule_87
        · replace h := h.2 e5_3
          by_cases e5_4 : x1 = 4
          · replace h := h.1 e5_4
            refine zv_tableIn (tgt := 76) X 4 dX6_rule_5 e5_4 ⟨⟨by decide, by decide⟩, rfl⟩ (by decide) ?_
            refine zv_aload_n X dX6_rule_76 0 rfl rfl rfl ?_
            refine zg_X6_0 (k := 0) X (zz_mo_o hY).1 (zz_mo_o hY).2 fl_X6_7 dX6_rule_77 rfl ?_
            refine zv_bipush (v := 34) X dX6_rule_80 (by decide) rfl ?_
            refine zv_iload_n X dX6_rule_82 1 rfl rfl rfl ?_
            refine zv_iadd X dX6_rule_83 rfl ?_
            refine zv_iconst (v := 3) X dX6_rule_84 (by decide) rfl ?_
            refine zv_isub X dX6_rule_85 rfl ?_
            obtain ⟨hi86, h⟩ := h
            refine zv_iald (k := 1) X (zz_mo_st hY).1 (zz_mo_st hY).2 hi86 dX6_rule_86 rfl ?_
            exact zv_iret X hr hlk h dX6_rule_87
          · replace h := h.2 e5_4
            by_cases e5_5 : x1 = 5
            · replace h := h.1 e5_5
              refine zv_tableIn (tgt := 76) X 5 dX6_rule_5 e5_5 ⟨⟨by decide, by decide⟩, rfl⟩ (by decide) ?_
              refine zv_aload_n X dX6_rule_76 0 rfl rfl rfl ?_
              refine zg_X6_0 (k := 0) X (zz_mo_o hY).1 (zz_mo_o hY).2 fl_X6_7 dX6_rule_77 rfl ?_
              refine zv_bipush (v := 34) X dX6_rule_80 (by decide) rfl ?_
              refine zv_iload_n X dX6_rule_82 1 rfl rfl rfl ?_
              refine zv_iadd X dX6_rule_83 rfl ?_
              refine zv_iconst (v := 3) X dX6_rule_84 (by decide) rfl ?_
              refine zv_isub X dX6_rule_85 rfl ?_
              obtain ⟨hi86, h⟩ := h
              refine zv_iald (k := 1) X (zz_mo_st hY).1 (zz_mo_st hY).2 hi86 dX6_rule_86 rfl ?_
              exact zv_iret X hr hlk h dX6_rule_87
            · replace h := h.2 e5_5
              by_cases e5_6 : x1 = 6
              · replace h := h.1 e5_6
                refine zv_tableIn (tgt := 88) X 6 dX6_rule_5 e5_6 ⟨⟨by decide, by decide⟩, rfl⟩ (by decide) ?_
                refine zv_aload_n X dX6_rule_88 0 rfl rfl rfl ?_
                refine zv_iconst (v := 2) X dX6_rule_89 (by decide) rfl ?_
                refine zv_cVi (k := 0) (ci := 6) X [.int 2] (kX6_sumOf l hJ 2 hY h) jl_X6_212 ⟨rfl, rfl⟩ ⟨Nat.le_of_ble_eq_true rfl, Nat.le_of_ble_eq_true rfl⟩ (zz_mo_o hY).1 (by decide) (zz_mo_o hY).2 rfl rfl rfl (Nat.le_of_ble_eq_true rfl) dX6_rule_90 rfl (fun r90 s90 h => ?_)
                exact zv_iret X hr hlk h dX6_rule_93
              · replace h := h.2 e5_6
                by_cases e5_7 : x1 = 7
                · replace h := h.1 e5_7
                  refine zv_tableIn (tgt := 94) X 7 dX6_rule_5 e5_7 ⟨⟨by decide, by decide⟩, rfl⟩ (by decide) ?_
                  refine zv_aload_n X dX6_rule_94 0 rfl rfl rfl ?_
                  refine zv_aload_n X dX6_rule_95 0 rfl rfl rfl ?_
                  refine zg_X6_1 (k := 0) X (zz_mo_o hY).1 (zz_mo_o hY).2 fl_X6_13 dX6_rule_96 rfl ?_
                  refine zv_bipush (v := 50) X dX6_rule_99 (by decide) rfl ?_
                  obtain ⟨hi101, h⟩ := h
                  refine zv_iald (k := 2) X (zz_mo_now hY).1 (zz_mo_now hY).2 hi101 dX6_rule_101 rfl ?_
                  refine zv_cVi (k := 0) (ci := 6) X [.int (s1.1 2 (Int32.toNatClampNeg 50))] (kX6_lineAt l hJ (s1.1 2 (Int32.toNatClampNeg 50)) hY h) jl_X6_199 ⟨rfl, rfl⟩ ⟨Nat.le_of_ble_eq_true rfl, Nat.le_of_ble_eq_true rfl⟩ (zz_mo_o hY).1 (by decide) (zz_mo_o hY).2 rfl rfl rfl (Nat.le_of_ble_eq_true rfl) dX6_rule_102 rfl (fun r102 s102 h => ?_)
                  exact zv_iret X hr hlk h dX6_rule_105
                · replace h := h.2 e5_7
                  refine zv_tableOut (tgt := 106) X dX6_rule_5 (by have := zz_nt e5_0 (z := 0) rfl; have := zz_nt e5_1 (z := 1) rfl; have := zz_nt e5_2 (z := 2) rfl; have := zz_nt e5_3 (z := 3) rfl; have := zz_nt e5_4 (z := 4) rfl; have := zz_nt e5_5 (z := 5) rfl; have := zz_nt e5_6 (z := 6) rfl; have := zz_nt e5_7 (z := 7) rfl; omega) (by decide) ?_
                  refine zv_iconst (v := (-1)) X dX6_rule_106 (by decide) rfl ?_
                  exact zv_iret X hr hlk h dX6_rule_107
def rmX6_head : Room := { frames := 2, cells := 0, slots := 0, locals := 46 }
def pX6_head (x1 : Int32) (x2 : Int32) (σ : zz_T) (Q : Int32 → zz_T → Prop) : Prop :=
    pX6_isHead x1 σ (fun r2 s2 =>
    ((r2 = 0 → Q (-1) s2) ∧
    (¬ r2 = 0 → pX6_in (Int32.toInt64 x2) 0 3 s2 (fun r14 s14 =>
    ((r14 = 0 → Q (-1) s14) ∧
    (¬ r14 = 0 → pX6_starts s14 (fun s23 =>
    ((x2 = 3 → pX6_heatsOf x1 s23 (fun r33 s33 =>
    Q r33 s33)) ∧
    (¬ x2 = 3 → pX6_of x1 x2 s23 (fun r42 s42 =>
    Q r42 s42))))))))))
set_option maxHeartbeats 4000000 in
set_option maxRecDepth 100000 in
theorem kX6_head (l : Launch) {Y : zz_Y} (hJ : zz_J Y) (x1 : Int32) (x2 : Int32) (hY : zz_mo Y) {σ : zz_T} {Q : Int32 → zz_T → Prop} (h : pX6_head x1 x2 σ Q) : zz_Mi l yX6_head cX6_head 3 (some .int) rmX6_head Y [.ref (Y.2.1 0), .int x1, .int x2] σ Q := by
  refine zz_Mi.start (by decide) hJ (Nat.le_of_ble_eq_true rfl) (fun p e s m below meth c X hr hlk => ?_)
  have X : zz_X p m c cX6_head 3 s _ RX6 := X
  refine zv_sub (lv2 := [(0, .ref (Y.2.1 0)), (1, .int x1), (2, .int x2)]) [0, 1, 2] rfl ?_
  unfold pX6_head at h
  refine zv_aload_n X dX6_head_0 0 rfl rfl rfl ?_
  refine zv_iload_n X dX6_head_1 1 rfl rfl rfl ?_
  refine zv_cVi (k := 0) (ci := 6) X [.int x1] (kX6_isHead l hJ x1 hY h) jl_X6_215 ⟨rfl, rfl⟩ ⟨Nat.le_of_ble_eq_true rfl, Nat.le_of_ble_eq_true rfl⟩ (zz_mo_o hY).1 (by decide) (zz_mo_o hY).2 rfl rfl rfl (Nat.le_of_ble_eq_true rfl) dX6_head_2 rfl (fun r2 s2 h => ?_)
  refine zv_if_eq (tgt := 20) X dX6_head_5 (by decide) rfl (fun q5 => ?_) (fun q5 => ?_)
  · replace h := h.1 q5
    refine zv_iconst (v := (-1)) X dX6_head_20 (by decide) rfl ?_
    exact zv_iret X hr hlk h dX6_head_21
  · replace h := h.2 q5
    refine zv_iload_n X dX6_head_8 2 rfl rfl rfl ?_
    refine zv_i2l X dX6_head_9 rfl ?_
    refine zv_lconst (v := 0) X dX6_head_10 (by decide) rfl ?_
    refine zv_ldc2 (v := 3) X dX6_head_11 co_X6_219 rfl ?_
    refine zv_cSi X [.long (Int32.toInt64 x2), .long 0, .long 3] (kX6_in l hJ (Int32.toInt64 x2) 0 3  h) jl_X6_67 ⟨rfl, rfl⟩ ⟨Nat.le_of_ble_eq_true rfl, Nat.le_of_ble_eq_true rfl⟩ rfl rfl (Nat.le_of_ble_eq_true rfl) dX6_head_14 rfl (fun r14 s14 h => ?_)
    refine zv_if_ne (tgt := 22) X dX6_head_17 (by decide) rfl (fun q17 => ?_) (fun q17 => ?_)
    · replace h := h.2 q17
      refine zv_aload_n X dX6_head_22 0 rfl rfl rfl ?_
      refine zv_cVv (k := 0) (ci := 6) X [] (kX6_starts l hJ  hY h) jl_X6_209 ⟨rfl, rfl⟩ ⟨Nat.le_of_ble_eq_true rfl, Nat.le_of_ble_eq_true rfl⟩ (zz_mo_o hY).1 (by decide) (zz_mo_o hY).2 rfl rfl rfl (Nat.le_of_ble_eq_true rfl) dX6_head_23 rfl (fun s23 h => ?_)
      refine zv_iload_n X dX6_head_26 2 rfl rfl rfl ?_
      refine zv_iconst (v := 3) X dX6_head_27 (by decide) rfl ?_
      refine zv_icmp_ne (tgt := 39) X dX6_head_28 (by decide) rfl (fun q28 => ?_) (fun q28 => ?_)
      · replace h := h.2 q28
        refine zv_aload_n X dX6_head_39 0 rfl rfl rfl ?_
        refine zv_iload_n X dX6_head_40 1 rfl rfl rfl ?_
        refine zv_iload_n X dX6_head_41 2 rfl rfl rfl ?_
        refine zv_cVi (k := 0) (ci := 6) X [.int x1, .int x2] (kX6_of l hJ x1 x2 hY h) jl_X6_161 ⟨rfl, rfl⟩ ⟨Nat.le_of_ble_eq_true rfl, Nat.le_of_ble_eq_true rfl⟩ (zz_mo_o hY).1 (by decide) (zz_mo_o hY).2 rfl rfl rfl (Nat.le_of_ble_eq_true rfl) dX6_head_42 rfl (fun r42 s42 h => ?_)
        exact zv_iret X hr hlk h dX6_head_45
      · replace h := h.1 q28
        refine zv_aload_n X dX6_head_31 0 rfl rfl rfl ?_
        refine zv_iload_n X dX6_head_32 1 rfl rfl rfl ?_
        refine zv_cVi (k := 0) (ci := 6) X [.int x1] (kX6_heatsOf l hJ x1 hY h) jl_X6_221 ⟨rfl, rfl⟩ ⟨Nat.le_of_ble_eq_true rfl, Nat.le_of_ble_eq_true rfl⟩ (zz_mo_o hY).1 (by decide) (zz_mo_o hY).2 rfl rfl rfl (Nat.le_of_ble_eq_true rfl) dX6_head_33 rfl (fun r33 s33 h => ?_)
        refine zv_goto (tgt := 45) X dX6_head_36 (by decide) ?_
        exact zv_iret X hr hlk h dX6_head_45
    · replace h := h.1 q17
      refine zv_iconst (v := (-1)) X dX6_head_20 (by decide) rfl ?_
      exact zv_iret X hr hlk h dX6_head_21
def rmX6_dot : Room := { frames := 2, cells := 0, slots := 0, locals := 50 }
def pX6_dot (x1 : Int32) (x2 : Int32) (x3 : Int32) (σ : zz_T) (Q : Int32 → zz_T → Prop) : Prop :=
    pX6_isHead x1 σ (fun r2 s2 =>
    ((r2 = 0 → Q (-1) s2) ∧
    (¬ r2 = 0 → pX6_isDot x2 s2 (fun r9 s9 =>
    ((r9 = 0 → Q (-1) s9) ∧
    (¬ r9 = 0 → pX6_isPart x3 s9 (fun r16 s16 =>
    ((r16 = 0 → Q (-1) s16) ∧
    (¬ r16 = 0 → pX6_starts s16 (fun s25 =>
    ((x3 = 0 → pX6_heat x1 x2 s25 (fun r35 s35 =>
    Q r35 s35)) ∧
    (¬ x3 = 0 → vp_in 50 70 ∧
    pX6_lineAt (s25.1 2 (Int32.toNatClampNeg 50)) s25 (fun r52 s52 =>
    vp_in 50 70 ∧
    pX6_lineAt ((s52.1 2 (Int32.toNatClampNeg 50)) + 1) s52 (fun r65 s65 =>
    pX6_gets x1 x2 r52 r65 s65 (fun r68 s68 =>
    Q r68 s68)))))))))))))))
set_option maxHeartbeats 4000000 in
set_option maxRecDepth 100000 in
theorem kX6_dot (l : Launch) {Y : zz_Y} (hJ : zz_J Y) (x1 : Int32) (x2 : Int32) (x3 : Int32) (hY : zz_mo Y) {σ : zz_T} {Q : Int32 → zz_T → Prop} (h : pX6_dot x1 x2 x3 σ Q) : zz_Mi l yX6_dot cX6_dot 4 (some .int) rmX6_dot Y [.ref (Y.2.1 0), .int x1, .int x2, .int x3] σ Q := by
  refine zz_Mi.start (by decide) hJ (Nat.le_of_ble_eq_true rfl) (fun p e s m below meth c X hr hlk => ?_)
  have X : zz_X p m c cX6_dot 4 s _ RX6 := X
  refine zv_sub (lv2 := [(0, .ref (Y.2.1 0)), (1, .int x1), (2, .int x2), (3, .int x3)]) [0, 1, 2, 3] rfl ?_
  unfold pX6_dot at h
  refine zv_aload_n X dX6_dot_0 0 rfl rfl rfl ?_
  refine zv_iload_n X dX6_dot_1 1 rfl rfl rfl ?_
  refine zv_cVi (k := 0) (ci := 6) X [.int x1] (kX6_isHead l hJ x1 hY h) jl_X6_215 ⟨rfl, rfl⟩ ⟨Nat.le_of_ble_eq_true rfl, Nat.le_of_ble_eq_true rfl⟩ (zz_mo_o hY).1 (by decide) (zz_mo_o hY).2 rfl rfl rfl (Nat.le_of_ble_eq_true rfl) dX6_dot_2 rfl (fun r2 s2 h => ?_)
  refine zv_if_eq (tgt := 22) X dX6_dot_5 (by decide) rfl (fun q5 => ?_) (fun q5 => ?_)
  · replace h := h.1 q5
    refine zv_iconst (v := (-1)) X dX6_dot_22 (by decide) rfl ?_
    exact zv_iret X hr hlk h dX6_dot_23
  · replace h := h.2 q5
    refine zv_iload_n X dX6_dot_8 2 rfl rfl rfl ?_
    refine zv_cSi X [.int x2] (kX6_isDot l hJ x2  h) jl_X6_224 ⟨rfl, rfl⟩ ⟨Nat.le_of_ble_eq_true rfl, Nat.le_of_ble_eq_true rfl⟩ rfl rfl (Nat.le_of_ble_eq_true rfl) dX6_dot_9 rfl (fun r9 s9 h => ?_)
    refine zv_if_eq (tgt := 22) X dX6_dot_12 (by decide) rfl (fun q12 => ?_) (fun q12 => ?_)
    · replace h := h.1 q12
      refine zv_iconst (v := (-1)) X dX6_dot_22 (by decide) rfl ?_
      exact zv_iret X hr hlk h dX6_dot_23
    · replace h := h.2 q12
      refine zv_iload_n X dX6_dot_15 3 rfl rfl rfl ?_
      refine zv_cSi X [.int x3] (kX6_isPart l hJ x3  h) jl_X6_227 ⟨rfl, rfl⟩ ⟨Nat.le_of_ble_eq_true rfl, Nat.le_of_ble_eq_true rfl⟩ rfl rfl (Nat.le_of_ble_eq_true rfl) dX6_dot_16 rfl (fun r16 s16 h => ?_)
      refine zv_if_ne (tgt := 24) X dX6_dot_19 (by decide) rfl (fun q19 => ?_) (fun q19 => ?_)
      · replace h := h.2 q19
        refine zv_aload_n X dX6_dot_24 0 rfl rfl rfl ?_
        refine zv_cVv (k := 0) (ci := 6) X [] (kX6_starts l hJ  hY h) jl_X6_209 ⟨rfl, rfl⟩ ⟨Nat.le_of_ble_eq_true rfl, Nat.le_of_ble_eq_true rfl⟩ (zz_mo_o hY).1 (by decide) (zz_mo_o hY).2 rfl rfl rfl (Nat.le_of_ble_eq_true rfl) dX6_dot_25 rfl (fun s25 h => ?_)
        refine zv_iload_n X dX6_dot_28 3 rfl rfl rfl ?_
        refine zv_if_ne (tgt := 41) X dX6_dot_29 (by decide) rfl (fun q29 => ?_) (fun q29 => ?_)
        · replace h := h.2 q29
          refine zv_aload_n X dX6_dot_41 0 rfl rfl rfl ?_
          refine zv_iload_n X dX6_dot_42 1 rfl rfl rfl ?_
          refine zv_iload_n X dX6_dot_43 2 rfl rfl rfl ?_
          refine zv_aload_n X dX6_dot_44 0 rfl rfl rfl ?_
          refine zv_aload_n X dX6_dot_45 0 rfl rfl rfl ?_
          refine zg_X6_1 (k := 0) X (zz_mo_o hY).1 (zz_mo_o hY).2 fl_X6_13 dX6_dot_46 rfl ?_
          refine zv_bipush (v := 50) X dX6_dot_49 (by decide) rfl ?_
          obtain ⟨hi51, h⟩ := h
          refine zv_iald (k := 2) X (zz_mo_now hY).1 (zz_mo_now hY).2 hi51 dX6_dot_51 rfl ?_
          refine zv_cVi (k := 0) (ci := 6) X [.int (s25.1 2 (Int32.toNatClampNeg 50))] (kX6_lineAt l hJ (s25.1 2 (Int32.toNatClampNeg 50)) hY h) jl_X6_199 ⟨rfl, rfl⟩ ⟨Nat.le_of_ble_eq_true rfl, Nat.le_of_ble_eq_true rfl⟩ (zz_mo_o hY).1 (by decide) (zz_mo_o hY).2 rfl rfl rfl (Nat.le_of_ble_eq_true rfl) dX6_dot_52 rfl (fun r52 s52 h => ?_)
          refine zv_aload_n X dX6_dot_55 0 rfl rfl rfl ?_
          refine zv_aload_n X dX6_dot_56 0 rfl rfl rfl ?_
          refine zg_X6_1 (k := 0) X (zz_mo_o hY).1 (zz_mo_o hY).2 fl_X6_13 dX6_dot_57 rfl ?_
          refine zv_bipush (v := 50) X dX6_dot_60 (by decide) rfl ?_
          obtain ⟨hi62, h⟩ := h
          refine zv_iald (k := 2) X (zz_mo_now hY).1 (zz_mo_now hY).2 hi62 dX6_dot_62 rfl ?_
          refine zv_iconst (v := 1) X dX6_dot_63 (by decide) rfl ?_
          refine zv_iadd X dX6_dot_64 rfl ?_
          refine zv_cVi (k := 0) (ci := 6) X [.int ((s52.1 2 (Int32.toNatClampNeg 50)) + 1)] (kX6_lineAt l hJ ((s52.1 2 (Int32.toNatClampNeg 50)) + 1) hY h) jl_X6_199 ⟨rfl, rfl⟩ ⟨Nat.le_of_ble_eq_true rfl, Nat.le_of_ble_eq_true rfl⟩ (zz_mo_o hY).1 (by decide) (zz_mo_o hY).2 rfl rfl rfl (Nat.le_of_ble_eq_true rfl) dX6_dot_65 rfl (fun r65 s65 h => ?_)
          refine zv_cVi (k := 0) (ci := 6) X [.int x1, .int x2, .int r52, .int r65] (kX6_gets l hJ x1 x2 r52 r65 hY h) jl_X6_182 ⟨rfl, rfl⟩ ⟨Nat.le_of_ble_eq_true rfl, Nat.le_of_ble_eq_true rfl⟩ (zz_mo_o hY).1 (by decide) (zz_mo_o hY).2 rfl rfl rfl (Nat.le_of_ble_eq_true rfl) dX6_dot_68 rfl (fun r68 s68 h => ?_)
          exact zv_iret X hr hlk h dX6_dot_71
        · replace h := h.1 q29
          refine zv_aload_n X dX6_dot_32 0 rfl rfl rfl ?_
          refine zv_iload_n X dX6_dot_33 1 rfl rfl rfl ?_
          refine zv_iload_n X dX6_dot_34 2 rfl rfl rfl ?_
          refine zv_cVi (k := 0) (ci := 6) X [.int x1, .int x2] (kX6_heat l hJ x1 x2 hY h) jl_X6_167 ⟨rfl, rfl⟩ ⟨Nat.le_of_ble_eq_true rfl, Nat.le_of_ble_eq_true rfl⟩ (zz_mo_o hY).1 (by decide) (zz_mo_o hY).2 rfl rfl rfl (Nat.le_of_ble_eq_true rfl) dX6_dot_35 rfl (fun r35 s35 h => ?_)
          refine zv_goto (tgt := 71) X dX6_dot_38 (by decide) ?_
          exact zv_iret X hr hlk h dX6_dot_71
      · replace h := h.1 q19
        refine zv_iconst (v := (-1)) X dX6_dot_22 (by decide) rfl ?_
        exact zv_iret X hr hlk h dX6_dot_23
def rmX6_line : Room := { frames := 2, cells := 0, slots := 0, locals := 46 }
def pX6_line (x1 : Int32) (σ : zz_T) (Q : Int32 → zz_T → Prop) : Prop :=
    pX6_isLine x1 σ (fun r2 s2 =>
    ((r2 = 0 → Q (-1) s2) ∧
    (¬ r2 = 0 → vp_in (37 + x1) 210 ∧
    Q (s2.1 1 (Int32.toNatClampNeg (37 + x1))) s2)))
set_option maxHeartbeats 4000000 in
set_option maxRecDepth 100000 in
theorem kX6_line (l : Launch) {Y : zz_Y} (hJ : zz_J Y) (x1 : Int32) (hY : zz_mo Y) {σ : zz_T} {Q : Int32 → zz_T → Prop} (h : pX6_line x1 σ Q) : zz_Mi l yX6_line cX6_line 2 (some .int) rmX6_line Y [.ref (Y.2.1 0), .int x1] σ Q := by
  refine zz_Mi.start (by decide) hJ (Nat.le_of_ble_eq_true rfl) (fun p e s m below meth c X hr hlk => ?_)
  have X : zz_X p m c cX6_line 2 s _ RX6 := X
  refine zv_sub (lv2 := [(0, .ref (Y.2.1 0)), (1, .int x1)]) [0, 1] rfl ?_
  unfold pX6_line at h
  refine zv_aload_n X dX6_line_0 0 rfl rfl rfl ?_
  refine zv_iload_n X dX6_line_1 1 rfl rfl rfl ?_
  refine zv_cVi (k := 0) (ci := 6) X [.int x1] (kX6_isLine l hJ x1 hY h) jl_X6_230 ⟨rfl, rfl⟩ ⟨Nat.le_of_ble_eq_true rfl, Nat.le_of_ble_eq_true rfl⟩ (zz_mo_o hY).1 (by decide) (zz_mo_o hY).2 rfl rfl rfl (Nat.le_of_ble_eq_true rfl) dX6_line_2 rfl (fun r2 s2 h => ?_)
  refine zv_if_eq (tgt := 20) X dX6_line_5 (by decide) rfl (fun q5 => ?_) (fun q5 => ?_)
  · replace h := h.1 q5
    refine zv_iconst (v := (-1)) X dX6_line_20 (by decide) rfl ?_
    exact zv_iret X hr hlk h dX6_line_21
  · replace h := h.2 q5
    refine zv_aload_n X dX6_line_8 0 rfl rfl rfl ?_
    refine zg_X6_0 (k := 0) X (zz_mo_o hY).1 (zz_mo_o hY).2 fl_X6_7 dX6_line_9 rfl ?_
    refine zv_bipush (v := 37) X dX6_line_12 (by decide) rfl ?_
    refine zv_iload_n X dX6_line_14 1 rfl rfl rfl ?_
    refine zv_iadd X dX6_line_15 rfl ?_
    obtain ⟨hi16, h⟩ := h
    refine zv_iald (k := 1) X (zz_mo_st hY).1 (zz_mo_st hY).2 hi16 dX6_line_16 rfl ?_
    refine zv_goto (tgt := 21) X dX6_line_17 (by decide) ?_
    exact zv_iret X hr hlk h dX6_line_21
def rmX6_becomes : Room := { frames := 0, cells := 0, slots := 0, locals := 0 }
def pX6_becomes (x1 : Int32) (x2 : Int32) (σ : zz_T) (Q : Int32 → zz_T → Prop) : Prop :=
    vp_in x1 210 ∧
    vp_in x1 210 ∧
    Q (σ.1 1 (Int32.toNatClampNeg x1)) (zz_i σ 1 (Int32.toNatClampNeg x1) x2)
set_option maxHeartbeats 4000000 in
set_option maxRecDepth 100000 in
theorem kX6_becomes (l : Launch) {Y : zz_Y} (hJ : zz_J Y) (x1 : Int32) (x2 : Int32) (hY : zz_mo Y) {σ : zz_T} {Q : Int32 → zz_T → Prop} (h : pX6_becomes x1 x2 σ Q) : zz_Mi l yX6_becomes cX6_becomes 4 (some .int) rmX6_becomes Y [.ref (Y.2.1 0), .int x1, .int x2] σ Q := by
  refine zz_Mi.start (by decide) hJ (Nat.le_of_ble_eq_true rfl) (fun p e s m below meth c X hr hlk => ?_)
  have X : zz_X p m c cX6_becomes 4 s _ RX6 := X
  refine zv_sub (lv2 := [(0, .ref (Y.2.1 0)), (1, .int x1), (2, .int x2)]) [0, 1, 2] rfl ?_
  unfold pX6_becomes at h
  refine zv_aload_n X dX6_becomes_0 0 rfl rfl rfl ?_
  refine zg_X6_0 (k := 0) X (zz_mo_o hY).1 (zz_mo_o hY).2 fl_X6_7 dX6_becomes_1 rfl ?_
  refine zv_iload_n X dX6_becomes_4 1 rfl rfl rfl ?_
  obtain ⟨hi5, h⟩ := h
  refine zv_iald (k := 1) X (zz_mo_st hY).1 (zz_mo_st hY).2 hi5 dX6_becomes_5 rfl ?_
  refine zv_istore_n (lv2 := [(3, .int (σ.1 1 (Int32.toNatClampNeg x1))), (0, .ref (Y.2.1 0)), (1, .int x1), (2, .int x2)]) X dX6_becomes_6 rfl (by decide) rfl rfl ?_
  refine zv_aload_n X dX6_becomes_7 1 rfl rfl rfl ?_
  refine zg_X6_0 (k := 0) X (zz_mo_o hY).1 (zz_mo_o hY).2 fl_X6_7 dX6_becomes_8 rfl ?_
  refine zv_iload_n X dX6_becomes_11 2 rfl rfl rfl ?_
  refine zv_iload_n X dX6_becomes_12 3 rfl rfl rfl ?_
  obtain ⟨hi13, h⟩ := h
  refine zv_iast (k := 1) X (zz_mo_st hY).1 (zz_mo_st hY).2 hi13 dX6_becomes_13 rfl ?_
  refine zv_iload_n X dX6_becomes_14 0 rfl rfl rfl ?_
  exact zv_iret X hr hlk h dX6_becomes_15
def rmX6_alter : Room := { frames := 2, cells := 0, slots := 0, locals := 46 }
def pX6_alter_38  (Q : Int32 → zz_T → Prop) (x1 : Int32) (x2 : Int32) (x3 : Int32) (t0 : Int32) (σ : zz_T) : Prop :=
    pX6_isHead x1 σ (fun r42 s42 =>
    ((r42 = 0 → Q (-1) s42) ∧
    (¬ r42 = 0 → ((t0 = 0 → Q (-1) s42) ∧
    (¬ t0 = 0 → pX6_becomes ((11 * x1) + x2) x3 s42 (fun r61 s61 =>
    Q r61 s61))))))
set_option maxHeartbeats 4000000 in
set_option maxRecDepth 100000 in
theorem vX6_alter_38 {p : Program} {l : Launch} {e : Env} {s : State} {m : MethodId} {args : Array Value} {below : List Frame} {meth : Method} {c : Code} {Y : zz_Y}  {Q : Int32 → zz_T → Prop} (X : zz_X p m c cX6_alter 5 s args RX6) (hr : meth.sig.returnType = (some .int)) (hlk : meth.locks = false) (hJ : zz_J Y) (hY : zz_mo Y)  : ∀ (x1 : Int32) (x2 : Int32) (x3 : Int32) (t0 : Int32) (σ : zz_T), pX6_alter_38  Q x1 x2 x3 t0 σ → zz_V p l e rmX6_alter s m args below meth c (MQ below (va_Qi Q (zz_E Y) (zz_A Y)) args s 0 0 (zz_A Y)) 5 Y σ 38 [(0, .ref (Y.2.1 0)), (1, .int x1), (2, .int x2), (3, .int x3)] [.int t0] := by
  intro x1 x2 x3 t0 σ h 
  unfold pX6_alter_38 at h
  refine zv_istore (lv2 := [(4, .int t0), (0, .ref (Y.2.1 0)), (1, .int x1), (2, .int x2), (3, .int x3)]) X dX6_alter_38 (by decide) rfl rfl ?_
  refine zv_aload_n X dX6_alter_40 1 rfl rfl rfl ?_
  refine zv_iload_n X dX6_alter_41 2 rfl rfl rfl ?_
  refine zv_cVi (k := 0) (ci := 6) X [.int x1] (kX6_isHead l hJ x1 hY h) jl_X6_215 ⟨rfl, rfl⟩ ⟨Nat.le_of_ble_eq_true rfl, Nat.le_of_ble_eq_true rfl⟩ (zz_mo_o hY).1 (by decide) (zz_mo_o hY).2 rfl rfl rfl (Nat.le_of_ble_eq_true rfl) dX6_alter_42 rfl (fun r42 s42 h => ?_)
  refine zv_if_eq (tgt := 67) X dX6_alter_45 (by decide) rfl (fun q45 => ?_) (fun q45 => ?_)
  · replace h := h.1 q45
    refine zv_iconst (v := (-1)) X dX6_alter_67 (by decide) rfl ?_
    exact zv_iret X hr hlk h dX6_alter_68
  · replace h := h.2 q45
    refine zv_iload X dX6_alter_48 0 rfl rfl ?_
    refine zv_if_eq (tgt := 67) X dX6_alter_50 (by decide) rfl (fun q50 => ?_) (fun q50 => ?_)
    · replace h := h.1 q50
      refine zv_iconst (v := (-1)) X dX6_alter_67 (by decide) rfl ?_
      exact zv_iret X hr hlk h dX6_alter_68
    · replace h := h.2 q50
      refine zv_aload_n X dX6_alter_53 1 rfl rfl rfl ?_
      refine zv_bipush (v := 11) X dX6_alter_54 (by decide) rfl ?_
      refine zv_iload_n X dX6_alter_56 2 rfl rfl rfl ?_
      refine zv_imul X dX6_alter_57 rfl ?_
      refine zv_iload_n X dX6_alter_58 3 rfl rfl rfl ?_
      refine zv_iadd X dX6_alter_59 rfl ?_
      refine zv_iload_n X dX6_alter_60 4 rfl rfl rfl ?_
      refine zv_cVi (k := 0) (ci := 6) X [.int ((11 * x1) + x2), .int x3] (kX6_becomes l hJ ((11 * x1) + x2) x3 hY h) jl_X6_235 ⟨rfl, rfl⟩ ⟨Nat.le_of_ble_eq_true rfl, Nat.le_of_ble_eq_true rfl⟩ (zz_mo_o hY).1 (by decide) (zz_mo_o hY).2 rfl rfl rfl (Nat.le_of_ble_eq_true rfl) dX6_alter_61 rfl (fun r61 s61 h => ?_)
      refine zv_goto (tgt := 68) X dX6_alter_64 (by decide) ?_
      exact zv_iret X hr hlk h dX6_alter_68
def pX6_alter_37  (Q : Int32 → zz_T → Prop) (x1 : Int32) (x2 : Int32) (x3 : Int32) (σ : zz_T) : Prop :=
    pX6_alter_38  Q x1 x2 x3 0 σ
set_option maxHeartbeats 4000000 in
set_option maxRecDepth 100000 in
theorem vX6_alter_37 {p : Program} {l : Launch} {e : Env} {s : State} {m : MethodId} {args : Array Value} {below : List Frame} {meth : Method} {c : Code} {Y : zz_Y}  {Q : Int32 → zz_T → Prop} (X : zz_X p m c cX6_alter 5 s args RX6) (hr : meth.sig.returnType = (some .int)) (hlk : meth.locks = false) (hJ : zz_J Y) (hY : zz_mo Y)  : ∀ (x1 : Int32) (x2 : Int32) (x3 : Int32) (σ : zz_T), pX6_alter_37  Q x1 x2 x3 σ → zz_V p l e rmX6_alter s m args below meth c (MQ below (va_Qi Q (zz_E Y) (zz_A Y)) args s 0 0 (zz_A Y)) 5 Y σ 37 [(0, .ref (Y.2.1 0)), (1, .int x1), (2, .int x2), (3, .int x3)] [] := by
  intro x1 x2 x3 σ h 
  unfold pX6_alter_37 at h
  refine zv_iconst (v := 0) X dX6_alter_37 (by decide) rfl ?_
  exact vX6_alter_38 X hr hlk hJ hY x1 x2 x3 0 _ h
def pX6_alter (x1 : Int32) (x2 : Int32) (x3 : Int32) (σ : zz_T) (Q : Int32 → zz_T → Prop) : Prop :=
    ((x2 = 0 → pX6_in (Int32.toInt64 x3) 0 3 σ (fun r10 s10 =>
    pX6_alter_38  Q x1 x2 x3 r10 s10)) ∧
    (¬ x2 = 0 → ((x2 = 1 → pX6_in (Int32.toInt64 x3) 0 30 σ (fun r27 s27 =>
    ((r27 = 0 → pX6_alter_37  Q x1 x2 x3 s27) ∧
    (¬ r27 = 0 → pX6_alter_38  Q x1 x2 x3 1 s27)))) ∧
    (¬ x2 = 1 → pX6_alter_37  Q x1 x2 x3 σ))))
set_option maxHeartbeats 4000000 in
set_option maxRecDepth 100000 in
theorem kX6_alter (l : Launch) {Y : zz_Y} (hJ : zz_J Y) (x1 : Int32) (x2 : Int32) (x3 : Int32) (hY : zz_mo Y) {σ : zz_T} {Q : Int32 → zz_T → Prop} (h : pX6_alter x1 x2 x3 σ Q) : zz_Mi l yX6_alter cX6_alter 5 (some .int) rmX6_alter Y [.ref (Y.2.1 0), .int x1, .int x2, .int x3] σ Q := by
  refine zz_Mi.start (by decide) hJ (Nat.le_of_ble_eq_true rfl) (fun p e s m below meth c X hr hlk => ?_)
  have X : zz_X p m c cX6_alter 5 s _ RX6 := X
  refine zv_sub (lv2 := [(0, .ref (Y.2.1 0)), (1, .int x1), (2, .int x2), (3, .int x3)]) [0, 1, 2, 3] rfl ?_
  unfold pX6_alter at h
  refine zv_iload_n X dX6_alter_0 2 rfl rfl rfl ?_
  refine zv_if_ne (tgt := 16) X dX6_alter_1 (by decide) rfl (fun q1 => ?_) (fun q1 => ?_)
  · replace h := h.2 q1
    refine zv_iload_n X dX6_alter_16 2 rfl rfl rfl ?_
    refine zv_iconst (v := 1) X dX6_alter_17 (by decide) rfl ?_
    refine zv_icmp_ne (tgt := 37) X dX6_alter_18 (by decide) rfl (fun q18 => ?_) (fun q18 => ?_)
    · replace h := h.2 q18
      exact vX6_alter_37 X hr hlk hJ hY x1 x2 x3 _ h
    · replace h := h.1 q18
      refine zv_iload_n X dX6_alter_21 3 rfl rfl rfl ?_
      refine zv_i2l X dX6_alter_22 rfl ?_
      refine zv_lconst (v := 0) X dX6_alter_23 (by decide) rfl ?_
      refine zv_ldc2 (v := 30) X dX6_alter_24 co_X6_233 rfl ?_
      refine zv_cSi X [.long (Int32.toInt64 x3), .long 0, .long 30] (kX6_in l hJ (Int32.toInt64 x3) 0 30  h) jl_X6_67 ⟨rfl, rfl⟩ ⟨Nat.le_of_ble_eq_true rfl, Nat.le_of_ble_eq_true rfl⟩ rfl rfl (Nat.le_of_ble_eq_true rfl) dX6_alter_27 rfl (fun r27 s27 h => ?_)
      refine zv_if_eq (tgt := 37) X dX6_alter_30 (by decide) rfl (fun q30 => ?_) (fun q30 => ?_)
      · replace h := h.1 q30
        exact vX6_alter_37 X hr hlk hJ hY x1 x2 x3 _ h
      · replace h := h.2 q30
        refine zv_iconst (v := 1) X dX6_alter_33 (by decide) rfl ?_
        refine zv_goto (tgt := 38) X dX6_alter_34 (by decide) ?_
        exact vX6_alter_38 X hr hlk hJ hY x1 x2 x3 1 _ h
  · replace h := h.1 q1
    refine zv_iload_n X dX6_alter_4 3 rfl rfl rfl ?_
    refine zv_i2l X dX6_alter_5 rfl ?_
    refine zv_lconst (v := 0) X dX6_alter_6 (by decide) rfl ?_
    refine zv_ldc2 (v := 3) X dX6_alter_7 co_X6_219 rfl ?_
    refine zv_cSi X [.long (Int32.toInt64 x3), .long 0, .long 3] (kX6_in l hJ (Int32.toInt64 x3) 0 3  h) jl_X6_67 ⟨rfl, rfl⟩ ⟨Nat.le_of_ble_eq_true rfl, Nat.le_of_ble_eq_true rfl⟩ rfl rfl (Nat.le_of_ble_eq_true rfl) dX6_alter_10 rfl (fun r10 s10 h => ?_)
    refine zv_goto (tgt := 38) X dX6_alter_13 (by decide) ?_
    exact vX6_alter_38 X hr hlk hJ hY x1 x2 x3 r10 _ h
def rmX6_tell : Room := { frames := 1, cells := 0, slots := 0, locals := 25 }
def pX6_tell (x1 : Int32) (x2 : Int32) (σ : zz_T) (Q : Int32 → zz_T → Prop) : Prop :=
    pX6_in (Int32.toInt64 x1) 0 2 σ (fun r6 s6 =>
    ((r6 = 0 → Q (-1) s6) ∧
    (¬ r6 = 0 → pX6_lowOf x1 s6 (fun r15 s15 =>
    pX6_mostOf x1 s15 (fun r20 s20 =>
    pX6_in (Int32.toInt64 x2) (Int32.toInt64 r15) (Int32.toInt64 r20) s20 (fun r24 s24 =>
    ((r24 = 0 → Q (-1) s24) ∧
    (¬ r24 = 0 → pX6_becomes (34 + x1) x2 s24 (fun r36 s36 =>
    Q r36 s36)))))))))
set_option maxHeartbeats 4000000 in
set_option maxRecDepth 100000 in
theorem kX6_tell (l : Launch) {Y : zz_Y} (hJ : zz_J Y) (x1 : Int32) (x2 : Int32) (hY : zz_mo Y) {σ : zz_T} {Q : Int32 → zz_T → Prop} (h : pX6_tell x1 x2 σ Q) : zz_Mi l yX6_tell cX6_tell 3 (some .int) rmX6_tell Y [.ref (Y.2.1 0), .int x1, .int x2] σ Q := by
  refine zz_Mi.start (by decide) hJ (Nat.le_of_ble_eq_true rfl) (fun p e s m below meth c X hr hlk => ?_)
  have X : zz_X p m c cX6_tell 3 s _ RX6 := X
  refine zv_sub (lv2 := [(0, .ref (Y.2.1 0)), (1, .int x1), (2, .int x2)]) [0, 1, 2] rfl ?_
  unfold pX6_tell at h
  refine zv_iload_n X dX6_tell_0 1 rfl rfl rfl ?_
  refine zv_i2l X dX6_tell_1 rfl ?_
  refine zv_lconst (v := 0) X dX6_tell_2 (by decide) rfl ?_
  refine zv_ldc2 (v := 2) X dX6_tell_3 co_X6_238 rfl ?_
  refine zv_cSi X [.long (Int32.toInt64 x1), .long 0, .long 2] (kX6_in l hJ (Int32.toInt64 x1) 0 2  h) jl_X6_67 ⟨rfl, rfl⟩ ⟨Nat.le_of_ble_eq_true rfl, Nat.le_of_ble_eq_true rfl⟩ rfl rfl (Nat.le_of_ble_eq_true rfl) dX6_tell_6 rfl (fun r6 s6 h => ?_)
  refine zv_if_eq (tgt := 42) X dX6_tell_9 (by decide) rfl (fun q9 => ?_) (fun q9 => ?_)
  · replace h := h.1 q9
    refine zv_iconst (v := (-1)) X dX6_tell_42 (by decide) rfl ?_
    exact zv_iret X hr hlk h dX6_tell_43
  · replace h := h.2 q9
    refine zv_iload_n X dX6_tell_12 2 rfl rfl rfl ?_
    refine zv_i2l X dX6_tell_13 rfl ?_
    refine zv_iload_n X dX6_tell_14 1 rfl rfl rfl ?_
    refine zv_cSi X [.int x1] (kX6_lowOf l hJ x1  h) jl_X6_127 ⟨rfl, rfl⟩ ⟨Nat.le_of_ble_eq_true rfl, Nat.le_of_ble_eq_true rfl⟩ rfl rfl (Nat.le_of_ble_eq_true rfl) dX6_tell_15 rfl (fun r15 s15 h => ?_)
    refine zv_i2l X dX6_tell_18 rfl ?_
    refine zv_iload_n X dX6_tell_19 1 rfl rfl rfl ?_
    refine zv_cSi X [.int x1] (kX6_mostOf l hJ x1  h) jl_X6_130 ⟨rfl, rfl⟩ ⟨Nat.le_of_ble_eq_true rfl, Nat.le_of_ble_eq_true rfl⟩ rfl rfl (Nat.le_of_ble_eq_true rfl) dX6_tell_20 rfl (fun r20 s20 h => ?_)
    refine zv_i2l X dX6_tell_23 rfl ?_
    refine zv_cSi X [.long (Int32.toInt64 x2), .long (Int32.toInt64 r15), .long (Int32.toInt64 r20)] (kX6_in l hJ (Int32.toInt64 x2) (Int32.toInt64 r15) (Int32.toInt64 r20)  h) jl_X6_67 ⟨rfl, rfl⟩ ⟨Nat.le_of_ble_eq_true rfl, Nat.le_of_ble_eq_true rfl⟩ rfl rfl (Nat.le_of_ble_eq_true rfl) dX6_tell_24 rfl (fun r24 s24 h => ?_)
    refine zv_if_eq (tgt := 42) X dX6_tell_27 (by decide) rfl (fun q27 => ?_) (fun q27 => ?_)
    · replace h := h.1 q27
      refine zv_iconst (v := (-1)) X dX6_tell_42 (by decide) rfl ?_
      exact zv_iret X hr hlk h dX6_tell_43
    · replace h := h.2 q27
      refine zv_aload_n X dX6_tell_30 0 rfl rfl rfl ?_
      refine zv_bipush (v := 34) X dX6_tell_31 (by decide) rfl ?_
      refine zv_iload_n X dX6_tell_33 1 rfl rfl rfl ?_
      refine zv_iadd X dX6_tell_34 rfl ?_
      refine zv_iload_n X dX6_tell_35 2 rfl rfl rfl ?_
      refine zv_cVi (k := 0) (ci := 6) X [.int (34 + x1), .int x2] (kX6_becomes l hJ (34 + x1) x2 hY h) jl_X6_235 ⟨rfl, rfl⟩ ⟨Nat.le_of_ble_eq_true rfl, Nat.le_of_ble_eq_true rfl⟩ (zz_mo_o hY).1 (by decide) (zz_mo_o hY).2 rfl rfl rfl (Nat.le_of_ble_eq_true rfl) dX6_tell_36 rfl (fun r36 s36 h => ?_)
      refine zv_goto (tgt := 43) X dX6_tell_39 (by decide) ?_
      exact zv_iret X hr hlk h dX6_tell_43
