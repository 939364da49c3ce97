def rmJ7_fill_53178 : Room := { frames := 0, cells := 0, slots := 0, locals := 0 }
def pJ7_fill_53178_5 (c0 : Nat) (n0 : Nat) (Q : zz_T → Prop) : Nat → Int32 → Int32 → Int32 → zz_T → Prop
  | 0, _, _, _, _ => False
  | n + 1, x1, x2, x3, σ =>
    ((x3 ≤ x2 → Q σ) ∧
    (¬ x3 ≤ x2 → vp_in x2 n0 ∧
    pJ7_fill_53178_5 c0 n0 Q n x1 (x2 + 1) x3 (zz_i σ c0 (Int32.toNatClampNeg x2) x1)))
set_option maxHeartbeats 4000000 in
set_option maxRecDepth 100000 in
theorem vJ7_fill_53178_5 {p : Program} {l : Launch} {e : Env} {s : State} {m : MethodId} {args : Array Value} {below : List Frame} {meth : Method} {c : Code} {Y : zz_Y} {c0 : Nat} {n0 : Nat} {Q : zz_T → Prop} (X : zz_X p m c cJ7_fill_53178 4 s args RJ7) (hr : meth.sig.returnType = none) (hlk : meth.locks = false) (hJ : zz_J Y) (h0 : zz_ar Y c0 0 n0)  : ∀ (n : Nat) (x1 : Int32) (x2 : Int32) (x3 : Int32) (σ : zz_T), pJ7_fill_53178_5 c0 n0 Q n x1 x2 x3 σ → zz_V p l e rmJ7_fill_53178 s m args below meth c (MQ below (va_Qv Q (zz_E Y) (zz_A Y)) args s 0 0 (zz_A Y)) 4 Y σ 5 [(0, .ref (Y.2.1 c0)), (1, .int x1), (2, .int x2), (3, .int x3)] [] := by
  intro n
  induction n with
  | zero => intro x1 x2 x3 σ h; exact h.elim
  | succ n ih =>
    intro x1 x2 x3 σ h 
    unfold pJ7_fill_53178_5 at h
    refine zv_iload_n X dJ7_fill_53178_5 2 rfl rfl rfl ?_
    refine zv_iload_n X dJ7_fill_53178_6 3 rfl rfl rfl ?_
    refine zv_icmp_ge (tgt := 20) X dJ7_fill_53178_7 (by decide) rfl (fun q7 => ?_) (fun q7 => ?_)
    · replace h := h.1 q7
      exact zv_vret X hr hlk h dJ7_fill_53178_20
    · replace h := h.2 q7
      refine zv_aload_n X dJ7_fill_53178_10 0 rfl rfl rfl ?_
      refine zv_iload_n X dJ7_fill_53178_11 2 rfl rfl rfl ?_
      refine zv_iload_n X dJ7_fill_53178_12 1 rfl rfl rfl ?_
      obtain ⟨hi13, h⟩ := h
      refine zv_iast (k := c0) X h0.1 h0.2 hi13 dJ7_fill_53178_13 rfl ?_
      refine zv_iinc (v := (x2 + 1)) (lv2 := [(2, .int (x2 + 1)), (0, .ref (Y.2.1 c0)), (1, .int x1), (3, .int x3)]) X dJ7_fill_53178_14 2 rfl rfl (by decide) rfl rfl ?_
      refine zv_goto (tgt := 5) X dJ7_fill_53178_17 (by decide) ?_
      refine zv_sub (lv2 := [(0, .ref (Y.2.1 c0)), (1, .int x1), (2, .int (x2 + 1)), (3, .int x3)]) [1, 2, 0, 3] rfl ?_
      exact ih x1 (x2 + 1) x3 _ h
def pJ7_fill_53178 (c0 : Nat) (n0 : Nat) (x1 : Int32) (σ : zz_T) (Q : zz_T → Prop) : Prop :=
    ∃ n5, pJ7_fill_53178_5 c0 n0 Q n5 x1 0 (nI n0) σ
set_option maxHeartbeats 4000000 in
set_option maxRecDepth 100000 in
theorem kJ7_fill_53178 (l : Launch) {Y : zz_Y} (hJ : zz_J Y) {c0 : Nat} {n0 : Nat} (x1 : Int32) (h0 : zz_ar Y c0 0 n0) {σ : zz_T} {Q : zz_T → Prop} (h : pJ7_fill_53178 c0 n0 x1 σ Q) : zz_Mv l yJ7_fill_53178 cJ7_fill_53178 4 none rmJ7_fill_53178 Y [.ref (Y.2.1 c0), .int x1] σ Q := by
  refine zz_Mv.start (by decide) hJ (Nat.le_of_ble_eq_true rfl) (fun p e s m below meth c X hr hlk => ?_)
  have X : zz_X p m c cJ7_fill_53178 4 s _ RJ7 := X
  refine zv_sub (lv2 := [(0, .ref (Y.2.1 c0)), (1, .int x1)]) [0, 1] rfl ?_
  unfold pJ7_fill_53178 at h
  refine zv_iconst (v := 0) X dJ7_fill_53178_0 (by decide) rfl ?_
  refine zv_istore_n (lv2 := [(2, .int 0), (0, .ref (Y.2.1 c0)), (1, .int x1)]) X dJ7_fill_53178_1 rfl (by decide) rfl rfl ?_
  refine zv_aload_n X dJ7_fill_53178_2 1 rfl rfl rfl ?_
  refine zv_alen (k := c0) X h0.1 h0.2 dJ7_fill_53178_3 rfl ?_
  refine zv_istore_n (lv2 := [(3, .int (nI n0)), (2, .int 0), (0, .ref (Y.2.1 c0)), (1, .int x1)]) X dJ7_fill_53178_4 rfl (by decide) rfl rfl ?_
  obtain ⟨n5, h⟩ := h
  refine zv_sub (lv2 := [(0, .ref (Y.2.1 c0)), (1, .int x1), (2, .int 0), (3, .int (nI n0))]) [2, 3, 1, 0] rfl ?_
  exact vJ7_fill_53178_5 X hr hlk hJ h0 n5 x1 0 (nI n0) _ h
def rmX0_begin : Room := { frames := 1, cells := 0, slots := 0, locals := 23 }
def pX0_begin (k : Nat) (x1 : Int32) (x2 : Int32) (σ : zz_T) (Q : zz_T → Prop) : Prop :=
    pJ7_fill_53178 (k + 1) 8 0 (zz_i (zz_i (zz_i σ k 2 x1) k 3 x2) k 4 0) (fun s20 =>
    Q s20)
set_option maxHeartbeats 4000000 in
set_option maxRecDepth 100000 in
theorem kX0_begin (l : Launch) {Y : zz_Y} (hJ : zz_J Y) {k : Nat} (x1 : Int32) (x2 : Int32) (hY : zz_hd Y k) {σ : zz_T} {Q : zz_T → Prop} (h : pX0_begin k x1 x2 σ Q) : zz_Mv l yX0_begin cX0_begin 3 none rmX0_begin Y [.ref (Y.2.1 k), .int x1, .int x2] σ Q := by
  refine zz_Mv.start (by decide) hJ (Nat.le_of_ble_eq_true rfl) (fun p e s m below meth c X hr hlk => ?_)
  have X : zz_X p m c cX0_begin 3 s _ RX0 := X
  refine zv_sub (lv2 := [(0, .ref (Y.2.1 k)), (1, .int x1), (2, .int x2)]) [0, 1, 2] rfl ?_
  unfold pX0_begin at h
  refine zv_aload_n X dX0_begin_0 0 rfl rfl rfl ?_
  refine zv_iload_n X dX0_begin_1 1 rfl rfl rfl ?_
  refine zp_X0_2 (k := k) X hY.1.1 hY.1.2 fl_X0_18 dX0_begin_2 rfl ?_
  refine zv_aload_n X dX0_begin_5 0 rfl rfl rfl ?_
  refine zv_iload_n X dX0_begin_6 2 rfl rfl rfl ?_
  refine zp_X0_3 (k := k) X hY.1.1 hY.1.2 fl_X0_22 dX0_begin_7 rfl ?_
  refine zv_aload_n X dX0_begin_10 0 rfl rfl rfl ?_
  refine zv_iconst (v := 0) X dX0_begin_11 (by decide) rfl ?_
  refine zp_X0_4 (k := k) X hY.1.1 hY.1.2 fl_X0_25 dX0_begin_12 rfl ?_
  refine zv_aload_n X dX0_begin_15 0 rfl rfl rfl ?_
  refine zg_X0_0 (k := k) X hY.1.1 hY.1.2 fl_X0_9 dX0_begin_16 rfl ?_
  refine zv_iconst (v := 0) X dX0_begin_19 (by decide) rfl ?_
  refine zv_cSv X [.ref (Y.2.1 (k + 1)), .int 0] (kJ7_fill_53178 l hJ 0 hY.2.1 h) jl_X0_28 ⟨rfl, rfl⟩ ⟨Nat.le_of_ble_eq_true rfl, Nat.le_of_ble_eq_true rfl⟩ rfl rfl (Nat.le_of_ble_eq_true rfl) dX0_begin_20 rfl (fun s20 h => ?_)
  exact zv_vret X hr hlk h dX0_begin_23
def rmX0_copyFrom : Room := { frames := 1, cells := 0, slots := 0, locals := 40 }
def pX0_copyFrom (k : Nat) (c1 : Nat) (σ : zz_T) (Q : zz_T → Prop) : Prop :=
    Q (zz_r (zz_i (zz_i (zz_i σ k 2 (σ.1 c1 2)) k 3 ((zz_i σ k 2 (σ.1 c1 2)).1 c1 3)) k 4 ((zz_i (zz_i σ k 2 (σ.1 c1 2)) k 3 ((zz_i σ k 2 (σ.1 c1 2)).1 c1 3)).1 c1 4)) (k + 1) (va_cpy ((zz_i (zz_i (zz_i σ k 2 (σ.1 c1 2)) k 3 ((zz_i σ k 2 (σ.1 c1 2)).1 c1 3)) k 4 ((zz_i (zz_i σ k 2 (σ.1 c1 2)) k 3 ((zz_i σ k 2 (σ.1 c1 2)).1 c1 3)).1 c1 4)).1 (c1 + 1)) ((zz_i (zz_i (zz_i σ k 2 (σ.1 c1 2)) k 3 ((zz_i σ k 2 (σ.1 c1 2)).1 c1 3)) k 4 ((zz_i (zz_i σ k 2 (σ.1 c1 2)) k 3 ((zz_i σ k 2 (σ.1 c1 2)).1 c1 3)).1 c1 4)).1 (k + 1)) 0 0 8))
set_option maxHeartbeats 4000000 in
set_option maxRecDepth 100000 in
theorem kX0_copyFrom (l : Launch) {Y : zz_Y} (hJ : zz_J Y) {k : Nat} {c1 : Nat} (hY : zz_hd Y k) (h1 : zz_hd Y c1) {σ : zz_T} {Q : zz_T → Prop} (h : pX0_copyFrom k c1 σ Q) : zz_Mv l yX0_copyFrom cX0_copyFrom 2 none rmX0_copyFrom Y [.ref (Y.2.1 k), .ref (Y.2.1 c1)] σ Q := by
  refine zz_Mv.start (by decide) hJ (Nat.le_of_ble_eq_true rfl) (fun p e s m below meth c X hr hlk => ?_)
  have X : zz_X p m c cX0_copyFrom 2 s _ RX0 := X
  refine zv_sub (lv2 := [(0, .ref (Y.2.1 k)), (1, .ref (Y.2.1 c1))]) [0, 1] rfl ?_
  unfold pX0_copyFrom at h
  refine zv_aload_n X dX0_copyFrom_0 0 rfl rfl rfl ?_
  refine zv_aload_n X dX0_copyFrom_1 1 rfl rfl rfl ?_
  refine zg_X0_2 (k := c1) X h1.1.1 h1.1.2 fl_X0_18 dX0_copyFrom_2 rfl ?_
  refine zp_X0_2 (k := k) X hY.1.1 hY.1.2 fl_X0_18 dX0_copyFrom_5 rfl ?_
  refine zv_aload_n X dX0_copyFrom_8 0 rfl rfl rfl ?_
  refine zv_aload_n X dX0_copyFrom_9 1 rfl rfl rfl ?_
  refine zg_X0_3 (k := c1) X h1.1.1 h1.1.2 fl_X0_22 dX0_copyFrom_10 rfl ?_
  refine zp_X0_3 (k := k) X hY.1.1 hY.1.2 fl_X0_22 dX0_copyFrom_13 rfl ?_
  refine zv_aload_n X dX0_copyFrom_16 0 rfl rfl rfl ?_
  refine zv_aload_n X dX0_copyFrom_17 1 rfl rfl rfl ?_
  refine zg_X0_4 (k := c1) X h1.1.1 h1.1.2 fl_X0_25 dX0_copyFrom_18 rfl ?_
  refine zp_X0_4 (k := k) X hY.1.1 hY.1.2 fl_X0_25 dX0_copyFrom_21 rfl ?_
  refine zv_aload_n X dX0_copyFrom_24 1 rfl rfl rfl ?_
  refine zg_X0_0 (k := c1) X h1.1.1 h1.1.2 fl_X0_9 dX0_copyFrom_25 rfl ?_
  refine zv_iconst (v := 0) X dX0_copyFrom_28 (by decide) rfl ?_
  refine zv_aload_n X dX0_copyFrom_29 0 rfl rfl rfl ?_
  refine zg_X0_0 (k := k) X hY.1.1 hY.1.2 fl_X0_9 dX0_copyFrom_30 rfl ?_
  refine zv_iconst (v := 0) X dX0_copyFrom_33 (by decide) rfl ?_
  refine zv_bipush (v := 8) X dX0_copyFrom_34 (by decide) rfl ?_
  refine zv_copy X h1.2.1.1 h1.2.1.2 hY.2.1.1 hY.2.1.2 ml_X0_34 (by decide) (by decide) (by decide) (by decide) (by decide) (Nat.le_of_ble_eq_true rfl) (Nat.le_of_ble_eq_true rfl) dX0_copyFrom_36 rfl ?_
  exact zv_vret X hr hlk h dX0_copyFrom_39
def rmX0_drive : Room := { frames := 0, cells := 0, slots := 0, locals := 0 }
def pX0_drive (k : Nat) (x1 : Int32) (x2 : Int32) (σ : zz_T) (Q : zz_T → Prop) : Prop :=
    ((x1 = 0 → Q (zz_i σ k 2 x2)) ∧
    (¬ x1 = 0 → Q (zz_i σ k 3 x2)))
set_option maxHeartbeats 4000000 in
set_option maxRecDepth 100000 in
theorem kX0_drive (l : Launch) {Y : zz_Y} (hJ : zz_J Y) {k : Nat} (x1 : Int32) (x2 : Int32) (hY : zz_hd Y k) {σ : zz_T} {Q : zz_T → Prop} (h : pX0_drive k x1 x2 σ Q) : zz_Mv l yX0_drive cX0_drive 3 none rmX0_drive Y [.ref (Y.2.1 k), .int x1, .int x2] σ Q := by
  refine zz_Mv.start (by decide) hJ (Nat.le_of_ble_eq_true rfl) (fun p e s m below meth c X hr hlk => ?_)
  have X : zz_X p m c cX0_drive 3 s _ RX0 := X
  refine zv_sub (lv2 := [(0, .ref (Y.2.1 k)), (1, .int x1), (2, .int x2)]) [0, 1, 2] rfl ?_
  unfold pX0_drive at h
  refine zv_iload_n X dX0_drive_0 1 rfl rfl rfl ?_
  refine zv_if_ne (tgt := 12) X dX0_drive_1 (by decide) rfl (fun q1 => ?_) (fun q1 => ?_)
  · replace h := h.2 q1
    refine zv_aload_n X dX0_drive_12 0 rfl rfl rfl ?_
    refine zv_iload_n X dX0_drive_13 2 rfl rfl rfl ?_
    refine zp_X0_3 (k := k) X hY.1.1 hY.1.2 fl_X0_22 dX0_drive_14 rfl ?_
    exact zv_vret X hr hlk h dX0_drive_17
  · replace h := h.1 q1
    refine zv_aload_n X dX0_drive_4 0 rfl rfl rfl ?_
    refine zv_iload_n X dX0_drive_5 2 rfl rfl rfl ?_
    refine zp_X0_2 (k := k) X hY.1.1 hY.1.2 fl_X0_18 dX0_drive_6 rfl ?_
    refine zv_goto (tgt := 17) X dX0_drive_9 (by decide) ?_
    exact zv_vret X hr hlk h dX0_drive_17
def rmX0_heatSum : Room := { frames := 0, cells := 0, slots := 0, locals := 0 }
def pX0_heatSum_4 (k : Nat) (Q : Int32 → zz_T → Prop) : Nat → Int32 → Int32 → zz_T → Prop
  | 0, _, _, _ => False
  | n + 1, x1, x2, σ =>
    ((8 ≤ x2 → Q x1 σ) ∧
    (¬ 8 ≤ x2 → vp_in x2 8 ∧
    pX0_heatSum_4 k Q n (x1 + (σ.1 (k + 1) (Int32.toNatClampNeg x2))) (x2 + 1) σ))
set_option maxHeartbeats 4000000 in
set_option maxRecDepth 100000 in
theorem vX0_heatSum_4 {p : Program} {l : Launch} {e : Env} {s : State} {m : MethodId} {args : Array Value} {below : List Frame} {meth : Method} {c : Code} {Y : zz_Y} {k : Nat} {Q : Int32 → zz_T → Prop} (X : zz_X p m c cX0_heatSum 3 s args RX0) (hr : meth.sig.returnType = (some .int)) (hlk : meth.locks = false) (hJ : zz_J Y) (hY : zz_hd Y k)  : ∀ (n : Nat) (x1 : Int32) (x2 : Int32) (σ : zz_T), pX0_heatSum_4 k Q n x1 x2 σ → zz_V p l e rmX0_heatSum s m args below meth c (MQ below (va_Qi Q (zz_E Y) (zz_A Y)) args s 0 0 (zz_A Y)) 3 Y σ 4 [(0, .ref (Y.2.1 k)), (1, .int x1), (2, .int x2)] [] := by
  intro n
  induction n with
  | zero => intro x1 x2 σ h; exact h.elim
  | succ n ih =>
    intro x1 x2 σ h 
    unfold pX0_heatSum_4 at h
    refine zv_iload_n X dX0_heatSum_4 2 rfl rfl rfl ?_
    refine zv_bipush (v := 8) X dX0_heatSum_5 (by decide) rfl ?_
    refine zv_icmp_ge (tgt := 25) X dX0_heatSum_7 (by decide) rfl (fun q7 => ?_) (fun q7 => ?_)
    · replace h := h.1 q7
      refine zv_iload_n X dX0_heatSum_25 1 rfl rfl rfl ?_
      exact zv_iret X hr hlk h dX0_heatSum_26
    · replace h := h.2 q7
      refine zv_iload_n X dX0_heatSum_10 1 rfl rfl rfl ?_
      refine zv_aload_n X dX0_heatSum_11 0 rfl rfl rfl ?_
      refine zg_X0_0 (k := k) X hY.1.1 hY.1.2 fl_X0_9 dX0_heatSum_12 rfl ?_
      refine zv_iload_n X dX0_heatSum_15 2 rfl rfl rfl ?_
      obtain ⟨hi16, h⟩ := h
      refine zv_iald (k := (k + 1)) X hY.2.1.1 hY.2.1.2 hi16 dX0_heatSum_16 rfl ?_
      refine zv_iadd X dX0_heatSum_17 rfl ?_
      refine zv_istore_n (lv2 := [(1, .int (x1 + (σ.1 (k + 1) (Int32.toNatClampNeg x2)))), (0, .ref (Y.2.1 k)), (2, .int x2)]) X dX0_heatSum_18 rfl (by decide) rfl rfl ?_
      refine zv_iinc (v := (x2 + 1)) (lv2 := [(2, .int (x2 + 1)), (1, .int (x1 + (σ.1 (k + 1) (Int32.toNatClampNeg x2)))), (0, .ref (Y.2.1 k))]) X dX0_heatSum_19 2 rfl rfl (by decide) rfl rfl ?_
      refine zv_goto (tgt := 4) X dX0_heatSum_22 (by decide) ?_
      refine zv_sub (lv2 := [(0, .ref (Y.2.1 k)), (1, .int (x1 + (σ.1 (k + 1) (Int32.toNatClampNeg x2)))), (2, .int (x2 + 1))]) [2, 1, 0] rfl ?_
      exact ih (x1 + (σ.1 (k + 1) (Int32.toNatClampNeg x2))) (x2 + 1) _ h
def pX0_heatSum (k : Nat) (σ : zz_T) (Q : Int32 → zz_T → Prop) : Prop :=
    ∃ n4, pX0_heatSum_4 k Q n4 0 0 σ
set_option maxHeartbeats 4000000 in
set_option maxRecDepth 100000 in
theorem kX0_heatSum (l : Launch) {Y : zz_Y} (hJ : zz_J Y) {k : Nat} (hY : zz_hd Y k) {σ : zz_T} {Q : Int32 → zz_T → Prop} (h : pX0_heatSum k σ Q) : zz_Mi l yX0_heatSum cX0_heatSum 3 (some .int) rmX0_heatSum Y [.ref (Y.2.1 k)] σ Q := by
  refine zz_Mi.start (by decide) hJ (Nat.le_of_ble_eq_true rfl) (fun p e s m below meth c X hr hlk => ?_)
  have X : zz_X p m c cX0_heatSum 3 s _ RX0 := X
  refine zv_sub (lv2 := [(0, .ref (Y.2.1 k))]) [0] rfl ?_
  unfold pX0_heatSum at h
  refine zv_iconst (v := 0) X dX0_heatSum_0 (by decide) rfl ?_
  refine zv_istore_n (lv2 := [(1, .int 0), (0, .ref (Y.2.1 k))]) X dX0_heatSum_1 rfl (by decide) rfl rfl ?_
  refine zv_iconst (v := 0) X dX0_heatSum_2 (by decide) rfl ?_
  refine zv_istore_n (lv2 := [(2, .int 0), (1, .int 0), (0, .ref (Y.2.1 k))]) X dX0_heatSum_3 rfl (by decide) rfl rfl ?_
  obtain ⟨n4, h⟩ := h
  refine zv_sub (lv2 := [(0, .ref (Y.2.1 k)), (1, .int 0), (2, .int 0)]) [2, 1, 0] rfl ?_
  exact vX0_heatSum_4 X hr hlk hJ hY n4 0 0 _ h
def rmX0_gain : Room := { frames := 0, cells := 0, slots := 0, locals := 0 }
def pX0_gain_97 (k : Nat) (Q : Int32 → zz_T → Prop) (x4 : Int32) (σ : zz_T) : Prop :=
    ((0 ≤ x4 → Q x4 σ) ∧
    (¬ 0 ≤ x4 → Q 0 σ))
set_option maxHeartbeats 4000000 in
set_option maxRecDepth 100000 in
theorem vX0_gain_97 {p : Program} {l : Launch} {e : Env} {s : State} {m : MethodId} {args : Array Value} {below : List Frame} {meth : Method} {c : Code} {Y : zz_Y} {k : Nat} {Q : Int32 → zz_T → Prop} (X : zz_X p m c cX0_gain 5 s args RX0) (hr : meth.sig.returnType = (some .int)) (hlk : meth.locks = false) (hJ : zz_J Y) (hY : zz_hd Y k)  : ∀ (x4 : Int32) (σ : zz_T), pX0_gain_97 k Q x4 σ → zz_V p l e rmX0_gain s m args below meth c (MQ below (va_Qi Q (zz_E Y) (zz_A Y)) args s 0 0 (zz_A Y)) 5 Y σ 97 [(4, .int x4)] [] := by
  intro x4 σ h 
  unfold pX0_gain_97 at h
  refine zv_iload X dX0_gain_97 0 rfl rfl ?_
  refine zv_if_ge (tgt := 106) X dX0_gain_99 (by decide) rfl (fun q99 => ?_) (fun q99 => ?_)
  · replace h := h.1 q99
    refine zv_iload X dX0_gain_106 0 rfl rfl ?_
    exact zv_iret X hr hlk h dX0_gain_108
  · replace h := h.2 q99
    refine zv_iconst (v := 0) X dX0_gain_102 (by decide) rfl ?_
    refine zv_goto (tgt := 108) X dX0_gain_103 (by decide) ?_
    exact zv_iret X hr hlk h dX0_gain_108
def pX0_gain_71 (k : Nat) (Q : Int32 → zz_T → Prop) (x1 : Int32) (x2 : Int32) (x4 : Int32) (σ : zz_T) : Prop :=
    (((σ.1 k 2) = 2 → ((((((x2 <<< (1 &&& (31 : Int32))) &&& (x2 >>> (1 &&& (31 : Int32)))) >>> (x1 &&& (31 : Int32))) &&& 1) = 1 → pX0_gain_97 k Q (x4 + (-2)) σ) ∧
    (¬ ((((x2 <<< (1 &&& (31 : Int32))) &&& (x2 >>> (1 &&& (31 : Int32)))) >>> (x1 &&& (31 : Int32))) &&& 1) = 1 → pX0_gain_97 k Q x4 σ))) ∧
    (¬ (σ.1 k 2) = 2 → pX0_gain_97 k Q x4 σ))
set_option maxHeartbeats 4000000 in
set_option maxRecDepth 100000 in
theorem vX0_gain_71 {p : Program} {l : Launch} {e : Env} {s : State} {m : MethodId} {args : Array Value} {below : List Frame} {meth : Method} {c : Code} {Y : zz_Y} {k : Nat} {Q : Int32 → zz_T → Prop} (X : zz_X p m c cX0_gain 5 s args RX0) (hr : meth.sig.returnType = (some .int)) (hlk : meth.locks = false) (hJ : zz_J Y) (hY : zz_hd Y k)  : ∀ (x1 : Int32) (x2 : Int32) (x4 : Int32) (σ : zz_T), pX0_gain_71 k Q x1 x2 x4 σ → zz_V p l e rmX0_gain s m args below meth c (MQ below (va_Qi Q (zz_E Y) (zz_A Y)) args s 0 0 (zz_A Y)) 5 Y σ 71 [(0, .ref (Y.2.1 k)), (1, .int x1), (2, .int x2), (4, .int x4)] [] := by
  intro x1 x2 x4 σ h 
  unfold pX0_gain_71 at h
  refine zv_aload_n X dX0_gain_71 0 rfl rfl rfl ?_
  refine zg_X0_2 (k := k) X hY.1.1 hY.1.2 fl_X0_18 dX0_gain_72 rfl ?_
  refine zv_iconst (v := 2) X dX0_gain_75 (by decide) rfl ?_
  refine zv_icmp_ne (tgt := 97) X dX0_gain_76 (by decide) rfl (fun q76 => ?_) (fun q76 => ?_)
  · replace h := h.2 q76
    refine zv_sub (lv2 := [(4, .int x4)]) [3] rfl ?_
    exact vX0_gain_97 X hr hlk hJ hY x4 _ h
  · replace h := h.1 q76
    refine zv_iload_n X dX0_gain_79 2 rfl rfl rfl ?_
    refine zv_iconst (v := 1) X dX0_gain_80 (by decide) rfl ?_
    refine zv_ishl X dX0_gain_81 rfl ?_
    refine zv_iload_n X dX0_gain_82 2 rfl rfl rfl ?_
    refine zv_iconst (v := 1) X dX0_gain_83 (by decide) rfl ?_
    refine zv_ishr X dX0_gain_84 rfl ?_
    refine zv_iand X dX0_gain_85 rfl ?_
    refine zv_iload_n X dX0_gain_86 1 rfl rfl rfl ?_
    refine zv_ishr X dX0_gain_87 rfl ?_
    refine zv_iconst (v := 1) X dX0_gain_88 (by decide) rfl ?_
    refine zv_iand X dX0_gain_89 rfl ?_
    refine zv_iconst (v := 1) X dX0_gain_90 (by decide) rfl ?_
    refine zv_icmp_ne (tgt := 97) X dX0_gain_91 (by decide) rfl (fun q91 => ?_) (fun q91 => ?_)
    · replace h := h.2 q91
      refine zv_sub (lv2 := [(4, .int x4)]) [3] rfl ?_
      exact vX0_gain_97 X hr hlk hJ hY x4 _ h
    · replace h := h.1 q91
      refine zv_iinc (v := (x4 + (-2))) (lv2 := [(4, .int (x4 + (-2))), (0, .ref (Y.2.1 k)), (1, .int x1), (2, .int x2)]) X dX0_gain_94 3 rfl rfl (by decide) rfl rfl ?_
      refine zv_sub (lv2 := [(4, .int (x4 + (-2)))]) [0] rfl ?_
      exact vX0_gain_97 X hr hlk hJ hY (x4 + (-2)) _ h
def pX0_gain_58 (k : Nat) (Q : Int32 → zz_T → Prop) (x1 : Int32) (x2 : Int32) (x4 : Int32) (σ : zz_T) : Prop :=
    vp_in x1 8 ∧
    pX0_gain_71 k Q x1 x2 (x4 - ((σ.1 (k + 1) (Int32.toNatClampNeg x1)) / 4)) σ
set_option maxHeartbeats 4000000 in
set_option maxRecDepth 100000 in
theorem vX0_gain_58 {p : Program} {l : Launch} {e : Env} {s : State} {m : MethodId} {args : Array Value} {below : List Frame} {meth : Method} {c : Code} {Y : zz_Y} {k : Nat} {Q : Int32 → zz_T → Prop} (X : zz_X p m c cX0_gain 5 s args RX0) (hr : meth.sig.returnType = (some .int)) (hlk : meth.locks = false) (hJ : zz_J Y) (hY : zz_hd Y k)  : ∀ (x1 : Int32) (x2 : Int32) (x4 : Int32) (σ : zz_T), pX0_gain_58 k Q x1 x2 x4 σ → zz_V p l e rmX0_gain s m args below meth c (MQ below (va_Qi Q (zz_E Y) (zz_A Y)) args s 0 0 (zz_A Y)) 5 Y σ 58 [(0, .ref (Y.2.1 k)), (1, .int x1), (2, .int x2), (4, .int x4)] [] := by
  intro x1 x2 x4 σ h 
  unfold pX0_gain_58 at h
  refine zv_iload X dX0_gain_58 3 rfl rfl ?_
  refine zv_aload_n X dX0_gain_60 0 rfl rfl rfl ?_
  refine zg_X0_0 (k := k) X hY.1.1 hY.1.2 fl_X0_9 dX0_gain_61 rfl ?_
  refine zv_iload_n X dX0_gain_64 1 rfl rfl rfl ?_
  obtain ⟨hi65, h⟩ := h
  refine zv_iald (k := (k + 1)) X hY.2.1.1 hY.2.1.2 hi65 dX0_gain_65 rfl ?_
  refine zv_iconst (v := 4) X dX0_gain_66 (by decide) rfl ?_
  refine zv_idiv X dX0_gain_67 (by decide) rfl ?_
  refine zv_isub X dX0_gain_68 rfl ?_
  refine zv_istore (lv2 := [(4, .int (x4 - ((σ.1 (k + 1) (Int32.toNatClampNeg x1)) / 4))), (0, .ref (Y.2.1 k)), (1, .int x1), (2, .int x2)]) X dX0_gain_69 (by decide) rfl rfl ?_
  refine zv_sub (lv2 := [(0, .ref (Y.2.1 k)), (1, .int x1), (2, .int x2), (4, .int (x4 - ((σ.1 (k + 1) (Int32.toNatClampNeg x1)) / 4)))]) [1, 2, 3, 0] rfl ?_
  exact vX0_gain_71 X hr hlk hJ hY x1 x2 (x4 - ((σ.1 (k + 1) (Int32.toNatClampNeg x1)) / 4)) _ h
def pX0_gain (k : Nat) (x1 : Int32) (x2 : Int32) (x3 : Int32) (σ : zz_T) (Q : Int32 → zz_T → Prop) : Prop :=
    ((((x2 >>> (x1 &&& (31 : Int32))) &&& 1) = 0 → (((σ.1 k 2) = 3 → ((((x3 >>> (x1 &&& (31 : Int32))) &&& 1) = 1 → Q ((σ.1 k 3) / 3) σ) ∧
    (¬ ((x3 >>> (x1 &&& (31 : Int32))) &&& 1) = 1 → Q 0 σ))) ∧
    (¬ (σ.1 k 2) = 3 → Q 0 σ))) ∧
    (¬ ((x2 >>> (x1 &&& (31 : Int32))) &&& 1) = 0 → (((σ.1 k 2) = 1 → pX0_gain_58 k Q x1 x2 (σ.1 k 3) σ) ∧
    (¬ (σ.1 k 2) = 1 → (((σ.1 k 2) = 2 → pX0_gain_58 k Q x1 x2 (σ.1 k 3) σ) ∧
    (¬ (σ.1 k 2) = 2 → pX0_gain_71 k Q x1 x2 (σ.1 k 3) σ))))))
set_option maxHeartbeats 4000000 in
set_option maxRecDepth 100000 in
theorem kX0_gain (l : Launch) {Y : zz_Y} (hJ : zz_J Y) {k : Nat} (x1 : Int32) (x2 : Int32) (x3 : Int32) (hY : zz_hd Y k) {σ : zz_T} {Q : Int32 → zz_T → Prop} (h : pX0_gain k x1 x2 x3 σ Q) : zz_Mi l yX0_gain cX0_gain 5 (some .int) rmX0_gain Y [.ref (Y.2.1 k), .int x1, .int x2, .int x3] σ Q := by
  refine zz_Mi.start (by decide) hJ (Nat.le_of_ble_eq_true rfl) (fun p e s m below meth c X hr hlk => ?_)
  have X : zz_X p m c cX0_gain 5 s _ RX0 := X
  refine zv_sub (lv2 := [(0, .ref (Y.2.1 k)), (1, .int x1), (2, .int x2), (3, .int x3)]) [0, 1, 2, 3] rfl ?_
  unfold pX0_gain at h
  refine zv_iload_n X dX0_gain_0 2 rfl rfl rfl ?_
  refine zv_iload_n X dX0_gain_1 1 rfl rfl rfl ?_
  refine zv_ishr X dX0_gain_2 rfl ?_
  refine zv_iconst (v := 1) X dX0_gain_3 (by decide) rfl ?_
  refine zv_iand X dX0_gain_4 rfl ?_
  refine zv_if_ne (tgt := 36) X dX0_gain_5 (by decide) rfl (fun q5 => ?_) (fun q5 => ?_)
  · replace h := h.2 q5
    refine zv_aload_n X dX0_gain_36 0 rfl rfl rfl ?_
    refine zg_X0_3 (k := k) X hY.1.1 hY.1.2 fl_X0_22 dX0_gain_37 rfl ?_
    refine zv_istore (lv2 := [(4, .int (σ.1 k 3)), (0, .ref (Y.2.1 k)), (1, .int x1), (2, .int x2), (3, .int x3)]) X dX0_gain_40 (by decide) rfl rfl ?_
    refine zv_aload_n X dX0_gain_42 1 rfl rfl rfl ?_
    refine zg_X0_2 (k := k) X hY.1.1 hY.1.2 fl_X0_18 dX0_gain_43 rfl ?_
    refine zv_iconst (v := 1) X dX0_gain_46 (by decide) rfl ?_
    refine zv_icmp_eq (tgt := 58) X dX0_gain_47 (by decide) rfl (fun q47 => ?_) (fun q47 => ?_)
    · replace h := h.1 q47
      refine zv_sub (lv2 := [(0, .ref (Y.2.1 k)), (1, .int x1), (2, .int x2), (4, .int (σ.1 k 3))]) [1, 2, 3, 0] rfl ?_
      exact vX0_gain_58 X hr hlk hJ hY x1 x2 (σ.1 k 3) _ h
    · replace h := h.2 q47
      refine zv_aload_n X dX0_gain_50 1 rfl rfl rfl ?_
      refine zg_X0_2 (k := k) X hY.1.1 hY.1.2 fl_X0_18 dX0_gain_51 rfl ?_
      refine zv_iconst (v := 2) X dX0_gain_54 (by decide) rfl ?_
      refine zv_icmp_ne (tgt := 71) X dX0_gain_55 (by decide) rfl (fun q55 => ?_) (fun q55 => ?_)
      · replace h := h.2 q55
        refine zv_sub (lv2 := [(0, .ref (Y.2.1 k)), (1, .int x1), (2, .int x2), (4, .int (σ.1 k 3))]) [1, 2, 3, 0] rfl ?_
        exact vX0_gain_71 X hr hlk hJ hY x1 x2 (σ.1 k 3) _ h
      · replace h := h.1 q55
        refine zv_sub (lv2 := [(0, .ref (Y.2.1 k)), (1, .int x1), (2, .int x2), (4, .int (σ.1 k 3))]) [1, 2, 3, 0] rfl ?_
        exact vX0_gain_58 X hr hlk hJ hY x1 x2 (σ.1 k 3) _ h
  · replace h := h.1 q5
    refine zv_aload_n X dX0_gain_8 0 rfl rfl rfl ?_
    refine zg_X0_2 (k := k) X hY.1.1 hY.1.2 fl_X0_18 dX0_gain_9 rfl ?_
    refine zv_iconst (v := 3) X dX0_gain_12 (by decide) rfl ?_
    refine zv_icmp_ne (tgt := 34) X dX0_gain_13 (by decide) rfl (fun q13 => ?_) (fun q13 => ?_)
    · replace h := h.2 q13
      refine zv_iconst (v := 0) X dX0_gain_34 (by decide) rfl ?_
      exact zv_iret X hr hlk h dX0_gain_35
    · replace h := h.1 q13
      refine zv_iload_n X dX0_gain_16 3 rfl rfl rfl ?_
      refine zv_iload_n X dX0_gain_17 1 rfl rfl rfl ?_
      refine zv_ishr X dX0_gain_18 rfl ?_
      refine zv_iconst (v := 1) X dX0_gain_19 (by decide) rfl ?_
      refine zv_iand X dX0_gain_20 rfl ?_
      refine zv_iconst (v := 1) X dX0_gain_21 (by decide) rfl ?_
      refine zv_icmp_ne (tgt := 34) X dX0_gain_22 (by decide) rfl (fun q22 => ?_) (fun q22 => ?_)
      · replace h := h.2 q22
        refine zv_iconst (v := 0) X dX0_gain_34 (by decide) rfl ?_
        exact zv_iret X hr hlk h dX0_gain_35
      · replace h := h.1 q22
        refine zv_aload_n X dX0_gain_25 0 rfl rfl rfl ?_
        refine zg_X0_3 (k := k) X hY.1.1 hY.1.2 fl_X0_22 dX0_gain_26 rfl ?_
        refine zv_iconst (v := 3) X dX0_gain_29 (by decide) rfl ?_
        refine zv_idiv X dX0_gain_30 (by decide) rfl ?_
        refine zv_goto (tgt := 35) X dX0_gain_31 (by decide) ?_
        exact zv_iret X hr hlk h dX0_gain_35
def rmJ6_bitCount_0f7a4 : Room := { frames := 0, cells := 0, slots := 0, locals := 0 }
def pJ6_bitCount_0f7a4 (x0 : Int32) (σ : zz_T) (Q : Int32 → zz_T → Prop) : Prop :=
    Q ((((((((x0 - ((Int32.toUInt32 x0 >>> (Int32.toUInt32 1 &&& Int32.toUInt32 31)).toInt32 &&& 1431655765)) &&& 858993459) + ((Int32.toUInt32 (x0 - ((Int32.toUInt32 x0 >>> (Int32.toUInt32 1 &&& Int32.toUInt32 31)).toInt32 &&& 1431655765)) >>> (Int32.toUInt32 2 &&& Int32.toUInt32 31)).toInt32 &&& 858993459)) + (Int32.toUInt32 (((x0 - ((Int32.toUInt32 x0 >>> (Int32.toUInt32 1 &&& Int32.toUInt32 31)).toInt32 &&& 1431655765)) &&& 858993459) + ((Int32.toUInt32 (x0 - ((Int32.toUInt32 x0 >>> (Int32.toUInt32 1 &&& Int32.toUInt32 31)).toInt32 &&& 1431655765)) >>> (Int32.toUInt32 2 &&& Int32.toUInt32 31)).toInt32 &&& 858993459)) >>> (Int32.toUInt32 4 &&& Int32.toUInt32 31)).toInt32) &&& 252645135) + (Int32.toUInt32 (((((x0 - ((Int32.toUInt32 x0 >>> (Int32.toUInt32 1 &&& Int32.toUInt32 31)).toInt32 &&& 1431655765)) &&& 858993459) + ((Int32.toUInt32 (x0 - ((Int32.toUInt32 x0 >>> (Int32.toUInt32 1 &&& Int32.toUInt32 31)).toInt32 &&& 1431655765)) >>> (Int32.toUInt32 2 &&& Int32.toUInt32 31)).toInt32 &&& 858993459)) + (Int32.toUInt32 (((x0 - ((Int32.toUInt32 x0 >>> (Int32.toUInt32 1 &&& Int32.toUInt32 31)).toInt32 &&& 1431655765)) &&& 858993459) + ((Int32.toUInt32 (x0 - ((Int32.toUInt32 x0 >>> (Int32.toUInt32 1 &&& Int32.toUInt32 31)).toInt32 &&& 1431655765)) >>> (Int32.toUInt32 2 &&& Int32.toUInt32 31)).toInt32 &&& 858993459)) >>> (Int32.toUInt32 4 &&& Int32.toUInt32 31)).toInt32) &&& 252645135) >>> (Int32.toUInt32 8 &&& Int32.toUInt32 31)).toInt32) + (Int32.toUInt32 ((((((x0 - ((Int32.toUInt32 x0 >>> (Int32.toUInt32 1 &&& Int32.toUInt32 31)).toInt32 &&& 1431655765)) &&& 858993459) + ((Int32.toUInt32 (x0 - ((Int32.toUInt32 x0 >>> (Int32.toUInt32 1 &&& Int32.toUInt32 31)).toInt32 &&& 1431655765)) >>> (Int32.toUInt32 2 &&& Int32.toUInt32 31)).toInt32 &&& 858993459)) + (Int32.toUInt32 (((x0 - ((Int32.toUInt32 x0 >>> (Int32.toUInt32 1 &&& Int32.toUInt32 31)).toInt32 &&& 1431655765)) &&& 858993459) + ((Int32.toUInt32 (x0 - ((Int32.toUInt32 x0 >>> (Int32.toUInt32 1 &&& Int32.toUInt32 31)).toInt32 &&& 1431655765)) >>> (Int32.toUInt32 2 &&& Int32.toUInt32 31)).toInt32 &&& 858993459)) >>> (Int32.toUInt32 4 &&& Int32.toUInt32 31)).toInt32) &&& 252645135) + (Int32.toUInt32 (((((x0 - ((Int32.toUInt32 x0 >>> (Int32.toUInt32 1 &&& Int32.toUInt32 31)).toInt32 &&& 1431655765)) &&& 858993459) + ((Int32.toUInt32 (x0 - ((Int32.toUInt32 x0 >>> (Int32.toUInt32 1 &&& Int32.toUInt32 31)).toInt32 &&& 1431655765)) >>> (Int32.toUInt32 2 &&& Int32.toUInt32 31)).toInt32 &&& 858993459)) + (Int32.toUInt32 (((x0 - ((Int32.toUInt32 x0 >>> (Int32.toUInt32 1 &&& Int32.toUInt32 31)).toInt32 &&& 1431655765)) &&& 858993459) + ((Int32.toUInt32 (x0 - ((Int32.toUInt32 x0 >>> (Int32.toUInt32 1 &&& Int32.toUInt32 31)).toInt32 &&& 1431655765)) >>> (Int32.toUInt32 2 &&& Int32.toUInt32 31)).toInt32 &&& 858993459)) >>> (Int32.toUInt32 4 &&& Int32.toUInt32 31)).toInt32) &&& 252645135) >>> (Int32.toUInt32 8 &&& Int32.toUInt32 31)).toInt32) >>> (Int32.toUInt32 16 &&& Int32.toUInt32 31)).toInt32) &&& 63) σ
set_option maxHeartbeats 4000000 in
set_option maxRecDepth 100000 in
theorem kJ6_bitCount_0f7a4 (l : Launch) {Y : zz_Y} (hJ : zz_J Y) (x0 : Int32)  {σ : zz_T} {Q : Int32 → zz_T → Prop} (h : pJ6_bitCount_0f7a4 x0 σ Q) : zz_Mi l yJ6_bitCount_0f7a4 cJ6_bitCount_0f7a4 1 (some .int) rmJ6_bitCount_0f7a4 Y [.int x0] σ Q := by
  refine zz_Mi.start (by decide) hJ (Nat.le_of_ble_eq_true rfl) (fun p e s m below meth c X hr hlk => ?_)
  have X : zz_X p m c cJ6_bitCount_0f7a4 1 s _ RJ6 := X
  refine zv_sub (lv2 := [(0, .int x0)]) [0] rfl ?_
  unfold pJ6_bitCount_0f7a4 at h
  refine zv_iload_n X dJ6_bitCount_0f7a4_0 0 rfl rfl rfl ?_
  refine zv_iload_n X dJ6_bitCount_0f7a4_1 0 rfl rfl rfl ?_
  refine zv_iconst (v := 1) X dJ6_bitCount_0f7a4_2 (by decide) rfl ?_
  refine zv_iushr X dJ6_bitCount_0f7a4_3 rfl ?_
  refine zv_ldcw (v := 1431655765) X dJ6_bitCount_0f7a4_4 co_J6_265 rfl ?_
  refine zv_iand X dJ6_bitCount_0f7a4_7 rfl ?_
  refine zv_isub X dJ6_bitCount_0f7a4_8 rfl ?_
  refine zv_istore_n (lv2 := [(0, .int (x0 - ((Int32.toUInt32 x0 >>> (Int32.toUInt32 1 &&& Int32.toUInt32 31)).toInt32 &&& 1431655765)))]) X dJ6_bitCount_0f7a4_9 rfl (by decide) rfl rfl ?_
  refine zv_iload_n X dJ6_bitCount_0f7a4_10 0 rfl rfl rfl ?_
  refine zv_ldcw (v := 858993459) X dJ6_bitCount_0f7a4_11 co_J6_266 rfl ?_
  refine zv_iand X dJ6_bitCount_0f7a4_14 rfl ?_
  refine zv_iload_n X dJ6_bitCount_0f7a4_15 0 rfl rfl rfl ?_
  refine zv_iconst (v := 2) X dJ6_bitCount_0f7a4_16 (by decide) rfl ?_
  refine zv_iushr X dJ6_bitCount_0f7a4_17 rfl ?_
  refine zv_ldcw (v := 858993459) X dJ6_bitCount_0f7a4_18 co_J6_266 rfl ?_
  refine zv_iand X dJ6_bitCount_0f7a4_21 rfl ?_
  refine zv_iadd X dJ6_bitCount_0f7a4_22 rfl ?_
  refine zv_istore_n (lv2 := [(0, .int (((x0 - ((Int32.toUInt32 x0 >>> (Int32.toUInt32 1 &&& Int32.toUInt32 31)).toInt32 &&& 1431655765)) &&& 858993459) + ((Int32.toUInt32 (x0 - ((Int32.toUInt32 x0 >>> (Int32.toUInt32 1 &&& Int32.toUInt32 31)).toInt32 &&& 1431655765)) >>> (Int32.toUInt32 2 &&& Int32.toUInt32 31)).toInt32 &&& 858993459)))]) X dJ6_bitCount_0f7a4_23 rfl (by decide) rfl rfl ?_
  refine zv_iload_n X dJ6_bitCount_0f7a4_24 0 rfl rfl rfl ?_
  refine zv_iload_n X dJ6_bitCount_0f7a4_25 0 rfl rfl rfl ?_
  refine zv_iconst (v := 4) X dJ6_bitCount_0f7a4_26 (by decide) rfl ?_
  refine zv_iushr X dJ6_bitCount_0f7a4_27 rfl ?_
  refine zv_iadd X dJ6_bitCount_0f7a4_28 rfl ?_
  refine zv_ldcw (v := 252645135) X dJ6_bitCount_0f7a4_29 co_J6_267 rfl ?_
  refine zv_iand X dJ6_bitCount_0f7a4_32 rfl ?_
  refine zv_istore_n (lv2 := [(0, .int (((((x0 - ((Int32.toUInt32 x0 >>> (Int32.toUInt32 1 &&& Int32.toUInt32 31)).toInt32 &&& 1431655765)) &&& 858993459) + ((Int32.toUInt32 (x0 - ((Int32.toUInt32 x0 >>> (Int32.toUInt32 1 &&& Int32.toUInt32 31)).toInt32 &&& 1431655765)) >>> (Int32.toUInt32 2 &&& Int32.toUInt32 31)).toInt32 &&& 858993459)) + (Int32.toUInt32 (((x0 - ((Int32.toUInt32 x0 >>> (Int32.toUInt32 1 &&& Int32.toUInt32 31)).toInt32 &&& 1431655765)) &&& 858993459) + ((Int32.toUInt32 (x0 - ((Int32.toUInt32 x0 >>> (Int32.toUInt32 1 &&& Int32.toUInt32 31)).toInt32 &&& 1431655765)) >>> (Int32.toUInt32 2 &&& Int32.toUInt32 31)).toInt32 &&& 858993459)) >>> (Int32.toUInt32 4 &&& Int32.toUInt32 31)).toInt32) &&& 252645135))]) X dJ6_bitCount_0f7a4_33 rfl (by decide) rfl rfl ?_
  refine zv_iload_n X dJ6_bitCount_0f7a4_34 0 rfl rfl rfl ?_
  refine zv_iload_n X dJ6_bitCount_0f7a4_35 0 rfl rfl rfl ?_
  refine zv_bipush (v := 8) X dJ6_bitCount_0f7a4_36 (by decide) rfl ?_
  refine zv_iushr X dJ6_bitCount_0f7a4_38 rfl ?_
  refine zv_iadd X dJ6_bitCount_0f7a4_39 rfl ?_
  refine zv_istore_n (lv2 := [(0, .int ((((((x0 - ((Int32.toUInt32 x0 >>> (Int32.toUInt32 1 &&& Int32.toUInt32 31)).toInt32 &&& 1431655765)) &&& 858993459) + ((Int32.toUInt32 (x0 - ((Int32.toUInt32 x0 >>> (Int32.toUInt32 1 &&& Int32.toUInt32 31)).toInt32 &&& 1431655765)) >>> (Int32.toUInt32 2 &&& Int32.toUInt32 31)).toInt32 &&& 858993459)) + (Int32.toUInt32 (((x0 - ((Int32.toUInt32 x0 >>> (Int32.toUInt32 1 &&& Int32.toUInt32 31)).toInt32 &&& 1431655765)) &&& 858993459) + ((Int32.toUInt32 (x0 - ((Int32.toUInt32 x0 >>> (Int32.toUInt32 1 &&& Int32.toUInt32 31)).toInt32 &&& 1431655765)) >>> (Int32.toUInt32 2 &&& Int32.toUInt32 31)).toInt32 &&& 858993459)) >>> (Int32.toUInt32 4 &&& Int32.toUInt32 31)).toInt32) &&& 252645135) + (Int32.toUInt32 (((((x0 - ((Int32.toUInt32 x0 >>> (Int32.toUInt32 1 &&& Int32.toUInt32 31)).toInt32 &&& 1431655765)) &&& 858993459) + ((Int32.toUInt32 (x0 - ((Int32.toUInt32 x0 >>> (Int32.toUInt32 1 &&& Int32.toUInt32 31)).toInt32 &&& 1431655765)) >>> (Int32.toUInt32 2 &&& Int32.toUInt32 31)).toInt32 &&& 858993459)) + (Int32.toUInt32 (((x0 - ((Int32.toUInt32 x0 >>> (Int32.toUInt32 1 &&& Int32.toUInt32 31)).toInt32 &&& 1431655765)) &&& 858993459) + ((Int32.toUInt32 (x0 - ((Int32.toUInt32 x0 >>> (Int32.toUInt32 1 &&& Int32.toUInt32 31)).toInt32 &&& 1431655765)) >>> (Int32.toUInt32 2 &&& Int32.toUInt32 31)).toInt32 &&& 858993459)) >>> (Int32.toUInt32 4 &&& Int32.toUInt32 31)).toInt32) &&& 252645135) >>> (Int32.toUInt32 8 &&& Int32.toUInt32 31)).toInt32))]) X dJ6_bitCount_0f7a4_40 rfl (by decide) rfl rfl ?_
  refine zv_iload_n X dJ6_bitCount_0f7a4_41 0 rfl rfl rfl ?_
  refine zv_iload_n X dJ6_bitCount_0f7a4_42 0 rfl rfl rfl ?_
  refine zv_bipush (v := 16) X dJ6_bitCount_0f7a4_43 (by decide) rfl ?_
  refine zv_iushr X dJ6_bitCount_0f7a4_45 rfl ?_
  refine zv_iadd X dJ6_bitCount_0f7a4_46 rfl ?_
  refine zv_istore_n (lv2 := [(0, .int (((((((x0 - ((Int32.toUInt32 x0 >>> (Int32.toUInt32 1 &&& Int32.toUInt32 31)).toInt32 &&& 1431655765)) &&& 858993459) + ((Int32.toUInt32 (x0 - ((Int32.toUInt32 x0 >>> (Int32.toUInt32 1 &&& Int32.toUInt32 31)).toInt32 &&& 1431655765)) >>> (Int32.toUInt32 2 &&& Int32.toUInt32 31)).toInt32 &&& 858993459)) + (Int32.toUInt32 (((x0 - ((Int32.toUInt32 x0 >>> (Int32.toUInt32 1 &&& Int32.toUInt32 31)).toInt32 &&& 1431655765)) &&& 858993459) + ((Int32.toUInt32 (x0 - ((Int32.toUInt32 x0 >>> (Int32.toUInt32 1 &&& Int32.toUInt32 31)).toInt32 &&& 1431655765)) >>> (Int32.toUInt32 2 &&& Int32.toUInt32 31)).toInt32 &&& 858993459)) >>> (Int32.toUInt32 4 &&& Int32.toUInt32 31)).toInt32) &&& 252645135) + (Int32.toUInt32 (((((x0 - ((Int32.toUInt32 x0 >>> (Int32.toUInt32 1 &&& Int32.toUInt32 31)).toInt32 &&& 1431655765)) &&& 858993459) + ((Int32.toUInt32 (x0 - ((Int32.toUInt32 x0 >>> (Int32.toUInt32 1 &&& Int32.toUInt32 31)).toInt32 &&& 1431655765)) >>> (Int32.toUInt32 2 &&& Int32.toUInt32 31)).toInt32 &&& 858993459)) + (Int32.toUInt32 (((x0 - ((Int32.toUInt32 x0 >>> (Int32.toUInt32 1 &&& Int32.toUInt32 31)).toInt32 &&& 1431655765)) &&& 858993459) + ((Int32.toUInt32 (x0 - ((Int32.toUInt32 x0 >>> (Int32.toUInt32 1 &&& Int32.toUInt32 31)).toInt32 &&& 1431655765)) >>> (Int32.toUInt32 2 &&& Int32.toUInt32 31)).toInt32 &&& 858993459)) >>> (Int32.toUInt32 4 &&& Int32.toUInt32 31)).toInt32) &&& 252645135) >>> (Int32.toUInt32 8 &&& Int32.toUInt32 31)).toInt32) + (Int32.toUInt32 ((((((x0 - ((Int32.toUInt32 x0 >>> (Int32.toUInt32 1 &&& Int32.toUInt32 31)).toInt32 &&& 1431655765)) &&& 858993459) + ((Int32.toUInt32 (x0 - ((Int32.toUInt32 x0 >>> (Int32.toUInt32 1 &&& Int32.toUInt32 31)).toInt32 &&& 1431655765)) >>> (Int32.toUInt32 2 &&& Int32.toUInt32 31)).toInt32 &&& 858993459)) + (Int32.toUInt32 (((x0 - ((Int32.toUInt32 x0 >>> (Int32.toUInt32 1 &&& Int32.toUInt32 31)).toInt32 &&& 1431655765)) &&& 858993459) + ((Int32.toUInt32 (x0 - ((Int32.toUInt32 x0 >>> (Int32.toUInt32 1 &&& Int32.toUInt32 31)).toInt32 &&& 1431655765)) >>> (Int32.toUInt32 2 &&& Int32.toUInt32 31)).toInt32 &&& 858993459)) >>> (Int32.toUInt32 4 &&& Int32.toUInt32 31)).toInt32) &&& 252645135) + (Int32.toUInt32 (((((x0 - ((Int32.toUInt32 x0 >>> (Int32.toUInt32 1 &&& Int32.toUInt32 31)).toInt32 &&& 1431655765)) &&& 858993459) + ((Int32.toUInt32 (x0 - ((Int32.toUInt32 x0 >>> (Int32.toUInt32 1 &&& Int32.toUInt32 31)).toInt32 &&& 1431655765)) >>> (Int32.toUInt32 2 &&& Int32.toUInt32 31)).toInt32 &&& 858993459)) + (Int32.toUInt32 (((x0 - ((Int32.toUInt32 x0 >>> (Int32.toUInt32 1 &&& Int32.toUInt32 31)).toInt32 &&& 1431655765)) &&& 858993459) + ((Int32.toUInt32 (x0 - ((Int32.toUInt32 x0 >>> (Int32.toUInt32 1 &&& Int32.toUInt32 31)).toInt32 &&& 1431655765)) >>> (Int32.toUInt32 2 &&& Int32.toUInt32 31)).toInt32 &&& 858993459)) >>> (Int32.toUInt32 4 &&& Int32.toUInt32 31)).toInt32) &&& 252645135) >>> (Int32.toUInt32 8 &&& Int32.toUInt32 31)).toInt32) >>> (Int32.toUInt32 16 &&& Int32.toUInt32 31)).toInt32))]) X dJ6_bitCount_0f7a4_47 rfl (by decide) rfl rfl ?_
  refine zv_iload_n X dJ6_bitCount_0f7a4_48 0 rfl rfl rfl ?_
  refine zv_bipush (v := 63) X dJ6_bitCount_0f7a4_49 (by decide) rfl ?_
  refine zv_iand X dJ6_bitCount_0f7a4_51 rfl ?_
  exact zv_iret X hr hlk h dJ6_bitCount_0f7a4_52
def rmX0_settle : Room := { frames := 0, cells := 0, slots := 0, locals := 0 }
def pX0_settle_94 (k : Nat) (Q : zz_T → Prop) (K5 : Int32 → Int32 → Int32 → Int32 → zz_T → Prop) (x1 : Int32) (x2 : Int32) (x4 : Int32) (x5 : Int32) (t1 : Int32) (t2 : Int32) (σ : zz_T) : Prop :=
    vp_in t1 8 ∧
    K5 x1 x2 x5 (x4 + 1) (zz_i σ (k + 1) (Int32.toNatClampNeg t1) t2)
set_option maxHeartbeats 4000000 in
set_option maxRecDepth 100000 in
theorem vX0_settle_94 {p : Program} {l : Launch} {e : Env} {s : State} {m : MethodId} {args : Array Value} {below : List Frame} {meth : Method} {c : Code} {Y : zz_Y} {k : Nat} {Q : zz_T → Prop} {K5 : Int32 → Int32 → Int32 → Int32 → zz_T → Prop} (X : zz_X p m c cX0_settle 7 s args RX0) (hr : meth.sig.returnType = none) (hlk : meth.locks = false) (hJ : zz_J Y) (hY : zz_hd Y k) (hK5 : ∀ (x1 : Int32) (x2 : Int32) (x3 : Int32) (x4 : Int32) (σ : zz_T), K5 x1 x2 x3 x4 σ → zz_V p l e rmX0_settle s m args below meth c (MQ below (va_Qv Q (zz_E Y) (zz_A Y)) args s 0 0 (zz_A Y)) 7 Y σ 5 [(0, .ref (Y.2.1 k)), (1, .int x1), (2, .int x2), (3, .int x3), (4, .int x4)] []) : ∀ (x1 : Int32) (x2 : Int32) (x4 : Int32) (x5 : Int32) (t1 : Int32) (t2 : Int32) (σ : zz_T), pX0_settle_94 k Q K5 x1 x2 x4 x5 t1 t2 σ → zz_V p l e rmX0_settle s m args below meth c (MQ below (va_Qv Q (zz_E Y) (zz_A Y)) args s 0 0 (zz_A Y)) 7 Y σ 94 [(0, .ref (Y.2.1 k)), (1, .int x1), (2, .int x2), (4, .int x4), (5, .int x5)] [.int t2, .int t1, .ref (Y.2.1 (k + 1))] := by
  intro x1 x2 x4 x5 t1 t2 σ h 
  unfold pX0_settle_94 at h
  obtain ⟨hi94, h⟩ := h
  refine zv_iast (k := (k + 1)) X hY.2.1.1 hY.2.1.2 hi94 dX0_settle_94 rfl ?_
  refine zv_iload X dX0_settle_95 4 rfl rfl ?_
  refine zv_istore_n (lv2 := [(3, .int x5), (0, .ref (Y.2.1 k)), (1, .int x1), (2, .int x2), (4, .int x4), (5, .int x5)]) X dX0_settle_97 rfl (by decide) rfl rfl ?_
  refine zv_iinc (v := (x4 + 1)) (lv2 := [(4, .int (x4 + 1)), (3, .int x5), (0, .ref (Y.2.1 k)), (1, .int x1), (2, .int x2), (5, .int x5)]) X dX0_settle_98 4 rfl rfl (by decide) rfl rfl ?_
  refine zv_goto (tgt := 5) X dX0_settle_101 (by decide) ?_
  refine zv_sub (lv2 := [(0, .ref (Y.2.1 k)), (1, .int x1), (2, .int x2), (3, .int x5), (4, .int (x4 + 1))]) [2, 3, 4, 1, 0] rfl ?_
  exact hK5 x1 x2 x5 (x4 + 1) _ h
def pX0_settle_47 (k : Nat) (Q : zz_T → Prop) (K5 : Int32 → Int32 → Int32 → Int32 → zz_T → Prop) (x1 : Int32) (x2 : Int32) (x3 : Int32) (x4 : Int32) (t0 : Int32) (σ : zz_T) : Prop :=
    vp_in x4 8 ∧
    ((0 ≤ ((((σ.1 (k + 2) (Int32.toNatClampNeg x4)) + x3) - t0) - x1) → ((((((σ.1 (k + 2) (Int32.toNatClampNeg x4)) + x3) - t0) - x1) ≤ 99 → pX0_settle_94 k Q K5 x1 x2 x4 t0 x4 ((((σ.1 (k + 2) (Int32.toNatClampNeg x4)) + x3) - t0) - x1) σ) ∧
    (¬ ((((σ.1 (k + 2) (Int32.toNatClampNeg x4)) + x3) - t0) - x1) ≤ 99 → pX0_settle_94 k Q K5 x1 x2 x4 t0 x4 99 σ))) ∧
    (¬ 0 ≤ ((((σ.1 (k + 2) (Int32.toNatClampNeg x4)) + x3) - t0) - x1) → pX0_settle_94 k Q K5 x1 x2 x4 t0 x4 0 σ))
set_option maxHeartbeats 4000000 in
set_option maxRecDepth 100000 in
theorem vX0_settle_47 {p : Program} {l : Launch} {e : Env} {s : State} {m : MethodId} {args : Array Value} {below : List Frame} {meth : Method} {c : Code} {Y : zz_Y} {k : Nat} {Q : zz_T → Prop} {K5 : Int32 → Int32 → Int32 → Int32 → zz_T → Prop} (X : zz_X p m c cX0_settle 7 s args RX0) (hr : meth.sig.returnType = none) (hlk : meth.locks = false) (hJ : zz_J Y) (hY : zz_hd Y k) (hK5 : ∀ (x1 : Int32) (x2 : Int32) (x3 : Int32) (x4 : Int32) (σ : zz_T), K5 x1 x2 x3 x4 σ → zz_V p l e rmX0_settle s m args below meth c (MQ below (va_Qv Q (zz_E Y) (zz_A Y)) args s 0 0 (zz_A Y)) 7 Y σ 5 [(0, .ref (Y.2.1 k)), (1, .int x1), (2, .int x2), (3, .int x3), (4, .int x4)] []) : ∀ (x1 : Int32) (x2 : Int32) (x3 : Int32) (x4 : Int32) (t0 : Int32) (σ : zz_T), pX0_settle_47 k Q K5 x1 x2 x3 x4 t0 σ → zz_V p l e rmX0_settle s m args below meth c (MQ below (va_Qv Q (zz_E Y) (zz_A Y)) args s 0 0 (zz_A Y)) 7 Y σ 47 [(0, .ref (Y.2.1 k)), (1, .int x1), (2, .int x2), (3, .int x3), (4, .int x4)] [.int t0] := by
  intro x1 x2 x3 x4 t0 σ h 
  unfold pX0_settle_47 at h
  refine zv_istore (lv2 := [(5, .int t0), (0, .ref (Y.2.1 k)), (1, .int x1), (2, .int x2), (3, .int x3), (4, .int x4)]) X dX0_settle_47 (by decide) rfl rfl ?_
  refine zv_aload_n X dX0_settle_49 1 rfl rfl rfl ?_
  refine zg_X0_1 (k := k) X hY.1.1 hY.1.2 fl_X0_15 dX0_settle_50 rfl ?_
  refine zv_iload X dX0_settle_53 5 rfl rfl ?_
  obtain ⟨hi55, h⟩ := h
  refine zv_iald (k := (k + 2)) X hY.2.2.1 hY.2.2.2 hi55 dX0_settle_55 rfl ?_
  refine zv_iload_n X dX0_settle_56 4 rfl rfl rfl ?_
  refine zv_iadd X dX0_settle_57 rfl ?_
  refine zv_iload X dX0_settle_58 0 rfl rfl ?_
  refine zv_isub X dX0_settle_60 rfl ?_
  refine zv_iload_n X dX0_settle_61 2 rfl rfl rfl ?_
  refine zv_isub X dX0_settle_62 rfl ?_
  refine zv_istore (lv2 := [(6, .int ((((σ.1 (k + 2) (Int32.toNatClampNeg x4)) + x3) - t0) - x1)), (5, .int t0), (0, .ref (Y.2.1 k)), (1, .int x1), (2, .int x2), (3, .int x3), (4, .int x4)]) X dX0_settle_63 (by decide) rfl rfl ?_
  refine zv_aload_n X dX0_settle_65 2 rfl rfl rfl ?_
  refine zg_X0_0 (k := k) X hY.1.1 hY.1.2 fl_X0_9 dX0_settle_66 rfl ?_
  refine zv_iload X dX0_settle_69 6 rfl rfl ?_
  refine zv_iload X dX0_settle_71 0 rfl rfl ?_
  refine zv_if_ge (tgt := 80) X dX0_settle_73 (by decide) rfl (fun q73 => ?_) (fun q73 => ?_)
  · replace h := h.1 q73
    refine zv_iload X dX0_settle_80 0 rfl rfl ?_
    refine zv_bipush (v := 99) X dX0_settle_82 (by decide) rfl ?_
    refine zv_icmp_le (tgt := 92) X dX0_settle_84 (by decide) rfl (fun q84 => ?_) (fun q84 => ?_)
    · replace h := h.1 q84
      refine zv_iload X dX0_settle_92 0 rfl rfl ?_
      refine zv_sub (lv2 := [(0, .ref (Y.2.1 k)), (1, .int x1), (2, .int x2), (4, .int x4), (5, .int t0)]) [2, 3, 4, 6, 1] rfl ?_
      exact vX0_settle_94 X hr hlk hJ hY hK5 x1 x2 x4 t0 x4 ((((σ.1 (k + 2) (Int32.toNatClampNeg x4)) + x3) - t0) - x1) _ h
    · replace h := h.2 q84
      refine zv_bipush (v := 99) X dX0_settle_87 (by decide) rfl ?_
      refine zv_goto (tgt := 94) X dX0_settle_89 (by decide) ?_
      refine zv_sub (lv2 := [(0, .ref (Y.2.1 k)), (1, .int x1), (2, .int x2), (4, .int x4), (5, .int t0)]) [2, 3, 4, 6, 1] rfl ?_
      exact vX0_settle_94 X hr hlk hJ hY hK5 x1 x2 x4 t0 x4 99 _ h
  · replace h := h.2 q73
    refine zv_iconst (v := 0) X dX0_settle_76 (by decide) rfl ?_
    refine zv_goto (tgt := 94) X dX0_settle_77 (by decide) ?_
    refine zv_sub (lv2 := [(0, .ref (Y.2.1 k)), (1, .int x1), (2, .int x2), (4, .int x4), (5, .int t0)]) [2, 3, 4, 6, 1] rfl ?_
    exact vX0_settle_94 X hr hlk hJ hY hK5 x1 x2 x4 t0 x4 0 _ h
def pX0_settle_5 (k : Nat) (Q : zz_T → Prop) : Nat → Int32 → Int32 → Int32 → Int32 → zz_T → Prop
  | 0, _, _, _, _, _ => False
  | n + 1, x1, x2, x3, x4, σ =>
    ((8 ≤ x4 → Q σ) ∧
    (¬ 8 ≤ x4 → ((8 ≤ (x4 + 1) → pX0_settle_47 k Q (pX0_settle_5 k Q n) x1 x2 x3 x4 0 σ) ∧
    (¬ 8 ≤ (x4 + 1) → vp_in x4 8 ∧
    vp_in (x4 + 1) 8 ∧
    pX0_settle_47 k Q (pX0_settle_5 k Q n) x1 x2 x3 x4 ((((σ.1 (k + 2) (Int32.toNatClampNeg x4)) - (σ.1 (k + 2) (Int32.toNatClampNeg (x4 + 1)))) * x2) / 8) σ))))
set_option maxHeartbeats 4000000 in
set_option maxRecDepth 100000 in
theorem vX0_settle_5 {p : Program} {l : Launch} {e : Env} {s : State} {m : MethodId} {args : Array Value} {below : List Frame} {meth : Method} {c : Code} {Y : zz_Y} {k : Nat} {Q : zz_T → Prop} (X : zz_X p m c cX0_settle 7 s args RX0) (hr : meth.sig.returnType = none) (hlk : meth.locks = false) (hJ : zz_J Y) (hY : zz_hd Y k)  : ∀ (n : Nat) (x1 : Int32) (x2 : Int32) (x3 : Int32) (x4 : Int32) (σ : zz_T), pX0_settle_5 k Q n x1 x2 x3 x4 σ → zz_V p l e rmX0_settle s m args below meth c (MQ below (va_Qv Q (zz_E Y) (zz_A Y)) args s 0 0 (zz_A Y)) 7 Y σ 5 [(0, .ref (Y.2.1 k)), (1, .int x1), (2, .int x2), (3, .int x3), (4, .int x4)] [] := by
  intro n
  induction n with
  | zero => intro x1 x2 x3 x4 σ h; exact h.elim
  | succ n ih =>
    intro x1 x2 x3 x4 σ h 
    unfold pX0_settle_5 at h
    refine zv_iload X dX0_settle_5 4 rfl rfl ?_
    refine zv_bipush (v := 8) X dX0_settle_7 (by decide) rfl ?_
    refine zv_icmp_ge (tgt := 104) X dX0_settle_9 (by decide) rfl (fun q9 => ?_) (fun q9 => ?_)
    · replace h := h.1 q9
      exact zv_vret X hr hlk h dX0_settle_104
    · replace h := h.2 q9
      refine zv_iload X dX0_settle_12 4 rfl rfl ?_
      refine zv_iconst (v := 1) X dX0_settle_14 (by decide) rfl ?_
      refine zv_iadd X dX0_settle_15 rfl ?_
      refine zv_bipush (v := 8) X dX0_settle_16 (by decide) rfl ?_
      refine zv_icmp_ge (tgt := 46) X dX0_settle_18 (by decide) rfl (fun q18 => ?_) (fun q18 => ?_)
      · replace h := h.1 q18
        refine zv_iconst (v := 0) X dX0_settle_46 (by decide) rfl ?_
        exact vX0_settle_47 X hr hlk hJ hY ih x1 x2 x3 x4 0 _ h
      · replace h := h.2 q18
        refine zv_aload_n X dX0_settle_21 0 rfl rfl rfl ?_
        refine zg_X0_1 (k := k) X hY.1.1 hY.1.2 fl_X0_15 dX0_settle_22 rfl ?_
        refine zv_iload X dX0_settle_25 4 rfl rfl ?_
        obtain ⟨hi27, h⟩ := h
        refine zv_iald (k := (k + 2)) X hY.2.2.1 hY.2.2.2 hi27 dX0_settle_27 rfl ?_
        refine zv_aload_n X dX0_settle_28 0 rfl rfl rfl ?_
        refine zg_X0_1 (k := k) X hY.1.1 hY.1.2 fl_X0_15 dX0_settle_29 rfl ?_
        refine zv_iload X dX0_settle_32 4 rfl rfl ?_
        refine zv_iconst (v := 1) X dX0_settle_34 (by decide) rfl ?_
        refine zv_iadd X dX0_settle_35 rfl ?_
        obtain ⟨hi36, h⟩ := h
        refine zv_iald (k := (k + 2)) X hY.2.2.1 hY.2.2.2 hi36 dX0_settle_36 rfl ?_
        refine zv_isub X dX0_settle_37 rfl ?_
        refine zv_iload_n X dX0_settle_38 2 rfl rfl rfl ?_
        refine zv_imul X dX0_settle_39 rfl ?_
        refine zv_bipush (v := 8) X dX0_settle_40 (by decide) rfl ?_
        refine zv_idiv X dX0_settle_42 (by decide) rfl ?_
        refine zv_goto (tgt := 47) X dX0_settle_43 (by decide) ?_
        exact vX0_settle_47 X hr hlk hJ hY ih x1 x2 x3 x4 ((((σ.1 (k + 2) (Int32.toNatClampNeg x4)) - (σ.1 (k + 2) (Int32.toNatClampNeg (x4 + 1)))) * x2) / 8) _ h
def pX0_settle (k : Nat) (x1 : Int32) (x2 : Int32) (σ : zz_T) (Q : zz_T → Prop) : Prop :=
    ∃ n5, pX0_settle_5 k Q n5 x1 x2 0 0 σ
set_option maxHeartbeats 4000000 in
set_option maxRecDepth 100000 in
theorem kX0_settle (l : Launch) {Y : zz_Y} (hJ : zz_J Y) {k : Nat} (x1 : Int32) (x2 : Int32) (hY : zz_hd Y k) {σ : zz_T} {Q : zz_T → Prop} (h : pX0_settle k x1 x2 σ Q) : zz_Mv l yX0_settle cX0_settle 7 none rmX0_settle Y [.ref (Y.2.1 k), .int x1, .int x2] σ Q := by
  refine zz_Mv.start (by decide) hJ (Nat.le_of_ble_eq_true rfl) (fun p e s m below meth c X hr hlk => ?_)
  have X : zz_X p m c cX0_settle 7 s _ RX0 := X
  refine zv_sub (lv2 := [(0, .ref (Y.2.1 k)), (1, .int x1), (2, .int x2)]) [0, 1, 2] rfl ?_
  unfold pX0_settle at h
  refine zv_iconst (v := 0) X dX0_settle_0 (by decide) rfl ?_
  refine zv_istore_n (lv2 := [(3, .int 0), (0, .ref (Y.2.1 k)), (1, .int x1), (2, .int x2)]) X dX0_settle_1 rfl (by decide) rfl rfl ?_
  refine zv_iconst (v := 0) X dX0_settle_2 (by decide) rfl ?_
  refine zv_istore (lv2 := [(4, .int 0), (3, .int 0), (0, .ref (Y.2.1 k)), (1, .int x1), (2, .int x2)]) X dX0_settle_3 (by decide) rfl rfl ?_
  obtain ⟨n5, h⟩ := h
  refine zv_sub (lv2 := [(0, .ref (Y.2.1 k)), (1, .int x1), (2, .int x2), (3, .int 0), (4, .int 0)]) [2, 3, 4, 1, 0] rfl ?_
  exact vX0_settle_5 X hr hlk hJ hY n5 x1 x2 0 0 _ h
def rmX0_burnLine : Room := { frames := 1, cells := 0, slots := 0, locals := 26 }
def pX0_burnLine_79 (k : Nat) (c1 : Nat) (Q : Int32 → zz_T → Prop) (K6 : Int32 → Int32 → Int32 → Int32 → Int32 → zz_T → Prop) (x2 : Int32) (x3 : Int32) (x4 : Int32) (x5 : Int32) (x6 : Int32) (σ : zz_T) : Prop :=
    K6 x2 x3 x4 x5 (x6 + 1) σ
set_option maxHeartbeats 4000000 in
set_option maxRecDepth 100000 in
theorem vX0_burnLine_79 {p : Program} {l : Launch} {e : Env} {s : State} {m : MethodId} {args : Array Value} {below : List Frame} {meth : Method} {c : Code} {Y : zz_Y} {k : Nat} {c1 : Nat} {Q : Int32 → zz_T → Prop} {K6 : Int32 → Int32 → Int32 → Int32 → Int32 → zz_T → Prop} (X : zz_X p m c cX0_burnLine 8 s args RX0) (hr : meth.sig.returnType = (some .int)) (hlk : meth.locks = false) (hJ : zz_J Y) (hY : zz_hd Y k) (h1 : zz_pr Y c1) (hK6 : ∀ (x2 : Int32) (x3 : Int32) (x4 : Int32) (x5 : Int32) (x6 : Int32) (σ : zz_T), K6 x2 x3 x4 x5 x6 σ → zz_V p l e rmX0_burnLine s m args below meth c (MQ below (va_Qi Q (zz_E Y) (zz_A Y)) args s 0 0 (zz_A Y)) 8 Y σ 6 [(0, .ref (Y.2.1 k)), (1, .ref (Y.2.1 c1)), (2, .int x2), (3, .int x3), (4, .int x4), (5, .int x5), (6, .int x6)] []) : ∀ (x2 : Int32) (x3 : Int32) (x4 : Int32) (x5 : Int32) (x6 : Int32) (σ : zz_T), pX0_burnLine_79 k c1 Q K6 x2 x3 x4 x5 x6 σ → zz_V p l e rmX0_burnLine s m args below meth c (MQ below (va_Qi Q (zz_E Y) (zz_A Y)) args s 0 0 (zz_A Y)) 8 Y σ 79 [(0, .ref (Y.2.1 k)), (1, .ref (Y.2.1 c1)), (2, .int x2), (3, .int x3), (4, .int x4), (5, .int x5), (6, .int x6)] [] := by
  intro x2 x3 x4 x5 x6 σ h 
  unfold pX0_burnLine_79 at h
  refine zv_iinc (v := (x6 + 1)) (lv2 := [(6, .int (x6 + 1)), (0, .ref (Y.2.1 k)), (1, .ref (Y.2.1 c1)), (2, .int x2), (3, .int x3), (4, .int x4), (5, .int x5)]) X dX0_burnLine_79 6 rfl rfl (by decide) rfl rfl ?_
  refine zv_goto (tgt := 6) X dX0_burnLine_82 (by decide) ?_
  refine zv_sub (lv2 := [(0, .ref (Y.2.1 k)), (1, .ref (Y.2.1 c1)), (2, .int x2), (3, .int x3), (4, .int x4), (5, .int x5), (6, .int (x6 + 1))]) [1, 2, 3, 4, 5, 6, 0] rfl ?_
  exact hK6 x2 x3 x4 x5 (x6 + 1) _ h
def pX0_burnLine_30 (k : Nat) (c1 : Nat) (Q : Int32 → zz_T → Prop) (K6 : Int32 → Int32 → Int32 → Int32 → Int32 → zz_T → Prop) (x2 : Int32) (x3 : Int32) (x4 : Int32) (x5 : Int32) (x6 : Int32) (t0 : Int32) (σ : zz_T) : Prop :=
    vp_in x6 8 ∧
    vp_in x6 8 ∧
    vp_in x6 8 ∧
    vp_in 0 3 ∧
    ((((zz_i σ (k + 2) (Int32.toNatClampNeg x6) (if 99 < ((σ.1 (k + 1) (Int32.toNatClampNeg x6)) + t0) then 99 else ((σ.1 (k + 1) (Int32.toNatClampNeg x6)) + t0))).1 (k + 2) (Int32.toNatClampNeg x6)) < ((zz_i σ (k + 2) (Int32.toNatClampNeg x6) (if 99 < ((σ.1 (k + 1) (Int32.toNatClampNeg x6)) + t0) then 99 else ((σ.1 (k + 1) (Int32.toNatClampNeg x6)) + t0))).1 (c1 + 3) (Int32.toNatClampNeg 0)) → pX0_burnLine_79 k c1 Q K6 x2 x3 x4 x5 x6 (zz_i σ (k + 2) (Int32.toNatClampNeg x6) (if 99 < ((σ.1 (k + 1) (Int32.toNatClampNeg x6)) + t0) then 99 else ((σ.1 (k + 1) (Int32.toNatClampNeg x6)) + t0)))) ∧
    (¬ ((zz_i σ (k + 2) (Int32.toNatClampNeg x6) (if 99 < ((σ.1 (k + 1) (Int32.toNatClampNeg x6)) + t0) then 99 else ((σ.1 (k + 1) (Int32.toNatClampNeg x6)) + t0))).1 (k + 2) (Int32.toNatClampNeg x6)) < ((zz_i σ (k + 2) (Int32.toNatClampNeg x6) (if 99 < ((σ.1 (k + 1) (Int32.toNatClampNeg x6)) + t0) then 99 else ((σ.1 (k + 1) (Int32.toNatClampNeg x6)) + t0))).1 (c1 + 3) (Int32.toNatClampNeg 0)) → pX0_burnLine_79 k c1 Q K6 x2 x3 x4 (x5 ||| (1 <<< (x6 &&& (31 : Int32)))) x6 (zz_i σ (k + 2) (Int32.toNatClampNeg x6) (if 99 < ((σ.1 (k + 1) (Int32.toNatClampNeg x6)) + t0) then 99 else ((σ.1 (k + 1) (Int32.toNatClampNeg x6)) + t0)))))
set_option maxHeartbeats 4000000 in
set_option maxRecDepth 100000 in
theorem vX0_burnLine_30 {p : Program} {l : Launch} {e : Env} {s : State} {m : MethodId} {args : Array Value} {below : List Frame} {meth : Method} {c : Code} {Y : zz_Y} {k : Nat} {c1 : Nat} {Q : Int32 → zz_T → Prop} {K6 : Int32 → Int32 → Int32 → Int32 → Int32 → zz_T → Prop} (X : zz_X p m c cX0_burnLine 8 s args RX0) (hr : meth.sig.returnType = (some .int)) (hlk : meth.locks = false) (hJ : zz_J Y) (hY : zz_hd Y k) (h1 : zz_pr Y c1) (hK6 : ∀ (x2 : Int32) (x3 : Int32) (x4 : Int32) (x5 : Int32) (x6 : Int32) (σ : zz_T), K6 x2 x3 x4 x5 x6 σ → zz_V p l e rmX0_burnLine s m args below meth c (MQ below (va_Qi Q (zz_E Y) (zz_A Y)) args s 0 0 (zz_A Y)) 8 Y σ 6 [(0, .ref (Y.2.1 k)), (1, .ref (Y.2.1 c1)), (2, .int x2), (3, .int x3), (4, .int x4), (5, .int x5), (6, .int x6)] []) : ∀ (x2 : Int32) (x3 : Int32) (x4 : Int32) (x5 : Int32) (x6 : Int32) (t0 : Int32) (σ : zz_T), pX0_burnLine_30 k c1 Q K6 x2 x3 x4 x5 x6 t0 σ → zz_V p l e rmX0_burnLine s m args below meth c (MQ below (va_Qi Q (zz_E Y) (zz_A Y)) args s 0 0 (zz_A Y)) 8 Y σ 30 [(0, .ref (Y.2.1 k)), (1, .ref (Y.2.1 c1)), (2, .int x2), (3, .int x3), (4, .int x4), (5, .int x5), (6, .int x6)] [.int t0] := by
  intro x2 x3 x4 x5 x6 t0 σ h 
  unfold pX0_burnLine_30 at h
  refine zv_istore (lv2 := [(7, .int t0), (0, .ref (Y.2.1 k)), (1, .ref (Y.2.1 c1)), (2, .int x2), (3, .int x3), (4, .int x4), (5, .int x5), (6, .int x6)]) X dX0_burnLine_30 (by decide) rfl rfl ?_
  refine zv_aload_n X dX0_burnLine_32 1 rfl rfl rfl ?_
  refine zg_X0_1 (k := k) X hY.1.1 hY.1.2 fl_X0_15 dX0_burnLine_33 rfl ?_
  refine zv_iload X dX0_burnLine_36 7 rfl rfl ?_
  refine zv_aload_n X dX0_burnLine_38 1 rfl rfl rfl ?_
  refine zg_X0_0 (k := k) X hY.1.1 hY.1.2 fl_X0_9 dX0_burnLine_39 rfl ?_
  refine zv_iload X dX0_burnLine_42 7 rfl rfl ?_
  obtain ⟨hi44, h⟩ := h
  refine zv_iald (k := (k + 1)) X hY.2.1.1 hY.2.1.2 hi44 dX0_burnLine_44 rfl ?_
  refine zv_iload X dX0_burnLine_45 0 rfl rfl ?_
  refine zv_iadd X dX0_burnLine_47 rfl ?_
  refine zv_bipush (v := 99) X dX0_burnLine_48 (by decide) rfl ?_
  refine zv_min X ml_X0_44 (Nat.le_of_ble_eq_true rfl) (Nat.le_of_ble_eq_true rfl) dX0_burnLine_50 rfl ?_
  obtain ⟨hi53, h⟩ := h
  refine zv_iast (k := (k + 2)) X hY.2.2.1 hY.2.2.2 hi53 dX0_burnLine_53 rfl ?_
  refine zv_aload_n X dX0_burnLine_54 1 rfl rfl rfl ?_
  refine zg_X0_1 (k := k) X hY.1.1 hY.1.2 fl_X0_15 dX0_burnLine_55 rfl ?_
  refine zv_iload X dX0_burnLine_58 7 rfl rfl ?_
  obtain ⟨hi60, h⟩ := h
  refine zv_iald (k := (k + 2)) X hY.2.2.1 hY.2.2.2 hi60 dX0_burnLine_60 rfl ?_
  refine zv_aload_n X dX0_burnLine_61 2 rfl rfl rfl ?_
  refine zg_X1_2 (k := c1) X h1.1.1 h1.1.2 fl_X0_50 dX0_burnLine_62 rfl ?_
  refine zv_iconst (v := 0) X dX0_burnLine_65 (by decide) rfl ?_
  obtain ⟨hi66, h⟩ := h
  refine zv_iald (k := (c1 + 3)) X h1.2.2.2.1.1 h1.2.2.2.1.2 hi66 dX0_burnLine_66 rfl ?_
  refine zv_icmp_lt (tgt := 79) X dX0_burnLine_67 (by decide) rfl (fun q67 => ?_) (fun q67 => ?_)
  · replace h := h.1 q67
    refine zv_sub (lv2 := [(0, .ref (Y.2.1 k)), (1, .ref (Y.2.1 c1)), (2, .int x2), (3, .int x3), (4, .int x4), (5, .int x5), (6, .int x6)]) [1, 2, 3, 4, 5, 6, 7] rfl ?_
    exact vX0_burnLine_79 X hr hlk hJ hY h1 hK6 x2 x3 x4 x5 x6 _ h
  · replace h := h.2 q67
    refine zv_iload X dX0_burnLine_70 6 rfl rfl ?_
    refine zv_iconst (v := 1) X dX0_burnLine_72 (by decide) rfl ?_
    refine zv_iload X dX0_burnLine_73 7 rfl rfl ?_
    refine zv_ishl X dX0_burnLine_75 rfl ?_
    refine zv_ior X dX0_burnLine_76 rfl ?_
    refine zv_istore (lv2 := [(5, .int (x5 ||| (1 <<< (x6 &&& (31 : Int32))))), (7, .int t0), (0, .ref (Y.2.1 k)), (1, .ref (Y.2.1 c1)), (2, .int x2), (3, .int x3), (4, .int x4), (6, .int x6)]) X dX0_burnLine_77 (by decide) rfl rfl ?_
    refine zv_sub (lv2 := [(0, .ref (Y.2.1 k)), (1, .ref (Y.2.1 c1)), (2, .int x2), (3, .int x3), (4, .int x4), (5, .int (x5 ||| (1 <<< (x6 &&& (31 : Int32))))), (6, .int x6)]) [2, 3, 4, 5, 6, 0, 7] rfl ?_
    exact vX0_burnLine_79 X hr hlk hJ hY h1 hK6 x2 x3 x4 (x5 ||| (1 <<< (x6 &&& (31 : Int32)))) x6 _ h
def pX0_burnLine_6 (k : Nat) (c1 : Nat) (Q : Int32 → zz_T → Prop) : Nat → Int32 → Int32 → Int32 → Int32 → Int32 → zz_T → Prop
  | 0, _, _, _, _, _, _ => False
  | n + 1, x2, x3, x4, x5, x6, σ =>
    ((8 ≤ x6 → pJ6_bitCount_0f7a4 (x5 ^^^ x2) σ (fun r94 s94 =>
    vp_in 1 3 ∧
    vp_in 2 3 ∧
    pX0_settle k ((zz_i s94 k 4 (if 9999 < ((σ.1 k 4) + r94) then 9999 else ((σ.1 k 4) + r94))).1 (c1 + 3) (Int32.toNatClampNeg 1)) ((zz_i s94 k 4 (if 9999 < ((σ.1 k 4) + r94) then 9999 else ((σ.1 k 4) + r94))).1 (c1 + 3) (Int32.toNatClampNeg 2)) (zz_i s94 k 4 (if 9999 < ((σ.1 k 4) + r94) then 9999 else ((σ.1 k 4) + r94))) (fun s120 =>
    Q x5 s120))) ∧
    (¬ 8 ≤ x6 → ((x4 = 0 → pX0_burnLine_30 k c1 Q (pX0_burnLine_6 k c1 Q n) x2 x3 x4 x5 x6 0 σ) ∧
    (¬ x4 = 0 → pX0_gain k x6 x2 x3 σ (fun r23 s23 =>
    pX0_burnLine_30 k c1 Q (pX0_burnLine_6 k c1 Q n) x2 x3 x4 x5 x6 r23 s23)))))
set_option maxHeartbeats 4000000 in
set_option maxRecDepth 100000 in
theorem vX0_burnLine_6 {p : Program} {l : Launch} {e : Env} {s : State} {m : MethodId} {args : Array Value} {below : List Frame} {meth : Method} {c : Code} {Y : zz_Y} {k : Nat} {c1 : Nat} {Q : Int32 → zz_T → Prop} (X : zz_X p m c cX0_burnLine 8 s args RX0) (hr : meth.sig.returnType = (some .int)) (hlk : meth.locks = false) (hJ : zz_J Y) (hY : zz_hd Y k) (h1 : zz_pr Y c1)  : ∀ (n : Nat) (x2 : Int32) (x3 : Int32) (x4 : Int32) (x5 : Int32) (x6 : Int32) (σ : zz_T), pX0_burnLine_6 k c1 Q n x2 x3 x4 x5 x6 σ → zz_V p l e rmX0_burnLine s m args below meth c (MQ below (va_Qi Q (zz_E Y) (zz_A Y)) args s 0 0 (zz_A Y)) 8 Y σ 6 [(0, .ref (Y.2.1 k)), (1, .ref (Y.2.1 c1)), (2, .int x2), (3, .int x3), (4, .int x4), (5, .int x5), (6, .int x6)] [] := by
  intro n
  induction n with
  | zero => intro x2 x3 x4 x5 x6 σ h; exact h.elim
  | succ n ih =>
    intro x2 x3 x4 x5 x6 σ h 
    unfold pX0_burnLine_6 at h
    refine zv_iload X dX0_burnLine_6 6 rfl rfl ?_
    refine zv_bipush (v := 8) X dX0_burnLine_8 (by decide) rfl ?_
    refine zv_icmp_ge (tgt := 85) X dX0_burnLine_10 (by decide) rfl (fun q10 => ?_) (fun q10 => ?_)
    · replace h := h.1 q10
      refine zv_aload_n X dX0_burnLine_85 0 rfl rfl rfl ?_
      refine zv_aload_n X dX0_burnLine_86 0 rfl rfl rfl ?_
      refine zg_X0_4 (k := k) X hY.1.1 hY.1.2 fl_X0_25 dX0_burnLine_87 rfl ?_
      refine zv_iload X dX0_burnLine_90 5 rfl rfl ?_
      refine zv_iload_n X dX0_burnLine_92 2 rfl rfl rfl ?_
      refine zv_ixor X dX0_burnLine_93 rfl ?_
      refine zv_cSi X [.int (x5 ^^^ x2)] (kJ6_bitCount_0f7a4 l hJ (x5 ^^^ x2)  h) jl_X0_55 ⟨rfl, rfl⟩ ⟨Nat.le_of_ble_eq_true rfl, Nat.le_of_ble_eq_true rfl⟩ rfl rfl (Nat.le_of_ble_eq_true rfl) dX0_burnLine_94 rfl (fun r94 s94 h => ?_)
      refine zv_iadd X dX0_burnLine_97 rfl ?_
      refine zv_sipush (v := 9999) X dX0_burnLine_98 (by decide) rfl ?_
      refine zv_min X ml_X0_44 (Nat.le_of_ble_eq_true rfl) (Nat.le_of_ble_eq_true rfl) dX0_burnLine_101 rfl ?_
      refine zp_X0_4 (k := k) X hY.1.1 hY.1.2 fl_X0_25 dX0_burnLine_104 rfl ?_
      refine zv_aload_n X dX0_burnLine_107 0 rfl rfl rfl ?_
      refine zv_aload_n X dX0_burnLine_108 1 rfl rfl rfl ?_
      refine zg_X1_2 (k := c1) X h1.1.1 h1.1.2 fl_X0_50 dX0_burnLine_109 rfl ?_
      refine zv_iconst (v := 1) X dX0_burnLine_112 (by decide) rfl ?_
      obtain ⟨hi113, h⟩ := h
      refine zv_iald (k := (c1 + 3)) X h1.2.2.2.1.1 h1.2.2.2.1.2 hi113 dX0_burnLine_113 rfl ?_
      refine zv_aload_n X dX0_burnLine_114 1 rfl rfl rfl ?_
      refine zg_X1_2 (k := c1) X h1.1.1 h1.1.2 fl_X0_50 dX0_burnLine_115 rfl ?_
      refine zv_iconst (v := 2) X dX0_burnLine_118 (by decide) rfl ?_
      obtain ⟨hi119, h⟩ := h
      refine zv_iald (k := (c1 + 3)) X h1.2.2.2.1.1 h1.2.2.2.1.2 hi119 dX0_burnLine_119 rfl ?_
      refine zv_cVv (k := k) (ci := 0) X [.int ((zz_i s94 k 4 (if 9999 < ((σ.1 k 4) + r94) then 9999 else ((σ.1 k 4) + r94))).1 (c1 + 3) (Int32.toNatClampNeg 1)), .int ((zz_i s94 k 4 (if 9999 < ((σ.1 k 4) + r94) then 9999 else ((σ.1 k 4) + r94))).1 (c1 + 3) (Int32.toNatClampNeg 2))] (kX0_settle l hJ ((zz_i s94 k 4 (if 9999 < ((σ.1 k 4) + r94) then 9999 else ((σ.1 k 4) + r94))).1 (c1 + 3) (Int32.toNatClampNeg 1)) ((zz_i s94 k 4 (if 9999 < ((σ.1 k 4) + r94) then 9999 else ((σ.1 k 4) + r94))).1 (c1 + 3) (Int32.toNatClampNeg 2)) hY h) jl_X0_61 ⟨rfl, rfl⟩ ⟨Nat.le_of_ble_eq_true rfl, Nat.le_of_ble_eq_true rfl⟩ hY.1.1 (by decide) hY.1.2 rfl rfl rfl (Nat.le_of_ble_eq_true rfl) dX0_burnLine_120 rfl (fun s120 h => ?_)
      refine zv_iload X dX0_burnLine_123 5 rfl rfl ?_
      exact zv_iret X hr hlk h dX0_burnLine_125
    · replace h := h.2 q10
      refine zv_iload X dX0_burnLine_13 4 rfl rfl ?_
      refine zv_if_eq (tgt := 29) X dX0_burnLine_15 (by decide) rfl (fun q15 => ?_) (fun q15 => ?_)
      · replace h := h.1 q15
        refine zv_iconst (v := 0) X dX0_burnLine_29 (by decide) rfl ?_
        exact vX0_burnLine_30 X hr hlk hJ hY h1 ih x2 x3 x4 x5 x6 0 _ h
      · replace h := h.2 q15
        refine zv_aload_n X dX0_burnLine_18 0 rfl rfl rfl ?_
        refine zv_iload X dX0_burnLine_19 6 rfl rfl ?_
        refine zv_iload_n X dX0_burnLine_21 2 rfl rfl rfl ?_
        refine zv_iload_n X dX0_burnLine_22 3 rfl rfl rfl ?_
        refine zv_cVi (k := k) (ci := 0) X [.int x6, .int x2, .int x3] (kX0_gain l hJ x6 x2 x3 hY h) jl_X0_40 ⟨rfl, rfl⟩ ⟨Nat.le_of_ble_eq_true rfl, Nat.le_of_ble_eq_true rfl⟩ hY.1.1 (by decide) hY.1.2 rfl rfl rfl (Nat.le_of_ble_eq_true rfl) dX0_burnLine_23 rfl (fun r23 s23 h => ?_)
        refine zv_goto (tgt := 30) X dX0_burnLine_26 (by decide) ?_
        exact vX0_burnLine_30 X hr hlk hJ hY h1 ih x2 x3 x4 x5 x6 r23 _ h
def pX0_burnLine (k : Nat) (c1 : Nat) (x2 : Int32) (x3 : Int32) (x4 : Int32) (σ : zz_T) (Q : Int32 → zz_T → Prop) : Prop :=
    ∃ n6, pX0_burnLine_6 k c1 Q n6 x2 x3 x4 0 0 σ
set_option maxHeartbeats 4000000 in
set_option maxRecDepth 100000 in
theorem kX0_burnLine (l : Launch) {Y : zz_Y} (hJ : zz_J Y) {k : Nat} {c1 : Nat} (x2 : Int32) (x3 : Int32) (x4 : Int32) (hY : zz_hd Y k) (h1 : zz_pr Y c1) {σ : zz_T} {Q : Int32 → zz_T → Prop} (h : pX0_burnLine k c1 x2 x3 x4 σ Q) : zz_Mi l yX0_burnLine cX0_burnLine 8 (some .int) rmX0_burnLine Y [.ref (Y.2.1 k), .ref (Y.2.1 c1), .int x2, .int x3, .int x4] σ Q := by
  refine zz_Mi.start (by decide) hJ (Nat.le_of_ble_eq_true rfl) (fun p e s m below meth c X hr hlk => ?_)
  have X : zz_X p m c cX0_burnLine 8 s _ RX0 := X
  refine zv_sub (lv2 := [(0, .ref (Y.2.1 k)), (1, .ref (Y.2.1 c1)), (2, .int x2), (3, .int x3), (4, .int x4)]) [0, 1, 2, 3, 4] rfl ?_
  unfold pX0_burnLine at h
  refine zv_iconst (v := 0) X dX0_burnLine_0 (by decide) rfl ?_
  refine zv_istore (lv2 := [(5, .int 0), (0, .ref (Y.2.1 k)), (1, .ref (Y.2.1 c1)), (2, .int x2), (3, .int x3), (4, .int x4)]) X dX0_burnLine_1 (by decide) rfl rfl ?_
  refine zv_iconst (v := 0) X dX0_burnLine_3 (by decide) rfl ?_
  refine zv_istore (lv2 := [(6, .int 0), (5, .int 0), (0, .ref (Y.2.1 k)), (1, .ref (Y.2.1 c1)), (2, .int x2), (3, .int x3), (4, .int x4)]) X dX0_burnLine_4 (by decide) rfl rfl ?_
  obtain ⟨n6, h⟩ := h
  refine zv_sub (lv2 := [(0, .ref (Y.2.1 k)), (1, .ref (Y.2.1 c1)), (2, .int x2), (3, .int x3), (4, .int x4), (5, .int 0), (6, .int 0)]) [2, 3, 4, 5, 6, 1, 0] rfl ?_
  exact vX0_burnLine_6 X hr hlk hJ hY h1 n6 x2 x3 x4 0 0 _ h
def rmX2_copyFrom : Room := { frames := 1, cells := 0, slots := 0, locals := 40 }
def pX2_copyFrom (k : Nat) (c1 : Nat) (σ : zz_T) (Q : zz_T → Prop) : Prop :=
    Q (zz_r (zz_r (zz_r (zz_i σ k 3 (σ.1 c1 3)) (k + 1) (va_cpy ((zz_i σ k 3 (σ.1 c1 3)).1 (c1 + 1)) ((zz_i σ k 3 (σ.1 c1 3)).1 (k + 1)) 0 0 6)) (k + 2) (va_cpy ((zz_r (zz_i σ k 3 (σ.1 c1 3)) (k + 1) (va_cpy ((zz_i σ k 3 (σ.1 c1 3)).1 (c1 + 1)) ((zz_i σ k 3 (σ.1 c1 3)).1 (k + 1)) 0 0 6)).1 (c1 + 2)) ((zz_r (zz_i σ k 3 (σ.1 c1 3)) (k + 1) (va_cpy ((zz_i σ k 3 (σ.1 c1 3)).1 (c1 + 1)) ((zz_i σ k 3 (σ.1 c1 3)).1 (k + 1)) 0 0 6)).1 (k + 2)) 0 0 6)) (k + 3) (va_cpy ((zz_r (zz_r (zz_i σ k 3 (σ.1 c1 3)) (k + 1) (va_cpy ((zz_i σ k 3 (σ.1 c1 3)).1 (c1 + 1)) ((zz_i σ k 3 (σ.1 c1 3)).1 (k + 1)) 0 0 6)) (k + 2) (va_cpy ((zz_r (zz_i σ k 3 (σ.1 c1 3)) (k + 1) (va_cpy ((zz_i σ k 3 (σ.1 c1 3)).1 (c1 + 1)) ((zz_i σ k 3 (σ.1 c1 3)).1 (k + 1)) 0 0 6)).1 (c1 + 2)) ((zz_r (zz_i σ k 3 (σ.1 c1 3)) (k + 1) (va_cpy ((zz_i σ k 3 (σ.1 c1 3)).1 (c1 + 1)) ((zz_i σ k 3 (σ.1 c1 3)).1 (k + 1)) 0 0 6)).1 (k + 2)) 0 0 6)).1 (c1 + 3)) ((zz_r (zz_r (zz_i σ k 3 (σ.1 c1 3)) (k + 1) (va_cpy ((zz_i σ k 3 (σ.1 c1 3)).1 (c1 + 1)) ((zz_i σ k 3 (σ.1 c1 3)).1 (k + 1)) 0 0 6)) (k + 2) (va_cpy ((zz_r (zz_i σ k 3 (σ.1 c1 3)) (k + 1) (va_cpy ((zz_i σ k 3 (σ.1 c1 3)).1 (c1 + 1)) ((zz_i σ k 3 (σ.1 c1 3)).1 (k + 1)) 0 0 6)).1 (c1 + 2)) ((zz_r (zz_i σ k 3 (σ.1 c1 3)) (k + 1) (va_cpy ((zz_i σ k 3 (σ.1 c1 3)).1 (c1 + 1)) ((zz_i σ k 3 (σ.1 c1 3)).1 (k + 1)) 0 0 6)).1 (k + 2)) 0 0 6)).1 (k + 3)) 0 0 6))
set_option maxHeartbeats 4000000 in
set_option maxRecDepth 100000 in
theorem kX2_copyFrom (l : Launch) {Y : zz_Y} (hJ : zz_J Y) {k : Nat} {c1 : Nat} (hY : zz_se Y k) (h1 : zz_se Y c1) {σ : zz_T} {Q : zz_T → Prop} (h : pX2_copyFrom k c1 σ Q) : zz_Mv l yX2_copyFrom cX2_copyFrom 2 none rmX2_copyFrom Y [.ref (Y.2.1 k), .ref (Y.2.1 c1)] σ Q := by
  refine zz_Mv.start (by decide) hJ (Nat.le_of_ble_eq_true rfl) (fun p e s m below meth c X hr hlk => ?_)
  have X : zz_X p m c cX2_copyFrom 2 s _ RX2 := X
  refine zv_sub (lv2 := [(0, .ref (Y.2.1 k)), (1, .ref (Y.2.1 c1))]) [0, 1] rfl ?_
  unfold pX2_copyFrom at h
  refine zv_aload_n X dX2_copyFrom_0 0 rfl rfl rfl ?_
  refine zv_aload_n X dX2_copyFrom_1 1 rfl rfl rfl ?_
  refine zg_X2_3 (k := c1) X h1.1.1 h1.1.2 fl_X2_21 dX2_copyFrom_2 rfl ?_
  refine zp_X2_3 (k := k) X hY.1.1 hY.1.2 fl_X2_21 dX2_copyFrom_5 rfl ?_
  refine zv_aload_n X dX2_copyFrom_8 1 rfl rfl rfl ?_
  refine zg_X2_0 (k := c1) X h1.1.1 h1.1.2 fl_X2_9 dX2_copyFrom_9 rfl ?_
  refine zv_iconst (v := 0) X dX2_copyFrom_12 (by decide) rfl ?_
  refine zv_aload_n X dX2_copyFrom_13 0 rfl rfl rfl ?_
  refine zg_X2_0 (k := k) X hY.1.1 hY.1.2 fl_X2_9 dX2_copyFrom_14 rfl ?_
  refine zv_iconst (v := 0) X dX2_copyFrom_17 (by decide) rfl ?_
  refine zv_bipush (v := 6) X dX2_copyFrom_18 (by decide) rfl ?_
  refine zv_copy X h1.2.1.1 h1.2.1.2 hY.2.1.1 hY.2.1.2 ml_X2_25 (by decide) (by decide) (by decide) (by decide) (by decide) (Nat.le_of_ble_eq_true rfl) (Nat.le_of_ble_eq_true rfl) dX2_copyFrom_20 rfl ?_
  refine zv_aload_n X dX2_copyFrom_23 1 rfl rfl rfl ?_
  refine zg_X2_1 (k := c1) X h1.1.1 h1.1.2 fl_X2_15 dX2_copyFrom_24 rfl ?_
  refine zv_iconst (v := 0) X dX2_copyFrom_27 (by decide) rfl ?_
  refine zv_aload_n X dX2_copyFrom_28 0 rfl rfl rfl ?_
  refine zg_X2_1 (k := k) X hY.1.1 hY.1.2 fl_X2_15 dX2_copyFrom_29 rfl ?_
  refine zv_iconst (v := 0) X dX2_copyFrom_32 (by decide) rfl ?_
  refine zv_bipush (v := 6) X dX2_copyFrom_33 (by decide) rfl ?_
  refine zv_copy X h1.2.2.1.1 h1.2.2.1.2 hY.2.2.1.1 hY.2.2.1.2 ml_X2_25 (by decide) (by decide) (by decide) (by decide) (by decide) (Nat.le_of_ble_eq_true rfl) (Nat.le_of_ble_eq_true rfl) dX2_copyFrom_35 rfl ?_
  refine zv_aload_n X dX2_copyFrom_38 1 rfl rfl rfl ?_
  refine zg_X2_2 (k := c1) X h1.1.1 h1.1.2 fl_X2_18 dX2_copyFrom_39 rfl ?_
  refine zv_iconst (v := 0) X dX2_copyFrom_42 (by decide) rfl ?_
  refine zv_aload_n X dX2_copyFrom_43 0 rfl rfl rfl ?_
  refine zg_X2_2 (k := k) X hY.1.1 hY.1.2 fl_X2_18 dX2_copyFrom_44 rfl ?_
  refine zv_iconst (v := 0) X dX2_copyFrom_47 (by decide) rfl ?_
  refine zv_bipush (v := 6) X dX2_copyFrom_48 (by decide) rfl ?_
  refine zv_copy X h1.2.2.2.1 h1.2.2.2.2 hY.2.2.2.1 hY.2.2.2.2 ml_X2_25 (by decide) (by decide) (by decide) (by decide) (by decide) (Nat.le_of_ble_eq_true rfl) (Nat.le_of_ble_eq_true rfl) dX2_copyFrom_50 rfl ?_
  exact zv_vret X hr hlk h dX2_copyFrom_53
def rmX2_append : Room := { frames := 0, cells := 0, slots := 0, locals := 0 }
def pX2_append (k : Nat) (x1 : Int32) (x2 : Int32) (x3 : Int32) (σ : zz_T) (Q : zz_T → Prop) : Prop :=
    vp_in (σ.1 k 3) 6 ∧
    vp_in ((zz_i σ (k + 1) (Int32.toNatClampNeg (σ.1 k 3)) x1).1 k 3) 6 ∧
    vp_in ((zz_i (zz_i σ (k + 1) (Int32.toNatClampNeg (σ.1 k 3)) x1) (k + 2) (Int32.toNatClampNeg ((zz_i σ (k + 1) (Int32.toNatClampNeg (σ.1 k 3)) x1).1 k 3)) x2).1 k 3) 6 ∧
    Q (zz_i (zz_i (zz_i (zz_i σ (k + 1) (Int32.toNatClampNeg (σ.1 k 3)) x1) (k + 2) (Int32.toNatClampNeg ((zz_i σ (k + 1) (Int32.toNatClampNeg (σ.1 k 3)) x1).1 k 3)) x2) (k + 3) (Int32.toNatClampNeg ((zz_i (zz_i σ (k + 1) (Int32.toNatClampNeg (σ.1 k 3)) x1) (k + 2) (Int32.toNatClampNeg ((zz_i σ (k + 1) (Int32.toNatClampNeg (σ.1 k 3)) x1).1 k 3)) x2).1 k 3)) x3) k 3 (((zz_i (zz_i (zz_i σ (k + 1) (Int32.toNatClampNeg (σ.1 k 3)) x1) (k + 2) (Int32.toNatClampNeg ((zz_i σ (k + 1) (Int32.toNatClampNeg (σ.1 k 3)) x1).1 k 3)) x2) (k + 3) (Int32.toNatClampNeg ((zz_i (zz_i σ (k + 1) (Int32.toNatClampNeg (σ.1 k 3)) x1) (k + 2) (Int32.toNatClampNeg ((zz_i σ (k + 1) (Int32.toNatClampNeg (σ.1 k 3)) x1).1 k 3)) x2).1 k 3)) x3).1 k 3) + 1))
set_option maxHeartbeats 4000000 in
set_option maxRecDepth 100000 in
theorem kX2_append (l : Launch) {Y : zz_Y} (hJ : zz_J Y) {k : Nat} (x1 : Int32) (x2 : Int32) (x3 : Int32) (hY : zz_se Y k) {σ : zz_T} {Q : zz_T → Prop} (h : pX2_append k x1 x2 x3 σ Q) : zz_Mv l yX2_append cX2_append 4 none rmX2_append Y [.ref (Y.2.1 k), .int x1, .int x2, .int x3] σ Q := by
  refine zz_Mv.start (by decide) hJ (Nat.le_of_ble_eq_true rfl) (fun p e s m below meth c X hr hlk => ?_)
  have X : zz_X p m c cX2_append 4 s _ RX2 := X
  refine zv_sub (lv2 := [(0, .ref (Y.2.1 k)), (1, .int x1), (2, .int x2), (3, .int x3)]) [0, 1, 2, 3] rfl ?_
  unfold pX2_append at h
  refine zv_aload_n X dX2_append_0 0 rfl rfl rfl ?_
  refine zg_X2_0 (k := k) X hY.1.1 hY.1.2 fl_X2_9 dX2_append_1 rfl ?_
  refine zv_aload_n X dX2_append_4 0 rfl rfl rfl ?_
  refine zg_X2_3 (k := k) X hY.1.1 hY.1.2 fl_X2_21 dX2_append_5 rfl ?_
  refine zv_iload_n X dX2_append_8 1 rfl rfl rfl ?_
  obtain ⟨hi9, h⟩ := h
  refine zv_iast (k := (k + 1)) X hY.2.1.1 hY.2.1.2 hi9 dX2_append_9 rfl ?_
  refine zv_aload_n X dX2_append_10 0 rfl rfl rfl ?_
  refine zg_X2_1 (k := k) X hY.1.1 hY.1.2 fl_X2_15 dX2_append_11 rfl ?_
  refine zv_aload_n X dX2_append_14 0 rfl rfl rfl ?_
  refine zg_X2_3 (k := k) X hY.1.1 hY.1.2 fl_X2_21 dX2_append_15 rfl ?_
  refine zv_iload_n X dX2_append_18 2 rfl rfl rfl ?_
  obtain ⟨hi19, h⟩ := h
  refine zv_iast (k := (k + 2)) X hY.2.2.1.1 hY.2.2.1.2 hi19 dX2_append_19 rfl ?_
  refine zv_aload_n X dX2_append_20 0 rfl rfl rfl ?_
  refine zg_X2_2 (k := k) X hY.1.1 hY.1.2 fl_X2_18 dX2_append_21 rfl ?_
  refine zv_aload_n X dX2_append_24 0 rfl rfl rfl ?_
  refine zg_X2_3 (k := k) X hY.1.1 hY.1.2 fl_X2_21 dX2_append_25 rfl ?_
  refine zv_iload_n X dX2_append_28 3 rfl rfl rfl ?_
  obtain ⟨hi29, h⟩ := h
  refine zv_iast (k := (k + 3)) X hY.2.2.2.1 hY.2.2.2.2 hi29 dX2_append_29 rfl ?_
  refine zv_aload_n X dX2_append_30 0 rfl rfl rfl ?_
  refine zv_dup X dX2_append_31 rfl rfl ?_
  refine zg_X2_3 (k := k) X hY.1.1 hY.1.2 fl_X2_21 dX2_append_32 rfl ?_
  refine zv_iconst (v := 1) X dX2_append_35 (by decide) rfl ?_
  refine zv_iadd X dX2_append_36 rfl ?_
  refine zp_X2_3 (k := k) X hY.1.1 hY.1.2 fl_X2_21 dX2_append_37 rfl ?_
  exact zv_vret X hr hlk h dX2_append_40
def rmX2_names : Room := { frames := 0, cells := 0, slots := 0, locals := 0 }
def pX2_names_2 (k : Nat) (Q : Int32 → zz_T → Prop) : Nat → Int32 → Int32 → zz_T → Prop
  | 0, _, _, _ => False
  | n + 1, x1, x2, σ =>
    (((σ.1 k 3) ≤ x2 → (zz_bo 0 ∧ Q 0 σ)) ∧
    (¬ (σ.1 k 3) ≤ x2 → vp_in x2 6 ∧
    (((σ.1 (k + 2) (Int32.toNatClampNeg x2)) = x1 → (zz_bo 1 ∧ Q 1 σ)) ∧
    (¬ (σ.1 (k + 2) (Int32.toNatClampNeg x2)) = x1 → pX2_names_2 k Q n x1 (x2 + 1) σ))))
set_option maxHeartbeats 4000000 in
set_option maxRecDepth 100000 in
theorem vX2_names_2 {p : Program} {l : Launch} {e : Env} {s : State} {m : MethodId} {args : Array Value} {below : List Frame} {meth : Method} {c : Code} {Y : zz_Y} {k : Nat} {Q : Int32 → zz_T → Prop} (X : zz_X p m c cX2_names 3 s args RX2) (hr : meth.sig.returnType = (some .boolean)) (hlk : meth.locks = false) (hJ : zz_J Y) (hY : zz_se Y k)  : ∀ (n : Nat) (x1 : Int32) (x2 : Int32) (σ : zz_T), pX2_names_2 k Q n x1 x2 σ → zz_V p l e rmX2_names s m args below meth c (MQ below (va_Qi Q (zz_E Y) (zz_A Y)) args s 0 0 (zz_A Y)) 3 Y σ 2 [(0, .ref (Y.2.1 k)), (1, .int x1), (2, .int x2)] [] := by
  intro n
  induction n with
  | zero => intro x1 x2 σ h; exact h.elim
  | succ n ih =>
    intro x1 x2 σ h 
    unfold pX2_names_2 at h
    refine zv_iload_n X dX2_names_2 2 rfl rfl rfl ?_
    refine zv_aload_n X dX2_names_3 0 rfl rfl rfl ?_
    refine zg_X2_3 (k := k) X hY.1.1 hY.1.2 fl_X2_21 dX2_names_4 rfl ?_
    refine zv_icmp_ge (tgt := 28) X dX2_names_7 (by decide) rfl (fun q7 => ?_) (fun q7 => ?_)
    · replace h := h.1 q7
      refine zv_iconst (v := 0) X dX2_names_28 (by decide) rfl ?_
      exact zv_zret X hr hlk h dX2_names_29
    · replace h := h.2 q7
      refine zv_aload_n X dX2_names_10 0 rfl rfl rfl ?_
      refine zg_X2_1 (k := k) X hY.1.1 hY.1.2 fl_X2_15 dX2_names_11 rfl ?_
      refine zv_iload_n X dX2_names_14 2 rfl rfl rfl ?_
      obtain ⟨hi15, h⟩ := h
      refine zv_iald (k := (k + 2)) X hY.2.2.1.1 hY.2.2.1.2 hi15 dX2_names_15 rfl ?_
      refine zv_iload_n X dX2_names_16 1 rfl rfl rfl ?_
      refine zv_icmp_ne (tgt := 22) X dX2_names_17 (by decide) rfl (fun q17 => ?_) (fun q17 => ?_)
      · replace h := h.2 q17
        refine zv_iinc (v := (x2 + 1)) (lv2 := [(2, .int (x2 + 1)), (0, .ref (Y.2.1 k)), (1, .int x1)]) X dX2_names_22 2 rfl rfl (by decide) rfl rfl ?_
        refine zv_goto (tgt := 2) X dX2_names_25 (by decide) ?_
        refine zv_sub (lv2 := [(0, .ref (Y.2.1 k)), (1, .int x1), (2, .int (x2 + 1))]) [1, 2, 0] rfl ?_
        exact ih x1 (x2 + 1) _ h
      · replace h := h.1 q17
        refine zv_iconst (v := 1) X dX2_names_20 (by decide) rfl ?_
        exact zv_zret X hr hlk h dX2_names_21
def pX2_names (k : Nat) (x1 : Int32) (σ : zz_T) (Q : Int32 → zz_T → Prop) : Prop :=
    ∃ n2, pX2_names_2 k Q n2 x1 0 σ
set_option maxHeartbeats 4000000 in
set_option maxRecDepth 100000 in
theorem kX2_names (l : Launch) {Y : zz_Y} (hJ : zz_J Y) {k : Nat} (x1 : Int32) (hY : zz_se Y k) {σ : zz_T} {Q : Int32 → zz_T → Prop} (h : pX2_names k x1 σ Q) : zz_Mi l yX2_names cX2_names 3 (some .boolean) rmX2_names Y [.ref (Y.2.1 k), .int x1] σ Q := by
  refine zz_Mi.start (by decide) hJ (Nat.le_of_ble_eq_true rfl) (fun p e s m below meth c X hr hlk => ?_)
  have X : zz_X p m c cX2_names 3 s _ RX2 := X
  refine zv_sub (lv2 := [(0, .ref (Y.2.1 k)), (1, .int x1)]) [0, 1] rfl ?_
  unfold pX2_names at h
  refine zv_iconst (v := 0) X dX2_names_0 (by decide) rfl ?_
  refine zv_istore_n (lv2 := [(2, .int 0), (0, .ref (Y.2.1 k)), (1, .int x1)]) X dX2_names_1 rfl (by decide) rfl rfl ?_
  obtain ⟨n2, h⟩ := h
  refine zv_sub (lv2 := [(0, .ref (Y.2.1 k)), (1, .int x1), (2, .int 0)]) [1, 2, 0] rfl ?_
  exact vX2_names_2 X hr hlk hJ hY n2 x1 0 _ h
def rmX2_agrees : Room := { frames := 0, cells := 0, slots := 0, locals := 0 }
def pX2_agrees_46 (k : Nat) (c2 : Nat) (n2 : Nat) (Q : Int32 → zz_T → Prop) (K3 : Int32 → Int32 → Int32 → zz_T → Prop) (x1 : Int32) (x3 : Int32) (x4 : Int32) (σ : zz_T) : Prop :=
    K3 x1 x3 (x4 + 1) σ
set_option maxHeartbeats 4000000 in
set_option maxRecDepth 100000 in
theorem vX2_agrees_46 {p : Program} {l : Launch} {e : Env} {s : State} {m : MethodId} {args : Array Value} {below : List Frame} {meth : Method} {c : Code} {Y : zz_Y} {k : Nat} {c2 : Nat} {n2 : Nat} {Q : Int32 → zz_T → Prop} {K3 : Int32 → Int32 → Int32 → zz_T → Prop} (X : zz_X p m c cX2_agrees 5 s args RX2) (hr : meth.sig.returnType = (some .boolean)) (hlk : meth.locks = false) (hJ : zz_J Y) (hY : zz_se Y k) (h2 : zz_ar Y c2 0 n2) (hK3 : ∀ (x1 : Int32) (x3 : Int32) (x4 : Int32) (σ : zz_T), K3 x1 x3 x4 σ → zz_V p l e rmX2_agrees s m args below meth c (MQ below (va_Qi Q (zz_E Y) (zz_A Y)) args s 0 0 (zz_A Y)) 5 Y σ 3 [(0, .ref (Y.2.1 k)), (1, .int x1), (2, .ref (Y.2.1 c2)), (3, .int x3), (4, .int x4)] []) : ∀ (x1 : Int32) (x3 : Int32) (x4 : Int32) (σ : zz_T), pX2_agrees_46 k c2 n2 Q K3 x1 x3 x4 σ → zz_V p l e rmX2_agrees s m args below meth c (MQ below (va_Qi Q (zz_E Y) (zz_A Y)) args s 0 0 (zz_A Y)) 5 Y σ 46 [(0, .ref (Y.2.1 k)), (1, .int x1), (2, .ref (Y.2.1 c2)), (3, .int x3), (4, .int x4)] [] := by
  intro x1 x3 x4 σ h 
  unfold pX2_agrees_46 at h
  refine zv_iinc (v := (x4 + 1)) (lv2 := [(4, .int (x4 + 1)), (0, .ref (Y.2.1 k)), (1, .int x1), (2, .ref (Y.2.1 c2)), (3, .int x3)]) X dX2_agrees_46 4 rfl rfl (by decide) rfl rfl ?_
  refine zv_goto (tgt := 3) X dX2_agrees_49 (by decide) ?_
  refine zv_sub (lv2 := [(0, .ref (Y.2.1 k)), (1, .int x1), (2, .ref (Y.2.1 c2)), (3, .int x3), (4, .int (x4 + 1))]) [1, 2, 3, 4, 0] rfl ?_
  exact hK3 x1 x3 (x4 + 1) _ h
def pX2_agrees_3 (k : Nat) (c2 : Nat) (n2 : Nat) (Q : Int32 → zz_T → Prop) : Nat → Int32 → Int32 → Int32 → zz_T → Prop
  | 0, _, _, _, _ => False
  | n + 1, x1, x3, x4, σ =>
    (((σ.1 k 3) ≤ x4 → (zz_bo 1 ∧ Q 1 σ)) ∧
    (¬ (σ.1 k 3) ≤ x4 → vp_in x4 6 ∧
    (((σ.1 (k + 2) (Int32.toNatClampNeg x4)) = x1 → vp_in x4 6 ∧
    vp_in (x3 + (σ.1 (k + 1) (Int32.toNatClampNeg x4))) n2 ∧
    vp_in x4 6 ∧
    (((σ.1 c2 (Int32.toNatClampNeg (x3 + (σ.1 (k + 1) (Int32.toNatClampNeg x4))))) = (σ.1 (k + 3) (Int32.toNatClampNeg x4)) → pX2_agrees_46 k c2 n2 Q (pX2_agrees_3 k c2 n2 Q n) x1 x3 x4 σ) ∧
    (¬ (σ.1 c2 (Int32.toNatClampNeg (x3 + (σ.1 (k + 1) (Int32.toNatClampNeg x4))))) = (σ.1 (k + 3) (Int32.toNatClampNeg x4)) → (zz_bo 0 ∧ Q 0 σ)))) ∧
    (¬ (σ.1 (k + 2) (Int32.toNatClampNeg x4)) = x1 → pX2_agrees_46 k c2 n2 Q (pX2_agrees_3 k c2 n2 Q n) x1 x3 x4 σ))))
set_option maxHeartbeats 4000000 in
set_option maxRecDepth 100000 in
theorem vX2_agrees_3 {p : Program} {l : Launch} {e : Env} {s : State} {m : MethodId} {args : Array Value} {below : List Frame} {meth : Method} {c : Code} {Y : zz_Y} {k : Nat} {c2 : Nat} {n2 : Nat} {Q : Int32 → zz_T → Prop} (X : zz_X p m c cX2_agrees 5 s args RX2) (hr : meth.sig.returnType = (some .boolean)) (hlk : meth.locks = false) (hJ : zz_J Y) (hY : zz_se Y k) (h2 : zz_ar Y c2 0 n2)  : ∀ (n : Nat) (x1 : Int32) (x3 : Int32) (x4 : Int32) (σ : zz_T), pX2_agrees_3 k c2 n2 Q n x1 x3 x4 σ → zz_V p l e rmX2_agrees s m args below meth c (MQ below (va_Qi Q (zz_E Y) (zz_A Y)) args s 0 0 (zz_A Y)) 5 Y σ 3 [(0, .ref (Y.2.1 k)), (1, .int x1), (2, .ref (Y.2.1 c2)), (3, .int x3), (4, .int x4)] [] := by
  intro n
  induction n with
  | zero => intro x1 x3 x4 σ h; exact h.elim
  | succ n ih =>
    intro x1 x3 x4 σ h 
    unfold pX2_agrees_3 at h
    refine zv_iload X dX2_agrees_3 4 rfl rfl ?_
    refine zv_aload_n X dX2_agrees_5 0 rfl rfl rfl ?_
    refine zg_X2_3 (k := k) X hY.1.1 hY.1.2 fl_X2_21 dX2_agrees_6 rfl ?_
    refine zv_icmp_ge (tgt := 52) X dX2_agrees_9 (by decide) rfl (fun q9 => ?_) (fun q9 => ?_)
    · replace h := h.1 q9
      refine zv_iconst (v := 1) X dX2_agrees_52 (by decide) rfl ?_
      exact zv_zret X hr hlk h dX2_agrees_53
    · replace h := h.2 q9
      refine zv_aload_n X dX2_agrees_12 0 rfl rfl rfl ?_
      refine zg_X2_1 (k := k) X hY.1.1 hY.1.2 fl_X2_15 dX2_agrees_13 rfl ?_
      refine zv_iload X dX2_agrees_16 4 rfl rfl ?_
      obtain ⟨hi18, h⟩ := h
      refine zv_iald (k := (k + 2)) X hY.2.2.1.1 hY.2.2.1.2 hi18 dX2_agrees_18 rfl ?_
      refine zv_iload_n X dX2_agrees_19 1 rfl rfl rfl ?_
      refine zv_icmp_ne (tgt := 46) X dX2_agrees_20 (by decide) rfl (fun q20 => ?_) (fun q20 => ?_)
      · replace h := h.2 q20
        exact vX2_agrees_46 X hr hlk hJ hY h2 ih x1 x3 x4 _ h
      · replace h := h.1 q20
        refine zv_aload_n X dX2_agrees_23 2 rfl rfl rfl ?_
        refine zv_iload_n X dX2_agrees_24 3 rfl rfl rfl ?_
        refine zv_aload_n X dX2_agrees_25 0 rfl rfl rfl ?_
        refine zg_X2_0 (k := k) X hY.1.1 hY.1.2 fl_X2_9 dX2_agrees_26 rfl ?_
        refine zv_iload X dX2_agrees_29 4 rfl rfl ?_
        obtain ⟨hi31, h⟩ := h
        refine zv_iald (k := (k + 1)) X hY.2.1.1 hY.2.1.2 hi31 dX2_agrees_31 rfl ?_
        refine zv_iadd X dX2_agrees_32 rfl ?_
        obtain ⟨hi33, h⟩ := h
        refine zv_iald (k := c2) X h2.1 h2.2 hi33 dX2_agrees_33 rfl ?_
        refine zv_aload_n X dX2_agrees_34 0 rfl rfl rfl ?_
        refine zg_X2_2 (k := k) X hY.1.1 hY.1.2 fl_X2_18 dX2_agrees_35 rfl ?_
        refine zv_iload X dX2_agrees_38 4 rfl rfl ?_
        obtain ⟨hi40, h⟩ := h
        refine zv_iald (k := (k + 3)) X hY.2.2.2.1 hY.2.2.2.2 hi40 dX2_agrees_40 rfl ?_
        refine zv_icmp_eq (tgt := 46) X dX2_agrees_41 (by decide) rfl (fun q41 => ?_) (fun q41 => ?_)
        · replace h := h.1 q41
          exact vX2_agrees_46 X hr hlk hJ hY h2 ih x1 x3 x4 _ h
        · replace h := h.2 q41
          refine zv_iconst (v := 0) X dX2_agrees_44 (by decide) rfl ?_
          exact zv_zret X hr hlk h dX2_agrees_45
def pX2_agrees (k : Nat) (x1 : Int32) (c2 : Nat) (n2 : Nat) (x3 : Int32) (σ : zz_T) (Q : Int32 → zz_T → Prop) : Prop :=
    ∃ n3, pX2_agrees_3 k c2 n2 Q n3 x1 x3 0 σ
set_option maxHeartbeats 4000000 in
set_option maxRecDepth 100000 in
theorem kX2_agrees (l : Launch) {Y : zz_Y} (hJ : zz_J Y) {k : Nat} (x1 : Int32) {c2 : Nat} {n2 : Nat} (x3 : Int32) (hY : zz_se Y k) (h2 : zz_ar Y c2 0 n2) {σ : zz_T} {Q : Int32 → zz_T → Prop} (h : pX2_agrees k x1 c2 n2 x3 σ Q) : zz_Mi l yX2_agrees cX2_agrees 5 (some .boolean) rmX2_agrees Y [.ref (Y.2.1 k), .int x1, .ref (Y.2.1 c2), .int x3] σ Q := by
  refine zz_Mi.start (by decide) hJ (Nat.le_of_ble_eq_true rfl) (fun p e s m below meth c X hr hlk => ?_)
  have X : zz_X p m c cX2_agrees 5 s _ RX2 := X
  refine zv_sub (lv2 := [(0, .ref (Y.2.1 k)), (1, .int x1), (2, .ref (Y.2.1 c2)), (3, .int x3)]) [0, 1, 2, 3] rfl ?_
  unfold pX2_agrees at h
  refine zv_iconst (v := 0) X dX2_agrees_0 (by decide) rfl ?_
  refine zv_istore (lv2 := [(4, .int 0), (0, .ref (Y.2.1 k)), (1, .int x1), (2, .ref (Y.2.1 c2)), (3, .int x3)]) X dX2_agrees_1 (by decide) rfl rfl ?_
  obtain ⟨n3, h⟩ := h
  refine zv_sub (lv2 := [(0, .ref (Y.2.1 k)), (1, .int x1), (2, .ref (Y.2.1 c2)), (3, .int x3), (4, .int 0)]) [1, 2, 3, 4, 0] rfl ?_
  exact vX2_agrees_3 X hr hlk hJ hY h2 n3 x1 x3 0 _ h
def rmX3_renew : Room := { frames := 1, cells := 0, slots := 0, locals := 23 }
def pX3_renew (k : Nat) (x1 : Int32) (x2 : Int32) (σ : zz_T) (Q : zz_T → Prop) : Prop :=
    pJ7_fill_53178 (k + 1) 40 0 (zz_i (zz_i (zz_i σ k 1 1) k 2 x1) k 3 x2) (fun s20 =>
    Q s20)
set_option maxHeartbeats 4000000 in
set_option maxRecDepth 100000 in
theorem kX3_renew (l : Launch) {Y : zz_Y} (hJ : zz_J Y) {k : Nat} (x1 : Int32) (x2 : Int32) (hY : zz_sh Y k) {σ : zz_T} {Q : zz_T → Prop} (h : pX3_renew k x1 x2 σ Q) : zz_Mv l yX3_renew cX3_renew 3 none rmX3_renew Y [.ref (Y.2.1 k), .int x1, .int x2] σ Q := by
  refine zz_Mv.start (by decide) hJ (Nat.le_of_ble_eq_true rfl) (fun p e s m below meth c X hr hlk => ?_)
  have X : zz_X p m c cX3_renew 3 s _ RX3 := X
  refine zv_sub (lv2 := [(0, .ref (Y.2.1 k)), (1, .int x1), (2, .int x2)]) [0, 1, 2] rfl ?_
  unfold pX3_renew at h
  refine zv_aload_n X dX3_renew_0 0 rfl rfl rfl ?_
  refine zv_iconst (v := 1) X dX3_renew_1 (by decide) rfl ?_
  refine zp_X3_1 (k := k) X hY.1.1 hY.1.2 rfl rfl fl_X3_15 dX3_renew_2 rfl ?_
  refine zv_aload_n X dX3_renew_5 0 rfl rfl rfl ?_
  refine zv_iload_n X dX3_renew_6 1 rfl rfl rfl ?_
  refine zp_X3_2 (k := k) X hY.1.1 hY.1.2 fl_X3_19 dX3_renew_7 rfl ?_
  refine zv_aload_n X dX3_renew_10 0 rfl rfl rfl ?_
  refine zv_iload_n X dX3_renew_11 2 rfl rfl rfl ?_
  refine zp_X3_3 (k := k) X hY.1.1 hY.1.2 fl_X3_23 dX3_renew_12 rfl ?_
  refine zv_aload_n X dX3_renew_15 0 rfl rfl rfl ?_
  refine zg_X3_0 (k := k) X hY.1.1 hY.1.2 fl_X3_9 dX3_renew_16 rfl ?_
  refine zv_iconst (v := 0) X dX3_renew_19 (by decide) rfl ?_
  refine zv_cSv X [.ref (Y.2.1 (k + 1)), .int 0] (kJ7_fill_53178 l hJ 0 hY.2 h) jl_X3_26 ⟨rfl, rfl⟩ ⟨Nat.le_of_ble_eq_true rfl, Nat.le_of_ble_eq_true rfl⟩ rfl rfl (Nat.le_of_ble_eq_true rfl) dX3_renew_20 rfl (fun s20 h => ?_)
  exact zv_vret X hr hlk h dX3_renew_23
def rmX3_faultOf : Room := { frames := 0, cells := 0, slots := 0, locals := 0 }
def pX3_faultOf_31 (k : Nat) (Q : Int32 → zz_T → Prop) (σ : zz_T) : Prop :=
    Q 2 σ
set_option maxHeartbeats 4000000 in
set_option maxRecDepth 100000 in
theorem vX3_faultOf_31 {p : Program} {l : Launch} {e : Env} {s : State} {m : MethodId} {args : Array Value} {below : List Frame} {meth : Method} {c : Code} {Y : zz_Y} {k : Nat} {Q : Int32 → zz_T → Prop} (X : zz_X p m c cX3_faultOf 3 s args RX3) (hr : meth.sig.returnType = (some .int)) (hlk : meth.locks = false) (hJ : zz_J Y) (hY : zz_sh Y k)  : ∀ (σ : zz_T), pX3_faultOf_31 k Q σ → zz_V p l e rmX3_faultOf s m args below meth c (MQ below (va_Qi Q (zz_E Y) (zz_A Y)) args s 0 0 (zz_A Y)) 3 Y σ 31 [] [] := by
  intro σ h 
  unfold pX3_faultOf_31 at h
  refine zv_iconst (v := 2) X dX3_faultOf_31 (by decide) rfl ?_
  refine zv_goto (tgt := 36) X dX3_faultOf_32 (by decide) ?_
  exact zv_iret X hr hlk h dX3_faultOf_36
def pX3_faultOf (k : Nat) (x1 : Int32) (x2 : Int32) (σ : zz_T) (Q : Int32 → zz_T → Prop) : Prop :=
    (((σ.1 k 1) = 0 → Q 1 σ) ∧
    (¬ (σ.1 k 1) = 0 → (((σ.1 k 2) = x1 → ((x2 < 0 → pX3_faultOf_31 k Q σ) ∧
    (¬ x2 < 0 → ((x2 < (σ.1 k 3) → Q 0 σ) ∧
    (¬ x2 < (σ.1 k 3) → pX3_faultOf_31 k Q σ))))) ∧
    (¬ (σ.1 k 2) = x1 → Q 3 σ))))
set_option maxHeartbeats 4000000 in
set_option maxRecDepth 100000 in
theorem kX3_faultOf (l : Launch) {Y : zz_Y} (hJ : zz_J Y) {k : Nat} (x1 : Int32) (x2 : Int32) (hY : zz_sh Y k) {σ : zz_T} {Q : Int32 → zz_T → Prop} (h : pX3_faultOf k x1 x2 σ Q) : zz_Mi l yX3_faultOf cX3_faultOf 3 (some .int) rmX3_faultOf Y [.ref (Y.2.1 k), .int x1, .int x2] σ Q := by
  refine zz_Mi.start (by decide) hJ (Nat.le_of_ble_eq_true rfl) (fun p e s m below meth c X hr hlk => ?_)
  have X : zz_X p m c cX3_faultOf 3 s _ RX3 := X
  refine zv_sub (lv2 := [(0, .ref (Y.2.1 k)), (1, .int x1), (2, .int x2)]) [0, 1, 2] rfl ?_
  unfold pX3_faultOf at h
  refine zv_aload_n X dX3_faultOf_0 0 rfl rfl rfl ?_
  refine zg_X3_1 (k := k) X hY.1.1 hY.1.2 fl_X3_15 dX3_faultOf_1 rfl ?_
  refine zv_if_ne (tgt := 9) X dX3_faultOf_4 (by decide) rfl (fun q4 => ?_) (fun q4 => ?_)
  · replace h := h.2 q4
    refine zv_aload_n X dX3_faultOf_9 0 rfl rfl rfl ?_
    refine zg_X3_2 (k := k) X hY.1.1 hY.1.2 fl_X3_19 dX3_faultOf_10 rfl ?_
    refine zv_iload_n X dX3_faultOf_13 1 rfl rfl rfl ?_
    refine zv_icmp_eq (tgt := 19) X dX3_faultOf_14 (by decide) rfl (fun q14 => ?_) (fun q14 => ?_)
    · replace h := h.1 q14
      refine zv_iload_n X dX3_faultOf_19 2 rfl rfl rfl ?_
      refine zv_if_lt (tgt := 31) X dX3_faultOf_20 (by decide) rfl (fun q20 => ?_) (fun q20 => ?_)
      · replace h := h.1 q20
        refine zv_sub (lv2 := []) [] rfl ?_
        exact vX3_faultOf_31 X hr hlk hJ hY _ h
      · replace h := h.2 q20
        refine zv_iload_n X dX3_faultOf_23 2 rfl rfl rfl ?_
        refine zv_aload_n X dX3_faultOf_24 0 rfl rfl rfl ?_
        refine zg_X3_3 (k := k) X hY.1.1 hY.1.2 fl_X3_23 dX3_faultOf_25 rfl ?_
        refine zv_icmp_lt (tgt := 35) X dX3_faultOf_28 (by decide) rfl (fun q28 => ?_) (fun q28 => ?_)
        · replace h := h.1 q28
          refine zv_iconst (v := 0) X dX3_faultOf_35 (by decide) rfl ?_
          exact zv_iret X hr hlk h dX3_faultOf_36
        · replace h := h.2 q28
          refine zv_sub (lv2 := []) [] rfl ?_
          exact vX3_faultOf_31 X hr hlk hJ hY _ h
    · replace h := h.2 q14
      refine zv_iconst (v := 3) X dX3_faultOf_17 (by decide) rfl ?_
      exact zv_iret X hr hlk h dX3_faultOf_18
  · replace h := h.1 q4
    refine zv_iconst (v := 1) X dX3_faultOf_7 (by decide) rfl ?_
    exact zv_iret X hr hlk h dX3_faultOf_8
def rmX3_pairFault : Room := { frames := 1, cells := 0, slots := 0, locals := 22 }
def pX3_pairFault (k : Nat) (x1 : Int32) (x2 : Int32) (x3 : Int32) (σ : zz_T) (Q : Int32 → zz_T → Prop) : Prop :=
    pX3_faultOf k x1 (x2 + (2 * x3)) σ (fun r7 s7 =>
    ((r7 = 0 → pX3_faultOf k x1 ((x2 + (2 * x3)) + 1) s7 (fun r31 s31 =>
    Q r31 s31)) ∧
    (¬ r7 = 0 → Q r7 s7)))
set_option maxHeartbeats 4000000 in
set_option maxRecDepth 100000 in
theorem kX3_pairFault (l : Launch) {Y : zz_Y} (hJ : zz_J Y) {k : Nat} (x1 : Int32) (x2 : Int32) (x3 : Int32) (hY : zz_sh Y k) {σ : zz_T} {Q : Int32 → zz_T → Prop} (h : pX3_pairFault k x1 x2 x3 σ Q) : zz_Mi l yX3_pairFault cX3_pairFault 5 (some .int) rmX3_pairFault Y [.ref (Y.2.1 k), .int x1, .int x2, .int x3] σ Q := by
  refine zz_Mi.start (by decide) hJ (Nat.le_of_ble_eq_true rfl) (fun p e s m below meth c X hr hlk => ?_)
  have X : zz_X p m c cX3_pairFault 5 s _ RX3 := X
  refine zv_sub (lv2 := [(0, .ref (Y.2.1 k)), (1, .int x1), (2, .int x2), (3, .int x3)]) [0, 1, 2, 3] rfl ?_
  unfold pX3_pairFault at h
  refine zv_aload_n X dX3_pairFault_0 0 rfl rfl rfl ?_
  refine zv_iload_n X dX3_pairFault_1 1 rfl rfl rfl ?_
  refine zv_iload_n X dX3_pairFault_2 2 rfl rfl rfl ?_
  refine zv_iconst (v := 2) X dX3_pairFault_3 (by decide) rfl ?_
  refine zv_iload_n X dX3_pairFault_4 3 rfl rfl rfl ?_
  refine zv_imul X dX3_pairFault_5 rfl ?_
  refine zv_iadd X dX3_pairFault_6 rfl ?_
  refine zv_cVi (k := k) (ci := 3) X [.int x1, .int (x2 + (2 * x3))] (kX3_faultOf l hJ x1 (x2 + (2 * x3)) hY h) jl_X3_32 ⟨rfl, rfl⟩ ⟨Nat.le_of_ble_eq_true rfl, Nat.le_of_ble_eq_true rfl⟩ hY.1.1 (by decide) hY.1.2 rfl rfl rfl (Nat.le_of_ble_eq_true rfl) dX3_pairFault_7 rfl (fun r7 s7 h => ?_)
  refine zv_istore (lv2 := [(4, .int r7), (0, .ref (Y.2.1 k)), (1, .int x1), (2, .int x2), (3, .int x3)]) X dX3_pairFault_10 (by decide) rfl rfl ?_
  refine zv_iload X dX3_pairFault_12 0 rfl rfl ?_
  refine zv_if_eq (tgt := 22) X dX3_pairFault_14 (by decide) rfl (fun q14 => ?_) (fun q14 => ?_)
  · replace h := h.1 q14
    refine zv_aload_n X dX3_pairFault_22 1 rfl rfl rfl ?_
    refine zv_iload_n X dX3_pairFault_23 2 rfl rfl rfl ?_
    refine zv_iload_n X dX3_pairFault_24 3 rfl rfl rfl ?_
    refine zv_iconst (v := 2) X dX3_pairFault_25 (by decide) rfl ?_
    refine zv_iload_n X dX3_pairFault_26 4 rfl rfl rfl ?_
    refine zv_imul X dX3_pairFault_27 rfl ?_
    refine zv_iadd X dX3_pairFault_28 rfl ?_
    refine zv_iconst (v := 1) X dX3_pairFault_29 (by decide) rfl ?_
    refine zv_iadd X dX3_pairFault_30 rfl ?_
    refine zv_cVi (k := k) (ci := 3) X [.int x1, .int ((x2 + (2 * x3)) + 1)] (kX3_faultOf l hJ x1 ((x2 + (2 * x3)) + 1) hY h) jl_X3_32 ⟨rfl, rfl⟩ ⟨Nat.le_of_ble_eq_true rfl, Nat.le_of_ble_eq_true rfl⟩ hY.1.1 (by decide) hY.1.2 rfl rfl rfl (Nat.le_of_ble_eq_true rfl) dX3_pairFault_31 rfl (fun r31 s31 h => ?_)
    exact zv_iret X hr hlk h dX3_pairFault_34
  · replace h := h.2 q14
    refine zv_iload X dX3_pairFault_17 0 rfl rfl ?_
    refine zv_goto (tgt := 34) X dX3_pairFault_19 (by decide) ?_
    exact zv_iret X hr hlk h dX3_pairFault_34
def rmX3_put : Room := { frames := 0, cells := 0, slots := 0, locals := 0 }
def pX3_put (k : Nat) (x1 : Int32) (x2 : Int32) (σ : zz_T) (Q : zz_T → Prop) : Prop :=
    (((σ.1 k 2) = 0 → vp_in x1 40 ∧
    Q (zz_i σ (k + 1) (Int32.toNatClampNeg x1) (Int32.toInt8 x2).toInt32)) ∧
    (¬ (σ.1 k 2) = 0 → (((σ.1 k 2) = 1 → vp_in x1 40 ∧
    Q (zz_i σ (k + 1) (Int32.toNatClampNeg x1) (Int32.toInt16 x2).toInt32)) ∧
    (¬ (σ.1 k 2) = 1 → vp_in x1 40 ∧
    Q (zz_i σ (k + 1) (Int32.toNatClampNeg x1) x2)))))
set_option maxHeartbeats 4000000 in
set_option maxRecDepth 100000 in
theorem kX3_put (l : Launch) {Y : zz_Y} (hJ : zz_J Y) {k : Nat} (x1 : Int32) (x2 : Int32) (hY : zz_sh Y k) {σ : zz_T} {Q : zz_T → Prop} (h : pX3_put k x1 x2 σ Q) : zz_Mv l yX3_put cX3_put 3 none rmX3_put Y [.ref (Y.2.1 k), .int x1, .int x2] σ Q := by
  refine zz_Mv.start (by decide) hJ (Nat.le_of_ble_eq_true rfl) (fun p e s m below meth c X hr hlk => ?_)
  have X : zz_X p m c cX3_put 3 s _ RX3 := X
  refine zv_sub (lv2 := [(0, .ref (Y.2.1 k)), (1, .int x1), (2, .int x2)]) [0, 1, 2] rfl ?_
  unfold pX3_put at h
  refine zv_aload_n X dX3_put_0 0 rfl rfl rfl ?_
  refine zg_X3_2 (k := k) X hY.1.1 hY.1.2 fl_X3_19 dX3_put_1 rfl ?_
  by_cases e4_0 : (σ.1 k 2) = 0
  · replace h := h.1 e4_0
    refine zv_lookup (tgt := 32) (off := 28) X dX3_put_4 (by decide) (by rw [e4_0]; decide) (by decide) ?_
    refine zv_aload_n X dX3_put_32 0 rfl rfl rfl ?_
    refine zg_X3_0 (k := k) X hY.1.1 hY.1.2 fl_X3_9 dX3_put_33 rfl ?_
    refine zv_iload_n X dX3_put_36 1 rfl rfl rfl ?_
    refine zv_iload_n X dX3_put_37 2 rfl rfl rfl ?_
    refine zv_i2b X dX3_put_38 rfl ?_
    obtain ⟨hi39, h⟩ := h
    refine zv_iast (k := (k + 1)) X hY.2.1 hY.2.2 hi39 dX3_put_39 rfl ?_
    refine zv_goto (tgt := 61) X dX3_put_40 (by decide) ?_
    exact zv_vret X hr hlk h dX3_put_61
  · replace h := h.2 e4_0
    by_cases e4_1 : (σ.1 k 2) = 1
    · replace h := h.1 e4_1
      refine zv_lookup (tgt := 43) (off := 39) X dX3_put_4 (by decide) (by rw [e4_1]; decide) (by decide) ?_
      refine zv_aload_n X dX3_put_43 0 rfl rfl rfl ?_
      refine zg_X3_0 (k := k) X hY.1.1 hY.1.2 fl_X3_9 dX3_put_44 rfl ?_
      refine zv_iload_n X dX3_put_47 1 rfl rfl rfl ?_
      refine zv_iload_n X dX3_put_48 2 rfl rfl rfl ?_
      refine zv_i2s X dX3_put_49 rfl ?_
      obtain ⟨hi50, h⟩ := h
      refine zv_iast (k := (k + 1)) X hY.2.1 hY.2.2 hi50 dX3_put_50 rfl ?_
      refine zv_goto (tgt := 61) X dX3_put_51 (by decide) ?_
      exact zv_vret X hr hlk h dX3_put_61
    · replace h := h.2 e4_1
      refine zv_lookup (tgt := 54) (off := 50) X dX3_put_4 (by decide) (by simp [Op.lookupswitch.offset, (zz_nt e4_0 (z := 0) rfl).symm, (zz_nt e4_1 (z := 1) rfl).symm]) (by decide) ?_
      refine zv_aload_n X dX3_put_54 0 rfl rfl rfl ?_
      refine zg_X3_0 (k := k) X hY.1.1 hY.1.2 fl_X3_9 dX3_put_55 rfl ?_
      refine zv_iload_n X dX3_put_58 1 rfl rfl rfl ?_
      refine zv_iload_n X dX3_put_59 2 rfl rfl rfl ?_
      obtain ⟨hi60, h⟩ := h
      refine zv_iast (k := (k + 1)) X hY.2.1 hY.2.2 hi60 dX3_put_60 rfl ?_
      exact zv_vret X hr hlk h dX3_put_61
def rmJ0_isLatin1_aae02 : Room := { frames := 0, cells := 0, slots := 0, locals := 0 }
def pJ0_isLatin1_aae02 (k : Nat) (σ : zz_T) (Q : Int32 → zz_T → Prop) : Prop :=
    (((1 : Int32) = 0 → (zz_bo 0 ∧ Q 0 σ)) ∧
    (¬ (1 : Int32) = 0 → (((0 : Int32) = 0 → (zz_bo 1 ∧ Q 1 σ)) ∧
    (¬ (0 : Int32) = 0 → (zz_bo 0 ∧ Q 0 σ)))))
set_option maxHeartbeats 4000000 in
set_option maxRecDepth 100000 in
theorem kJ0_isLatin1_aae02 (l : Launch) {Y : zz_Y} (hJ : zz_J Y) {k : Nat} (hY : k < 8) {σ : zz_T} {Q : Int32 → zz_T → Prop} (h : pJ0_isLatin1_aae02 k σ Q) : zz_Mi l yJ0_isLatin1_aae02 cJ0_isLatin1_aae02 1 (some .boolean) rmJ0_isLatin1_aae02 Y [.ref (Y.2.2.2 (10 + k))] σ Q := by
  refine zz_Mi.start (by decide) hJ (Nat.le_of_ble_eq_true rfl) (fun p e s m below meth c X hr hlk => ?_)
  have X : zz_X p m c cJ0_isLatin1_aae02 1 s _ RJ0 := X
  refine zv_sub (lv2 := [(0, .ref (Y.2.2.2 (10 + k)))]) [0] rfl ?_
  unfold pJ0_isLatin1_aae02 at h
  refine zv_comp X fl_J0_38 dJ0_isLatin1_aae02_0 rfl ?_
  refine zv_if_eq (tgt := 17) X dJ0_isLatin1_aae02_3 (by decide) rfl (fun q3 => ?_) (fun q3 => ?_)
  · replace h := h.1 q3
    refine zv_iconst (v := 0) X dJ0_isLatin1_aae02_17 (by decide) rfl ?_
    exact zv_zret X hr hlk h dJ0_isLatin1_aae02_18
  · replace h := h.2 q3
    refine zv_aload_n X dJ0_isLatin1_aae02_6 0 rfl rfl rfl ?_
    refine zv_sget_c X hY fl_J0_15 dJ0_isLatin1_aae02_7 rfl ?_
    refine zv_if_ne (tgt := 17) X dJ0_isLatin1_aae02_10 (by decide) rfl (fun q10 => ?_) (fun q10 => ?_)
    · replace h := h.2 q10
      refine zv_iconst (v := 0) X dJ0_isLatin1_aae02_17 (by decide) rfl ?_
      exact zv_zret X hr hlk h dJ0_isLatin1_aae02_18
    · replace h := h.1 q10
      refine zv_iconst (v := 1) X dJ0_isLatin1_aae02_13 (by decide) rfl ?_
      refine zv_goto (tgt := 18) X dJ0_isLatin1_aae02_14 (by decide) ?_
      exact zv_zret X hr hlk h dJ0_isLatin1_aae02_18
def rmJ3_checkIndex_8e157n : Room := { frames := 0, cells := 0, slots := 0, locals := 0 }
def pJ3_checkIndex_8e157n_9  (Q : Int32 → zz_T → Prop) (σ : zz_T) : Prop :=
    False
set_option maxHeartbeats 4000000 in
set_option maxRecDepth 100000 in
theorem vJ3_checkIndex_8e157n_9 {p : Program} {l : Launch} {e : Env} {s : State} {m : MethodId} {args : Array Value} {below : List Frame} {meth : Method} {c : Code} {Y : zz_Y}  {Q : Int32 → zz_T → Prop} (X : zz_X p m c cJ3_checkIndex_8e157 3 s args RJ3) (hr : meth.sig.returnType = (some .int)) (hlk : meth.locks = false) (hJ : zz_J Y)   : ∀ (σ : zz_T), pJ3_checkIndex_8e157n_9  Q σ → zz_V p l e rmJ3_checkIndex_8e157n s m args below meth c (MQ below (va_Qi Q (zz_E Y) (zz_A Y)) args s 0 0 (zz_A Y)) 3 Y σ 9 [] [] := by
  intro σ h 
  unfold pJ3_checkIndex_8e157n_9 at h
  exact h.elim
def pJ3_checkIndex_8e157n (x0 : Int32) (x1 : Int32) (σ : zz_T) (Q : Int32 → zz_T → Prop) : Prop :=
    ((x0 < 0 → pJ3_checkIndex_8e157n_9  Q σ) ∧
    (¬ x0 < 0 → ((x0 < x1 → Q x0 σ) ∧
    (¬ x0 < x1 → pJ3_checkIndex_8e157n_9  Q σ))))
set_option maxHeartbeats 4000000 in
set_option maxRecDepth 100000 in
theorem kJ3_checkIndex_8e157n (l : Launch) {Y : zz_Y} (hJ : zz_J Y) (x0 : Int32) (x1 : Int32)  {σ : zz_T} {Q : Int32 → zz_T → Prop} (h : pJ3_checkIndex_8e157n x0 x1 σ Q) : zz_Mi l yJ3_checkIndex_8e157 cJ3_checkIndex_8e157 3 (some .int) rmJ3_checkIndex_8e157n Y [.int x0, .int x1, .null] σ Q := by
  refine zz_Mi.start (by decide) hJ (Nat.le_of_ble_eq_true rfl) (fun p e s m below meth c X hr hlk => ?_)
  have X : zz_X p m c cJ3_checkIndex_8e157 3 s _ RJ3 := X
  refine zv_sub (lv2 := [(0, .int x0), (1, .int x1), (2, .null)]) [0, 1, 2] rfl ?_
  unfold pJ3_checkIndex_8e157n at h
  refine zv_iload_n X dJ3_checkIndex_8e157_0 0 rfl rfl rfl ?_
  refine zv_if_lt (tgt := 9) X dJ3_checkIndex_8e157_1 (by decide) rfl (fun q1 => ?_) (fun q1 => ?_)
  · replace h := h.1 q1
    refine zv_sub (lv2 := []) [] rfl ?_
    exact vJ3_checkIndex_8e157n_9 X hr hlk hJ  _ h
  · replace h := h.2 q1
    refine zv_iload_n X dJ3_checkIndex_8e157_4 0 rfl rfl rfl ?_
    refine zv_iload_n X dJ3_checkIndex_8e157_5 1 rfl rfl rfl ?_
    refine zv_icmp_lt (tgt := 16) X dJ3_checkIndex_8e157_6 (by decide) rfl (fun q6 => ?_) (fun q6 => ?_)
    · replace h := h.1 q6
      refine zv_iload_n X dJ3_checkIndex_8e157_16 0 rfl rfl rfl ?_
      exact zv_iret X hr hlk h dJ3_checkIndex_8e157_17
    · replace h := h.2 q6
      refine zv_sub (lv2 := []) [] rfl ?_
      exact vJ3_checkIndex_8e157n_9 X hr hlk hJ  _ h
def rmJ3_checkIndex_8e157r : Room := { frames := 0, cells := 0, slots := 0, locals := 0 }
def pJ3_checkIndex_8e157r_9 (t2 : Nat) (Q : Int32 → zz_T → Prop) (σ : zz_T) : Prop :=
    False
set_option maxHeartbeats 4000000 in
set_option maxRecDepth 100000 in
theorem vJ3_checkIndex_8e157r_9 {p : Program} {l : Launch} {e : Env} {s : State} {m : MethodId} {args : Array Value} {below : List Frame} {meth : Method} {c : Code} {Y : zz_Y} {t2 : Nat} {Q : Int32 → zz_T → Prop} (X : zz_X p m c cJ3_checkIndex_8e157 3 s args RJ3) (hr : meth.sig.returnType = (some .int)) (hlk : meth.locks = false) (hJ : zz_J Y)   : ∀ (σ : zz_T), pJ3_checkIndex_8e157r_9 t2 Q σ → zz_V p l e rmJ3_checkIndex_8e157r s m args below meth c (MQ below (va_Qi Q (zz_E Y) (zz_A Y)) args s 0 0 (zz_A Y)) 3 Y σ 9 [] [] := by
  intro σ h 
  unfold pJ3_checkIndex_8e157r_9 at h
  exact h.elim
def pJ3_checkIndex_8e157r (x0 : Int32) (x1 : Int32) (t2 : Nat) (σ : zz_T) (Q : Int32 → zz_T → Prop) : Prop :=
    ((x0 < 0 → pJ3_checkIndex_8e157r_9 t2 Q σ) ∧
    (¬ x0 < 0 → ((x0 < x1 → Q x0 σ) ∧
    (¬ x0 < x1 → pJ3_checkIndex_8e157r_9 t2 Q σ))))
set_option maxHeartbeats 4000000 in
set_option maxRecDepth 100000 in
theorem kJ3_checkIndex_8e157r (l : Launch) {Y : zz_Y} (hJ : zz_J Y) (x0 : Int32) (x1 : Int32) {t2 : Nat}  {σ : zz_T} {Q : Int32 → zz_T → Prop} (h : pJ3_checkIndex_8e157r x0 x1 t2 σ Q) : zz_Mi l yJ3_checkIndex_8e157 cJ3_checkIndex_8e157 3 (some .int) rmJ3_checkIndex_8e157r Y [.int x0, .int x1, .ref t2] σ Q := by
  refine zz_Mi.start (by decide) hJ (Nat.le_of_ble_eq_true rfl) (fun p e s m below meth c X hr hlk => ?_)
  have X : zz_X p m c cJ3_checkIndex_8e157 3 s _ RJ3 := X
  refine zv_sub (lv2 := [(0, .int x0), (1, .int x1), (2, .ref t2)]) [0, 1, 2] rfl ?_
  unfold pJ3_checkIndex_8e157r at h
  refine zv_iload_n X dJ3_checkIndex_8e157_0 0 rfl rfl rfl ?_
  refine zv_if_lt (tgt := 9) X dJ3_checkIndex_8e157_1 (by decide) rfl (fun q1 => ?_) (fun q1 => ?_)
  · replace h := h.1 q1
    refine zv_sub (lv2 := []) [] rfl ?_
    exact vJ3_checkIndex_8e157r_9 X hr hlk hJ  _ h
  · replace h := h.2 q1
    refine zv_iload_n X dJ3_checkIndex_8e157_4 0 rfl rfl rfl ?_
    refine zv_iload_n X dJ3_checkIndex_8e157_5 1 rfl rfl rfl ?_
    refine zv_icmp_lt (tgt := 16) X dJ3_checkIndex_8e157_6 (by decide) rfl (fun q6 => ?_) (fun q6 => ?_)
    · replace h := h.1 q6
      refine zv_iload_n X dJ3_checkIndex_8e157_16 0 rfl rfl rfl ?_
      exact zv_iret X hr hlk h dJ3_checkIndex_8e157_17
    · replace h := h.2 q6
      refine zv_sub (lv2 := []) [] rfl ?_
      exact vJ3_checkIndex_8e157r_9 X hr hlk hJ  _ h
def rmJ0_checkIndex_df160 : Room := { frames := 1, cells := 0, slots := 0, locals := 22 }
def pJ0_checkIndex_df160 (x0 : Int32) (x1 : Int32) (σ : zz_T) (Q : zz_T → Prop) : Prop :=
    (pJ3_checkIndex_8e157n x0 x1 σ (fun r5 s5 =>
    Q s5) ∧
    ∀ t2 : Nat, pJ3_checkIndex_8e157r x0 x1 t2 σ (fun r5 s5 =>
    Q s5))
set_option maxHeartbeats 4000000 in
set_option maxRecDepth 100000 in
theorem kJ0_checkIndex_df160 (l : Launch) {Y : zz_Y} (hJ : zz_J Y) (x0 : Int32) (x1 : Int32)  {σ : zz_T} {Q : zz_T → Prop} (h : pJ0_checkIndex_df160 x0 x1 σ Q) : zz_Mv l yJ0_checkIndex_df160 cJ0_checkIndex_df160 2 none rmJ0_checkIndex_df160 Y [.int x0, .int x1] σ Q := by
  refine zz_Mv.start (by decide) hJ (Nat.le_of_ble_eq_true rfl) (fun p e s m below meth c X hr hlk => ?_)
  have X : zz_X p m c cJ0_checkIndex_df160 2 s _ RJ0 := X
  refine zv_sub (lv2 := [(0, .int x0), (1, .int x1)]) [0, 1] rfl ?_
  unfold pJ0_checkIndex_df160 at h
  refine zv_iload_n X dJ0_checkIndex_df160_0 0 rfl rfl rfl ?_
  refine zv_iload_n X dJ0_checkIndex_df160_1 1 rfl rfl rfl ?_
  refine zv_zq X fl_J0_1053 dJ0_checkIndex_df160_2 rfl ?_ (fun t2 => ?_)
  · replace h := h.1
    refine zv_cSi X [.int x0, .int x1, .null] (kJ3_checkIndex_8e157n l hJ x0 x1  h) jl_J0_1059 ⟨rfl, rfl⟩ ⟨Nat.le_of_ble_eq_true rfl, Nat.le_of_ble_eq_true rfl⟩ rfl rfl (Nat.le_of_ble_eq_true rfl) dJ0_checkIndex_df160_5 rfl (fun r5 s5 h => ?_)
    refine zv_pop X dJ0_checkIndex_df160_8 rfl rfl ?_
    exact zv_vret X hr hlk h dJ0_checkIndex_df160_9
  · replace h := h.2 t2
    refine zv_cSi X [.int x0, .int x1, .ref t2] (kJ3_checkIndex_8e157r l hJ x0 x1  h) jl_J0_1059 ⟨rfl, rfl⟩ ⟨Nat.le_of_ble_eq_true rfl, Nat.le_of_ble_eq_true rfl⟩ rfl rfl (Nat.le_of_ble_eq_true rfl) dJ0_checkIndex_df160_5 rfl (fun r5 s5 h => ?_)
    refine zv_pop X dJ0_checkIndex_df160_8 rfl rfl ?_
    exact zv_vret X hr hlk h dJ0_checkIndex_df160_9
def rmJ1_charAt_3b067 : Room := { frames := 2, cells := 0, slots := 0, locals := 43 }
def pJ1_charAt_3b067 (c0 : Nat) (x1 : Int32) (σ : zz_T) (Q : Int32 → zz_T → Prop) : Prop :=
    pJ0_checkIndex_df160 x1 (nI (zz_len.getD c0 0)) σ (fun s3 =>
    vp_in x1 (zz_len.getD c0 0) ∧
    (narrow .char (.int (Int32.toUInt32 (((zz_byt.getD c0 []).getD (Int32.toNatClampNeg x1) 0) &&& 255) % 65536).toInt32) = .int (Int32.toUInt32 (((zz_byt.getD c0 []).getD (Int32.toNatClampNeg x1) 0) &&& 255) % 65536).toInt32 ∧ Q (Int32.toUInt32 (((zz_byt.getD c0 []).getD (Int32.toNatClampNeg x1) 0) &&& 255) % 65536).toInt32 s3))
set_option maxHeartbeats 4000000 in
set_option maxRecDepth 100000 in
theorem kJ1_charAt_3b067 (l : Launch) {Y : zz_Y} (hJ : zz_J Y) {c0 : Nat} (x1 : Int32) (h0 : c0 < 8) {σ : zz_T} {Q : Int32 → zz_T → Prop} (h : pJ1_charAt_3b067 c0 x1 σ Q) : zz_Mi l yJ1_charAt_3b067 cJ1_charAt_3b067 2 (some .char) rmJ1_charAt_3b067 Y [.ref (Y.2.2.2 (20 + c0)), .int x1] σ Q := by
  refine zz_Mi.start (by decide) hJ (Nat.le_of_ble_eq_true rfl) (fun p e s m below meth c X hr hlk => ?_)
  have X : zz_X p m c cJ1_charAt_3b067 2 s _ RJ1 := X
  refine zv_sub (lv2 := [(0, .ref (Y.2.2.2 (20 + c0))), (1, .int x1)]) [0, 1] rfl ?_
  unfold pJ1_charAt_3b067 at h
  refine zv_iload_n X dJ1_charAt_3b067_0 1 rfl rfl rfl ?_
  refine zv_aload_n X dJ1_charAt_3b067_1 0 rfl rfl rfl ?_
  refine zv_sblen X h0 dJ1_charAt_3b067_2 rfl ?_
  refine zv_cSv X [.int x1, .int (nI (zz_len.getD c0 0))] (kJ0_checkIndex_df160 l hJ x1 (nI (zz_len.getD c0 0))  h) jl_J1_9 ⟨rfl, rfl⟩ ⟨Nat.le_of_ble_eq_true rfl, Nat.le_of_ble_eq_true rfl⟩ rfl rfl (Nat.le_of_ble_eq_true rfl) dJ1_charAt_3b067_3 rfl (fun s3 h => ?_)
  refine zv_aload_n X dJ1_charAt_3b067_6 0 rfl rfl rfl ?_
  refine zv_iload_n X dJ1_charAt_3b067_7 1 rfl rfl rfl ?_
  obtain ⟨hi8, h⟩ := h
  refine zv_sbald X h0 hi8 dJ1_charAt_3b067_8 rfl ?_
  refine zv_sipush (v := 255) X dJ1_charAt_3b067_9 (by decide) rfl ?_
  refine zv_iand X dJ1_charAt_3b067_12 rfl ?_
  refine zv_i2c X dJ1_charAt_3b067_13 rfl ?_
  exact zv_cret X hr hlk h.1 h.2 dJ1_charAt_3b067_14
def rmJ0_charAt_5068e : Room := { frames := 3, cells := 0, slots := 0, locals := 64 }
def pJ0_charAt_5068e (k : Nat) (x1 : Int32) (σ : zz_T) (Q : Int32 → zz_T → Prop) : Prop :=
    pJ0_isLatin1_aae02 k σ (fun r1 s1 =>
    ((r1 = 0 → False) ∧
    (¬ r1 = 0 → pJ1_charAt_3b067 k x1 s1 (fun r12 s12 =>
    (narrow .char (.int r12) = .int r12 ∧ Q r12 s12)))))
set_option maxHeartbeats 4000000 in
set_option maxRecDepth 100000 in
theorem kJ0_charAt_5068e (l : Launch) {Y : zz_Y} (hJ : zz_J Y) {k : Nat} (x1 : Int32) (hY : k < 8) {σ : zz_T} {Q : Int32 → zz_T → Prop} (h : pJ0_charAt_5068e k x1 σ Q) : zz_Mi l yJ0_charAt_5068e cJ0_charAt_5068e 2 (some .char) rmJ0_charAt_5068e Y [.ref (Y.2.2.2 (10 + k)), .int x1] σ Q := by
  refine zz_Mi.start (by decide) hJ (Nat.le_of_ble_eq_true rfl) (fun p e s m below meth c X hr hlk => ?_)
  have X : zz_X p m c cJ0_charAt_5068e 2 s _ RJ0 := X
  refine zv_sub (lv2 := [(0, .ref (Y.2.2.2 (10 + k))), (1, .int x1)]) [0, 1] rfl ?_
  unfold pJ0_charAt_5068e at h
  refine zv_aload_n X dJ0_charAt_5068e_0 0 rfl rfl rfl ?_
  refine zv_cTi X [] (kJ0_isLatin1_aae02 l hJ  hY h) jl_J0_492 ⟨rfl, rfl⟩ ⟨Nat.le_of_ble_eq_true rfl, Nat.le_of_ble_eq_true rfl⟩ hY rfl rfl rfl (Nat.le_of_ble_eq_true rfl) dJ0_charAt_5068e_1 rfl (fun r1 s1 h => ?_)
  refine zv_if_eq (tgt := 16) X dJ0_charAt_5068e_4 (by decide) rfl (fun q4 => ?_) (fun q4 => ?_)
  · replace h := h.1 q4
    refine zv_aload_n X dJ0_charAt_5068e_16 0 rfl rfl rfl ?_
    refine zv_sget_v X hY fl_J0_9 dJ0_charAt_5068e_17 rfl ?_
    refine zv_iload_n X dJ0_charAt_5068e_20 1 rfl rfl rfl ?_
    exact h.elim
  · replace h := h.2 q4
    refine zv_aload_n X dJ0_charAt_5068e_7 0 rfl rfl rfl ?_
    refine zv_sget_v X hY fl_J0_9 dJ0_charAt_5068e_8 rfl ?_
    refine zv_iload_n X dJ0_charAt_5068e_11 1 rfl rfl rfl ?_
    refine zv_cSi X [.ref (Y.2.2.2 (20 + k)), .int x1] (kJ1_charAt_3b067 l hJ x1 hY h) jl_J0_495 ⟨rfl, rfl⟩ ⟨Nat.le_of_ble_eq_true rfl, Nat.le_of_ble_eq_true rfl⟩ rfl rfl (Nat.le_of_ble_eq_true rfl) dJ0_charAt_5068e_12 rfl (fun r12 s12 h => ?_)
    exact zv_cret X hr hlk h.1 h.2 dJ0_charAt_5068e_15
def rmJ0_coder_7d493 : Room := { frames := 0, cells := 0, slots := 0, locals := 0 }
def pJ0_coder_7d493 (k : Nat) (σ : zz_T) (Q : Int32 → zz_T → Prop) : Prop :=
    (((1 : Int32) = 0 → (narrow .byte (.int 1) = .int 1 ∧ Q 1 σ)) ∧
    (¬ (1 : Int32) = 0 → (narrow .byte (.int 0) = .int 0 ∧ Q 0 σ)))
set_option maxHeartbeats 4000000 in
set_option maxRecDepth 100000 in
theorem kJ0_coder_7d493 (l : Launch) {Y : zz_Y} (hJ : zz_J Y) {k : Nat} (hY : k < 8) {σ : zz_T} {Q : Int32 → zz_T → Prop} (h : pJ0_coder_7d493 k σ Q) : zz_Mi l yJ0_coder_7d493 cJ0_coder_7d493 1 (some .byte) rmJ0_coder_7d493 Y [.ref (Y.2.2.2 (10 + k))] σ Q := by
  refine zz_Mi.start (by decide) hJ (Nat.le_of_ble_eq_true rfl) (fun p e s m below meth c X hr hlk => ?_)
  have X : zz_X p m c cJ0_coder_7d493 1 s _ RJ0 := X
  refine zv_sub (lv2 := [(0, .ref (Y.2.2.2 (10 + k)))]) [0] rfl ?_
  unfold pJ0_coder_7d493 at h
  refine zv_comp X fl_J0_38 dJ0_coder_7d493_0 rfl ?_
  refine zv_if_eq (tgt := 13) X dJ0_coder_7d493_3 (by decide) rfl (fun q3 => ?_) (fun q3 => ?_)
  · replace h := h.1 q3
    refine zv_iconst (v := 1) X dJ0_coder_7d493_13 (by decide) rfl ?_
    exact zv_cret X hr hlk h.1 h.2 dJ0_coder_7d493_14
  · replace h := h.2 q3
    refine zv_aload_n X dJ0_coder_7d493_6 0 rfl rfl rfl ?_
    refine zv_sget_c X hY fl_J0_15 dJ0_coder_7d493_7 rfl ?_
    refine zv_goto (tgt := 14) X dJ0_coder_7d493_10 (by decide) ?_
    exact zv_cret X hr hlk h.1 h.2 dJ0_coder_7d493_14
def rmJ0_length_8abf5 : Room := { frames := 1, cells := 0, slots := 0, locals := 20 }
def pJ0_length_8abf5 (k : Nat) (σ : zz_T) (Q : Int32 → zz_T → Prop) : Prop :=
    pJ0_coder_7d493 k σ (fun r6 s6 =>
    Q ((nI (zz_len.getD k 0)) >>> (r6 &&& (31 : Int32))) s6)
set_option maxHeartbeats 4000000 in
set_option maxRecDepth 100000 in
theorem kJ0_length_8abf5 (l : Launch) {Y : zz_Y} (hJ : zz_J Y) {k : Nat} (hY : k < 8) {σ : zz_T} {Q : Int32 → zz_T → Prop} (h : pJ0_length_8abf5 k σ Q) : zz_Mi l yJ0_length_8abf5 cJ0_length_8abf5 1 (some .int) rmJ0_length_8abf5 Y [.ref (Y.2.2.2 (10 + k))] σ Q := by
  refine zz_Mi.start (by decide) hJ (Nat.le_of_ble_eq_true rfl) (fun p e s m below meth c X hr hlk => ?_)
  have X : zz_X p m c cJ0_length_8abf5 1 s _ RJ0 := X
  refine zv_sub (lv2 := [(0, .ref (Y.2.2.2 (10 + k)))]) [0] rfl ?_
  unfold pJ0_length_8abf5 at h
  refine zv_aload_n X dJ0_length_8abf5_0 0 rfl rfl rfl ?_
  refine zv_sget_v X hY fl_J0_9 dJ0_length_8abf5_1 rfl ?_
  refine zv_sblen X hY dJ0_length_8abf5_4 rfl ?_
  refine zv_aload_n X dJ0_length_8abf5_5 0 rfl rfl rfl ?_
  refine zv_cTi X [] (kJ0_coder_7d493 l hJ  hY h) jl_J0_335 ⟨rfl, rfl⟩ ⟨Nat.le_of_ble_eq_true rfl, Nat.le_of_ble_eq_true rfl⟩ hY rfl rfl rfl (Nat.le_of_ble_eq_true rfl) dJ0_length_8abf5_6 rfl (fun r6 s6 h => ?_)
  refine zv_ishr X dJ0_length_8abf5_9 rfl ?_
  exact zv_iret X hr hlk h dJ0_length_8abf5_10
