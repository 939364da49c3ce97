def rmX1_begin : Room := { frames := 1, cells := 0, slots := 0, locals := 40 }
def pX1_begin (k : Nat) (σ : zz_T) (Q : zz_T → Prop) : Prop :=
    Q (zz_r (zz_i (zz_i (zz_i (zz_i σ k 4 0) k 5 0) (k + 4) 3 0) k 6 0) (k + 3) (va_cpy (zz_f 2) ((zz_i (zz_i (zz_i (zz_i σ k 4 0) k 5 0) (k + 4) 3 0) k 6 0).1 (k + 3)) 0 0 3))
set_option maxHeartbeats 4000000 in
set_option maxRecDepth 100000 in
theorem kX1_begin (l : Launch) {Y : zz_Y} (hJ : zz_J Y) {k : Nat} (hY : zz_pr Y k) {σ : zz_T} {Q : zz_T → Prop} (h : pX1_begin k σ Q) : zz_Mv l yX1_begin cX1_begin 1 none rmX1_begin Y [.ref (Y.2.1 k)] σ Q := by
  refine zz_Mv.start (by decide) hJ (Nat.le_of_ble_eq_true rfl) (fun p e s m below meth c X hr hlk => ?_)
  have X : zz_X p m c cX1_begin 1 s _ RX1 := X
  refine zv_sub (lv2 := [(0, .ref (Y.2.1 k))]) [0] rfl ?_
  unfold pX1_begin at h
  refine zv_aload_n X dX1_begin_0 0 rfl rfl rfl ?_
  refine zv_iconst (v := 0) X dX1_begin_1 (by decide) rfl ?_
  refine zp_X1_4 (k := k) X hY.1.1 hY.1.2 fl_X1_35 dX1_begin_2 rfl ?_
  refine zv_aload_n X dX1_begin_5 0 rfl rfl rfl ?_
  refine zv_iconst (v := 0) X dX1_begin_6 (by decide) rfl ?_
  refine zp_X1_5 (k := k) X hY.1.1 hY.1.2 fl_X1_39 dX1_begin_7 rfl ?_
  refine zv_aload_n X dX1_begin_10 0 rfl rfl rfl ?_
  refine zg_X1_3 (k := k) X hY.1.1 hY.1.2 fl_X1_27 dX1_begin_11 rfl ?_
  refine zv_iconst (v := 0) X dX1_begin_14 (by decide) rfl ?_
  refine zp_X2_3 (k := (k + 4)) X hY.2.2.2.2.1.1.1 hY.2.2.2.2.1.1.2 fl_X1_42 dX1_begin_15 rfl ?_
  refine zv_aload_n X dX1_begin_18 0 rfl rfl rfl ?_
  refine zv_iconst (v := 0) X dX1_begin_19 (by decide) rfl ?_
  refine zp_X1_6 (k := k) X hY.1.1 hY.1.2 fl_X1_45 dX1_begin_20 rfl ?_
  refine zv_stN48 X dX1_begin_23 rfl ?_
  refine zv_iconst (v := 0) X dX1_begin_26 (by decide) rfl ?_
  refine zv_aload_n X dX1_begin_27 0 rfl rfl rfl ?_
  refine zg_X1_2 (k := k) X hY.1.1 hY.1.2 fl_X1_21 dX1_begin_28 rfl ?_
  refine zv_iconst (v := 0) X dX1_begin_31 (by decide) rfl ?_
  refine zv_iconst (v := 3) X dX1_begin_32 (by decide) rfl ?_
  refine zv_copyT X 2 (by decide) hY.2.2.2.1.1 hY.2.2.2.1.2 ml_X1_51 (by decide) (by decide) (by decide) (by decide) (by decide) (Nat.le_of_ble_eq_true rfl) (Nat.le_of_ble_eq_true rfl) dX1_begin_33 rfl ?_
  exact zv_vret X hr hlk h dX1_begin_36
def rmX1_copyFrom : Room := { frames := 2, cells := 0, slots := 0, locals := 61 }
def pX1_copyFrom_10 (k : Nat) (c1 : Nat) (Q : zz_T → Prop) : Nat → Int32 → zz_T → Prop
  | 0, _, _ => False
  | n + 1, x2, σ =>
    (((σ.1 k 4) ≤ x2 → pX2_copyFrom (k + 4) (c1 + 4) (zz_r (zz_i σ k 5 (σ.1 c1 5)) (k + 2) (va_cpy ((zz_i σ k 5 (σ.1 c1 5)).1 (c1 + 2)) ((zz_i σ k 5 (σ.1 c1 5)).1 (k + 2)) 0 0 12)) (fun s70 =>
    Q (zz_i (zz_r s70 (k + 3) (va_cpy (s70.1 (c1 + 3)) (s70.1 (k + 3)) 0 0 3)) k 6 ((zz_r s70 (k + 3) (va_cpy (s70.1 (c1 + 3)) (s70.1 (k + 3)) 0 0 3)).1 c1 6)))) ∧
    (¬ (σ.1 k 4) ≤ x2 → vp_in x2 3 ∧
    vp_in x2 3 ∧
    pX0_copyFrom (k + 8 + 3 * (Int32.toNatClampNeg x2)) (c1 + 8 + 3 * (Int32.toNatClampNeg x2)) σ (fun s30 =>
    pX1_copyFrom_10 k c1 Q n (x2 + 1) s30)))
set_option maxHeartbeats 4000000 in
set_option maxRecDepth 100000 in
theorem vX1_copyFrom_10 {p : Program} {l : Launch} {e : Env} {s : State} {m : MethodId} {args : Array Value} {below : List Frame} {meth : Method} {c : Code} {Y : zz_Y} {k : Nat} {c1 : Nat} {Q : zz_T → Prop} (X : zz_X p m c cX1_copyFrom 3 s args RX1) (hr : meth.sig.returnType = none) (hlk : meth.locks = false) (hJ : zz_J Y) (hY : zz_pr Y k) (h1 : zz_pr Y c1)  : ∀ (n : Nat) (x2 : Int32) (σ : zz_T), pX1_copyFrom_10 k c1 Q n x2 σ → zz_V p l e rmX1_copyFrom s m args below meth c (MQ below (va_Qv Q (zz_E Y) (zz_A Y)) args s 0 0 (zz_A Y)) 3 Y σ 10 [(0, .ref (Y.2.1 k)), (1, .ref (Y.2.1 c1)), (2, .int x2)] [] := by
  intro n
  induction n with
  | zero => intro x2 σ h; exact h.elim
  | succ n ih =>
    intro x2 σ h 
    unfold pX1_copyFrom_10 at h
    refine zv_iload_n X dX1_copyFrom_10 2 rfl rfl rfl ?_
    refine zv_aload_n X dX1_copyFrom_11 0 rfl rfl rfl ?_
    refine zg_X1_4 (k := k) X hY.1.1 hY.1.2 fl_X1_35 dX1_copyFrom_12 rfl ?_
    refine zv_icmp_ge (tgt := 39) X dX1_copyFrom_15 (by decide) rfl (fun q15 => ?_) (fun q15 => ?_)
    · replace h := h.1 q15
      refine zv_aload_n X dX1_copyFrom_39 0 rfl rfl rfl ?_
      refine zv_aload_n X dX1_copyFrom_40 1 rfl rfl rfl ?_
      refine zg_X1_5 (k := c1) X h1.1.1 h1.1.2 fl_X1_39 dX1_copyFrom_41 rfl ?_
      refine zp_X1_5 (k := k) X hY.1.1 hY.1.2 fl_X1_39 dX1_copyFrom_44 rfl ?_
      refine zv_aload_n X dX1_copyFrom_47 1 rfl rfl rfl ?_
      refine zg_X1_1 (k := c1) X h1.1.1 h1.1.2 fl_X1_17 dX1_copyFrom_48 rfl ?_
      refine zv_iconst (v := 0) X dX1_copyFrom_51 (by decide) rfl ?_
      refine zv_aload_n X dX1_copyFrom_52 0 rfl rfl rfl ?_
      refine zg_X1_1 (k := k) X hY.1.1 hY.1.2 fl_X1_17 dX1_copyFrom_53 rfl ?_
      refine zv_iconst (v := 0) X dX1_copyFrom_56 (by decide) rfl ?_
      refine zv_bipush (v := 12) X dX1_copyFrom_57 (by decide) rfl ?_
      refine zv_copy X h1.2.2.1.1 h1.2.2.1.2 hY.2.2.1.1 hY.2.2.1.2 ml_X1_51 (by decide) (by decide) (by decide) (by decide) (by decide) (Nat.le_of_ble_eq_true rfl) (Nat.le_of_ble_eq_true rfl) dX1_copyFrom_59 rfl ?_
      refine zv_aload_n X dX1_copyFrom_62 0 rfl rfl rfl ?_
      refine zg_X1_3 (k := k) X hY.1.1 hY.1.2 fl_X1_27 dX1_copyFrom_63 rfl ?_
      refine zv_aload_n X dX1_copyFrom_66 1 rfl rfl rfl ?_
      refine zg_X1_3 (k := c1) X h1.1.1 h1.1.2 fl_X1_27 dX1_copyFrom_67 rfl ?_
      refine zv_cVv (k := (k + 4)) (ci := 2) X [.ref (Y.2.1 (c1 + 4))] (kX2_copyFrom l hJ  hY.2.2.2.2.1 h1.2.2.2.2.1 h) jl_X1_61 ⟨rfl, rfl⟩ ⟨Nat.le_of_ble_eq_true rfl, Nat.le_of_ble_eq_true rfl⟩ hY.2.2.2.2.1.1.1 (by decide) hY.2.2.2.2.1.1.2 rfl rfl rfl (Nat.le_of_ble_eq_true rfl) dX1_copyFrom_70 rfl (fun s70 h => ?_)
      refine zv_aload_n X dX1_copyFrom_73 1 rfl rfl rfl ?_
      refine zg_X1_2 (k := c1) X h1.1.1 h1.1.2 fl_X1_21 dX1_copyFrom_74 rfl ?_
      refine zv_iconst (v := 0) X dX1_copyFrom_77 (by decide) rfl ?_
      refine zv_aload_n X dX1_copyFrom_78 0 rfl rfl rfl ?_
      refine zg_X1_2 (k := k) X hY.1.1 hY.1.2 fl_X1_21 dX1_copyFrom_79 rfl ?_
      refine zv_iconst (v := 0) X dX1_copyFrom_82 (by decide) rfl ?_
      refine zv_iconst (v := 3) X dX1_copyFrom_83 (by decide) rfl ?_
      refine zv_copy X h1.2.2.2.1.1 h1.2.2.2.1.2 hY.2.2.2.1.1 hY.2.2.2.1.2 ml_X1_51 (by decide) (by decide) (by decide) (by decide) (by decide) (Nat.le_of_ble_eq_true rfl) (Nat.le_of_ble_eq_true rfl) dX1_copyFrom_84 rfl ?_
      refine zv_aload_n X dX1_copyFrom_87 0 rfl rfl rfl ?_
      refine zv_aload_n X dX1_copyFrom_88 1 rfl rfl rfl ?_
      refine zg_X1_6 (k := c1) X h1.1.1 h1.1.2 fl_X1_45 dX1_copyFrom_89 rfl ?_
      refine zp_X1_6 (k := k) X hY.1.1 hY.1.2 fl_X1_45 dX1_copyFrom_92 rfl ?_
      exact zv_vret X hr hlk h dX1_copyFrom_95
    · replace h := h.2 q15
      refine zv_aload_n X dX1_copyFrom_18 0 rfl rfl rfl ?_
      refine zg_X1_0 (k := k) X hY.1.1 hY.1.2 fl_X1_11 dX1_copyFrom_19 rfl ?_
      refine zv_iload_n X dX1_copyFrom_22 2 rfl rfl rfl ?_
      obtain ⟨hi23, h⟩ := h
      refine zv_aald3 (k := (k + 1)) X hY.2.1.1 hY.2.1.2 hi23 dX1_copyFrom_23 rfl ?_
      refine zv_aload_n X dX1_copyFrom_24 1 rfl rfl rfl ?_
      refine zg_X1_0 (k := c1) X h1.1.1 h1.1.2 fl_X1_11 dX1_copyFrom_25 rfl ?_
      refine zv_iload_n X dX1_copyFrom_28 2 rfl rfl rfl ?_
      obtain ⟨hi29, h⟩ := h
      refine zv_aald3 (k := (c1 + 1)) X h1.2.1.1 h1.2.1.2 hi29 dX1_copyFrom_29 rfl ?_
      refine zv_cVv (k := (k + 8 + 3 * (Int32.toNatClampNeg x2))) (ci := 0) X [.ref (Y.2.1 (c1 + 8 + 3 * (Int32.toNatClampNeg x2)))] (kX0_copyFrom l hJ  (hY.2.2.2.2.2 _ (zz_lt hi23)) (h1.2.2.2.2.2 _ (zz_lt hi29)) h) jl_X1_57 ⟨rfl, rfl⟩ ⟨Nat.le_of_ble_eq_true rfl, Nat.le_of_ble_eq_true rfl⟩ (hY.2.2.2.2.2 _ (zz_lt hi23)).1.1 (by decide) (hY.2.2.2.2.2 _ (zz_lt hi23)).1.2 rfl rfl rfl (Nat.le_of_ble_eq_true rfl) dX1_copyFrom_30 rfl (fun s30 h => ?_)
      refine zv_iinc (v := (x2 + 1)) (lv2 := [(2, .int (x2 + 1)), (0, .ref (Y.2.1 k)), (1, .ref (Y.2.1 c1))]) X dX1_copyFrom_33 2 rfl rfl (by decide) rfl rfl ?_
      refine zv_goto (tgt := 10) X dX1_copyFrom_36 (by decide) ?_
      refine zv_sub (lv2 := [(0, .ref (Y.2.1 k)), (1, .ref (Y.2.1 c1)), (2, .int (x2 + 1))]) [1, 2, 0] rfl ?_
      exact ih (x2 + 1) _ h
def pX1_copyFrom (k : Nat) (c1 : Nat) (σ : zz_T) (Q : zz_T → Prop) : Prop :=
    ∃ n10, pX1_copyFrom_10 k c1 Q n10 0 (zz_i σ k 4 (σ.1 c1 4))
set_option maxHeartbeats 4000000 in
set_option maxRecDepth 100000 in
theorem kX1_copyFrom (l : Launch) {Y : zz_Y} (hJ : zz_J Y) {k : Nat} {c1 : Nat} (hY : zz_pr Y k) (h1 : zz_pr Y c1) {σ : zz_T} {Q : zz_T → Prop} (h : pX1_copyFrom k c1 σ Q) : zz_Mv l yX1_copyFrom cX1_copyFrom 3 none rmX1_copyFrom Y [.ref (Y.2.1 k), .ref (Y.2.1 c1)] σ Q := by
  refine zz_Mv.start (by decide) hJ (Nat.le_of_ble_eq_true rfl) (fun p e s m below meth c X hr hlk => ?_)
  have X : zz_X p m c cX1_copyFrom 3 s _ RX1 := X
  refine zv_sub (lv2 := [(0, .ref (Y.2.1 k)), (1, .ref (Y.2.1 c1))]) [0, 1] rfl ?_
  unfold pX1_copyFrom at h
  refine zv_aload_n X dX1_copyFrom_0 0 rfl rfl rfl ?_
  refine zv_aload_n X dX1_copyFrom_1 1 rfl rfl rfl ?_
  refine zg_X1_4 (k := c1) X h1.1.1 h1.1.2 fl_X1_35 dX1_copyFrom_2 rfl ?_
  refine zp_X1_4 (k := k) X hY.1.1 hY.1.2 fl_X1_35 dX1_copyFrom_5 rfl ?_
  refine zv_iconst (v := 0) X dX1_copyFrom_8 (by decide) rfl ?_
  refine zv_istore_n (lv2 := [(2, .int 0), (0, .ref (Y.2.1 k)), (1, .ref (Y.2.1 c1))]) X dX1_copyFrom_9 rfl (by decide) rfl rfl ?_
  obtain ⟨n10, h⟩ := h
  refine zv_sub (lv2 := [(0, .ref (Y.2.1 k)), (1, .ref (Y.2.1 c1)), (2, .int 0)]) [1, 2, 0] rfl ?_
  exact vX1_copyFrom_10 X hr hlk hJ hY h1 n10 0 _ h
def rmX1_lineIn : Room := { frames := 0, cells := 0, slots := 0, locals := 0 }
def pX1_lineIn (k : Nat) (x1 : Int32) (σ : zz_T) (Q : Int32 → zz_T → Prop) : Prop :=
    (((σ.1 k 5) = 0 → Q (-4) σ) ∧
    (¬ (σ.1 k 5) = 0 → ¬ (σ.1 k 5) = 0 ∧
    Q (((σ.1 k 6) + x1) - ((σ.1 k 6) + x1) / (σ.1 k 5) * (σ.1 k 5)) σ))
set_option maxHeartbeats 4000000 in
set_option maxRecDepth 100000 in
theorem kX1_lineIn (l : Launch) {Y : zz_Y} (hJ : zz_J Y) {k : Nat} (x1 : Int32) (hY : zz_pr Y k) {σ : zz_T} {Q : Int32 → zz_T → Prop} (h : pX1_lineIn k x1 σ Q) : zz_Mi l yX1_lineIn cX1_lineIn 2 (some .int) rmX1_lineIn Y [.ref (Y.2.1 k), .int x1] σ Q := by
  refine zz_Mi.start (by decide) hJ (Nat.le_of_ble_eq_true rfl) (fun p e s m below meth c X hr hlk => ?_)
  have X : zz_X p m c cX1_lineIn 2 s _ RX1 := X
  refine zv_sub (lv2 := [(0, .ref (Y.2.1 k)), (1, .int x1)]) [0, 1] rfl ?_
  unfold pX1_lineIn at h
  refine zv_aload_n X dX1_lineIn_0 0 rfl rfl rfl ?_
  refine zg_X1_5 (k := k) X hY.1.1 hY.1.2 fl_X1_39 dX1_lineIn_1 rfl ?_
  refine zv_if_ne (tgt := 12) X dX1_lineIn_4 (by decide) rfl (fun q4 => ?_) (fun q4 => ?_)
  · replace h := h.2 q4
    refine zv_aload_n X dX1_lineIn_12 0 rfl rfl rfl ?_
    refine zg_X1_6 (k := k) X hY.1.1 hY.1.2 fl_X1_45 dX1_lineIn_13 rfl ?_
    refine zv_iload_n X dX1_lineIn_16 1 rfl rfl rfl ?_
    refine zv_iadd X dX1_lineIn_17 rfl ?_
    refine zv_aload_n X dX1_lineIn_18 0 rfl rfl rfl ?_
    refine zg_X1_5 (k := k) X hY.1.1 hY.1.2 fl_X1_39 dX1_lineIn_19 rfl ?_
    obtain ⟨z22, h⟩ := h
    refine zv_irem X dX1_lineIn_22 z22 rfl ?_
    exact zv_iret X hr hlk h dX1_lineIn_23
  · replace h := h.1 q4
    refine zv_bipush (v := (-4)) X dX1_lineIn_7 (by decide) rfl ?_
    refine zv_goto (tgt := 23) X dX1_lineIn_9 (by decide) ?_
    exact zv_iret X hr hlk h dX1_lineIn_23
def rmX1_wantedIn : Room := { frames := 1, cells := 0, slots := 0, locals := 21 }
def pX1_wantedIn (k : Nat) (x1 : Int32) (σ : zz_T) (Q : Int32 → zz_T → Prop) : Prop :=
    (((σ.1 k 5) = 0 → Q 0 σ) ∧
    (¬ (σ.1 k 5) = 0 → pX1_lineIn k x1 σ (fun r17 s17 =>
    vp_in r17 12 ∧
    Q (s17.1 (k + 2) (Int32.toNatClampNeg r17)) s17)))
set_option maxHeartbeats 4000000 in
set_option maxRecDepth 100000 in
theorem kX1_wantedIn (l : Launch) {Y : zz_Y} (hJ : zz_J Y) {k : Nat} (x1 : Int32) (hY : zz_pr Y k) {σ : zz_T} {Q : Int32 → zz_T → Prop} (h : pX1_wantedIn k x1 σ Q) : zz_Mi l yX1_wantedIn cX1_wantedIn 2 (some .int) rmX1_wantedIn Y [.ref (Y.2.1 k), .int x1] σ Q := by
  refine zz_Mi.start (by decide) hJ (Nat.le_of_ble_eq_true rfl) (fun p e s m below meth c X hr hlk => ?_)
  have X : zz_X p m c cX1_wantedIn 2 s _ RX1 := X
  refine zv_sub (lv2 := [(0, .ref (Y.2.1 k)), (1, .int x1)]) [0, 1] rfl ?_
  unfold pX1_wantedIn at h
  refine zv_aload_n X dX1_wantedIn_0 0 rfl rfl rfl ?_
  refine zg_X1_5 (k := k) X hY.1.1 hY.1.2 fl_X1_39 dX1_wantedIn_1 rfl ?_
  refine zv_if_ne (tgt := 11) X dX1_wantedIn_4 (by decide) rfl (fun q4 => ?_) (fun q4 => ?_)
  · replace h := h.2 q4
    refine zv_aload_n X dX1_wantedIn_11 0 rfl rfl rfl ?_
    refine zg_X1_1 (k := k) X hY.1.1 hY.1.2 fl_X1_17 dX1_wantedIn_12 rfl ?_
    refine zv_aload_n X dX1_wantedIn_15 0 rfl rfl rfl ?_
    refine zv_iload_n X dX1_wantedIn_16 1 rfl rfl rfl ?_
    refine zv_cVi (k := k) (ci := 1) X [.int x1] (kX1_lineIn l hJ x1 hY h) jl_X1_64 ⟨rfl, rfl⟩ ⟨Nat.le_of_ble_eq_true rfl, Nat.le_of_ble_eq_true rfl⟩ hY.1.1 (by decide) hY.1.2 rfl rfl rfl (Nat.le_of_ble_eq_true rfl) dX1_wantedIn_17 rfl (fun r17 s17 h => ?_)
    obtain ⟨hi20, h⟩ := h
    refine zv_iald (k := (k + 2)) X hY.2.2.1.1 hY.2.2.1.2 hi20 dX1_wantedIn_20 rfl ?_
    exact zv_iret X hr hlk h dX1_wantedIn_21
  · replace h := h.1 q4
    refine zv_iconst (v := 0) X dX1_wantedIn_7 (by decide) rfl ?_
    refine zv_goto (tgt := 21) X dX1_wantedIn_8 (by decide) ?_
    exact zv_iret X hr hlk h dX1_wantedIn_21
def rmX1_burnLine : Room := { frames := 2, cells := 0, slots := 0, locals := 53 }
def pX1_burnLine_11 (k : Nat) (Q : Int32 → zz_T → Prop) : Nat → Int32 → Int32 → Int32 → Int32 → Int32 → zz_T → Prop
  | 0, _, _, _, _, _, _ => False
  | n + 1, x1, x2, x3, x4, x5, σ =>
    (((σ.1 k 4) ≤ x5 → Q x4 σ) ∧
    (¬ (σ.1 k 4) ≤ x5 → vp_in x5 3 ∧
    pX0_burnLine (k + 8 + 3 * (Int32.toNatClampNeg x5)) k x1 x2 x3 σ (fun r31 s31 =>
    pJ6_bitCount_0f7a4 r31 s31 (fun r43 s43 =>
    pJ6_bitCount_0f7a4 (r31 ^^^ x1) (zz_i s43 k 7 ((s31.1 k 7) + r43)) (fun r56 s56 =>
    pX1_burnLine_11 k Q n x1 x2 x3 (x4 + r56) (x5 + 1) s56)))))
set_option maxHeartbeats 4000000 in
set_option maxRecDepth 100000 in
theorem vX1_burnLine_11 {p : Program} {l : Launch} {e : Env} {s : State} {m : MethodId} {args : Array Value} {below : List Frame} {meth : Method} {c : Code} {Y : zz_Y} {k : Nat} {Q : Int32 → zz_T → Prop} (X : zz_X p m c cX1_burnLine 7 s args RX1) (hr : meth.sig.returnType = (some .int)) (hlk : meth.locks = false) (hJ : zz_J Y) (hY : zz_pr Y k)  : ∀ (n : Nat) (x1 : Int32) (x2 : Int32) (x3 : Int32) (x4 : Int32) (x5 : Int32) (σ : zz_T), pX1_burnLine_11 k Q n x1 x2 x3 x4 x5 σ → zz_V p l e rmX1_burnLine s m args below meth c (MQ below (va_Qi Q (zz_E Y) (zz_A Y)) args s 0 0 (zz_A Y)) 7 Y σ 11 [(0, .ref (Y.2.1 k)), (1, .int x1), (2, .int x2), (3, .int x3), (4, .int x4), (5, .int x5)] [] := by
  intro n
  induction n with
  | zero => intro x1 x2 x3 x4 x5 σ h; exact h.elim
  | succ n ih =>
    intro x1 x2 x3 x4 x5 σ h 
    unfold pX1_burnLine_11 at h
    refine zv_iload X dX1_burnLine_11 5 rfl rfl ?_
    refine zv_aload_n X dX1_burnLine_13 0 rfl rfl rfl ?_
    refine zg_X1_4 (k := k) X hY.1.1 hY.1.2 fl_X1_35 dX1_burnLine_14 rfl ?_
    refine zv_icmp_ge (tgt := 68) X dX1_burnLine_17 (by decide) rfl (fun q17 => ?_) (fun q17 => ?_)
    · replace h := h.1 q17
      refine zv_iload X dX1_burnLine_68 4 rfl rfl ?_
      exact zv_iret X hr hlk h dX1_burnLine_70
    · replace h := h.2 q17
      refine zv_aload_n X dX1_burnLine_20 0 rfl rfl rfl ?_
      refine zg_X1_0 (k := k) X hY.1.1 hY.1.2 fl_X1_11 dX1_burnLine_21 rfl ?_
      refine zv_iload X dX1_burnLine_24 5 rfl rfl ?_
      obtain ⟨hi26, h⟩ := h
      refine zv_aald3 (k := (k + 1)) X hY.2.1.1 hY.2.1.2 hi26 dX1_burnLine_26 rfl ?_
      refine zv_aload_n X dX1_burnLine_27 0 rfl rfl rfl ?_
      refine zv_iload_n X dX1_burnLine_28 1 rfl rfl rfl ?_
      refine zv_iload_n X dX1_burnLine_29 2 rfl rfl rfl ?_
      refine zv_iload_n X dX1_burnLine_30 3 rfl rfl rfl ?_
      refine zv_cVi (k := (k + 8 + 3 * (Int32.toNatClampNeg x5))) (ci := 0) X [.ref (Y.2.1 k), .int x1, .int x2, .int x3] (kX0_burnLine l hJ x1 x2 x3 (hY.2.2.2.2.2 _ (zz_lt hi26)) hY h) jl_X1_78 ⟨rfl, rfl⟩ ⟨Nat.le_of_ble_eq_true rfl, Nat.le_of_ble_eq_true rfl⟩ (hY.2.2.2.2.2 _ (zz_lt hi26)).1.1 (by decide) (hY.2.2.2.2.2 _ (zz_lt hi26)).1.2 rfl rfl rfl (Nat.le_of_ble_eq_true rfl) dX1_burnLine_31 rfl (fun r31 s31 h => ?_)
      refine zv_istore (lv2 := [(6, .int r31), (0, .ref (Y.2.1 k)), (1, .int x1), (2, .int x2), (3, .int x3), (4, .int x4), (5, .int x5)]) X dX1_burnLine_34 (by decide) rfl rfl ?_
      refine zv_aload_n X dX1_burnLine_36 1 rfl rfl rfl ?_
      refine zv_dup X dX1_burnLine_37 rfl rfl ?_
      refine zg_X1_7 (k := k) X hY.1.1 hY.1.2 fl_X1_75 dX1_burnLine_38 rfl ?_
      refine zv_iload X dX1_burnLine_41 0 rfl rfl ?_
      refine zv_cSi X [.int r31] (kJ6_bitCount_0f7a4 l hJ r31  h) jl_X1_81 ⟨rfl, rfl⟩ ⟨Nat.le_of_ble_eq_true rfl, Nat.le_of_ble_eq_true rfl⟩ rfl rfl (Nat.le_of_ble_eq_true rfl) dX1_burnLine_43 rfl (fun r43 s43 h => ?_)
      refine zv_iadd X dX1_burnLine_46 rfl ?_
      refine zp_X1_7 (k := k) X hY.1.1 hY.1.2 fl_X1_75 dX1_burnLine_47 rfl ?_
      refine zv_iload X dX1_burnLine_50 5 rfl rfl ?_
      refine zv_iload X dX1_burnLine_52 0 rfl rfl ?_
      refine zv_iload_n X dX1_burnLine_54 2 rfl rfl rfl ?_
      refine zv_ixor X dX1_burnLine_55 rfl ?_
      refine zv_cSi X [.int (r31 ^^^ x1)] (kJ6_bitCount_0f7a4 l hJ (r31 ^^^ x1)  h) jl_X1_81 ⟨rfl, rfl⟩ ⟨Nat.le_of_ble_eq_true rfl, Nat.le_of_ble_eq_true rfl⟩ rfl rfl (Nat.le_of_ble_eq_true rfl) dX1_burnLine_56 rfl (fun r56 s56 h => ?_)
      refine zv_iadd X dX1_burnLine_59 rfl ?_
      refine zv_istore (lv2 := [(4, .int (x4 + r56)), (6, .int r31), (0, .ref (Y.2.1 k)), (1, .int x1), (2, .int x2), (3, .int x3), (5, .int x5)]) X dX1_burnLine_60 (by decide) rfl rfl ?_
      refine zv_iinc (v := (x5 + 1)) (lv2 := [(5, .int (x5 + 1)), (4, .int (x4 + r56)), (6, .int r31), (0, .ref (Y.2.1 k)), (1, .int x1), (2, .int x2), (3, .int x3)]) X dX1_burnLine_62 6 rfl rfl (by decide) rfl rfl ?_
      refine zv_goto (tgt := 11) X dX1_burnLine_65 (by decide) ?_
      refine zv_sub (lv2 := [(0, .ref (Y.2.1 k)), (1, .int x1), (2, .int x2), (3, .int x3), (4, .int (x4 + r56)), (5, .int (x5 + 1))]) [3, 4, 5, 6, 1, 0] rfl ?_
      exact ih x1 x2 x3 (x4 + r56) (x5 + 1) _ h
def pX1_burnLine (k : Nat) (x1 : Int32) (x2 : Int32) (x3 : Int32) (σ : zz_T) (Q : Int32 → zz_T → Prop) : Prop :=
    ∃ n11, pX1_burnLine_11 k Q n11 x1 x2 x3 0 0 (zz_i σ k 7 0)
set_option maxHeartbeats 4000000 in
set_option maxRecDepth 100000 in
theorem kX1_burnLine (l : Launch) {Y : zz_Y} (hJ : zz_J Y) {k : Nat} (x1 : Int32) (x2 : Int32) (x3 : Int32) (hY : zz_pr Y k) {σ : zz_T} {Q : Int32 → zz_T → Prop} (h : pX1_burnLine k x1 x2 x3 σ Q) : zz_Mi l yX1_burnLine cX1_burnLine 7 (some .int) rmX1_burnLine Y [.ref (Y.2.1 k), .int x1, .int x2, .int x3] σ Q := by
  refine zz_Mi.start (by decide) hJ (Nat.le_of_ble_eq_true rfl) (fun p e s m below meth c X hr hlk => ?_)
  have X : zz_X p m c cX1_burnLine 7 s _ RX1 := X
  refine zv_sub (lv2 := [(0, .ref (Y.2.1 k)), (1, .int x1), (2, .int x2), (3, .int x3)]) [0, 1, 2, 3] rfl ?_
  unfold pX1_burnLine at h
  refine zv_iconst (v := 0) X dX1_burnLine_0 (by decide) rfl ?_
  refine zv_istore (lv2 := [(4, .int 0), (0, .ref (Y.2.1 k)), (1, .int x1), (2, .int x2), (3, .int x3)]) X dX1_burnLine_1 (by decide) rfl rfl ?_
  refine zv_aload_n X dX1_burnLine_3 1 rfl rfl rfl ?_
  refine zv_iconst (v := 0) X dX1_burnLine_4 (by decide) rfl ?_
  refine zp_X1_7 (k := k) X hY.1.1 hY.1.2 fl_X1_75 dX1_burnLine_5 rfl ?_
  refine zv_iconst (v := 0) X dX1_burnLine_8 (by decide) rfl ?_
  refine zv_istore (lv2 := [(5, .int 0), (4, .int 0), (0, .ref (Y.2.1 k)), (1, .int x1), (2, .int x2), (3, .int x3)]) X dX1_burnLine_9 (by decide) rfl rfl ?_
  obtain ⟨n11, h⟩ := h
  refine zv_sub (lv2 := [(0, .ref (Y.2.1 k)), (1, .int x1), (2, .int x2), (3, .int x3), (4, .int 0), (5, .int 0)]) [2, 3, 4, 5, 1, 0] rfl ?_
  exact vX1_burnLine_11 X hr hlk hJ hY n11 x1 x2 x3 0 0 _ h
def rmX1_burnRow : Room := { frames := 3, cells := 0, slots := 0, locals := 79 }
def pX1_burnRow (k : Nat) (x1 : Int32) (σ : zz_T) (Q : Int32 → zz_T → Prop) : Prop :=
    pX1_wantedIn k 0 σ (fun r3 s3 =>
    pX1_wantedIn k 1 s3 (fun r8 s8 =>
    pX1_burnLine k r3 r8 x1 s8 (fun r12 s12 =>
    Q r12 (zz_i s12 k 6 ((s12.1 k 6) + 1)))))
set_option maxHeartbeats 4000000 in
set_option maxRecDepth 100000 in
theorem kX1_burnRow (l : Launch) {Y : zz_Y} (hJ : zz_J Y) {k : Nat} (x1 : Int32) (hY : zz_pr Y k) {σ : zz_T} {Q : Int32 → zz_T → Prop} (h : pX1_burnRow k x1 σ Q) : zz_Mi l yX1_burnRow cX1_burnRow 3 (some .int) rmX1_burnRow Y [.ref (Y.2.1 k), .int x1] σ Q := by
  refine zz_Mi.start (by decide) hJ (Nat.le_of_ble_eq_true rfl) (fun p e s m below meth c X hr hlk => ?_)
  have X : zz_X p m c cX1_burnRow 3 s _ RX1 := X
  refine zv_sub (lv2 := [(0, .ref (Y.2.1 k)), (1, .int x1)]) [0, 1] rfl ?_
  unfold pX1_burnRow at h
  refine zv_aload_n X dX1_burnRow_0 0 rfl rfl rfl ?_
  refine zv_aload_n X dX1_burnRow_1 0 rfl rfl rfl ?_
  refine zv_iconst (v := 0) X dX1_burnRow_2 (by decide) rfl ?_
  refine zv_cVi (k := k) (ci := 1) X [.int 0] (kX1_wantedIn l hJ 0 hY h) jl_X1_68 ⟨rfl, rfl⟩ ⟨Nat.le_of_ble_eq_true rfl, Nat.le_of_ble_eq_true rfl⟩ hY.1.1 (by decide) hY.1.2 rfl rfl rfl (Nat.le_of_ble_eq_true rfl) dX1_burnRow_3 rfl (fun r3 s3 h => ?_)
  refine zv_aload_n X dX1_burnRow_6 0 rfl rfl rfl ?_
  refine zv_iconst (v := 1) X dX1_burnRow_7 (by decide) rfl ?_
  refine zv_cVi (k := k) (ci := 1) X [.int 1] (kX1_wantedIn l hJ 1 hY h) jl_X1_68 ⟨rfl, rfl⟩ ⟨Nat.le_of_ble_eq_true rfl, Nat.le_of_ble_eq_true rfl⟩ hY.1.1 (by decide) hY.1.2 rfl rfl rfl (Nat.le_of_ble_eq_true rfl) dX1_burnRow_8 rfl (fun r8 s8 h => ?_)
  refine zv_iload_n X dX1_burnRow_11 1 rfl rfl rfl ?_
  refine zv_cVi (k := k) (ci := 1) X [.int r3, .int r8, .int x1] (kX1_burnLine l hJ r3 r8 x1 hY h) jl_X1_71 ⟨rfl, rfl⟩ ⟨Nat.le_of_ble_eq_true rfl, Nat.le_of_ble_eq_true rfl⟩ hY.1.1 (by decide) hY.1.2 rfl rfl rfl (Nat.le_of_ble_eq_true rfl) dX1_burnRow_12 rfl (fun r12 s12 h => ?_)
  refine zv_istore_n (lv2 := [(2, .int r12), (0, .ref (Y.2.1 k)), (1, .int x1)]) X dX1_burnRow_15 rfl (by decide) rfl rfl ?_
  refine zv_aload_n X dX1_burnRow_16 1 rfl rfl rfl ?_
  refine zv_dup X dX1_burnRow_17 rfl rfl ?_
  refine zg_X1_6 (k := k) X hY.1.1 hY.1.2 fl_X1_45 dX1_burnRow_18 rfl ?_
  refine zv_iconst (v := 1) X dX1_burnRow_21 (by decide) rfl ?_
  refine zv_iadd X dX1_burnRow_22 rfl ?_
  refine zp_X1_6 (k := k) X hY.1.1 hY.1.2 fl_X1_45 dX1_burnRow_23 rfl ?_
  refine zv_iload_n X dX1_burnRow_26 0 rfl rfl rfl ?_
  exact zv_iret X hr hlk h dX1_burnRow_27
def rmX1_hottest : Room := { frames := 1, cells := 0, slots := 0, locals := 21 }
def pX1_hottest_14 (k : Nat) (Q : Int32 → zz_T → Prop) (K4 : Int32 → Int32 → zz_T → Prop) : Nat → Int32 → Int32 → Int32 → zz_T → Prop
  | 0, _, _, _, _ => False
  | n + 1, x1, x2, x3, σ =>
    ((8 ≤ x3 → K4 x1 (x2 + 1) σ) ∧
    (¬ 8 ≤ x3 → vp_in x2 3 ∧
    vp_in x3 8 ∧
    pX1_hottest_14 k Q K4 n (if x1 < (σ.1 ((k + 8 + 3 * (Int32.toNatClampNeg x2)) + 2) (Int32.toNatClampNeg x3)) then (σ.1 ((k + 8 + 3 * (Int32.toNatClampNeg x2)) + 2) (Int32.toNatClampNeg x3)) else x1) x2 (x3 + 1) σ))
set_option maxHeartbeats 4000000 in
set_option maxRecDepth 100000 in
theorem vX1_hottest_14 {p : Program} {l : Launch} {e : Env} {s : State} {m : MethodId} {args : Array Value} {below : List Frame} {meth : Method} {c : Code} {Y : zz_Y} {k : Nat} {Q : Int32 → zz_T → Prop} {K4 : Int32 → Int32 → zz_T → Prop} (X : zz_X p m c cX1_hottest 4 s args RX1) (hr : meth.sig.returnType = (some .int)) (hlk : meth.locks = false) (hJ : zz_J Y) (hY : zz_pr Y k) (hK4 : ∀ (x1 : Int32) (x2 : Int32) (σ : zz_T), K4 x1 x2 σ → zz_V p l e rmX1_hottest s m args below meth c (MQ below (va_Qi Q (zz_E Y) (zz_A Y)) args s 0 0 (zz_A Y)) 4 Y σ 4 [(0, .ref (Y.2.1 k)), (1, .int x1), (2, .int x2)] []) : ∀ (n : Nat) (x1 : Int32) (x2 : Int32) (x3 : Int32) (σ : zz_T), pX1_hottest_14 k Q K4 n x1 x2 x3 σ → zz_V p l e rmX1_hottest s m args below meth c (MQ below (va_Qi Q (zz_E Y) (zz_A Y)) args s 0 0 (zz_A Y)) 4 Y σ 14 [(0, .ref (Y.2.1 k)), (1, .int x1), (2, .int x2), (3, .int x3)] [] := by
  intro n
  induction n with
  | zero => intro x1 x2 x3 σ h; exact h.elim
  | succ n ih =>
    intro x1 x2 x3 σ h 
    unfold pX1_hottest_14 at h
    refine zv_iload_n X dX1_hottest_14 3 rfl rfl rfl ?_
    refine zv_bipush (v := 8) X dX1_hottest_15 (by decide) rfl ?_
    refine zv_icmp_ge (tgt := 42) X dX1_hottest_17 (by decide) rfl (fun q17 => ?_) (fun q17 => ?_)
    · replace h := h.1 q17
      refine zv_iinc (v := (x2 + 1)) (lv2 := [(2, .int (x2 + 1)), (0, .ref (Y.2.1 k)), (1, .int x1), (3, .int x3)]) X dX1_hottest_42 2 rfl rfl (by decide) rfl rfl ?_
      refine zv_goto (tgt := 4) X dX1_hottest_45 (by decide) ?_
      refine zv_sub (lv2 := [(0, .ref (Y.2.1 k)), (1, .int x1), (2, .int (x2 + 1))]) [1, 2, 0] rfl ?_
      exact hK4 x1 (x2 + 1) _ h
    · replace h := h.2 q17
      refine zv_iload_n X dX1_hottest_20 1 rfl rfl rfl ?_
      refine zv_aload_n X dX1_hottest_21 0 rfl rfl rfl ?_
      refine zg_X1_0 (k := k) X hY.1.1 hY.1.2 fl_X1_11 dX1_hottest_22 rfl ?_
      refine zv_iload_n X dX1_hottest_25 2 rfl rfl rfl ?_
      obtain ⟨hi26, h⟩ := h
      refine zv_aald3 (k := (k + 1)) X hY.2.1.1 hY.2.1.2 hi26 dX1_hottest_26 rfl ?_
      refine zg_X0_1 (k := (k + 8 + 3 * (Int32.toNatClampNeg x2))) X (hY.2.2.2.2.2 _ (zz_lt hi26)).1.1 (hY.2.2.2.2.2 _ (zz_lt hi26)).1.2 fl_X1_86 dX1_hottest_27 rfl ?_
      refine zv_iload_n X dX1_hottest_30 3 rfl rfl rfl ?_
      obtain ⟨hi31, h⟩ := h
      refine zv_iald (k := ((k + 8 + 3 * (Int32.toNatClampNeg x2)) + 2)) X (hY.2.2.2.2.2 _ (zz_lt hi26)).2.2.1 (hY.2.2.2.2.2 _ (zz_lt hi26)).2.2.2 hi31 dX1_hottest_31 rfl ?_
      refine zv_max X ml_X1_89 (Nat.le_of_ble_eq_true rfl) (Nat.le_of_ble_eq_true rfl) dX1_hottest_32 rfl ?_
      refine zv_istore_n (lv2 := [(1, .int (if x1 < (σ.1 ((k + 8 + 3 * (Int32.toNatClampNeg x2)) + 2) (Int32.toNatClampNeg x3)) then (σ.1 ((k + 8 + 3 * (Int32.toNatClampNeg x2)) + 2) (Int32.toNatClampNeg x3)) else x1)), (0, .ref (Y.2.1 k)), (2, .int x2), (3, .int x3)]) X dX1_hottest_35 rfl (by decide) rfl rfl ?_
      refine zv_iinc (v := (x3 + 1)) (lv2 := [(3, .int (x3 + 1)), (1, .int (if x1 < (σ.1 ((k + 8 + 3 * (Int32.toNatClampNeg x2)) + 2) (Int32.toNatClampNeg x3)) then (σ.1 ((k + 8 + 3 * (Int32.toNatClampNeg x2)) + 2) (Int32.toNatClampNeg x3)) else x1)), (0, .ref (Y.2.1 k)), (2, .int x2)]) X dX1_hottest_36 3 rfl rfl (by decide) rfl rfl ?_
      refine zv_goto (tgt := 14) X dX1_hottest_39 (by decide) ?_
      refine zv_sub (lv2 := [(0, .ref (Y.2.1 k)), (1, .int (if x1 < (σ.1 ((k + 8 + 3 * (Int32.toNatClampNeg x2)) + 2) (Int32.toNatClampNeg x3)) then (σ.1 ((k + 8 + 3 * (Int32.toNatClampNeg x2)) + 2) (Int32.toNatClampNeg x3)) else x1)), (2, .int x2), (3, .int (x3 + 1))]) [2, 1, 3, 0] rfl ?_
      exact ih (if x1 < (σ.1 ((k + 8 + 3 * (Int32.toNatClampNeg x2)) + 2) (Int32.toNatClampNeg x3)) then (σ.1 ((k + 8 + 3 * (Int32.toNatClampNeg x2)) + 2) (Int32.toNatClampNeg x3)) else x1) x2 (x3 + 1) _ h
def pX1_hottest_4 (k : Nat) (Q : Int32 → zz_T → Prop) : Nat → Int32 → Int32 → zz_T → Prop
  | 0, _, _, _ => False
  | n + 1, x1, x2, σ =>
    (((σ.1 k 4) ≤ x2 → Q x1 σ) ∧
    (¬ (σ.1 k 4) ≤ x2 → ∃ n14, pX1_hottest_14 k Q (pX1_hottest_4 k Q n) n14 x1 x2 0 σ))
set_option maxHeartbeats 4000000 in
set_option maxRecDepth 100000 in
theorem vX1_hottest_4 {p : Program} {l : Launch} {e : Env} {s : State} {m : MethodId} {args : Array Value} {below : List Frame} {meth : Method} {c : Code} {Y : zz_Y} {k : Nat} {Q : Int32 → zz_T → Prop} (X : zz_X p m c cX1_hottest 4 s args RX1) (hr : meth.sig.returnType = (some .int)) (hlk : meth.locks = false) (hJ : zz_J Y) (hY : zz_pr Y k)  : ∀ (n : Nat) (x1 : Int32) (x2 : Int32) (σ : zz_T), pX1_hottest_4 k Q n x1 x2 σ → zz_V p l e rmX1_hottest s m args below meth c (MQ below (va_Qi Q (zz_E Y) (zz_A Y)) args s 0 0 (zz_A Y)) 4 Y σ 4 [(0, .ref (Y.2.1 k)), (1, .int x1), (2, .int x2)] [] := by
  intro n
  induction n with
  | zero => intro x1 x2 σ h; exact h.elim
  | succ n ih =>
    intro x1 x2 σ h 
    unfold pX1_hottest_4 at h
    refine zv_iload_n X dX1_hottest_4 2 rfl rfl rfl ?_
    refine zv_aload_n X dX1_hottest_5 0 rfl rfl rfl ?_
    refine zg_X1_4 (k := k) X hY.1.1 hY.1.2 fl_X1_35 dX1_hottest_6 rfl ?_
    refine zv_icmp_ge (tgt := 48) X dX1_hottest_9 (by decide) rfl (fun q9 => ?_) (fun q9 => ?_)
    · replace h := h.1 q9
      refine zv_iload_n X dX1_hottest_48 1 rfl rfl rfl ?_
      exact zv_iret X hr hlk h dX1_hottest_49
    · replace h := h.2 q9
      refine zv_iconst (v := 0) X dX1_hottest_12 (by decide) rfl ?_
      refine zv_istore_n (lv2 := [(3, .int 0), (0, .ref (Y.2.1 k)), (1, .int x1), (2, .int x2)]) X dX1_hottest_13 rfl (by decide) rfl rfl ?_
      obtain ⟨n14, h⟩ := h
      refine zv_sub (lv2 := [(0, .ref (Y.2.1 k)), (1, .int x1), (2, .int x2), (3, .int 0)]) [1, 2, 3, 0] rfl ?_
      exact vX1_hottest_14 X hr hlk hJ hY ih n14 x1 x2 0 _ h
def pX1_hottest (k : Nat) (σ : zz_T) (Q : Int32 → zz_T → Prop) : Prop :=
    ∃ n4, pX1_hottest_4 k Q n4 0 0 σ
set_option maxHeartbeats 4000000 in
set_option maxRecDepth 100000 in
theorem kX1_hottest (l : Launch) {Y : zz_Y} (hJ : zz_J Y) {k : Nat} (hY : zz_pr Y k) {σ : zz_T} {Q : Int32 → zz_T → Prop} (h : pX1_hottest k σ Q) : zz_Mi l yX1_hottest cX1_hottest 4 (some .int) rmX1_hottest Y [.ref (Y.2.1 k)] σ Q := by
  refine zz_Mi.start (by decide) hJ (Nat.le_of_ble_eq_true rfl) (fun p e s m below meth c X hr hlk => ?_)
  have X : zz_X p m c cX1_hottest 4 s _ RX1 := X
  refine zv_sub (lv2 := [(0, .ref (Y.2.1 k))]) [0] rfl ?_
  unfold pX1_hottest at h
  refine zv_iconst (v := 0) X dX1_hottest_0 (by decide) rfl ?_
  refine zv_istore_n (lv2 := [(1, .int 0), (0, .ref (Y.2.1 k))]) X dX1_hottest_1 rfl (by decide) rfl rfl ?_
  refine zv_iconst (v := 0) X dX1_hottest_2 (by decide) rfl ?_
  refine zv_istore_n (lv2 := [(2, .int 0), (1, .int 0), (0, .ref (Y.2.1 k))]) X dX1_hottest_3 rfl (by decide) rfl rfl ?_
  obtain ⟨n4, h⟩ := h
  refine zv_sub (lv2 := [(0, .ref (Y.2.1 k)), (1, .int 0), (2, .int 0)]) [2, 1, 0] rfl ?_
  exact vX1_hottest_4 X hr hlk hJ hY n4 0 0 _ h
def rmX1_loseHeat : Room := { frames := 1, cells := 0, slots := 0, locals := 23 }
def pX1_loseHeat_2 (k : Nat) (Q : zz_T → Prop) : Nat → Int32 → zz_T → Prop
  | 0, _, _ => False
  | n + 1, x1, σ =>
    (((σ.1 k 4) ≤ x1 → Q σ) ∧
    (¬ (σ.1 k 4) ≤ x1 → vp_in x1 3 ∧
    pJ7_fill_53178 ((k + 8 + 3 * (Int32.toNatClampNeg x1)) + 1) 8 0 σ (fun s20 =>
    pX1_loseHeat_2 k Q n (x1 + 1) s20)))
set_option maxHeartbeats 4000000 in
set_option maxRecDepth 100000 in
theorem vX1_loseHeat_2 {p : Program} {l : Launch} {e : Env} {s : State} {m : MethodId} {args : Array Value} {below : List Frame} {meth : Method} {c : Code} {Y : zz_Y} {k : Nat} {Q : zz_T → Prop} (X : zz_X p m c cX1_loseHeat 2 s args RX1) (hr : meth.sig.returnType = none) (hlk : meth.locks = false) (hJ : zz_J Y) (hY : zz_pr Y k)  : ∀ (n : Nat) (x1 : Int32) (σ : zz_T), pX1_loseHeat_2 k Q n x1 σ → zz_V p l e rmX1_loseHeat s m args below meth c (MQ below (va_Qv Q (zz_E Y) (zz_A Y)) args s 0 0 (zz_A Y)) 2 Y σ 2 [(0, .ref (Y.2.1 k)), (1, .int x1)] [] := by
  intro n
  induction n with
  | zero => intro x1 σ h; exact h.elim
  | succ n ih =>
    intro x1 σ h 
    unfold pX1_loseHeat_2 at h
    refine zv_iload_n X dX1_loseHeat_2 1 rfl rfl rfl ?_
    refine zv_aload_n X dX1_loseHeat_3 0 rfl rfl rfl ?_
    refine zg_X1_4 (k := k) X hY.1.1 hY.1.2 fl_X1_35 dX1_loseHeat_4 rfl ?_
    refine zv_icmp_ge (tgt := 29) X dX1_loseHeat_7 (by decide) rfl (fun q7 => ?_) (fun q7 => ?_)
    · replace h := h.1 q7
      exact zv_vret X hr hlk h dX1_loseHeat_29
    · replace h := h.2 q7
      refine zv_aload_n X dX1_loseHeat_10 0 rfl rfl rfl ?_
      refine zg_X1_0 (k := k) X hY.1.1 hY.1.2 fl_X1_11 dX1_loseHeat_11 rfl ?_
      refine zv_iload_n X dX1_loseHeat_14 1 rfl rfl rfl ?_
      obtain ⟨hi15, h⟩ := h
      refine zv_aald3 (k := (k + 1)) X hY.2.1.1 hY.2.1.2 hi15 dX1_loseHeat_15 rfl ?_
      refine zg_X0_0 (k := (k + 8 + 3 * (Int32.toNatClampNeg x1))) X (hY.2.2.2.2.2 _ (zz_lt hi15)).1.1 (hY.2.2.2.2.2 _ (zz_lt hi15)).1.2 fl_X1_95 dX1_loseHeat_16 rfl ?_
      refine zv_iconst (v := 0) X dX1_loseHeat_19 (by decide) rfl ?_
      refine zv_cSv X [.ref (Y.2.1 ((k + 8 + 3 * (Int32.toNatClampNeg x1)) + 1)), .int 0] (kJ7_fill_53178 l hJ 0 (hY.2.2.2.2.2 _ (zz_lt hi15)).2.1 h) jl_X1_98 ⟨rfl, rfl⟩ ⟨Nat.le_of_ble_eq_true rfl, Nat.le_of_ble_eq_true rfl⟩ rfl rfl (Nat.le_of_ble_eq_true rfl) dX1_loseHeat_20 rfl (fun s20 h => ?_)
      refine zv_iinc (v := (x1 + 1)) (lv2 := [(1, .int (x1 + 1)), (0, .ref (Y.2.1 k))]) X dX1_loseHeat_23 1 rfl rfl (by decide) rfl rfl ?_
      refine zv_goto (tgt := 2) X dX1_loseHeat_26 (by decide) ?_
      refine zv_sub (lv2 := [(0, .ref (Y.2.1 k)), (1, .int (x1 + 1))]) [1, 0] rfl ?_
      exact ih (x1 + 1) _ h
def pX1_loseHeat (k : Nat) (σ : zz_T) (Q : zz_T → Prop) : Prop :=
    ∃ n2, pX1_loseHeat_2 k Q n2 0 σ
set_option maxHeartbeats 4000000 in
set_option maxRecDepth 100000 in
theorem kX1_loseHeat (l : Launch) {Y : zz_Y} (hJ : zz_J Y) {k : Nat} (hY : zz_pr Y k) {σ : zz_T} {Q : zz_T → Prop} (h : pX1_loseHeat k σ Q) : zz_Mv l yX1_loseHeat cX1_loseHeat 2 none rmX1_loseHeat Y [.ref (Y.2.1 k)] σ Q := by
  refine zz_Mv.start (by decide) hJ (Nat.le_of_ble_eq_true rfl) (fun p e s m below meth c X hr hlk => ?_)
  have X : zz_X p m c cX1_loseHeat 2 s _ RX1 := X
  refine zv_sub (lv2 := [(0, .ref (Y.2.1 k))]) [0] rfl ?_
  unfold pX1_loseHeat at h
  refine zv_iconst (v := 0) X dX1_loseHeat_0 (by decide) rfl ?_
  refine zv_istore_n (lv2 := [(1, .int 0), (0, .ref (Y.2.1 k))]) X dX1_loseHeat_1 rfl (by decide) rfl rfl ?_
  obtain ⟨n2, h⟩ := h
  refine zv_sub (lv2 := [(0, .ref (Y.2.1 k)), (1, .int 0)]) [1, 0] rfl ?_
  exact vX1_loseHeat_2 X hr hlk hJ hY n2 0 _ h
def rmX1_wrongOfAll : Room := { frames := 0, cells := 0, slots := 0, locals := 0 }
def pX1_wrongOfAll_4 (k : Nat) (Q : Int32 → zz_T → Prop) : Nat → Int32 → Int32 → zz_T → Prop
  | 0, _, _, _ => False
  | n + 1, x1, x2, σ =>
    (((σ.1 k 4) ≤ x2 → Q x1 σ) ∧
    (¬ (σ.1 k 4) ≤ x2 → vp_in x2 3 ∧
    pX1_wrongOfAll_4 k Q n (x1 + (σ.1 (k + 8 + 3 * (Int32.toNatClampNeg x2)) 4)) (x2 + 1) σ))
set_option maxHeartbeats 4000000 in
set_option maxRecDepth 100000 in
theorem vX1_wrongOfAll_4 {p : Program} {l : Launch} {e : Env} {s : State} {m : MethodId} {args : Array Value} {below : List Frame} {meth : Method} {c : Code} {Y : zz_Y} {k : Nat} {Q : Int32 → zz_T → Prop} (X : zz_X p m c cX1_wrongOfAll 3 s args RX1) (hr : meth.sig.returnType = (some .int)) (hlk : meth.locks = false) (hJ : zz_J Y) (hY : zz_pr Y k)  : ∀ (n : Nat) (x1 : Int32) (x2 : Int32) (σ : zz_T), pX1_wrongOfAll_4 k Q n x1 x2 σ → zz_V p l e rmX1_wrongOfAll s m args below meth c (MQ below (va_Qi Q (zz_E Y) (zz_A Y)) args s 0 0 (zz_A Y)) 3 Y σ 4 [(0, .ref (Y.2.1 k)), (1, .int x1), (2, .int x2)] [] := by
  intro n
  induction n with
  | zero => intro x1 x2 σ h; exact h.elim
  | succ n ih =>
    intro x1 x2 σ h 
    unfold pX1_wrongOfAll_4 at h
    refine zv_iload_n X dX1_wrongOfAll_4 2 rfl rfl rfl ?_
    refine zv_aload_n X dX1_wrongOfAll_5 0 rfl rfl rfl ?_
    refine zg_X1_4 (k := k) X hY.1.1 hY.1.2 fl_X1_35 dX1_wrongOfAll_6 rfl ?_
    refine zv_icmp_ge (tgt := 30) X dX1_wrongOfAll_9 (by decide) rfl (fun q9 => ?_) (fun q9 => ?_)
    · replace h := h.1 q9
      refine zv_iload_n X dX1_wrongOfAll_30 1 rfl rfl rfl ?_
      exact zv_iret X hr hlk h dX1_wrongOfAll_31
    · replace h := h.2 q9
      refine zv_iload_n X dX1_wrongOfAll_12 1 rfl rfl rfl ?_
      refine zv_aload_n X dX1_wrongOfAll_13 0 rfl rfl rfl ?_
      refine zg_X1_0 (k := k) X hY.1.1 hY.1.2 fl_X1_11 dX1_wrongOfAll_14 rfl ?_
      refine zv_iload_n X dX1_wrongOfAll_17 2 rfl rfl rfl ?_
      obtain ⟨hi18, h⟩ := h
      refine zv_aald3 (k := (k + 1)) X hY.2.1.1 hY.2.1.2 hi18 dX1_wrongOfAll_18 rfl ?_
      refine zg_X0_4 (k := (k + 8 + 3 * (Int32.toNatClampNeg x2))) X (hY.2.2.2.2.2 _ (zz_lt hi18)).1.1 (hY.2.2.2.2.2 _ (zz_lt hi18)).1.2 fl_X1_104 dX1_wrongOfAll_19 rfl ?_
      refine zv_iadd X dX1_wrongOfAll_22 rfl ?_
      refine zv_istore_n (lv2 := [(1, .int (x1 + (σ.1 (k + 8 + 3 * (Int32.toNatClampNeg x2)) 4))), (0, .ref (Y.2.1 k)), (2, .int x2)]) X dX1_wrongOfAll_23 rfl (by decide) rfl rfl ?_
      refine zv_iinc (v := (x2 + 1)) (lv2 := [(2, .int (x2 + 1)), (1, .int (x1 + (σ.1 (k + 8 + 3 * (Int32.toNatClampNeg x2)) 4))), (0, .ref (Y.2.1 k))]) X dX1_wrongOfAll_24 2 rfl rfl (by decide) rfl rfl ?_
      refine zv_goto (tgt := 4) X dX1_wrongOfAll_27 (by decide) ?_
      refine zv_sub (lv2 := [(0, .ref (Y.2.1 k)), (1, .int (x1 + (σ.1 (k + 8 + 3 * (Int32.toNatClampNeg x2)) 4))), (2, .int (x2 + 1))]) [2, 1, 0] rfl ?_
      exact ih (x1 + (σ.1 (k + 8 + 3 * (Int32.toNatClampNeg x2)) 4)) (x2 + 1) _ h
def pX1_wrongOfAll (k : Nat) (σ : zz_T) (Q : Int32 → zz_T → Prop) : Prop :=
    ∃ n4, pX1_wrongOfAll_4 k Q n4 0 0 σ
set_option maxHeartbeats 4000000 in
set_option maxRecDepth 100000 in
theorem kX1_wrongOfAll (l : Launch) {Y : zz_Y} (hJ : zz_J Y) {k : Nat} (hY : zz_pr Y k) {σ : zz_T} {Q : Int32 → zz_T → Prop} (h : pX1_wrongOfAll k σ Q) : zz_Mi l yX1_wrongOfAll cX1_wrongOfAll 3 (some .int) rmX1_wrongOfAll Y [.ref (Y.2.1 k)] σ Q := by
  refine zz_Mi.start (by decide) hJ (Nat.le_of_ble_eq_true rfl) (fun p e s m below meth c X hr hlk => ?_)
  have X : zz_X p m c cX1_wrongOfAll 3 s _ RX1 := X
  refine zv_sub (lv2 := [(0, .ref (Y.2.1 k))]) [0] rfl ?_
  unfold pX1_wrongOfAll at h
  refine zv_iconst (v := 0) X dX1_wrongOfAll_0 (by decide) rfl ?_
  refine zv_istore_n (lv2 := [(1, .int 0), (0, .ref (Y.2.1 k))]) X dX1_wrongOfAll_1 rfl (by decide) rfl rfl ?_
  refine zv_iconst (v := 0) X dX1_wrongOfAll_2 (by decide) rfl ?_
  refine zv_istore_n (lv2 := [(2, .int 0), (1, .int 0), (0, .ref (Y.2.1 k))]) X dX1_wrongOfAll_3 rfl (by decide) rfl rfl ?_
  obtain ⟨n4, h⟩ := h
  refine zv_sub (lv2 := [(0, .ref (Y.2.1 k)), (1, .int 0), (2, .int 0)]) [2, 1, 0] rfl ?_
  exact vX1_wrongOfAll_4 X hr hlk hJ hY n4 0 0 _ h
def rmX1_heatOfAll : Room := { frames := 1, cells := 0, slots := 0, locals := 22 }
def pX1_heatOfAll_4 (k : Nat) (Q : Int32 → zz_T → Prop) : Nat → Int32 → Int32 → zz_T → Prop
  | 0, _, _, _ => False
  | n + 1, x1, x2, σ =>
    (((σ.1 k 4) ≤ x2 → Q x1 σ) ∧
    (¬ (σ.1 k 4) ≤ x2 → vp_in x2 3 ∧
    pX0_heatSum (k + 8 + 3 * (Int32.toNatClampNeg x2)) σ (fun r19 s19 =>
    pX1_heatOfAll_4 k Q n (x1 + r19) (x2 + 1) s19)))
set_option maxHeartbeats 4000000 in
set_option maxRecDepth 100000 in
theorem vX1_heatOfAll_4 {p : Program} {l : Launch} {e : Env} {s : State} {m : MethodId} {args : Array Value} {below : List Frame} {meth : Method} {c : Code} {Y : zz_Y} {k : Nat} {Q : Int32 → zz_T → Prop} (X : zz_X p m c cX1_heatOfAll 3 s args RX1) (hr : meth.sig.returnType = (some .int)) (hlk : meth.locks = false) (hJ : zz_J Y) (hY : zz_pr Y k)  : ∀ (n : Nat) (x1 : Int32) (x2 : Int32) (σ : zz_T), pX1_heatOfAll_4 k Q n x1 x2 σ → zz_V p l e rmX1_heatOfAll s m args below meth c (MQ below (va_Qi Q (zz_E Y) (zz_A Y)) args s 0 0 (zz_A Y)) 3 Y σ 4 [(0, .ref (Y.2.1 k)), (1, .int x1), (2, .int x2)] [] := by
  intro n
  induction n with
  | zero => intro x1 x2 σ h; exact h.elim
  | succ n ih =>
    intro x1 x2 σ h 
    unfold pX1_heatOfAll_4 at h
    refine zv_iload_n X dX1_heatOfAll_4 2 rfl rfl rfl ?_
    refine zv_aload_n X dX1_heatOfAll_5 0 rfl rfl rfl ?_
    refine zg_X1_4 (k := k) X hY.1.1 hY.1.2 fl_X1_35 dX1_heatOfAll_6 rfl ?_
    refine zv_icmp_ge (tgt := 30) X dX1_heatOfAll_9 (by decide) rfl (fun q9 => ?_) (fun q9 => ?_)
    · replace h := h.1 q9
      refine zv_iload_n X dX1_heatOfAll_30 1 rfl rfl rfl ?_
      exact zv_iret X hr hlk h dX1_heatOfAll_31
    · replace h := h.2 q9
      refine zv_iload_n X dX1_heatOfAll_12 1 rfl rfl rfl ?_
      refine zv_aload_n X dX1_heatOfAll_13 0 rfl rfl rfl ?_
      refine zg_X1_0 (k := k) X hY.1.1 hY.1.2 fl_X1_11 dX1_heatOfAll_14 rfl ?_
      refine zv_iload_n X dX1_heatOfAll_17 2 rfl rfl rfl ?_
      obtain ⟨hi18, h⟩ := h
      refine zv_aald3 (k := (k + 1)) X hY.2.1.1 hY.2.1.2 hi18 dX1_heatOfAll_18 rfl ?_
      refine zv_cVi (k := (k + 8 + 3 * (Int32.toNatClampNeg x2))) (ci := 0) X [] (kX0_heatSum l hJ  (hY.2.2.2.2.2 _ (zz_lt hi18)) h) jl_X1_107 ⟨rfl, rfl⟩ ⟨Nat.le_of_ble_eq_true rfl, Nat.le_of_ble_eq_true rfl⟩ (hY.2.2.2.2.2 _ (zz_lt hi18)).1.1 (by decide) (hY.2.2.2.2.2 _ (zz_lt hi18)).1.2 rfl rfl rfl (Nat.le_of_ble_eq_true rfl) dX1_heatOfAll_19 rfl (fun r19 s19 h => ?_)
      refine zv_iadd X dX1_heatOfAll_22 rfl ?_
      refine zv_istore_n (lv2 := [(1, .int (x1 + r19)), (0, .ref (Y.2.1 k)), (2, .int x2)]) X dX1_heatOfAll_23 rfl (by decide) rfl rfl ?_
      refine zv_iinc (v := (x2 + 1)) (lv2 := [(2, .int (x2 + 1)), (1, .int (x1 + r19)), (0, .ref (Y.2.1 k))]) X dX1_heatOfAll_24 2 rfl rfl (by decide) rfl rfl ?_
      refine zv_goto (tgt := 4) X dX1_heatOfAll_27 (by decide) ?_
      refine zv_sub (lv2 := [(0, .ref (Y.2.1 k)), (1, .int (x1 + r19)), (2, .int (x2 + 1))]) [2, 1, 0] rfl ?_
      exact ih (x1 + r19) (x2 + 1) _ h
def pX1_heatOfAll (k : Nat) (σ : zz_T) (Q : Int32 → zz_T → Prop) : Prop :=
    ∃ n4, pX1_heatOfAll_4 k Q n4 0 0 σ
set_option maxHeartbeats 4000000 in
set_option maxRecDepth 100000 in
theorem kX1_heatOfAll (l : Launch) {Y : zz_Y} (hJ : zz_J Y) {k : Nat} (hY : zz_pr Y k) {σ : zz_T} {Q : Int32 → zz_T → Prop} (h : pX1_heatOfAll k σ Q) : zz_Mi l yX1_heatOfAll cX1_heatOfAll 3 (some .int) rmX1_heatOfAll Y [.ref (Y.2.1 k)] σ Q := by
  refine zz_Mi.start (by decide) hJ (Nat.le_of_ble_eq_true rfl) (fun p e s m below meth c X hr hlk => ?_)
  have X : zz_X p m c cX1_heatOfAll 3 s _ RX1 := X
  refine zv_sub (lv2 := [(0, .ref (Y.2.1 k))]) [0] rfl ?_
  unfold pX1_heatOfAll at h
  refine zv_iconst (v := 0) X dX1_heatOfAll_0 (by decide) rfl ?_
  refine zv_istore_n (lv2 := [(1, .int 0), (0, .ref (Y.2.1 k))]) X dX1_heatOfAll_1 rfl (by decide) rfl rfl ?_
  refine zv_iconst (v := 0) X dX1_heatOfAll_2 (by decide) rfl ?_
  refine zv_istore_n (lv2 := [(2, .int 0), (1, .int 0), (0, .ref (Y.2.1 k))]) X dX1_heatOfAll_3 rfl (by decide) rfl rfl ?_
  obtain ⟨n4, h⟩ := h
  refine zv_sub (lv2 := [(0, .ref (Y.2.1 k)), (1, .int 0), (2, .int 0)]) [2, 1, 0] rfl ?_
  exact vX1_heatOfAll_4 X hr hlk hJ hY n4 0 0 _ h
def rmX1_powerOfAll : Room := { frames := 0, cells := 0, slots := 0, locals := 0 }
def pX1_powerOfAll_4 (k : Nat) (Q : Int32 → zz_T → Prop) : Nat → Int32 → Int32 → zz_T → Prop
  | 0, _, _, _ => False
  | n + 1, x1, x2, σ =>
    (((σ.1 k 4) ≤ x2 → Q x1 σ) ∧
    (¬ (σ.1 k 4) ≤ x2 → vp_in x2 3 ∧
    pX1_powerOfAll_4 k Q n (x1 + (σ.1 (k + 8 + 3 * (Int32.toNatClampNeg x2)) 3)) (x2 + 1) σ))
set_option maxHeartbeats 4000000 in
set_option maxRecDepth 100000 in
theorem vX1_powerOfAll_4 {p : Program} {l : Launch} {e : Env} {s : State} {m : MethodId} {args : Array Value} {below : List Frame} {meth : Method} {c : Code} {Y : zz_Y} {k : Nat} {Q : Int32 → zz_T → Prop} (X : zz_X p m c cX1_powerOfAll 3 s args RX1) (hr : meth.sig.returnType = (some .int)) (hlk : meth.locks = false) (hJ : zz_J Y) (hY : zz_pr Y k)  : ∀ (n : Nat) (x1 : Int32) (x2 : Int32) (σ : zz_T), pX1_powerOfAll_4 k Q n x1 x2 σ → zz_V p l e rmX1_powerOfAll s m args below meth c (MQ below (va_Qi Q (zz_E Y) (zz_A Y)) args s 0 0 (zz_A Y)) 3 Y σ 4 [(0, .ref (Y.2.1 k)), (1, .int x1), (2, .int x2)] [] := by
  intro n
  induction n with
  | zero => intro x1 x2 σ h; exact h.elim
  | succ n ih =>
    intro x1 x2 σ h 
    unfold pX1_powerOfAll_4 at h
    refine zv_iload_n X dX1_powerOfAll_4 2 rfl rfl rfl ?_
    refine zv_aload_n X dX1_powerOfAll_5 0 rfl rfl rfl ?_
    refine zg_X1_4 (k := k) X hY.1.1 hY.1.2 fl_X1_35 dX1_powerOfAll_6 rfl ?_
    refine zv_icmp_ge (tgt := 30) X dX1_powerOfAll_9 (by decide) rfl (fun q9 => ?_) (fun q9 => ?_)
    · replace h := h.1 q9
      refine zv_iload_n X dX1_powerOfAll_30 1 rfl rfl rfl ?_
      exact zv_iret X hr hlk h dX1_powerOfAll_31
    · replace h := h.2 q9
      refine zv_iload_n X dX1_powerOfAll_12 1 rfl rfl rfl ?_
      refine zv_aload_n X dX1_powerOfAll_13 0 rfl rfl rfl ?_
      refine zg_X1_0 (k := k) X hY.1.1 hY.1.2 fl_X1_11 dX1_powerOfAll_14 rfl ?_
      refine zv_iload_n X dX1_powerOfAll_17 2 rfl rfl rfl ?_
      obtain ⟨hi18, h⟩ := h
      refine zv_aald3 (k := (k + 1)) X hY.2.1.1 hY.2.1.2 hi18 dX1_powerOfAll_18 rfl ?_
      refine zg_X0_3 (k := (k + 8 + 3 * (Int32.toNatClampNeg x2))) X (hY.2.2.2.2.2 _ (zz_lt hi18)).1.1 (hY.2.2.2.2.2 _ (zz_lt hi18)).1.2 fl_X1_111 dX1_powerOfAll_19 rfl ?_
      refine zv_iadd X dX1_powerOfAll_22 rfl ?_
      refine zv_istore_n (lv2 := [(1, .int (x1 + (σ.1 (k + 8 + 3 * (Int32.toNatClampNeg x2)) 3))), (0, .ref (Y.2.1 k)), (2, .int x2)]) X dX1_powerOfAll_23 rfl (by decide) rfl rfl ?_
      refine zv_iinc (v := (x2 + 1)) (lv2 := [(2, .int (x2 + 1)), (1, .int (x1 + (σ.1 (k + 8 + 3 * (Int32.toNatClampNeg x2)) 3))), (0, .ref (Y.2.1 k))]) X dX1_powerOfAll_24 2 rfl rfl (by decide) rfl rfl ?_
      refine zv_goto (tgt := 4) X dX1_powerOfAll_27 (by decide) ?_
      refine zv_sub (lv2 := [(0, .ref (Y.2.1 k)), (1, .int (x1 + (σ.1 (k + 8 + 3 * (Int32.toNatClampNeg x2)) 3))), (2, .int (x2 + 1))]) [2, 1, 0] rfl ?_
      exact ih (x1 + (σ.1 (k + 8 + 3 * (Int32.toNatClampNeg x2)) 3)) (x2 + 1) _ h
def pX1_powerOfAll (k : Nat) (σ : zz_T) (Q : Int32 → zz_T → Prop) : Prop :=
    ∃ n4, pX1_powerOfAll_4 k Q n4 0 0 σ
set_option maxHeartbeats 4000000 in
set_option maxRecDepth 100000 in
theorem kX1_powerOfAll (l : Launch) {Y : zz_Y} (hJ : zz_J Y) {k : Nat} (hY : zz_pr Y k) {σ : zz_T} {Q : Int32 → zz_T → Prop} (h : pX1_powerOfAll k σ Q) : zz_Mi l yX1_powerOfAll cX1_powerOfAll 3 (some .int) rmX1_powerOfAll Y [.ref (Y.2.1 k)] σ Q := by
  refine zz_Mi.start (by decide) hJ (Nat.le_of_ble_eq_true rfl) (fun p e s m below meth c X hr hlk => ?_)
  have X : zz_X p m c cX1_powerOfAll 3 s _ RX1 := X
  refine zv_sub (lv2 := [(0, .ref (Y.2.1 k))]) [0] rfl ?_
  unfold pX1_powerOfAll at h
  refine zv_iconst (v := 0) X dX1_powerOfAll_0 (by decide) rfl ?_
  refine zv_istore_n (lv2 := [(1, .int 0), (0, .ref (Y.2.1 k))]) X dX1_powerOfAll_1 rfl (by decide) rfl rfl ?_
  refine zv_iconst (v := 0) X dX1_powerOfAll_2 (by decide) rfl ?_
  refine zv_istore_n (lv2 := [(2, .int 0), (1, .int 0), (0, .ref (Y.2.1 k))]) X dX1_powerOfAll_3 rfl (by decide) rfl rfl ?_
  obtain ⟨n4, h⟩ := h
  refine zv_sub (lv2 := [(0, .ref (Y.2.1 k)), (1, .int 0), (2, .int 0)]) [2, 1, 0] rfl ?_
  exact vX1_powerOfAll_4 X hr hlk hJ hY n4 0 0 _ h
def rmX1_wantedOfAll : Room := { frames := 1, cells := 0, slots := 0, locals := 20 }
def pX1_wantedOfAll_4 (k : Nat) (Q : Int32 → zz_T → Prop) : Nat → Int32 → Int32 → zz_T → Prop
  | 0, _, _, _ => False
  | n + 1, x1, x2, σ =>
    (((σ.1 k 5) ≤ x2 → Q x1 σ) ∧
    (¬ (σ.1 k 5) ≤ x2 → vp_in x2 12 ∧
    pJ6_bitCount_0f7a4 (σ.1 (k + 2) (Int32.toNatClampNeg x2)) σ (fun r19 s19 =>
    pX1_wantedOfAll_4 k Q n (x1 + r19) (x2 + 1) s19)))
set_option maxHeartbeats 4000000 in
set_option maxRecDepth 100000 in
theorem vX1_wantedOfAll_4 {p : Program} {l : Launch} {e : Env} {s : State} {m : MethodId} {args : Array Value} {below : List Frame} {meth : Method} {c : Code} {Y : zz_Y} {k : Nat} {Q : Int32 → zz_T → Prop} (X : zz_X p m c cX1_wantedOfAll 3 s args RX1) (hr : meth.sig.returnType = (some .int)) (hlk : meth.locks = false) (hJ : zz_J Y) (hY : zz_pr Y k)  : ∀ (n : Nat) (x1 : Int32) (x2 : Int32) (σ : zz_T), pX1_wantedOfAll_4 k Q n x1 x2 σ → zz_V p l e rmX1_wantedOfAll s m args below meth c (MQ below (va_Qi Q (zz_E Y) (zz_A Y)) args s 0 0 (zz_A Y)) 3 Y σ 4 [(0, .ref (Y.2.1 k)), (1, .int x1), (2, .int x2)] [] := by
  intro n
  induction n with
  | zero => intro x1 x2 σ h; exact h.elim
  | succ n ih =>
    intro x1 x2 σ h 
    unfold pX1_wantedOfAll_4 at h
    refine zv_iload_n X dX1_wantedOfAll_4 2 rfl rfl rfl ?_
    refine zv_aload_n X dX1_wantedOfAll_5 0 rfl rfl rfl ?_
    refine zg_X1_5 (k := k) X hY.1.1 hY.1.2 fl_X1_39 dX1_wantedOfAll_6 rfl ?_
    refine zv_icmp_ge (tgt := 30) X dX1_wantedOfAll_9 (by decide) rfl (fun q9 => ?_) (fun q9 => ?_)
    · replace h := h.1 q9
      refine zv_iload_n X dX1_wantedOfAll_30 1 rfl rfl rfl ?_
      exact zv_iret X hr hlk h dX1_wantedOfAll_31
    · replace h := h.2 q9
      refine zv_iload_n X dX1_wantedOfAll_12 1 rfl rfl rfl ?_
      refine zv_aload_n X dX1_wantedOfAll_13 0 rfl rfl rfl ?_
      refine zg_X1_1 (k := k) X hY.1.1 hY.1.2 fl_X1_17 dX1_wantedOfAll_14 rfl ?_
      refine zv_iload_n X dX1_wantedOfAll_17 2 rfl rfl rfl ?_
      obtain ⟨hi18, h⟩ := h
      refine zv_iald (k := (k + 2)) X hY.2.2.1.1 hY.2.2.1.2 hi18 dX1_wantedOfAll_18 rfl ?_
      refine zv_cSi X [.int (σ.1 (k + 2) (Int32.toNatClampNeg x2))] (kJ6_bitCount_0f7a4 l hJ (σ.1 (k + 2) (Int32.toNatClampNeg x2))  h) jl_X1_81 ⟨rfl, rfl⟩ ⟨Nat.le_of_ble_eq_true rfl, Nat.le_of_ble_eq_true rfl⟩ rfl rfl (Nat.le_of_ble_eq_true rfl) dX1_wantedOfAll_19 rfl (fun r19 s19 h => ?_)
      refine zv_iadd X dX1_wantedOfAll_22 rfl ?_
      refine zv_istore_n (lv2 := [(1, .int (x1 + r19)), (0, .ref (Y.2.1 k)), (2, .int x2)]) X dX1_wantedOfAll_23 rfl (by decide) rfl rfl ?_
      refine zv_iinc (v := (x2 + 1)) (lv2 := [(2, .int (x2 + 1)), (1, .int (x1 + r19)), (0, .ref (Y.2.1 k))]) X dX1_wantedOfAll_24 2 rfl rfl (by decide) rfl rfl ?_
      refine zv_goto (tgt := 4) X dX1_wantedOfAll_27 (by decide) ?_
      refine zv_sub (lv2 := [(0, .ref (Y.2.1 k)), (1, .int (x1 + r19)), (2, .int (x2 + 1))]) [2, 1, 0] rfl ?_
      exact ih (x1 + r19) (x2 + 1) _ h
def pX1_wantedOfAll (k : Nat) (σ : zz_T) (Q : Int32 → zz_T → Prop) : Prop :=
    ∃ n4, pX1_wantedOfAll_4 k Q n4 0 0 σ
set_option maxHeartbeats 4000000 in
set_option maxRecDepth 100000 in
theorem kX1_wantedOfAll (l : Launch) {Y : zz_Y} (hJ : zz_J Y) {k : Nat} (hY : zz_pr Y k) {σ : zz_T} {Q : Int32 → zz_T → Prop} (h : pX1_wantedOfAll k σ Q) : zz_Mi l yX1_wantedOfAll cX1_wantedOfAll 3 (some .int) rmX1_wantedOfAll Y [.ref (Y.2.1 k)] σ Q := by
  refine zz_Mi.start (by decide) hJ (Nat.le_of_ble_eq_true rfl) (fun p e s m below meth c X hr hlk => ?_)
  have X : zz_X p m c cX1_wantedOfAll 3 s _ RX1 := X
  refine zv_sub (lv2 := [(0, .ref (Y.2.1 k))]) [0] rfl ?_
  unfold pX1_wantedOfAll at h
  refine zv_iconst (v := 0) X dX1_wantedOfAll_0 (by decide) rfl ?_
  refine zv_istore_n (lv2 := [(1, .int 0), (0, .ref (Y.2.1 k))]) X dX1_wantedOfAll_1 rfl (by decide) rfl rfl ?_
  refine zv_iconst (v := 0) X dX1_wantedOfAll_2 (by decide) rfl ?_
  refine zv_istore_n (lv2 := [(2, .int 0), (1, .int 0), (0, .ref (Y.2.1 k))]) X dX1_wantedOfAll_3 rfl (by decide) rfl rfl ?_
  obtain ⟨n4, h⟩ := h
  refine zv_sub (lv2 := [(0, .ref (Y.2.1 k)), (1, .int 0), (2, .int 0)]) [2, 1, 0] rfl ?_
  exact vX1_wantedOfAll_4 X hr hlk hJ hY n4 0 0 _ h
