def rmX5_kind : Room := { frames := 5, cells := 0, slots := 0, locals := 127 }
def pX5_kind (x1 : Int32) (x2 : Int32) (x3 : Int32) (σ : zz_T) (Q : Int32 → zz_T → Prop) : Prop :=
    pX5_bestDrive x1 0 x2 x3 σ (fun r5 s5 =>
    Q r5 s5)
set_option maxHeartbeats 4000000 in
set_option maxRecDepth 100000 in
theorem kX5_kind (l : Launch) {Y : zz_Y} (hJ : zz_J Y) (x1 : Int32) (x2 : Int32) (x3 : Int32) (hY : zz_ho Y) {σ : zz_T} {Q : Int32 → zz_T → Prop} (h : pX5_kind x1 x2 x3 σ Q) : zz_Mi l yX5_kind cX5_kind 4 (some .int) rmX5_kind Y [.ref (Y.2.1 0), .int x1, .int x2, .int x3] σ Q := by
  refine zz_Mi.start (by decide) hJ (Nat.le_of_ble_eq_true rfl) (fun p e s m below meth c X hr hlk => ?_)
  have X : zz_X p m c cX5_kind 4 s _ RX5 := X
  refine zv_sub (lv2 := [(0, .ref (Y.2.1 0)), (1, .int x1), (2, .int x2), (3, .int x3)]) [0, 1, 2, 3] rfl ?_
  unfold pX5_kind at h
  refine zv_aload_n X dX5_kind_0 0 rfl rfl rfl ?_
  refine zv_iload_n X dX5_kind_1 1 rfl rfl rfl ?_
  refine zv_iconst (v := 0) X dX5_kind_2 (by decide) rfl ?_
  refine zv_iload_n X dX5_kind_3 2 rfl rfl rfl ?_
  refine zv_iload_n X dX5_kind_4 3 rfl rfl rfl ?_
  refine zv_cVi (k := 0) (ci := 5) X [.int x1, .int 0, .int x2, .int x3] (kX5_bestDrive l hJ x1 0 x2 x3 hY h) jl_X5_183 ⟨rfl, rfl⟩ ⟨Nat.le_of_ble_eq_true rfl, Nat.le_of_ble_eq_true rfl⟩ (zz_ho_o hY).1 (by decide) (zz_ho_o hY).2 rfl rfl rfl (Nat.le_of_ble_eq_true rfl) dX5_kind_5 rfl (fun r5 s5 h => ?_)
  exact zv_iret X hr hlk h dX5_kind_8
def rmX5_wrongInTrial : Room := { frames := 4, cells := 0, slots := 0, locals := 101 }
def pX5_wrongInTrial_5  (Q : Int32 → zz_T → Prop) : Nat → Int32 → Int32 → Int32 → Int32 → zz_T → Prop
  | 0, _, _, _, _, _ => False
  | n + 1, x1, x2, x3, x4, σ =>
    ((x1 ≤ x4 → Q x3 σ) ∧
    (¬ x1 ≤ x4 → ((x2 ≤ x3 → Q x3 σ) ∧
    (¬ x2 ≤ x3 → pX1_burnRow 20 1 σ (fun r22 s22 =>
    pX5_wrongInTrial_5  Q n x1 x2 (x3 + r22) (x4 + 1) s22)))))
set_option maxHeartbeats 4000000 in
set_option maxRecDepth 100000 in
theorem vX5_wrongInTrial_5 {p : Program} {l : Launch} {e : Env} {s : State} {m : MethodId} {args : Array Value} {below : List Frame} {meth : Method} {c : Code} {Y : zz_Y}  {Q : Int32 → zz_T → Prop} (X : zz_X p m c cX5_wrongInTrial 5 s args RX5) (hr : meth.sig.returnType = (some .int)) (hlk : meth.locks = false) (hJ : zz_J Y) (hY : zz_ho Y)  : ∀ (n : Nat) (x1 : Int32) (x2 : Int32) (x3 : Int32) (x4 : Int32) (σ : zz_T), pX5_wrongInTrial_5  Q n x1 x2 x3 x4 σ → zz_V p l e rmX5_wrongInTrial s m args below meth c (MQ below (va_Qi Q (zz_E Y) (zz_A Y)) args s 0 0 (zz_A Y)) 5 Y σ 5 [(0, .ref (Y.2.1 0)), (1, .int x1), (2, .int x2), (3, .int x3), (4, .int x4)] [] := by
  intro n
  induction n with
  | zero => intro x1 x2 x3 x4 σ h; exact h.elim
  | succ n ih =>
    intro x1 x2 x3 x4 σ h 
    unfold pX5_wrongInTrial_5 at h
    refine zv_iload X dX5_wrongInTrial_5 4 rfl rfl ?_
    refine zv_iload_n X dX5_wrongInTrial_7 1 rfl rfl rfl ?_
    refine zv_icmp_ge (tgt := 33) X dX5_wrongInTrial_8 (by decide) rfl (fun q8 => ?_) (fun q8 => ?_)
    · replace h := h.1 q8
      refine zv_iload_n X dX5_wrongInTrial_33 3 rfl rfl rfl ?_
      exact zv_iret X hr hlk h dX5_wrongInTrial_34
    · replace h := h.2 q8
      refine zv_iload_n X dX5_wrongInTrial_11 3 rfl rfl rfl ?_
      refine zv_iload_n X dX5_wrongInTrial_12 2 rfl rfl rfl ?_
      refine zv_icmp_ge (tgt := 33) X dX5_wrongInTrial_13 (by decide) rfl (fun q13 => ?_) (fun q13 => ?_)
      · replace h := h.1 q13
        refine zv_iload_n X dX5_wrongInTrial_33 3 rfl rfl rfl ?_
        exact zv_iret X hr hlk h dX5_wrongInTrial_34
      · replace h := h.2 q13
        refine zv_iload_n X dX5_wrongInTrial_16 3 rfl rfl rfl ?_
        refine zv_aload_n X dX5_wrongInTrial_17 0 rfl rfl rfl ?_
        refine zg_X5_2 (k := 0) X (zz_ho_o hY).1 (zz_ho_o hY).2 fl_X5_23 dX5_wrongInTrial_18 rfl ?_
        refine zv_iconst (v := 1) X dX5_wrongInTrial_21 (by decide) rfl ?_
        refine zv_cVi (k := 20) (ci := 1) X [.int 1] (kX1_burnRow l hJ 1 (zz_ho_trial hY) h) jl_X5_160 ⟨rfl, rfl⟩ ⟨Nat.le_of_ble_eq_true rfl, Nat.le_of_ble_eq_true rfl⟩ (zz_ho_trial hY).1.1 (by decide) (zz_ho_trial hY).1.2 rfl rfl rfl (Nat.le_of_ble_eq_true rfl) dX5_wrongInTrial_22 rfl (fun r22 s22 h => ?_)
        refine zv_iadd X dX5_wrongInTrial_25 rfl ?_
        refine zv_istore_n (lv2 := [(3, .int (x3 + r22)), (0, .ref (Y.2.1 0)), (1, .int x1), (2, .int x2), (4, .int x4)]) X dX5_wrongInTrial_26 rfl (by decide) rfl rfl ?_
        refine zv_iinc (v := (x4 + 1)) (lv2 := [(4, .int (x4 + 1)), (3, .int (x3 + r22)), (0, .ref (Y.2.1 0)), (1, .int x1), (2, .int x2)]) X dX5_wrongInTrial_27 4 rfl rfl (by decide) rfl rfl ?_
        refine zv_goto (tgt := 5) X dX5_wrongInTrial_30 (by decide) ?_
        refine zv_sub (lv2 := [(0, .ref (Y.2.1 0)), (1, .int x1), (2, .int x2), (3, .int (x3 + r22)), (4, .int (x4 + 1))]) [2, 3, 4, 1, 0] rfl ?_
        exact ih x1 x2 (x3 + r22) (x4 + 1) _ h
def pX5_wrongInTrial (x1 : Int32) (x2 : Int32) (σ : zz_T) (Q : Int32 → zz_T → Prop) : Prop :=
    ∃ n5, pX5_wrongInTrial_5  Q n5 x1 x2 0 0 σ
set_option maxHeartbeats 4000000 in
set_option maxRecDepth 100000 in
theorem kX5_wrongInTrial (l : Launch) {Y : zz_Y} (hJ : zz_J Y) (x1 : Int32) (x2 : Int32) (hY : zz_ho Y) {σ : zz_T} {Q : Int32 → zz_T → Prop} (h : pX5_wrongInTrial x1 x2 σ Q) : zz_Mi l yX5_wrongInTrial cX5_wrongInTrial 5 (some .int) rmX5_wrongInTrial Y [.ref (Y.2.1 0), .int x1, .int x2] σ Q := by
  refine zz_Mi.start (by decide) hJ (Nat.le_of_ble_eq_true rfl) (fun p e s m below meth c X hr hlk => ?_)
  have X : zz_X p m c cX5_wrongInTrial 5 s _ RX5 := X
  refine zv_sub (lv2 := [(0, .ref (Y.2.1 0)), (1, .int x1), (2, .int x2)]) [0, 1, 2] rfl ?_
  unfold pX5_wrongInTrial at h
  refine zv_iconst (v := 0) X dX5_wrongInTrial_0 (by decide) rfl ?_
  refine zv_istore_n (lv2 := [(3, .int 0), (0, .ref (Y.2.1 0)), (1, .int x1), (2, .int x2)]) X dX5_wrongInTrial_1 rfl (by decide) rfl rfl ?_
  refine zv_iconst (v := 0) X dX5_wrongInTrial_2 (by decide) rfl ?_
  refine zv_istore (lv2 := [(4, .int 0), (3, .int 0), (0, .ref (Y.2.1 0)), (1, .int x1), (2, .int x2)]) X dX5_wrongInTrial_3 (by decide) rfl rfl ?_
  obtain ⟨n5, h⟩ := h
  refine zv_sub (lv2 := [(0, .ref (Y.2.1 0)), (1, .int x1), (2, .int x2), (3, .int 0), (4, .int 0)]) [2, 3, 4, 1, 0] rfl ?_
  exact vX5_wrongInTrial_5 X hr hlk hJ hY n5 x1 x2 0 0 _ h
def rmX5_bestCool : Room := { frames := 5, cells := 0, slots := 0, locals := 125 }
def pX5_bestCool_59  (Q : Int32 → zz_T → Prop) (K9 : Int32 → Int32 → Int32 → Int32 → Int32 → zz_T → Prop) (x1 : Int32) (x2 : Int32) (x3 : Int32) (x4 : Int32) (x5 : Int32) (σ : zz_T) : Prop :=
    K9 x1 x2 x3 x4 (x5 + 1) σ
set_option maxHeartbeats 4000000 in
set_option maxRecDepth 100000 in
theorem vX5_bestCool_59 {p : Program} {l : Launch} {e : Env} {s : State} {m : MethodId} {args : Array Value} {below : List Frame} {meth : Method} {c : Code} {Y : zz_Y}  {Q : Int32 → zz_T → Prop} {K9 : Int32 → Int32 → Int32 → Int32 → Int32 → zz_T → Prop} (X : zz_X p m c cX5_bestCool 7 s args RX5) (hr : meth.sig.returnType = (some .int)) (hlk : meth.locks = false) (hJ : zz_J Y) (hY : zz_ho Y) (hK9 : ∀ (x1 : Int32) (x2 : Int32) (x3 : Int32) (x4 : Int32) (x5 : Int32) (σ : zz_T), K9 x1 x2 x3 x4 x5 σ → zz_V p l e rmX5_bestCool s m args below meth c (MQ below (va_Qi Q (zz_E Y) (zz_A Y)) args s 0 0 (zz_A Y)) 7 Y σ 9 [(0, .ref (Y.2.1 0)), (1, .int x1), (2, .int x2), (3, .int x3), (4, .int x4), (5, .int x5)] []) : ∀ (x1 : Int32) (x2 : Int32) (x3 : Int32) (x4 : Int32) (x5 : Int32) (σ : zz_T), pX5_bestCool_59  Q K9 x1 x2 x3 x4 x5 σ → zz_V p l e rmX5_bestCool s m args below meth c (MQ below (va_Qi Q (zz_E Y) (zz_A Y)) args s 0 0 (zz_A Y)) 7 Y σ 59 [(0, .ref (Y.2.1 0)), (1, .int x1), (2, .int x2), (3, .int x3), (4, .int x4), (5, .int x5)] [] := by
  intro x1 x2 x3 x4 x5 σ h 
  unfold pX5_bestCool_59 at h
  refine zv_iinc (v := (x5 + 1)) (lv2 := [(5, .int (x5 + 1)), (0, .ref (Y.2.1 0)), (1, .int x1), (2, .int x2), (3, .int x3), (4, .int x4)]) X dX5_bestCool_59 5 rfl rfl (by decide) rfl rfl ?_
  refine zv_goto (tgt := 9) X dX5_bestCool_62 (by decide) ?_
  refine zv_sub (lv2 := [(0, .ref (Y.2.1 0)), (1, .int x1), (2, .int x2), (3, .int x3), (4, .int x4), (5, .int (x5 + 1))]) [1, 2, 3, 4, 5, 0] rfl ?_
  exact hK9 x1 x2 x3 x4 (x5 + 1) _ h
def pX5_bestCool_9  (Q : Int32 → zz_T → Prop) : Nat → Int32 → Int32 → Int32 → Int32 → Int32 → zz_T → Prop
  | 0, _, _, _, _, _, _ => False
  | n + 1, x1, x2, x3, x4, x5, σ =>
    ((9 < x5 → ((x2 = 0 → Q x4 σ) ∧
    (¬ x2 = 0 → Q x3 σ))) ∧
    (¬ 9 < x5 → pX1_copyFrom 20 3 σ (fun s24 =>
    vp_in 1 3 ∧
    pX5_wrongInTrial x1 x3 (zz_i s24 23 (Int32.toNatClampNeg 1) x5) (fun r41 s41 =>
    ((x3 ≤ r41 → pX5_bestCool_59  Q (pX5_bestCool_9  Q n) x1 x2 x3 x4 x5 s41) ∧
    (¬ x3 ≤ r41 → pX5_bestCool_59  Q (pX5_bestCool_9  Q n) x1 x2 r41 x5 x5 s41))))))
set_option maxHeartbeats 4000000 in
set_option maxRecDepth 100000 in
theorem vX5_bestCool_9 {p : Program} {l : Launch} {e : Env} {s : State} {m : MethodId} {args : Array Value} {below : List Frame} {meth : Method} {c : Code} {Y : zz_Y}  {Q : Int32 → zz_T → Prop} (X : zz_X p m c cX5_bestCool 7 s args RX5) (hr : meth.sig.returnType = (some .int)) (hlk : meth.locks = false) (hJ : zz_J Y) (hY : zz_ho Y)  : ∀ (n : Nat) (x1 : Int32) (x2 : Int32) (x3 : Int32) (x4 : Int32) (x5 : Int32) (σ : zz_T), pX5_bestCool_9  Q n x1 x2 x3 x4 x5 σ → zz_V p l e rmX5_bestCool s m args below meth c (MQ below (va_Qi Q (zz_E Y) (zz_A Y)) args s 0 0 (zz_A Y)) 7 Y σ 9 [(0, .ref (Y.2.1 0)), (1, .int x1), (2, .int x2), (3, .int x3), (4, .int x4), (5, .int x5)] [] := by
  intro n
  induction n with
  | zero => intro x1 x2 x3 x4 x5 σ h; exact h.elim
  | succ n ih =>
    intro x1 x2 x3 x4 x5 σ h 
    unfold pX5_bestCool_9 at h
    refine zv_iload X dX5_bestCool_9 5 rfl rfl ?_
    refine zv_bipush (v := 9) X dX5_bestCool_11 (by decide) rfl ?_
    refine zv_icmp_gt (tgt := 65) X dX5_bestCool_13 (by decide) rfl (fun q13 => ?_) (fun q13 => ?_)
    · replace h := h.1 q13
      refine zv_iload_n X dX5_bestCool_65 2 rfl rfl rfl ?_
      refine zv_if_ne (tgt := 74) X dX5_bestCool_66 (by decide) rfl (fun q66 => ?_) (fun q66 => ?_)
      · replace h := h.2 q66
        refine zv_iload_n X dX5_bestCool_74 3 rfl rfl rfl ?_
        exact zv_iret X hr hlk h dX5_bestCool_75
      · replace h := h.1 q66
        refine zv_iload X dX5_bestCool_69 4 rfl rfl ?_
        refine zv_goto (tgt := 75) X dX5_bestCool_71 (by decide) ?_
        exact zv_iret X hr hlk h dX5_bestCool_75
    · replace h := h.2 q13
      refine zv_aload_n X dX5_bestCool_16 0 rfl rfl rfl ?_
      refine zg_X5_2 (k := 0) X (zz_ho_o hY).1 (zz_ho_o hY).2 fl_X5_23 dX5_bestCool_17 rfl ?_
      refine zv_aload_n X dX5_bestCool_20 0 rfl rfl rfl ?_
      refine zg_X5_1 (k := 0) X (zz_ho_o hY).1 (zz_ho_o hY).2 fl_X5_19 dX5_bestCool_21 rfl ?_
      refine zv_cVv (k := 20) (ci := 1) X [.ref (Y.2.1 3)] (kX1_copyFrom l hJ  (zz_ho_trial hY) (zz_ho_now hY) h) jl_X5_80 ⟨rfl, rfl⟩ ⟨Nat.le_of_ble_eq_true rfl, Nat.le_of_ble_eq_true rfl⟩ (zz_ho_trial hY).1.1 (by decide) (zz_ho_trial hY).1.2 rfl rfl rfl (Nat.le_of_ble_eq_true rfl) dX5_bestCool_24 rfl (fun s24 h => ?_)
      refine zv_aload_n X dX5_bestCool_27 0 rfl rfl rfl ?_
      refine zg_X5_2 (k := 0) X (zz_ho_o hY).1 (zz_ho_o hY).2 fl_X5_23 dX5_bestCool_28 rfl ?_
      refine zg_X1_2 (k := 20) X (zz_ho_trial hY).1.1 (zz_ho_trial hY).1.2 fl_X5_93 dX5_bestCool_31 rfl ?_
      refine zv_iconst (v := 1) X dX5_bestCool_34 (by decide) rfl ?_
      refine zv_iload X dX5_bestCool_35 5 rfl rfl ?_
      obtain ⟨hi37, h⟩ := h
      refine zv_iast (k := 23) X (zz_ho_trial hY).2.2.2.1.1 (zz_ho_trial hY).2.2.2.1.2 hi37 dX5_bestCool_37 rfl ?_
      refine zv_aload_n X dX5_bestCool_38 0 rfl rfl rfl ?_
      refine zv_iload_n X dX5_bestCool_39 1 rfl rfl rfl ?_
      refine zv_iload_n X dX5_bestCool_40 3 rfl rfl rfl ?_
      refine zv_cVi (k := 0) (ci := 5) X [.int x1, .int x3] (kX5_wrongInTrial l hJ x1 x3 hY h) jl_X5_194 ⟨rfl, rfl⟩ ⟨Nat.le_of_ble_eq_true rfl, Nat.le_of_ble_eq_true rfl⟩ (zz_ho_o hY).1 (by decide) (zz_ho_o hY).2 rfl rfl rfl (Nat.le_of_ble_eq_true rfl) dX5_bestCool_41 rfl (fun r41 s41 h => ?_)
      refine zv_istore (lv2 := [(6, .int r41), (0, .ref (Y.2.1 0)), (1, .int x1), (2, .int x2), (3, .int x3), (4, .int x4), (5, .int x5)]) X dX5_bestCool_44 (by decide) rfl rfl ?_
      refine zv_iload X dX5_bestCool_46 0 rfl rfl ?_
      refine zv_iload_n X dX5_bestCool_48 4 rfl rfl rfl ?_
      refine zv_icmp_ge (tgt := 59) X dX5_bestCool_49 (by decide) rfl (fun q49 => ?_) (fun q49 => ?_)
      · replace h := h.1 q49
        refine zv_sub (lv2 := [(0, .ref (Y.2.1 0)), (1, .int x1), (2, .int x2), (3, .int x3), (4, .int x4), (5, .int x5)]) [1, 2, 3, 4, 5, 6] rfl ?_
        exact vX5_bestCool_59 X hr hlk hJ hY ih x1 x2 x3 x4 x5 _ h
      · replace h := h.2 q49
        refine zv_iload X dX5_bestCool_52 0 rfl rfl ?_
        refine zv_istore_n (lv2 := [(3, .int r41), (6, .int r41), (0, .ref (Y.2.1 0)), (1, .int x1), (2, .int x2), (4, .int x4), (5, .int x5)]) X dX5_bestCool_54 rfl (by decide) rfl rfl ?_
        refine zv_iload X dX5_bestCool_55 6 rfl rfl ?_
        refine zv_istore (lv2 := [(4, .int x5), (3, .int r41), (6, .int r41), (0, .ref (Y.2.1 0)), (1, .int x1), (2, .int x2), (5, .int x5)]) X dX5_bestCool_57 (by decide) rfl rfl ?_
        refine zv_sub (lv2 := [(0, .ref (Y.2.1 0)), (1, .int x1), (2, .int x2), (3, .int r41), (4, .int x5), (5, .int x5)]) [3, 4, 5, 1, 0, 6] rfl ?_
        exact vX5_bestCool_59 X hr hlk hJ hY ih x1 x2 r41 x5 x5 _ h
def pX5_bestCool (x1 : Int32) (x2 : Int32) (σ : zz_T) (Q : Int32 → zz_T → Prop) : Prop :=
    ∃ n9, pX5_bestCool_9  Q n9 x1 x2 1000000 0 0 σ
set_option maxHeartbeats 4000000 in
set_option maxRecDepth 100000 in
theorem kX5_bestCool (l : Launch) {Y : zz_Y} (hJ : zz_J Y) (x1 : Int32) (x2 : Int32) (hY : zz_ho Y) {σ : zz_T} {Q : Int32 → zz_T → Prop} (h : pX5_bestCool x1 x2 σ Q) : zz_Mi l yX5_bestCool cX5_bestCool 7 (some .int) rmX5_bestCool Y [.ref (Y.2.1 0), .int x1, .int x2] σ Q := by
  refine zz_Mi.start (by decide) hJ (Nat.le_of_ble_eq_true rfl) (fun p e s m below meth c X hr hlk => ?_)
  have X : zz_X p m c cX5_bestCool 7 s _ RX5 := X
  refine zv_sub (lv2 := [(0, .ref (Y.2.1 0)), (1, .int x1), (2, .int x2)]) [0, 1, 2] rfl ?_
  unfold pX5_bestCool at h
  refine zv_ldc (v := 1000000) X dX5_bestCool_0 co_X5_193 rfl ?_
  refine zv_istore_n (lv2 := [(3, .int 1000000), (0, .ref (Y.2.1 0)), (1, .int x1), (2, .int x2)]) X dX5_bestCool_2 rfl (by decide) rfl rfl ?_
  refine zv_iconst (v := 0) X dX5_bestCool_3 (by decide) rfl ?_
  refine zv_istore (lv2 := [(4, .int 0), (3, .int 1000000), (0, .ref (Y.2.1 0)), (1, .int x1), (2, .int x2)]) X dX5_bestCool_4 (by decide) rfl rfl ?_
  refine zv_iconst (v := 0) X dX5_bestCool_6 (by decide) rfl ?_
  refine zv_istore (lv2 := [(5, .int 0), (4, .int 0), (3, .int 1000000), (0, .ref (Y.2.1 0)), (1, .int x1), (2, .int x2)]) X dX5_bestCool_7 (by decide) rfl rfl ?_
  obtain ⟨n9, h⟩ := h
  refine zv_sub (lv2 := [(0, .ref (Y.2.1 0)), (1, .int x1), (2, .int x2), (3, .int 1000000), (4, .int 0), (5, .int 0)]) [3, 4, 5, 2, 1, 0] rfl ?_
  exact vX5_bestCool_9 X hr hlk hJ hY n9 x1 x2 1000000 0 0 _ h
def rmX5_stepMarks : Room := { frames := 1, cells := 0, slots := 0, locals := 21 }
def pX5_stepMarks_67 (c1 : Nat) (Q : zz_T → Prop) (K2 : Int32 → Int32 → zz_T → Prop) (x2 : Int32) (x3 : Int32) (σ : zz_T) : Prop :=
    K2 x2 (x3 + 1) σ
set_option maxHeartbeats 4000000 in
set_option maxRecDepth 100000 in
theorem vX5_stepMarks_67 {p : Program} {l : Launch} {e : Env} {s : State} {m : MethodId} {args : Array Value} {below : List Frame} {meth : Method} {c : Code} {Y : zz_Y} {c1 : Nat} {Q : zz_T → Prop} {K2 : Int32 → Int32 → zz_T → Prop} (X : zz_X p m c cX5_stepMarks 5 s args RX5) (hr : meth.sig.returnType = none) (hlk : meth.locks = false) (hJ : zz_J Y) (hY : zz_ho Y) (h1 : zz_hd Y c1) (hK2 : ∀ (x2 : Int32) (x3 : Int32) (σ : zz_T), K2 x2 x3 σ → zz_V p l e rmX5_stepMarks s m args below meth c (MQ below (va_Qv Q (zz_E Y) (zz_A Y)) args s 0 0 (zz_A Y)) 5 Y σ 2 [(0, .ref (Y.2.1 0)), (1, .ref (Y.2.1 c1)), (2, .int x2), (3, .int x3)] []) : ∀ (x2 : Int32) (x3 : Int32) (σ : zz_T), pX5_stepMarks_67 c1 Q K2 x2 x3 σ → zz_V p l e rmX5_stepMarks s m args below meth c (MQ below (va_Qv Q (zz_E Y) (zz_A Y)) args s 0 0 (zz_A Y)) 5 Y σ 67 [(0, .ref (Y.2.1 0)), (1, .ref (Y.2.1 c1)), (2, .int x2), (3, .int x3)] [] := by
  intro x2 x3 σ h 
  unfold pX5_stepMarks_67 at h
  refine zv_iinc (v := (x3 + 1)) (lv2 := [(3, .int (x3 + 1)), (0, .ref (Y.2.1 0)), (1, .ref (Y.2.1 c1)), (2, .int x2)]) X dX5_stepMarks_67 3 rfl rfl (by decide) rfl rfl ?_
  refine zv_goto (tgt := 2) X dX5_stepMarks_70 (by decide) ?_
  refine zv_sub (lv2 := [(0, .ref (Y.2.1 0)), (1, .ref (Y.2.1 c1)), (2, .int x2), (3, .int (x3 + 1))]) [1, 2, 3, 0] rfl ?_
  exact hK2 x2 (x3 + 1) _ h
def pX5_stepMarks_2 (c1 : Nat) (Q : zz_T → Prop) : Nat → Int32 → Int32 → zz_T → Prop
  | 0, _, _, _ => False
  | n + 1, x2, x3, σ =>
    ((8 ≤ x3 → Q σ) ∧
    (¬ 8 ≤ x3 → vp_in x3 8 ∧
    ((((x2 >>> (x3 &&& (31 : Int32))) &&& 1) = 1 → vp_in ((if 60 < (σ.1 (c1 + 2) (Int32.toNatClampNeg x3)) then 60 else (σ.1 (c1 + 2) (Int32.toNatClampNeg x3))) + 1) 62 ∧
    vp_in ((if 60 < (σ.1 (c1 + 2) (Int32.toNatClampNeg x3)) then 60 else (σ.1 (c1 + 2) (Int32.toNatClampNeg x3))) + 1) 62 ∧
    pX5_stepMarks_67 c1 Q (pX5_stepMarks_2 c1 Q n) x2 x3 (zz_i σ 43 (Int32.toNatClampNeg ((if 60 < (σ.1 (c1 + 2) (Int32.toNatClampNeg x3)) then 60 else (σ.1 (c1 + 2) (Int32.toNatClampNeg x3))) + 1)) ((σ.1 43 (Int32.toNatClampNeg ((if 60 < (σ.1 (c1 + 2) (Int32.toNatClampNeg x3)) then 60 else (σ.1 (c1 + 2) (Int32.toNatClampNeg x3))) + 1))) + 1))) ∧
    (¬ ((x2 >>> (x3 &&& (31 : Int32))) &&& 1) = 1 → vp_in 1 62 ∧
    vp_in 1 62 ∧
    vp_in ((if 60 < (σ.1 (c1 + 2) (Int32.toNatClampNeg x3)) then 60 else (σ.1 (c1 + 2) (Int32.toNatClampNeg x3))) + 1) 62 ∧
    vp_in ((if 60 < (σ.1 (c1 + 2) (Int32.toNatClampNeg x3)) then 60 else (σ.1 (c1 + 2) (Int32.toNatClampNeg x3))) + 1) 62 ∧
    pX5_stepMarks_67 c1 Q (pX5_stepMarks_2 c1 Q n) x2 x3 (zz_i (zz_i σ 43 (Int32.toNatClampNeg 1) ((σ.1 43 (Int32.toNatClampNeg 1)) + 1)) 43 (Int32.toNatClampNeg ((if 60 < (σ.1 (c1 + 2) (Int32.toNatClampNeg x3)) then 60 else (σ.1 (c1 + 2) (Int32.toNatClampNeg x3))) + 1)) (((zz_i σ 43 (Int32.toNatClampNeg 1) ((σ.1 43 (Int32.toNatClampNeg 1)) + 1)).1 43 (Int32.toNatClampNeg ((if 60 < (σ.1 (c1 + 2) (Int32.toNatClampNeg x3)) then 60 else (σ.1 (c1 + 2) (Int32.toNatClampNeg x3))) + 1))) - 1))))))
set_option maxHeartbeats 4000000 in
set_option maxRecDepth 100000 in
theorem vX5_stepMarks_2 {p : Program} {l : Launch} {e : Env} {s : State} {m : MethodId} {args : Array Value} {below : List Frame} {meth : Method} {c : Code} {Y : zz_Y} {c1 : Nat} {Q : zz_T → Prop} (X : zz_X p m c cX5_stepMarks 5 s args RX5) (hr : meth.sig.returnType = none) (hlk : meth.locks = false) (hJ : zz_J Y) (hY : zz_ho Y) (h1 : zz_hd Y c1)  : ∀ (n : Nat) (x2 : Int32) (x3 : Int32) (σ : zz_T), pX5_stepMarks_2 c1 Q n x2 x3 σ → zz_V p l e rmX5_stepMarks s m args below meth c (MQ below (va_Qv Q (zz_E Y) (zz_A Y)) args s 0 0 (zz_A Y)) 5 Y σ 2 [(0, .ref (Y.2.1 0)), (1, .ref (Y.2.1 c1)), (2, .int x2), (3, .int x3)] [] := by
  intro n
  induction n with
  | zero => intro x2 x3 σ h; exact h.elim
  | succ n ih =>
    intro x2 x3 σ h 
    unfold pX5_stepMarks_2 at h
    refine zv_iload_n X dX5_stepMarks_2 3 rfl rfl rfl ?_
    refine zv_bipush (v := 8) X dX5_stepMarks_3 (by decide) rfl ?_
    refine zv_icmp_ge (tgt := 73) X dX5_stepMarks_5 (by decide) rfl (fun q5 => ?_) (fun q5 => ?_)
    · replace h := h.1 q5
      exact zv_vret X hr hlk h dX5_stepMarks_73
    · replace h := h.2 q5
      refine zv_aload_n X dX5_stepMarks_8 1 rfl rfl rfl ?_
      refine zg_X0_1 (k := c1) X h1.1.1 h1.1.2 fl_X5_309 dX5_stepMarks_9 rfl ?_
      refine zv_iload_n X dX5_stepMarks_12 3 rfl rfl rfl ?_
      obtain ⟨hi13, h⟩ := h
      refine zv_iald (k := (c1 + 2)) X h1.2.2.1 h1.2.2.2 hi13 dX5_stepMarks_13 rfl ?_
      refine zv_bipush (v := 60) X dX5_stepMarks_14 (by decide) rfl ?_
      refine zv_min X ml_X5_312 (Nat.le_of_ble_eq_true rfl) (Nat.le_of_ble_eq_true rfl) dX5_stepMarks_16 rfl ?_
      refine zv_iconst (v := 1) X dX5_stepMarks_19 (by decide) rfl ?_
      refine zv_iadd X dX5_stepMarks_20 rfl ?_
      refine zv_istore (lv2 := [(4, .int ((if 60 < (σ.1 (c1 + 2) (Int32.toNatClampNeg x3)) then 60 else (σ.1 (c1 + 2) (Int32.toNatClampNeg x3))) + 1)), (0, .ref (Y.2.1 0)), (1, .ref (Y.2.1 c1)), (2, .int x2), (3, .int x3)]) X dX5_stepMarks_21 (by decide) rfl rfl ?_
      refine zv_iload_n X dX5_stepMarks_23 3 rfl rfl rfl ?_
      refine zv_iload_n X dX5_stepMarks_24 4 rfl rfl rfl ?_
      refine zv_ishr X dX5_stepMarks_25 rfl ?_
      refine zv_iconst (v := 1) X dX5_stepMarks_26 (by decide) rfl ?_
      refine zv_iand X dX5_stepMarks_27 rfl ?_
      refine zv_iconst (v := 1) X dX5_stepMarks_28 (by decide) rfl ?_
      refine zv_icmp_ne (tgt := 46) X dX5_stepMarks_29 (by decide) rfl (fun q29 => ?_) (fun q29 => ?_)
      · replace h := h.2 q29
        refine zv_aload_n X dX5_stepMarks_46 1 rfl rfl rfl ?_
        refine zg_X5_7 (k := 0) X (zz_ho_o hY).1 (zz_ho_o hY).2 fl_X5_47 dX5_stepMarks_47 rfl ?_
        refine zv_iconst (v := 1) X dX5_stepMarks_50 (by decide) rfl ?_
        refine zv_dup2_11 X dX5_stepMarks_51 rfl rfl rfl ?_
        obtain ⟨hi52, h⟩ := h
        refine zv_iald (k := 43) X (zz_ho_markSteps hY).1 (zz_ho_markSteps hY).2 hi52 dX5_stepMarks_52 rfl ?_
        refine zv_iconst (v := 1) X dX5_stepMarks_53 (by decide) rfl ?_
        refine zv_iadd X dX5_stepMarks_54 rfl ?_
        obtain ⟨hi55, h⟩ := h
        refine zv_iast (k := 43) X (zz_ho_markSteps hY).1 (zz_ho_markSteps hY).2 hi55 dX5_stepMarks_55 rfl ?_
        refine zv_aload_n X dX5_stepMarks_56 1 rfl rfl rfl ?_
        refine zg_X5_7 (k := 0) X (zz_ho_o hY).1 (zz_ho_o hY).2 fl_X5_47 dX5_stepMarks_57 rfl ?_
        refine zv_iload X dX5_stepMarks_60 0 rfl rfl ?_
        refine zv_dup2_11 X dX5_stepMarks_62 rfl rfl rfl ?_
        obtain ⟨hi63, h⟩ := h
        refine zv_iald (k := 43) X (zz_ho_markSteps hY).1 (zz_ho_markSteps hY).2 hi63 dX5_stepMarks_63 rfl ?_
        refine zv_iconst (v := 1) X dX5_stepMarks_64 (by decide) rfl ?_
        refine zv_isub X dX5_stepMarks_65 rfl ?_
        obtain ⟨hi66, h⟩ := h
        refine zv_iast (k := 43) X (zz_ho_markSteps hY).1 (zz_ho_markSteps hY).2 hi66 dX5_stepMarks_66 rfl ?_
        refine zv_sub (lv2 := [(0, .ref (Y.2.1 0)), (1, .ref (Y.2.1 c1)), (2, .int x2), (3, .int x3)]) [1, 2, 3, 4] rfl ?_
        exact vX5_stepMarks_67 X hr hlk hJ hY h1 ih x2 x3 _ h
      · replace h := h.1 q29
        refine zv_aload_n X dX5_stepMarks_32 1 rfl rfl rfl ?_
        refine zg_X5_7 (k := 0) X (zz_ho_o hY).1 (zz_ho_o hY).2 fl_X5_47 dX5_stepMarks_33 rfl ?_
        refine zv_iload X dX5_stepMarks_36 0 rfl rfl ?_
        refine zv_dup2_11 X dX5_stepMarks_38 rfl rfl rfl ?_
        obtain ⟨hi39, h⟩ := h
        refine zv_iald (k := 43) X (zz_ho_markSteps hY).1 (zz_ho_markSteps hY).2 hi39 dX5_stepMarks_39 rfl ?_
        refine zv_iconst (v := 1) X dX5_stepMarks_40 (by decide) rfl ?_
        refine zv_iadd X dX5_stepMarks_41 rfl ?_
        obtain ⟨hi42, h⟩ := h
        refine zv_iast (k := 43) X (zz_ho_markSteps hY).1 (zz_ho_markSteps hY).2 hi42 dX5_stepMarks_42 rfl ?_
        refine zv_goto (tgt := 67) X dX5_stepMarks_43 (by decide) ?_
        refine zv_sub (lv2 := [(0, .ref (Y.2.1 0)), (1, .ref (Y.2.1 c1)), (2, .int x2), (3, .int x3)]) [1, 2, 3, 4] rfl ?_
        exact vX5_stepMarks_67 X hr hlk hJ hY h1 ih x2 x3 _ h
def pX5_stepMarks (c1 : Nat) (x2 : Int32) (σ : zz_T) (Q : zz_T → Prop) : Prop :=
    ∃ n2, pX5_stepMarks_2 c1 Q n2 x2 0 σ
set_option maxHeartbeats 4000000 in
set_option maxRecDepth 100000 in
theorem kX5_stepMarks (l : Launch) {Y : zz_Y} (hJ : zz_J Y) {c1 : Nat} (x2 : Int32) (hY : zz_ho Y) (h1 : zz_hd Y c1) {σ : zz_T} {Q : zz_T → Prop} (h : pX5_stepMarks c1 x2 σ Q) : zz_Mv l yX5_stepMarks cX5_stepMarks 5 none rmX5_stepMarks Y [.ref (Y.2.1 0), .ref (Y.2.1 c1), .int x2] σ Q := by
  refine zz_Mv.start (by decide) hJ (Nat.le_of_ble_eq_true rfl) (fun p e s m below meth c X hr hlk => ?_)
  have X : zz_X p m c cX5_stepMarks 5 s _ RX5 := X
  refine zv_sub (lv2 := [(0, .ref (Y.2.1 0)), (1, .ref (Y.2.1 c1)), (2, .int x2)]) [0, 1, 2] rfl ?_
  unfold pX5_stepMarks at h
  refine zv_iconst (v := 0) X dX5_stepMarks_0 (by decide) rfl ?_
  refine zv_istore_n (lv2 := [(3, .int 0), (0, .ref (Y.2.1 0)), (1, .ref (Y.2.1 c1)), (2, .int x2)]) X dX5_stepMarks_1 rfl (by decide) rfl rfl ?_
  obtain ⟨n2, h⟩ := h
  refine zv_sub (lv2 := [(0, .ref (Y.2.1 0)), (1, .ref (Y.2.1 c1)), (2, .int x2), (3, .int 0)]) [1, 2, 3, 0] rfl ?_
  exact vX5_stepMarks_2 X hr hlk hJ hY h1 n2 x2 0 _ h
def rmX5_bestMark : Room := { frames := 4, cells := 0, slots := 0, locals := 101 }
def pX5_bestMark_128  (Q : Int32 → zz_T → Prop) (K96 : Int32 → Int32 → Int32 → Int32 → Int32 → zz_T → Prop) (x2 : Int32) (x3 : Int32) (x4 : Int32) (x5 : Int32) (x6 : Int32) (σ : zz_T) : Prop :=
    K96 x2 x3 x4 x5 (x6 + 1) σ
set_option maxHeartbeats 4000000 in
set_option maxRecDepth 100000 in
theorem vX5_bestMark_128 {p : Program} {l : Launch} {e : Env} {s : State} {m : MethodId} {args : Array Value} {below : List Frame} {meth : Method} {c : Code} {Y : zz_Y}  {Q : Int32 → zz_T → Prop} {K96 : Int32 → Int32 → Int32 → Int32 → Int32 → zz_T → Prop} (X : zz_X p m c cX5_bestMark 7 s args RX5) (hr : meth.sig.returnType = (some .int)) (hlk : meth.locks = false) (hJ : zz_J Y) (hY : zz_ho Y) (hK96 : ∀ (x2 : Int32) (x3 : Int32) (x4 : Int32) (x5 : Int32) (x6 : Int32) (σ : zz_T), K96 x2 x3 x4 x5 x6 σ → zz_V p l e rmX5_bestMark s m args below meth c (MQ below (va_Qi Q (zz_E Y) (zz_A Y)) args s 0 0 (zz_A Y)) 7 Y σ 96 [(0, .ref (Y.2.1 0)), (2, .int x2), (3, .int x3), (4, .int x4), (5, .int x5), (6, .int x6)] []) : ∀ (x2 : Int32) (x3 : Int32) (x4 : Int32) (x5 : Int32) (x6 : Int32) (σ : zz_T), pX5_bestMark_128  Q K96 x2 x3 x4 x5 x6 σ → zz_V p l e rmX5_bestMark s m args below meth c (MQ below (va_Qi Q (zz_E Y) (zz_A Y)) args s 0 0 (zz_A Y)) 7 Y σ 128 [(0, .ref (Y.2.1 0)), (2, .int x2), (3, .int x3), (4, .int x4), (5, .int x5), (6, .int x6)] [] := by
  intro x2 x3 x4 x5 x6 σ h 
  unfold pX5_bestMark_128 at h
  refine zv_iinc (v := (x6 + 1)) (lv2 := [(6, .int (x6 + 1)), (0, .ref (Y.2.1 0)), (2, .int x2), (3, .int x3), (4, .int x4), (5, .int x5)]) X dX5_bestMark_128 5 rfl rfl (by decide) rfl rfl ?_
  refine zv_goto (tgt := 96) X dX5_bestMark_131 (by decide) ?_
  refine zv_sub (lv2 := [(0, .ref (Y.2.1 0)), (2, .int x2), (3, .int x3), (4, .int x4), (5, .int x5), (6, .int (x6 + 1))]) [1, 2, 3, 4, 5, 0] rfl ?_
  exact hK96 x2 x3 x4 x5 (x6 + 1) _ h
def pX5_bestMark_96  (Q : Int32 → zz_T → Prop) : Nat → Int32 → Int32 → Int32 → Int32 → Int32 → zz_T → Prop
  | 0, _, _, _, _, _, _ => False
  | n + 1, x2, x3, x4, x5, x6, σ =>
    ((60 < x6 → ((x2 = 0 → Q x4 σ) ∧
    (¬ x2 = 0 → Q x3 σ))) ∧
    (¬ 60 < x6 → vp_in x6 62 ∧
    ((x3 ≤ (x5 + (σ.1 43 (Int32.toNatClampNeg x6))) → pX5_bestMark_128  Q (pX5_bestMark_96  Q n) x2 x3 x4 (x5 + (σ.1 43 (Int32.toNatClampNeg x6))) x6 σ) ∧
    (¬ x3 ≤ (x5 + (σ.1 43 (Int32.toNatClampNeg x6))) → pX5_bestMark_128  Q (pX5_bestMark_96  Q n) x2 (x5 + (σ.1 43 (Int32.toNatClampNeg x6))) x6 (x5 + (σ.1 43 (Int32.toNatClampNeg x6))) x6 σ))))
set_option maxHeartbeats 4000000 in
set_option maxRecDepth 100000 in
theorem vX5_bestMark_96 {p : Program} {l : Launch} {e : Env} {s : State} {m : MethodId} {args : Array Value} {below : List Frame} {meth : Method} {c : Code} {Y : zz_Y}  {Q : Int32 → zz_T → Prop} (X : zz_X p m c cX5_bestMark 7 s args RX5) (hr : meth.sig.returnType = (some .int)) (hlk : meth.locks = false) (hJ : zz_J Y) (hY : zz_ho Y)  : ∀ (n : Nat) (x2 : Int32) (x3 : Int32) (x4 : Int32) (x5 : Int32) (x6 : Int32) (σ : zz_T), pX5_bestMark_96  Q n x2 x3 x4 x5 x6 σ → zz_V p l e rmX5_bestMark s m args below meth c (MQ below (va_Qi Q (zz_E Y) (zz_A Y)) args s 0 0 (zz_A Y)) 7 Y σ 96 [(0, .ref (Y.2.1 0)), (2, .int x2), (3, .int x3), (4, .int x4), (5, .int x5), (6, .int x6)] [] := by
  intro n
  induction n with
  | zero => intro x2 x3 x4 x5 x6 σ h; exact h.elim
  | succ n ih =>
    intro x2 x3 x4 x5 x6 σ h 
    unfold pX5_bestMark_96 at h
    refine zv_iload X dX5_bestMark_96 5 rfl rfl ?_
    refine zv_bipush (v := 60) X dX5_bestMark_98 (by decide) rfl ?_
    refine zv_icmp_gt (tgt := 134) X dX5_bestMark_100 (by decide) rfl (fun q100 => ?_) (fun q100 => ?_)
    · replace h := h.1 q100
      refine zv_iload_n X dX5_bestMark_134 1 rfl rfl rfl ?_
      refine zv_if_ne (tgt := 143) X dX5_bestMark_135 (by decide) rfl (fun q135 => ?_) (fun q135 => ?_)
      · replace h := h.2 q135
        refine zv_iload_n X dX5_bestMark_143 2 rfl rfl rfl ?_
        exact zv_iret X hr hlk h dX5_bestMark_144
      · replace h := h.1 q135
        refine zv_iload X dX5_bestMark_138 3 rfl rfl ?_
        refine zv_goto (tgt := 144) X dX5_bestMark_140 (by decide) ?_
        exact zv_iret X hr hlk h dX5_bestMark_144
    · replace h := h.2 q100
      refine zv_iload X dX5_bestMark_103 4 rfl rfl ?_
      refine zv_aload_n X dX5_bestMark_105 0 rfl rfl rfl ?_
      refine zg_X5_7 (k := 0) X (zz_ho_o hY).1 (zz_ho_o hY).2 fl_X5_47 dX5_bestMark_106 rfl ?_
      refine zv_iload X dX5_bestMark_109 5 rfl rfl ?_
      obtain ⟨hi111, h⟩ := h
      refine zv_iald (k := 43) X (zz_ho_markSteps hY).1 (zz_ho_markSteps hY).2 hi111 dX5_bestMark_111 rfl ?_
      refine zv_iadd X dX5_bestMark_112 rfl ?_
      refine zv_istore (lv2 := [(5, .int (x5 + (σ.1 43 (Int32.toNatClampNeg x6)))), (0, .ref (Y.2.1 0)), (2, .int x2), (3, .int x3), (4, .int x4), (6, .int x6)]) X dX5_bestMark_113 (by decide) rfl rfl ?_
      refine zv_iload X dX5_bestMark_115 0 rfl rfl ?_
      refine zv_iload_n X dX5_bestMark_117 3 rfl rfl rfl ?_
      refine zv_icmp_ge (tgt := 128) X dX5_bestMark_118 (by decide) rfl (fun q118 => ?_) (fun q118 => ?_)
      · replace h := h.1 q118
        refine zv_sub (lv2 := [(0, .ref (Y.2.1 0)), (2, .int x2), (3, .int x3), (4, .int x4), (5, .int (x5 + (σ.1 43 (Int32.toNatClampNeg x6)))), (6, .int x6)]) [1, 2, 3, 4, 0, 5] rfl ?_
        exact vX5_bestMark_128 X hr hlk hJ hY ih x2 x3 x4 (x5 + (σ.1 43 (Int32.toNatClampNeg x6))) x6 _ h
      · replace h := h.2 q118
        refine zv_iload X dX5_bestMark_121 0 rfl rfl ?_
        refine zv_istore_n (lv2 := [(3, .int (x5 + (σ.1 43 (Int32.toNatClampNeg x6)))), (5, .int (x5 + (σ.1 43 (Int32.toNatClampNeg x6)))), (0, .ref (Y.2.1 0)), (2, .int x2), (4, .int x4), (6, .int x6)]) X dX5_bestMark_123 rfl (by decide) rfl rfl ?_
        refine zv_iload X dX5_bestMark_124 5 rfl rfl ?_
        refine zv_istore (lv2 := [(4, .int x6), (3, .int (x5 + (σ.1 43 (Int32.toNatClampNeg x6)))), (5, .int (x5 + (σ.1 43 (Int32.toNatClampNeg x6)))), (0, .ref (Y.2.1 0)), (2, .int x2), (6, .int x6)]) X dX5_bestMark_126 (by decide) rfl rfl ?_
        refine zv_sub (lv2 := [(0, .ref (Y.2.1 0)), (2, .int x2), (3, .int (x5 + (σ.1 43 (Int32.toNatClampNeg x6)))), (4, .int x6), (5, .int (x5 + (σ.1 43 (Int32.toNatClampNeg x6)))), (6, .int x6)]) [3, 4, 1, 0, 2, 5] rfl ?_
        exact vX5_bestMark_128 X hr hlk hJ hY ih x2 (x5 + (σ.1 43 (Int32.toNatClampNeg x6))) x6 (x5 + (σ.1 43 (Int32.toNatClampNeg x6))) x6 _ h
def pX5_bestMark_38  (Q : Int32 → zz_T → Prop) (K21 : Int32 → Int32 → Int32 → zz_T → Prop) : Nat → Int32 → Int32 → Int32 → Int32 → zz_T → Prop
  | 0, _, _, _, _, _ => False
  | n + 1, x1, x2, x3, x4, σ =>
    (((σ.1 20 4) ≤ x4 → K21 x1 x2 (x3 + 1) σ) ∧
    (¬ (σ.1 20 4) ≤ x4 → vp_in x4 3 ∧
    pX1_wantedIn 3 x3 σ (fun r66 s66 =>
    pX5_stepMarks (28 + 3 * (Int32.toNatClampNeg x4)) r66 s66 (fun s69 =>
    pX5_bestMark_38  Q K21 n x1 x2 x3 (x4 + 1) s69))))
set_option maxHeartbeats 4000000 in
set_option maxRecDepth 100000 in
theorem vX5_bestMark_38 {p : Program} {l : Launch} {e : Env} {s : State} {m : MethodId} {args : Array Value} {below : List Frame} {meth : Method} {c : Code} {Y : zz_Y}  {Q : Int32 → zz_T → Prop} {K21 : Int32 → Int32 → Int32 → zz_T → Prop} (X : zz_X p m c cX5_bestMark 7 s args RX5) (hr : meth.sig.returnType = (some .int)) (hlk : meth.locks = false) (hJ : zz_J Y) (hY : zz_ho Y) (hK21 : ∀ (x1 : Int32) (x2 : Int32) (x3 : Int32) (σ : zz_T), K21 x1 x2 x3 σ → zz_V p l e rmX5_bestMark s m args below meth c (MQ below (va_Qi Q (zz_E Y) (zz_A Y)) args s 0 0 (zz_A Y)) 7 Y σ 21 [(0, .ref (Y.2.1 0)), (1, .int x1), (2, .int x2), (3, .int x3)] []) : ∀ (n : Nat) (x1 : Int32) (x2 : Int32) (x3 : Int32) (x4 : Int32) (σ : zz_T), pX5_bestMark_38  Q K21 n x1 x2 x3 x4 σ → zz_V p l e rmX5_bestMark s m args below meth c (MQ below (va_Qi Q (zz_E Y) (zz_A Y)) args s 0 0 (zz_A Y)) 7 Y σ 38 [(0, .ref (Y.2.1 0)), (1, .int x1), (2, .int x2), (3, .int x3), (4, .int x4)] [] := by
  intro n
  induction n with
  | zero => intro x1 x2 x3 x4 σ h; exact h.elim
  | succ n ih =>
    intro x1 x2 x3 x4 σ h 
    unfold pX5_bestMark_38 at h
    refine zv_iload X dX5_bestMark_38 4 rfl rfl ?_
    refine zv_aload_n X dX5_bestMark_40 0 rfl rfl rfl ?_
    refine zg_X5_2 (k := 0) X (zz_ho_o hY).1 (zz_ho_o hY).2 fl_X5_23 dX5_bestMark_41 rfl ?_
    refine zg_X1_4 (k := 20) X (zz_ho_trial hY).1.1 (zz_ho_trial hY).1.2 fl_X5_84 dX5_bestMark_44 rfl ?_
    refine zv_icmp_ge (tgt := 78) X dX5_bestMark_47 (by decide) rfl (fun q47 => ?_) (fun q47 => ?_)
    · replace h := h.1 q47
      refine zv_iinc (v := (x3 + 1)) (lv2 := [(3, .int (x3 + 1)), (0, .ref (Y.2.1 0)), (1, .int x1), (2, .int x2), (4, .int x4)]) X dX5_bestMark_78 3 rfl rfl (by decide) rfl rfl ?_
      refine zv_goto (tgt := 21) X dX5_bestMark_81 (by decide) ?_
      refine zv_sub (lv2 := [(0, .ref (Y.2.1 0)), (1, .int x1), (2, .int x2), (3, .int (x3 + 1))]) [1, 2, 3, 0] rfl ?_
      exact hK21 x1 x2 (x3 + 1) _ h
    · replace h := h.2 q47
      refine zv_aload_n X dX5_bestMark_50 0 rfl rfl rfl ?_
      refine zv_aload_n X dX5_bestMark_51 0 rfl rfl rfl ?_
      refine zg_X5_2 (k := 0) X (zz_ho_o hY).1 (zz_ho_o hY).2 fl_X5_23 dX5_bestMark_52 rfl ?_
      refine zg_X1_0 (k := 20) X (zz_ho_trial hY).1.1 (zz_ho_trial hY).1.2 fl_X5_108 dX5_bestMark_55 rfl ?_
      refine zv_iload X dX5_bestMark_58 4 rfl rfl ?_
      obtain ⟨hi60, h⟩ := h
      refine zv_aald3 (k := 21) X (zz_ho_trial hY).2.1.1 (zz_ho_trial hY).2.1.2 hi60 dX5_bestMark_60 rfl ?_
      refine zv_aload_n X dX5_bestMark_61 0 rfl rfl rfl ?_
      refine zg_X5_1 (k := 0) X (zz_ho_o hY).1 (zz_ho_o hY).2 fl_X5_19 dX5_bestMark_62 rfl ?_
      refine zv_iload_n X dX5_bestMark_65 3 rfl rfl rfl ?_
      refine zv_cVi (k := 3) (ci := 1) X [.int x3] (kX1_wantedIn l hJ x3 (zz_ho_now hY) h) jl_X5_100 ⟨rfl, rfl⟩ ⟨Nat.le_of_ble_eq_true rfl, Nat.le_of_ble_eq_true rfl⟩ (zz_ho_now hY).1.1 (by decide) (zz_ho_now hY).1.2 rfl rfl rfl (Nat.le_of_ble_eq_true rfl) dX5_bestMark_66 rfl (fun r66 s66 h => ?_)
      refine zv_cVv (k := 0) (ci := 5) X [.ref (Y.2.1 (28 + 3 * (Int32.toNatClampNeg x4))), .int r66] (kX5_stepMarks l hJ r66 hY ((zz_ho_trial hY).2.2.2.2.2 _ (zz_lt hi60)) h) jl_X5_305 ⟨rfl, rfl⟩ ⟨Nat.le_of_ble_eq_true rfl, Nat.le_of_ble_eq_true rfl⟩ (zz_ho_o hY).1 (by decide) (zz_ho_o hY).2 rfl rfl rfl (Nat.le_of_ble_eq_true rfl) dX5_bestMark_69 rfl (fun s69 h => ?_)
      refine zv_iinc (v := (x4 + 1)) (lv2 := [(4, .int (x4 + 1)), (0, .ref (Y.2.1 0)), (1, .int x1), (2, .int x2), (3, .int x3)]) X dX5_bestMark_72 4 rfl rfl (by decide) rfl rfl ?_
      refine zv_goto (tgt := 38) X dX5_bestMark_75 (by decide) ?_
      refine zv_sub (lv2 := [(0, .ref (Y.2.1 0)), (1, .int x1), (2, .int x2), (3, .int x3), (4, .int (x4 + 1))]) [1, 2, 3, 4, 0] rfl ?_
      exact ih x1 x2 x3 (x4 + 1) _ h
def pX5_bestMark_21  (Q : Int32 → zz_T → Prop) : Nat → Int32 → Int32 → Int32 → zz_T → Prop
  | 0, _, _, _, _ => False
  | n + 1, x1, x2, x3, σ =>
    ((x1 ≤ x3 → ∃ n96, pX5_bestMark_96  Q n96 x2 1000000 0 0 1 σ) ∧
    (¬ x1 ≤ x3 → pX1_burnRow 20 1 σ (fun r31 s31 =>
    ∃ n38, pX5_bestMark_38  Q (pX5_bestMark_21  Q n) n38 x1 x2 x3 0 s31)))
set_option maxHeartbeats 4000000 in
set_option maxRecDepth 100000 in
theorem vX5_bestMark_21 {p : Program} {l : Launch} {e : Env} {s : State} {m : MethodId} {args : Array Value} {below : List Frame} {meth : Method} {c : Code} {Y : zz_Y}  {Q : Int32 → zz_T → Prop} (X : zz_X p m c cX5_bestMark 7 s args RX5) (hr : meth.sig.returnType = (some .int)) (hlk : meth.locks = false) (hJ : zz_J Y) (hY : zz_ho Y)  : ∀ (n : Nat) (x1 : Int32) (x2 : Int32) (x3 : Int32) (σ : zz_T), pX5_bestMark_21  Q n x1 x2 x3 σ → zz_V p l e rmX5_bestMark s m args below meth c (MQ below (va_Qi Q (zz_E Y) (zz_A Y)) args s 0 0 (zz_A Y)) 7 Y σ 21 [(0, .ref (Y.2.1 0)), (1, .int x1), (2, .int x2), (3, .int x3)] [] := by
  intro n
  induction n with
  | zero => intro x1 x2 x3 σ h; exact h.elim
  | succ n ih =>
    intro x1 x2 x3 σ h 
    unfold pX5_bestMark_21 at h
    refine zv_iload_n X dX5_bestMark_21 3 rfl rfl rfl ?_
    refine zv_iload_n X dX5_bestMark_22 1 rfl rfl rfl ?_
    refine zv_icmp_ge (tgt := 84) X dX5_bestMark_23 (by decide) rfl (fun q23 => ?_) (fun q23 => ?_)
    · replace h := h.1 q23
      refine zv_ldc (v := 1000000) X dX5_bestMark_84 co_X5_193 rfl ?_
      refine zv_istore_n (lv2 := [(3, .int 1000000), (0, .ref (Y.2.1 0)), (1, .int x1), (2, .int x2)]) X dX5_bestMark_86 rfl (by decide) rfl rfl ?_
      refine zv_iconst (v := 0) X dX5_bestMark_87 (by decide) rfl ?_
      refine zv_istore (lv2 := [(4, .int 0), (3, .int 1000000), (0, .ref (Y.2.1 0)), (1, .int x1), (2, .int x2)]) X dX5_bestMark_88 (by decide) rfl rfl ?_
      refine zv_iconst (v := 0) X dX5_bestMark_90 (by decide) rfl ?_
      refine zv_istore (lv2 := [(5, .int 0), (4, .int 0), (3, .int 1000000), (0, .ref (Y.2.1 0)), (1, .int x1), (2, .int x2)]) X dX5_bestMark_91 (by decide) rfl rfl ?_
      refine zv_iconst (v := 1) X dX5_bestMark_93 (by decide) rfl ?_
      refine zv_istore (lv2 := [(6, .int 1), (5, .int 0), (4, .int 0), (3, .int 1000000), (0, .ref (Y.2.1 0)), (1, .int x1), (2, .int x2)]) X dX5_bestMark_94 (by decide) rfl rfl ?_
      obtain ⟨n96, h⟩ := h
      refine zv_sub (lv2 := [(0, .ref (Y.2.1 0)), (2, .int x2), (3, .int 1000000), (4, .int 0), (5, .int 0), (6, .int 1)]) [4, 6, 3, 2, 1, 0] rfl ?_
      exact vX5_bestMark_96 X hr hlk hJ hY n96 x2 1000000 0 0 1 _ h
    · replace h := h.2 q23
      refine zv_aload_n X dX5_bestMark_26 0 rfl rfl rfl ?_
      refine zg_X5_2 (k := 0) X (zz_ho_o hY).1 (zz_ho_o hY).2 fl_X5_23 dX5_bestMark_27 rfl ?_
      refine zv_iconst (v := 1) X dX5_bestMark_30 (by decide) rfl ?_
      refine zv_cVi (k := 20) (ci := 1) X [.int 1] (kX1_burnRow l hJ 1 (zz_ho_trial hY) h) jl_X5_160 ⟨rfl, rfl⟩ ⟨Nat.le_of_ble_eq_true rfl, Nat.le_of_ble_eq_true rfl⟩ (zz_ho_trial hY).1.1 (by decide) (zz_ho_trial hY).1.2 rfl rfl rfl (Nat.le_of_ble_eq_true rfl) dX5_bestMark_31 rfl (fun r31 s31 h => ?_)
      refine zv_pop X dX5_bestMark_34 rfl rfl ?_
      refine zv_iconst (v := 0) X dX5_bestMark_35 (by decide) rfl ?_
      refine zv_istore (lv2 := [(4, .int 0), (0, .ref (Y.2.1 0)), (1, .int x1), (2, .int x2), (3, .int x3)]) X dX5_bestMark_36 (by decide) rfl rfl ?_
      obtain ⟨n38, h⟩ := h
      refine zv_sub (lv2 := [(0, .ref (Y.2.1 0)), (1, .int x1), (2, .int x2), (3, .int x3), (4, .int 0)]) [1, 2, 3, 4, 0] rfl ?_
      exact vX5_bestMark_38 X hr hlk hJ hY ih n38 x1 x2 x3 0 _ h
def pX5_bestMark (x1 : Int32) (x2 : Int32) (σ : zz_T) (Q : Int32 → zz_T → Prop) : Prop :=
    pJ7_fill_53178 43 62 0 σ (fun s5 =>
    pX1_copyFrom 20 3 s5 (fun s16 =>
    ∃ n21, pX5_bestMark_21  Q n21 x1 x2 0 s16))
set_option maxHeartbeats 4000000 in
set_option maxRecDepth 100000 in
theorem kX5_bestMark (l : Launch) {Y : zz_Y} (hJ : zz_J Y) (x1 : Int32) (x2 : Int32) (hY : zz_ho Y) {σ : zz_T} {Q : Int32 → zz_T → Prop} (h : pX5_bestMark x1 x2 σ Q) : zz_Mi l yX5_bestMark cX5_bestMark 7 (some .int) rmX5_bestMark Y [.ref (Y.2.1 0), .int x1, .int x2] σ Q := by
  refine zz_Mi.start (by decide) hJ (Nat.le_of_ble_eq_true rfl) (fun p e s m below meth c X hr hlk => ?_)
  have X : zz_X p m c cX5_bestMark 7 s _ RX5 := X
  refine zv_sub (lv2 := [(0, .ref (Y.2.1 0)), (1, .int x1), (2, .int x2)]) [0, 1, 2] rfl ?_
  unfold pX5_bestMark at h
  refine zv_aload_n X dX5_bestMark_0 0 rfl rfl rfl ?_
  refine zg_X5_7 (k := 0) X (zz_ho_o hY).1 (zz_ho_o hY).2 fl_X5_47 dX5_bestMark_1 rfl ?_
  refine zv_iconst (v := 0) X dX5_bestMark_4 (by decide) rfl ?_
  refine zv_cSv X [.ref (Y.2.1 43), .int 0] (kJ7_fill_53178 l hJ 0 (zz_ho_markSteps hY) h) jl_X5_299 ⟨rfl, rfl⟩ ⟨Nat.le_of_ble_eq_true rfl, Nat.le_of_ble_eq_true rfl⟩ rfl rfl (Nat.le_of_ble_eq_true rfl) dX5_bestMark_5 rfl (fun s5 h => ?_)
  refine zv_aload_n X dX5_bestMark_8 0 rfl rfl rfl ?_
  refine zg_X5_2 (k := 0) X (zz_ho_o hY).1 (zz_ho_o hY).2 fl_X5_23 dX5_bestMark_9 rfl ?_
  refine zv_aload_n X dX5_bestMark_12 0 rfl rfl rfl ?_
  refine zg_X5_1 (k := 0) X (zz_ho_o hY).1 (zz_ho_o hY).2 fl_X5_19 dX5_bestMark_13 rfl ?_
  refine zv_cVv (k := 20) (ci := 1) X [.ref (Y.2.1 3)] (kX1_copyFrom l hJ  (zz_ho_trial hY) (zz_ho_now hY) h) jl_X5_80 ⟨rfl, rfl⟩ ⟨Nat.le_of_ble_eq_true rfl, Nat.le_of_ble_eq_true rfl⟩ (zz_ho_trial hY).1.1 (by decide) (zz_ho_trial hY).1.2 rfl rfl rfl (Nat.le_of_ble_eq_true rfl) dX5_bestMark_16 rfl (fun s16 h => ?_)
  refine zv_iconst (v := 0) X dX5_bestMark_19 (by decide) rfl ?_
  refine zv_istore_n (lv2 := [(3, .int 0), (0, .ref (Y.2.1 0)), (1, .int x1), (2, .int x2)]) X dX5_bestMark_20 rfl (by decide) rfl rfl ?_
  obtain ⟨n21, h⟩ := h
  refine zv_sub (lv2 := [(0, .ref (Y.2.1 0)), (1, .int x1), (2, .int x2), (3, .int 0)]) [1, 2, 3, 0] rfl ?_
  exact vX5_bestMark_21 X hr hlk hJ hY n21 x1 x2 0 _ h
def rmX5_best : Room := { frames := 6, cells := 0, slots := 0, locals := 151 }
def pX5_best (x1 : Int32) (x2 : Int32) (x3 : Int32) (σ : zz_T) (Q : Int32 → zz_T → Prop) : Prop :=
    pX5_outside x1 0 1 σ (fun r3 s3 =>
    ((r3 = 0 → pX5_badRows x2 s3 (fun r10 s10 =>
    ((r10 = 0 → pX5_outside x3 0 1 s10 (fun r19 s19 =>
    ((r19 = 0 → ((x1 = 0 → pX5_bestMark x2 x3 s19 (fun r34 s34 =>
    Q r34 s34)) ∧
    (¬ x1 = 0 → pX5_bestCool x2 x3 s19 (fun r43 s43 =>
    Q r43 s43)))) ∧
    (¬ r19 = 0 → Q (-1) s19)))) ∧
    (¬ r10 = 0 → Q (-1) s10)))) ∧
    (¬ r3 = 0 → Q (-1) s3)))
set_option maxHeartbeats 4000000 in
set_option maxRecDepth 100000 in
theorem kX5_best (l : Launch) {Y : zz_Y} (hJ : zz_J Y) (x1 : Int32) (x2 : Int32) (x3 : Int32) (hY : zz_ho Y) {σ : zz_T} {Q : Int32 → zz_T → Prop} (h : pX5_best x1 x2 x3 σ Q) : zz_Mi l yX5_best cX5_best 4 (some .int) rmX5_best Y [.ref (Y.2.1 0), .int x1, .int x2, .int x3] σ Q := by
  refine zz_Mi.start (by decide) hJ (Nat.le_of_ble_eq_true rfl) (fun p e s m below meth c X hr hlk => ?_)
  have X : zz_X p m c cX5_best 4 s _ RX5 := X
  refine zv_sub (lv2 := [(0, .ref (Y.2.1 0)), (1, .int x1), (2, .int x2), (3, .int x3)]) [0, 1, 2, 3] rfl ?_
  unfold pX5_best at h
  refine zv_iload_n X dX5_best_0 1 rfl rfl rfl ?_
  refine zv_iconst (v := 0) X dX5_best_1 (by decide) rfl ?_
  refine zv_iconst (v := 1) X dX5_best_2 (by decide) rfl ?_
  refine zv_cSi X [.int x1, .int 0, .int 1] (kX5_outside l hJ x1 0 1  h) jl_X5_58 ⟨rfl, rfl⟩ ⟨Nat.le_of_ble_eq_true rfl, Nat.le_of_ble_eq_true rfl⟩ rfl rfl (Nat.le_of_ble_eq_true rfl) dX5_best_3 rfl (fun r3 s3 h => ?_)
  refine zv_if_ne (tgt := 25) X dX5_best_6 (by decide) rfl (fun q6 => ?_) (fun q6 => ?_)
  · replace h := h.2 q6
    refine zv_iconst (v := (-1)) X dX5_best_25 (by decide) rfl ?_
    exact zv_iret X hr hlk h dX5_best_26
  · replace h := h.1 q6
    refine zv_iload_n X dX5_best_9 2 rfl rfl rfl ?_
    refine zv_cSi X [.int x2] (kX5_badRows l hJ x2  h) jl_X5_157 ⟨rfl, rfl⟩ ⟨Nat.le_of_ble_eq_true rfl, Nat.le_of_ble_eq_true rfl⟩ rfl rfl (Nat.le_of_ble_eq_true rfl) dX5_best_10 rfl (fun r10 s10 h => ?_)
    refine zv_if_ne (tgt := 25) X dX5_best_13 (by decide) rfl (fun q13 => ?_) (fun q13 => ?_)
    · replace h := h.2 q13
      refine zv_iconst (v := (-1)) X dX5_best_25 (by decide) rfl ?_
      exact zv_iret X hr hlk h dX5_best_26
    · replace h := h.1 q13
      refine zv_iload_n X dX5_best_16 3 rfl rfl rfl ?_
      refine zv_iconst (v := 0) X dX5_best_17 (by decide) rfl ?_
      refine zv_iconst (v := 1) X dX5_best_18 (by decide) rfl ?_
      refine zv_cSi X [.int x3, .int 0, .int 1] (kX5_outside l hJ x3 0 1  h) jl_X5_58 ⟨rfl, rfl⟩ ⟨Nat.le_of_ble_eq_true rfl, Nat.le_of_ble_eq_true rfl⟩ rfl rfl (Nat.le_of_ble_eq_true rfl) dX5_best_19 rfl (fun r19 s19 h => ?_)
      refine zv_if_eq (tgt := 27) X dX5_best_22 (by decide) rfl (fun q22 => ?_) (fun q22 => ?_)
      · replace h := h.1 q22
        refine zv_iload_n X dX5_best_27 1 rfl rfl rfl ?_
        refine zv_if_ne (tgt := 40) X dX5_best_28 (by decide) rfl (fun q28 => ?_) (fun q28 => ?_)
        · replace h := h.2 q28
          refine zv_aload_n X dX5_best_40 0 rfl rfl rfl ?_
          refine zv_iload_n X dX5_best_41 2 rfl rfl rfl ?_
          refine zv_iload_n X dX5_best_42 3 rfl rfl rfl ?_
          refine zv_cVi (k := 0) (ci := 5) X [.int x2, .int x3] (kX5_bestCool l hJ x2 x3 hY h) jl_X5_190 ⟨rfl, rfl⟩ ⟨Nat.le_of_ble_eq_true rfl, Nat.le_of_ble_eq_true rfl⟩ (zz_ho_o hY).1 (by decide) (zz_ho_o hY).2 rfl rfl rfl (Nat.le_of_ble_eq_true rfl) dX5_best_43 rfl (fun r43 s43 h => ?_)
          exact zv_iret X hr hlk h dX5_best_46
        · replace h := h.1 q28
          refine zv_aload_n X dX5_best_31 0 rfl rfl rfl ?_
          refine zv_iload_n X dX5_best_32 2 rfl rfl rfl ?_
          refine zv_iload_n X dX5_best_33 3 rfl rfl rfl ?_
          refine zv_cVi (k := 0) (ci := 5) X [.int x2, .int x3] (kX5_bestMark l hJ x2 x3 hY h) jl_X5_187 ⟨rfl, rfl⟩ ⟨Nat.le_of_ble_eq_true rfl, Nat.le_of_ble_eq_true rfl⟩ (zz_ho_o hY).1 (by decide) (zz_ho_o hY).2 rfl rfl rfl (Nat.le_of_ble_eq_true rfl) dX5_best_34 rfl (fun r34 s34 h => ?_)
          refine zv_goto (tgt := 46) X dX5_best_37 (by decide) ?_
          exact zv_iret X hr hlk h dX5_best_46
      · replace h := h.2 q22
        refine zv_iconst (v := (-1)) X dX5_best_25 (by decide) rfl ?_
        exact zv_iret X hr hlk h dX5_best_26
def rmX5_wrongIfSwapped : Room := { frames := 5, cells := 0, slots := 0, locals := 125 }
def pX5_wrongIfSwapped (x1 : Int32) (x2 : Int32) (x3 : Int32) (x4 : Int32) (σ : zz_T) (Q : Int32 → zz_T → Prop) : Prop :=
    vp_in x1 12 ∧
    vp_in x2 12 ∧
    (((σ.1 5 (Int32.toNatClampNeg x1)) = (σ.1 5 (Int32.toNatClampNeg x2)) → Q x4 σ) ∧
    (¬ (σ.1 5 (Int32.toNatClampNeg x1)) = (σ.1 5 (Int32.toNatClampNeg x2)) → pX1_copyFrom 20 3 σ (fun s32 =>
    vp_in x2 12 ∧
    vp_in x1 12 ∧
    vp_in x1 12 ∧
    vp_in x2 12 ∧
    pX5_wrongInTrial x3 x4 (zz_i (zz_i s32 22 (Int32.toNatClampNeg x1) (s32.1 5 (Int32.toNatClampNeg x2))) 22 (Int32.toNatClampNeg x2) ((zz_i s32 22 (Int32.toNatClampNeg x1) (s32.1 5 (Int32.toNatClampNeg x2))).1 5 (Int32.toNatClampNeg x1))) (fun r75 s75 =>
    Q r75 s75))))
set_option maxHeartbeats 4000000 in
set_option maxRecDepth 100000 in
theorem kX5_wrongIfSwapped (l : Launch) {Y : zz_Y} (hJ : zz_J Y) (x1 : Int32) (x2 : Int32) (x3 : Int32) (x4 : Int32) (hY : zz_ho Y) {σ : zz_T} {Q : Int32 → zz_T → Prop} (h : pX5_wrongIfSwapped x1 x2 x3 x4 σ Q) : zz_Mi l yX5_wrongIfSwapped cX5_wrongIfSwapped 5 (some .int) rmX5_wrongIfSwapped Y [.ref (Y.2.1 0), .int x1, .int x2, .int x3, .int x4] σ Q := by
  refine zz_Mi.start (by decide) hJ (Nat.le_of_ble_eq_true rfl) (fun p e s m below meth c X hr hlk => ?_)
  have X : zz_X p m c cX5_wrongIfSwapped 5 s _ RX5 := X
  refine zv_sub (lv2 := [(0, .ref (Y.2.1 0)), (1, .int x1), (2, .int x2), (3, .int x3), (4, .int x4)]) [0, 1, 2, 3, 4] rfl ?_
  unfold pX5_wrongIfSwapped at h
  refine zv_aload_n X dX5_wrongIfSwapped_0 0 rfl rfl rfl ?_
  refine zg_X5_1 (k := 0) X (zz_ho_o hY).1 (zz_ho_o hY).2 fl_X5_19 dX5_wrongIfSwapped_1 rfl ?_
  refine zg_X1_1 (k := 3) X (zz_ho_now hY).1.1 (zz_ho_now hY).1.2 fl_X5_137 dX5_wrongIfSwapped_4 rfl ?_
  refine zv_iload_n X dX5_wrongIfSwapped_7 1 rfl rfl rfl ?_
  obtain ⟨hi8, h⟩ := h
  refine zv_iald (k := 5) X (zz_ho_now hY).2.2.1.1 (zz_ho_now hY).2.2.1.2 hi8 dX5_wrongIfSwapped_8 rfl ?_
  refine zv_aload_n X dX5_wrongIfSwapped_9 0 rfl rfl rfl ?_
  refine zg_X5_1 (k := 0) X (zz_ho_o hY).1 (zz_ho_o hY).2 fl_X5_19 dX5_wrongIfSwapped_10 rfl ?_
  refine zg_X1_1 (k := 3) X (zz_ho_now hY).1.1 (zz_ho_now hY).1.2 fl_X5_137 dX5_wrongIfSwapped_13 rfl ?_
  refine zv_iload_n X dX5_wrongIfSwapped_16 2 rfl rfl rfl ?_
  obtain ⟨hi17, h⟩ := h
  refine zv_iald (k := 5) X (zz_ho_now hY).2.2.1.1 (zz_ho_now hY).2.2.1.2 hi17 dX5_wrongIfSwapped_17 rfl ?_
  refine zv_icmp_ne (tgt := 24) X dX5_wrongIfSwapped_18 (by decide) rfl (fun q18 => ?_) (fun q18 => ?_)
  · replace h := h.2 q18
    refine zv_aload_n X dX5_wrongIfSwapped_24 0 rfl rfl rfl ?_
    refine zg_X5_2 (k := 0) X (zz_ho_o hY).1 (zz_ho_o hY).2 fl_X5_23 dX5_wrongIfSwapped_25 rfl ?_
    refine zv_aload_n X dX5_wrongIfSwapped_28 0 rfl rfl rfl ?_
    refine zg_X5_1 (k := 0) X (zz_ho_o hY).1 (zz_ho_o hY).2 fl_X5_19 dX5_wrongIfSwapped_29 rfl ?_
    refine zv_cVv (k := 20) (ci := 1) X [.ref (Y.2.1 3)] (kX1_copyFrom l hJ  (zz_ho_trial hY) (zz_ho_now hY) h) jl_X5_80 ⟨rfl, rfl⟩ ⟨Nat.le_of_ble_eq_true rfl, Nat.le_of_ble_eq_true rfl⟩ (zz_ho_trial hY).1.1 (by decide) (zz_ho_trial hY).1.2 rfl rfl rfl (Nat.le_of_ble_eq_true rfl) dX5_wrongIfSwapped_32 rfl (fun s32 h => ?_)
    refine zv_aload_n X dX5_wrongIfSwapped_35 0 rfl rfl rfl ?_
    refine zg_X5_2 (k := 0) X (zz_ho_o hY).1 (zz_ho_o hY).2 fl_X5_23 dX5_wrongIfSwapped_36 rfl ?_
    refine zg_X1_1 (k := 20) X (zz_ho_trial hY).1.1 (zz_ho_trial hY).1.2 fl_X5_137 dX5_wrongIfSwapped_39 rfl ?_
    refine zv_iload_n X dX5_wrongIfSwapped_42 1 rfl rfl rfl ?_
    refine zv_aload_n X dX5_wrongIfSwapped_43 0 rfl rfl rfl ?_
    refine zg_X5_1 (k := 0) X (zz_ho_o hY).1 (zz_ho_o hY).2 fl_X5_19 dX5_wrongIfSwapped_44 rfl ?_
    refine zg_X1_1 (k := 3) X (zz_ho_now hY).1.1 (zz_ho_now hY).1.2 fl_X5_137 dX5_wrongIfSwapped_47 rfl ?_
    refine zv_iload_n X dX5_wrongIfSwapped_50 2 rfl rfl rfl ?_
    obtain ⟨hi51, h⟩ := h
    refine zv_iald (k := 5) X (zz_ho_now hY).2.2.1.1 (zz_ho_now hY).2.2.1.2 hi51 dX5_wrongIfSwapped_51 rfl ?_
    obtain ⟨hi52, h⟩ := h
    refine zv_iast (k := 22) X (zz_ho_trial hY).2.2.1.1 (zz_ho_trial hY).2.2.1.2 hi52 dX5_wrongIfSwapped_52 rfl ?_
    refine zv_aload_n X dX5_wrongIfSwapped_53 0 rfl rfl rfl ?_
    refine zg_X5_2 (k := 0) X (zz_ho_o hY).1 (zz_ho_o hY).2 fl_X5_23 dX5_wrongIfSwapped_54 rfl ?_
    refine zg_X1_1 (k := 20) X (zz_ho_trial hY).1.1 (zz_ho_trial hY).1.2 fl_X5_137 dX5_wrongIfSwapped_57 rfl ?_
    refine zv_iload_n X dX5_wrongIfSwapped_60 2 rfl rfl rfl ?_
    refine zv_aload_n X dX5_wrongIfSwapped_61 0 rfl rfl rfl ?_
    refine zg_X5_1 (k := 0) X (zz_ho_o hY).1 (zz_ho_o hY).2 fl_X5_19 dX5_wrongIfSwapped_62 rfl ?_
    refine zg_X1_1 (k := 3) X (zz_ho_now hY).1.1 (zz_ho_now hY).1.2 fl_X5_137 dX5_wrongIfSwapped_65 rfl ?_
    refine zv_iload_n X dX5_wrongIfSwapped_68 1 rfl rfl rfl ?_
    obtain ⟨hi69, h⟩ := h
    refine zv_iald (k := 5) X (zz_ho_now hY).2.2.1.1 (zz_ho_now hY).2.2.1.2 hi69 dX5_wrongIfSwapped_69 rfl ?_
    obtain ⟨hi70, h⟩ := h
    refine zv_iast (k := 22) X (zz_ho_trial hY).2.2.1.1 (zz_ho_trial hY).2.2.1.2 hi70 dX5_wrongIfSwapped_70 rfl ?_
    refine zv_aload_n X dX5_wrongIfSwapped_71 0 rfl rfl rfl ?_
    refine zv_iload_n X dX5_wrongIfSwapped_72 3 rfl rfl rfl ?_
    refine zv_iload X dX5_wrongIfSwapped_73 4 rfl rfl ?_
    refine zv_cVi (k := 0) (ci := 5) X [.int x3, .int x4] (kX5_wrongInTrial l hJ x3 x4 hY h) jl_X5_194 ⟨rfl, rfl⟩ ⟨Nat.le_of_ble_eq_true rfl, Nat.le_of_ble_eq_true rfl⟩ (zz_ho_o hY).1 (by decide) (zz_ho_o hY).2 rfl rfl rfl (Nat.le_of_ble_eq_true rfl) dX5_wrongIfSwapped_75 rfl (fun r75 s75 h => ?_)
    exact zv_iret X hr hlk h dX5_wrongIfSwapped_78
  · replace h := h.1 q18
    refine zv_iload X dX5_wrongIfSwapped_21 4 rfl rfl ?_
    exact zv_iret X hr hlk h dX5_wrongIfSwapped_23
def rmX5_swap : Room := { frames := 6, cells := 0, slots := 0, locals := 149 }
def pX5_swap_128  (Q : Int32 → zz_T → Prop) (x4 : Int32) (σ : zz_T) : Prop :=
    Q x4 σ
set_option maxHeartbeats 4000000 in
set_option maxRecDepth 100000 in
theorem vX5_swap_128 {p : Program} {l : Launch} {e : Env} {s : State} {m : MethodId} {args : Array Value} {below : List Frame} {meth : Method} {c : Code} {Y : zz_Y}  {Q : Int32 → zz_T → Prop} (X : zz_X p m c cX5_swap 8 s args RX5) (hr : meth.sig.returnType = (some .int)) (hlk : meth.locks = false) (hJ : zz_J Y) (hY : zz_ho Y)  : ∀ (x4 : Int32) (σ : zz_T), pX5_swap_128  Q x4 σ → zz_V p l e rmX5_swap s m args below meth c (MQ below (va_Qi Q (zz_E Y) (zz_A Y)) args s 0 0 (zz_A Y)) 8 Y σ 128 [(4, .int x4)] [] := by
  intro x4 σ h 
  unfold pX5_swap_128 at h
  refine zv_iload X dX5_swap_128 0 rfl rfl ?_
  refine zv_goto (tgt := 134) X dX5_swap_130 (by decide) ?_
  exact zv_iret X hr hlk h dX5_swap_134
def pX5_swap_105  (Q : Int32 → zz_T → Prop) (K44 : Int32 → Int32 → Int32 → Int32 → Int32 → zz_T → Prop) (K62 : Int32 → Int32 → Int32 → Int32 → Int32 → Int32 → zz_T → Prop) (x1 : Int32) (x2 : Int32) (x3 : Int32) (x4 : Int32) (x5 : Int32) (x6 : Int32) (σ : zz_T) : Prop :=
    K62 x1 x2 x3 x4 x5 (x6 + 1) σ
set_option maxHeartbeats 4000000 in
set_option maxRecDepth 100000 in
theorem vX5_swap_105 {p : Program} {l : Launch} {e : Env} {s : State} {m : MethodId} {args : Array Value} {below : List Frame} {meth : Method} {c : Code} {Y : zz_Y}  {Q : Int32 → zz_T → Prop} {K44 : Int32 → Int32 → Int32 → Int32 → Int32 → zz_T → Prop} {K62 : Int32 → Int32 → Int32 → Int32 → Int32 → Int32 → zz_T → Prop} (X : zz_X p m c cX5_swap 8 s args RX5) (hr : meth.sig.returnType = (some .int)) (hlk : meth.locks = false) (hJ : zz_J Y) (hY : zz_ho Y) (hK44 : ∀ (x1 : Int32) (x2 : Int32) (x3 : Int32) (x4 : Int32) (x5 : Int32) (σ : zz_T), K44 x1 x2 x3 x4 x5 σ → zz_V p l e rmX5_swap s m args below meth c (MQ below (va_Qi Q (zz_E Y) (zz_A Y)) args s 0 0 (zz_A Y)) 8 Y σ 44 [(0, .ref (Y.2.1 0)), (1, .int x1), (2, .int x2), (3, .int x3), (4, .int x4), (5, .int x5)] []) (hK62 : ∀ (x1 : Int32) (x2 : Int32) (x3 : Int32) (x4 : Int32) (x5 : Int32) (x6 : Int32) (σ : zz_T), K62 x1 x2 x3 x4 x5 x6 σ → zz_V p l e rmX5_swap s m args below meth c (MQ below (va_Qi Q (zz_E Y) (zz_A Y)) args s 0 0 (zz_A Y)) 8 Y σ 62 [(0, .ref (Y.2.1 0)), (1, .int x1), (2, .int x2), (3, .int x3), (4, .int x4), (5, .int x5), (6, .int x6)] []) : ∀ (x1 : Int32) (x2 : Int32) (x3 : Int32) (x4 : Int32) (x5 : Int32) (x6 : Int32) (σ : zz_T), pX5_swap_105  Q K44 K62 x1 x2 x3 x4 x5 x6 σ → zz_V p l e rmX5_swap s m args below meth c (MQ below (va_Qi Q (zz_E Y) (zz_A Y)) args s 0 0 (zz_A Y)) 8 Y σ 105 [(0, .ref (Y.2.1 0)), (1, .int x1), (2, .int x2), (3, .int x3), (4, .int x4), (5, .int x5), (6, .int x6)] [] := by
  intro x1 x2 x3 x4 x5 x6 σ h 
  unfold pX5_swap_105 at h
  refine zv_iinc (v := (x6 + 1)) (lv2 := [(6, .int (x6 + 1)), (0, .ref (Y.2.1 0)), (1, .int x1), (2, .int x2), (3, .int x3), (4, .int x4), (5, .int x5)]) X dX5_swap_105 6 rfl rfl (by decide) rfl rfl ?_
  refine zv_goto (tgt := 62) X dX5_swap_108 (by decide) ?_
  refine zv_sub (lv2 := [(0, .ref (Y.2.1 0)), (1, .int x1), (2, .int x2), (3, .int x3), (4, .int x4), (5, .int x5), (6, .int (x6 + 1))]) [1, 2, 3, 4, 5, 6, 0] rfl ?_
  exact hK62 x1 x2 x3 x4 x5 (x6 + 1) _ h
def pX5_swap_62  (Q : Int32 → zz_T → Prop) (K44 : Int32 → Int32 → Int32 → Int32 → Int32 → zz_T → Prop) : Nat → Int32 → Int32 → Int32 → Int32 → Int32 → Int32 → zz_T → Prop
  | 0, _, _, _, _, _, _, _ => False
  | n + 1, x1, x2, x3, x4, x5, x6, σ =>
    (((σ.1 3 5) ≤ x6 → K44 x1 x2 x3 x4 (x5 + 1) σ) ∧
    (¬ (σ.1 3 5) ≤ x6 → pX5_wrongIfSwapped x5 x6 x1 x3 σ (fun r81 s81 =>
    ((x3 ≤ r81 → pX5_swap_105  Q K44 (pX5_swap_62  Q K44 n) x1 x2 x3 x4 x5 x6 s81) ∧
    (¬ x3 ≤ r81 → pX5_swap_105  Q K44 (pX5_swap_62  Q K44 n) x1 x2 r81 ((100 * x5) + x6) x5 x6 s81)))))
set_option maxHeartbeats 4000000 in
set_option maxRecDepth 100000 in
theorem vX5_swap_62 {p : Program} {l : Launch} {e : Env} {s : State} {m : MethodId} {args : Array Value} {below : List Frame} {meth : Method} {c : Code} {Y : zz_Y}  {Q : Int32 → zz_T → Prop} {K44 : Int32 → Int32 → Int32 → Int32 → Int32 → zz_T → Prop} (X : zz_X p m c cX5_swap 8 s args RX5) (hr : meth.sig.returnType = (some .int)) (hlk : meth.locks = false) (hJ : zz_J Y) (hY : zz_ho Y) (hK44 : ∀ (x1 : Int32) (x2 : Int32) (x3 : Int32) (x4 : Int32) (x5 : Int32) (σ : zz_T), K44 x1 x2 x3 x4 x5 σ → zz_V p l e rmX5_swap s m args below meth c (MQ below (va_Qi Q (zz_E Y) (zz_A Y)) args s 0 0 (zz_A Y)) 8 Y σ 44 [(0, .ref (Y.2.1 0)), (1, .int x1), (2, .int x2), (3, .int x3), (4, .int x4), (5, .int x5)] []) : ∀ (n : Nat) (x1 : Int32) (x2 : Int32) (x3 : Int32) (x4 : Int32) (x5 : Int32) (x6 : Int32) (σ : zz_T), pX5_swap_62  Q K44 n x1 x2 x3 x4 x5 x6 σ → zz_V p l e rmX5_swap s m args below meth c (MQ below (va_Qi Q (zz_E Y) (zz_A Y)) args s 0 0 (zz_A Y)) 8 Y σ 62 [(0, .ref (Y.2.1 0)), (1, .int x1), (2, .int x2), (3, .int x3), (4, .int x4), (5, .int x5), (6, .int x6)] [] := by
  intro n
  induction n with
  | zero => intro x1 x2 x3 x4 x5 x6 σ h; exact h.elim
  | succ n ih =>
    intro x1 x2 x3 x4 x5 x6 σ h 
    unfold pX5_swap_62 at h
    refine zv_iload X dX5_swap_62 6 rfl rfl ?_
    refine zv_aload_n X dX5_swap_64 0 rfl rfl rfl ?_
    refine zg_X5_1 (k := 0) X (zz_ho_o hY).1 (zz_ho_o hY).2 fl_X5_19 dX5_swap_65 rfl ?_
    refine zg_X1_5 (k := 3) X (zz_ho_now hY).1.1 (zz_ho_now hY).1.2 fl_X5_87 dX5_swap_68 rfl ?_
    refine zv_icmp_ge (tgt := 111) X dX5_swap_71 (by decide) rfl (fun q71 => ?_) (fun q71 => ?_)
    · replace h := h.1 q71
      refine zv_iinc (v := (x5 + 1)) (lv2 := [(5, .int (x5 + 1)), (0, .ref (Y.2.1 0)), (1, .int x1), (2, .int x2), (3, .int x3), (4, .int x4), (6, .int x6)]) X dX5_swap_111 5 rfl rfl (by decide) rfl rfl ?_
      refine zv_goto (tgt := 44) X dX5_swap_114 (by decide) ?_
      refine zv_sub (lv2 := [(0, .ref (Y.2.1 0)), (1, .int x1), (2, .int x2), (3, .int x3), (4, .int x4), (5, .int (x5 + 1))]) [1, 2, 3, 4, 5, 0] rfl ?_
      exact hK44 x1 x2 x3 x4 (x5 + 1) _ h
    · replace h := h.2 q71
      refine zv_aload_n X dX5_swap_74 0 rfl rfl rfl ?_
      refine zv_iload X dX5_swap_75 5 rfl rfl ?_
      refine zv_iload X dX5_swap_77 6 rfl rfl ?_
      refine zv_iload_n X dX5_swap_79 1 rfl rfl rfl ?_
      refine zv_iload_n X dX5_swap_80 3 rfl rfl rfl ?_
      refine zv_cVi (k := 0) (ci := 5) X [.int x5, .int x6, .int x1, .int x3] (kX5_wrongIfSwapped l hJ x5 x6 x1 x3 hY h) jl_X5_197 ⟨rfl, rfl⟩ ⟨Nat.le_of_ble_eq_true rfl, Nat.le_of_ble_eq_true rfl⟩ (zz_ho_o hY).1 (by decide) (zz_ho_o hY).2 rfl rfl rfl (Nat.le_of_ble_eq_true rfl) dX5_swap_81 rfl (fun r81 s81 h => ?_)
      refine zv_istore (lv2 := [(7, .int r81), (0, .ref (Y.2.1 0)), (1, .int x1), (2, .int x2), (3, .int x3), (4, .int x4), (5, .int x5), (6, .int x6)]) X dX5_swap_84 (by decide) rfl rfl ?_
      refine zv_iload X dX5_swap_86 0 rfl rfl ?_
      refine zv_iload_n X dX5_swap_88 4 rfl rfl rfl ?_
      refine zv_icmp_ge (tgt := 105) X dX5_swap_89 (by decide) rfl (fun q89 => ?_) (fun q89 => ?_)
      · replace h := h.1 q89
        refine zv_sub (lv2 := [(0, .ref (Y.2.1 0)), (1, .int x1), (2, .int x2), (3, .int x3), (4, .int x4), (5, .int x5), (6, .int x6)]) [1, 2, 3, 4, 5, 6, 7] rfl ?_
        exact vX5_swap_105 X hr hlk hJ hY hK44 ih x1 x2 x3 x4 x5 x6 _ h
      · replace h := h.2 q89
        refine zv_iload X dX5_swap_92 0 rfl rfl ?_
        refine zv_istore_n (lv2 := [(3, .int r81), (7, .int r81), (0, .ref (Y.2.1 0)), (1, .int x1), (2, .int x2), (4, .int x4), (5, .int x5), (6, .int x6)]) X dX5_swap_94 rfl (by decide) rfl rfl ?_
        refine zv_bipush (v := 100) X dX5_swap_95 (by decide) rfl ?_
        refine zv_iload X dX5_swap_97 6 rfl rfl ?_
        refine zv_imul X dX5_swap_99 rfl ?_
        refine zv_iload X dX5_swap_100 7 rfl rfl ?_
        refine zv_iadd X dX5_swap_102 rfl ?_
        refine zv_istore (lv2 := [(4, .int ((100 * x5) + x6)), (3, .int r81), (7, .int r81), (0, .ref (Y.2.1 0)), (1, .int x1), (2, .int x2), (5, .int x5), (6, .int x6)]) X dX5_swap_103 (by decide) rfl rfl ?_
        refine zv_sub (lv2 := [(0, .ref (Y.2.1 0)), (1, .int x1), (2, .int x2), (3, .int r81), (4, .int ((100 * x5) + x6)), (5, .int x5), (6, .int x6)]) [3, 4, 5, 1, 0, 6, 7] rfl ?_
        exact vX5_swap_105 X hr hlk hJ hY hK44 ih x1 x2 r81 ((100 * x5) + x6) x5 x6 _ h
def pX5_swap_44  (Q : Int32 → zz_T → Prop) : Nat → Int32 → Int32 → Int32 → Int32 → Int32 → zz_T → Prop
  | 0, _, _, _, _, _, _ => False
  | n + 1, x1, x2, x3, x4, x5, σ =>
    (((σ.1 3 5) ≤ x5 → ((x2 = 0 → pX5_swap_128  Q x4 σ) ∧
    (¬ x2 = 0 → ((x4 = (-4) → pX5_swap_128  Q x4 σ) ∧
    (¬ x4 = (-4) → Q x3 σ))))) ∧
    (¬ (σ.1 3 5) ≤ x5 → ∃ n62, pX5_swap_62  Q (pX5_swap_44  Q n) n62 x1 x2 x3 x4 x5 (x5 + 1) σ))
set_option maxHeartbeats 4000000 in
set_option maxRecDepth 100000 in
theorem vX5_swap_44 {p : Program} {l : Launch} {e : Env} {s : State} {m : MethodId} {args : Array Value} {below : List Frame} {meth : Method} {c : Code} {Y : zz_Y}  {Q : Int32 → zz_T → Prop} (X : zz_X p m c cX5_swap 8 s args RX5) (hr : meth.sig.returnType = (some .int)) (hlk : meth.locks = false) (hJ : zz_J Y) (hY : zz_ho Y)  : ∀ (n : Nat) (x1 : Int32) (x2 : Int32) (x3 : Int32) (x4 : Int32) (x5 : Int32) (σ : zz_T), pX5_swap_44  Q n x1 x2 x3 x4 x5 σ → zz_V p l e rmX5_swap s m args below meth c (MQ below (va_Qi Q (zz_E Y) (zz_A Y)) args s 0 0 (zz_A Y)) 8 Y σ 44 [(0, .ref (Y.2.1 0)), (1, .int x1), (2, .int x2), (3, .int x3), (4, .int x4), (5, .int x5)] [] := by
  intro n
  induction n with
  | zero => intro x1 x2 x3 x4 x5 σ h; exact h.elim
  | succ n ih =>
    intro x1 x2 x3 x4 x5 σ h 
    unfold pX5_swap_44 at h
    refine zv_iload X dX5_swap_44 5 rfl rfl ?_
    refine zv_aload_n X dX5_swap_46 0 rfl rfl rfl ?_
    refine zg_X5_1 (k := 0) X (zz_ho_o hY).1 (zz_ho_o hY).2 fl_X5_19 dX5_swap_47 rfl ?_
    refine zg_X1_5 (k := 3) X (zz_ho_now hY).1.1 (zz_ho_now hY).1.2 fl_X5_87 dX5_swap_50 rfl ?_
    refine zv_icmp_ge (tgt := 117) X dX5_swap_53 (by decide) rfl (fun q53 => ?_) (fun q53 => ?_)
    · replace h := h.1 q53
      refine zv_iload_n X dX5_swap_117 2 rfl rfl rfl ?_
      refine zv_if_eq (tgt := 128) X dX5_swap_118 (by decide) rfl (fun q118 => ?_) (fun q118 => ?_)
      · replace h := h.1 q118
        refine zv_sub (lv2 := [(4, .int x4)]) [4] rfl ?_
        exact vX5_swap_128 X hr hlk hJ hY x4 _ h
      · replace h := h.2 q118
        refine zv_iload X dX5_swap_121 4 rfl rfl ?_
        refine zv_bipush (v := (-4)) X dX5_swap_123 (by decide) rfl ?_
        refine zv_icmp_ne (tgt := 133) X dX5_swap_125 (by decide) rfl (fun q125 => ?_) (fun q125 => ?_)
        · replace h := h.2 q125
          refine zv_iload_n X dX5_swap_133 3 rfl rfl rfl ?_
          exact zv_iret X hr hlk h dX5_swap_134
        · replace h := h.1 q125
          refine zv_sub (lv2 := [(4, .int x4)]) [4] rfl ?_
          exact vX5_swap_128 X hr hlk hJ hY x4 _ h
    · replace h := h.2 q53
      refine zv_iload X dX5_swap_56 5 rfl rfl ?_
      refine zv_iconst (v := 1) X dX5_swap_58 (by decide) rfl ?_
      refine zv_iadd X dX5_swap_59 rfl ?_
      refine zv_istore (lv2 := [(6, .int (x5 + 1)), (0, .ref (Y.2.1 0)), (1, .int x1), (2, .int x2), (3, .int x3), (4, .int x4), (5, .int x5)]) X dX5_swap_60 (by decide) rfl rfl ?_
      obtain ⟨n62, h⟩ := h
      refine zv_sub (lv2 := [(0, .ref (Y.2.1 0)), (1, .int x1), (2, .int x2), (3, .int x3), (4, .int x4), (5, .int x5), (6, .int (x5 + 1))]) [1, 2, 3, 4, 5, 6, 0] rfl ?_
      exact vX5_swap_62 X hr hlk hJ hY ih n62 x1 x2 x3 x4 x5 (x5 + 1) _ h
def pX5_swap (x1 : Int32) (x2 : Int32) (σ : zz_T) (Q : Int32 → zz_T → Prop) : Prop :=
    pX5_badRows x1 σ (fun r1 s1 =>
    ((r1 = 0 → pX5_outside x2 0 1 s1 (fun r10 s10 =>
    ((r10 = 0 → pX1_copyFrom 20 3 s10 (fun s26 =>
    pX5_wrongInTrial x1 1000000 s26 (fun r33 s33 =>
    ∃ n44, pX5_swap_44  Q n44 x1 x2 r33 (-4) 0 s33))) ∧
    (¬ r10 = 0 → Q (-1) s10)))) ∧
    (¬ r1 = 0 → Q (-1) s1)))
set_option maxHeartbeats 4000000 in
set_option maxRecDepth 100000 in
theorem kX5_swap (l : Launch) {Y : zz_Y} (hJ : zz_J Y) (x1 : Int32) (x2 : Int32) (hY : zz_ho Y) {σ : zz_T} {Q : Int32 → zz_T → Prop} (h : pX5_swap x1 x2 σ Q) : zz_Mi l yX5_swap cX5_swap 8 (some .int) rmX5_swap Y [.ref (Y.2.1 0), .int x1, .int x2] σ Q := by
  refine zz_Mi.start (by decide) hJ (Nat.le_of_ble_eq_true rfl) (fun p e s m below meth c X hr hlk => ?_)
  have X : zz_X p m c cX5_swap 8 s _ RX5 := X
  refine zv_sub (lv2 := [(0, .ref (Y.2.1 0)), (1, .int x1), (2, .int x2)]) [0, 1, 2] rfl ?_
  unfold pX5_swap at h
  refine zv_iload_n X dX5_swap_0 1 rfl rfl rfl ?_
  refine zv_cSi X [.int x1] (kX5_badRows l hJ x1  h) jl_X5_157 ⟨rfl, rfl⟩ ⟨Nat.le_of_ble_eq_true rfl, Nat.le_of_ble_eq_true rfl⟩ rfl rfl (Nat.le_of_ble_eq_true rfl) dX5_swap_1 rfl (fun r1 s1 h => ?_)
  refine zv_if_ne (tgt := 16) X dX5_swap_4 (by decide) rfl (fun q4 => ?_) (fun q4 => ?_)
  · replace h := h.2 q4
    refine zv_iconst (v := (-1)) X dX5_swap_16 (by decide) rfl ?_
    exact zv_iret X hr hlk h dX5_swap_17
  · replace h := h.1 q4
    refine zv_iload_n X dX5_swap_7 2 rfl rfl rfl ?_
    refine zv_iconst (v := 0) X dX5_swap_8 (by decide) rfl ?_
    refine zv_iconst (v := 1) X dX5_swap_9 (by decide) rfl ?_
    refine zv_cSi X [.int x2, .int 0, .int 1] (kX5_outside l hJ x2 0 1  h) jl_X5_58 ⟨rfl, rfl⟩ ⟨Nat.le_of_ble_eq_true rfl, Nat.le_of_ble_eq_true rfl⟩ rfl rfl (Nat.le_of_ble_eq_true rfl) dX5_swap_10 rfl (fun r10 s10 h => ?_)
    refine zv_if_eq (tgt := 18) X dX5_swap_13 (by decide) rfl (fun q13 => ?_) (fun q13 => ?_)
    · replace h := h.1 q13
      refine zv_aload_n X dX5_swap_18 0 rfl rfl rfl ?_
      refine zg_X5_2 (k := 0) X (zz_ho_o hY).1 (zz_ho_o hY).2 fl_X5_23 dX5_swap_19 rfl ?_
      refine zv_aload_n X dX5_swap_22 0 rfl rfl rfl ?_
      refine zg_X5_1 (k := 0) X (zz_ho_o hY).1 (zz_ho_o hY).2 fl_X5_19 dX5_swap_23 rfl ?_
      refine zv_cVv (k := 20) (ci := 1) X [.ref (Y.2.1 3)] (kX1_copyFrom l hJ  (zz_ho_trial hY) (zz_ho_now hY) h) jl_X5_80 ⟨rfl, rfl⟩ ⟨Nat.le_of_ble_eq_true rfl, Nat.le_of_ble_eq_true rfl⟩ (zz_ho_trial hY).1.1 (by decide) (zz_ho_trial hY).1.2 rfl rfl rfl (Nat.le_of_ble_eq_true rfl) dX5_swap_26 rfl (fun s26 h => ?_)
      refine zv_aload_n X dX5_swap_29 0 rfl rfl rfl ?_
      refine zv_iload_n X dX5_swap_30 1 rfl rfl rfl ?_
      refine zv_ldc (v := 1000000) X dX5_swap_31 co_X5_193 rfl ?_
      refine zv_cVi (k := 0) (ci := 5) X [.int x1, .int 1000000] (kX5_wrongInTrial l hJ x1 1000000 hY h) jl_X5_194 ⟨rfl, rfl⟩ ⟨Nat.le_of_ble_eq_true rfl, Nat.le_of_ble_eq_true rfl⟩ (zz_ho_o hY).1 (by decide) (zz_ho_o hY).2 rfl rfl rfl (Nat.le_of_ble_eq_true rfl) dX5_swap_33 rfl (fun r33 s33 h => ?_)
      refine zv_istore_n (lv2 := [(3, .int r33), (0, .ref (Y.2.1 0)), (1, .int x1), (2, .int x2)]) X dX5_swap_36 rfl (by decide) rfl rfl ?_
      refine zv_bipush (v := (-4)) X dX5_swap_37 (by decide) rfl ?_
      refine zv_istore (lv2 := [(4, .int (-4)), (3, .int r33), (0, .ref (Y.2.1 0)), (1, .int x1), (2, .int x2)]) X dX5_swap_39 (by decide) rfl rfl ?_
      refine zv_iconst (v := 0) X dX5_swap_41 (by decide) rfl ?_
      refine zv_istore (lv2 := [(5, .int 0), (4, .int (-4)), (3, .int r33), (0, .ref (Y.2.1 0)), (1, .int x1), (2, .int x2)]) X dX5_swap_42 (by decide) rfl rfl ?_
      obtain ⟨n44, h⟩ := h
      refine zv_sub (lv2 := [(0, .ref (Y.2.1 0)), (1, .int x1), (2, .int x2), (3, .int r33), (4, .int (-4)), (5, .int 0)]) [3, 4, 5, 2, 1, 0] rfl ?_
      exact vX5_swap_44 X hr hlk hJ hY n44 x1 x2 r33 (-4) 0 _ h
    · replace h := h.2 q13
      refine zv_iconst (v := (-1)) X dX5_swap_16 (by decide) rfl ?_
      exact zv_iret X hr hlk h dX5_swap_17
def rmX5_wrongIfResting : Room := { frames := 4, cells := 0, slots := 0, locals := 101 }
def pX5_wrongIfResting_73  (Q : Int32 → zz_T → Prop) (K17 : Int32 → Int32 → Int32 → Int32 → Int32 → zz_T → Prop) (x1 : Int32) (x2 : Int32) (x3 : Int32) (x4 : Int32) (x5 : Int32) (σ : zz_T) : Prop :=
    K17 x1 x2 x3 x4 (x5 + 1) σ
set_option maxHeartbeats 4000000 in
set_option maxRecDepth 100000 in
theorem vX5_wrongIfResting_73 {p : Program} {l : Launch} {e : Env} {s : State} {m : MethodId} {args : Array Value} {below : List Frame} {meth : Method} {c : Code} {Y : zz_Y}  {Q : Int32 → zz_T → Prop} {K17 : Int32 → Int32 → Int32 → Int32 → Int32 → zz_T → Prop} (X : zz_X p m c cX5_wrongIfResting 7 s args RX5) (hr : meth.sig.returnType = (some .int)) (hlk : meth.locks = false) (hJ : zz_J Y) (hY : zz_ho Y) (hK17 : ∀ (x1 : Int32) (x2 : Int32) (x3 : Int32) (x4 : Int32) (x5 : Int32) (σ : zz_T), K17 x1 x2 x3 x4 x5 σ → zz_V p l e rmX5_wrongIfResting s m args below meth c (MQ below (va_Qi Q (zz_E Y) (zz_A Y)) args s 0 0 (zz_A Y)) 7 Y σ 17 [(0, .ref (Y.2.1 0)), (1, .int x1), (2, .int x2), (3, .int x3), (4, .int x4), (5, .int x5)] []) : ∀ (x1 : Int32) (x2 : Int32) (x3 : Int32) (x4 : Int32) (x5 : Int32) (σ : zz_T), pX5_wrongIfResting_73  Q K17 x1 x2 x3 x4 x5 σ → zz_V p l e rmX5_wrongIfResting s m args below meth c (MQ below (va_Qi Q (zz_E Y) (zz_A Y)) args s 0 0 (zz_A Y)) 7 Y σ 73 [(0, .ref (Y.2.1 0)), (1, .int x1), (2, .int x2), (3, .int x3), (4, .int x4), (5, .int x5)] [] := by
  intro x1 x2 x3 x4 x5 σ h 
  unfold pX5_wrongIfResting_73 at h
  refine zv_iinc (v := (x5 + 1)) (lv2 := [(5, .int (x5 + 1)), (0, .ref (Y.2.1 0)), (1, .int x1), (2, .int x2), (3, .int x3), (4, .int x4)]) X dX5_wrongIfResting_73 5 rfl rfl (by decide) rfl rfl ?_
  refine zv_goto (tgt := 17) X dX5_wrongIfResting_76 (by decide) ?_
  refine zv_sub (lv2 := [(0, .ref (Y.2.1 0)), (1, .int x1), (2, .int x2), (3, .int x3), (4, .int x4), (5, .int (x5 + 1))]) [1, 2, 3, 4, 5, 0] rfl ?_
  exact hK17 x1 x2 x3 x4 (x5 + 1) _ h
def pX5_wrongIfResting_46  (Q : Int32 → zz_T → Prop) (K17 : Int32 → Int32 → Int32 → Int32 → Int32 → zz_T → Prop) (x1 : Int32) (x2 : Int32) (x3 : Int32) (x4 : Int32) (x5 : Int32) (t0 : Int32) (σ : zz_T) : Prop :=
    pX1_burnRow 20 1 σ (fun r55 s55 =>
    ((t0 = 0 → pX5_wrongIfResting_73  Q K17 x1 x2 x3 (x4 + r55) x5 s55) ∧
    (¬ t0 = 0 → pX1_loseHeat 20 s55 (fun s70 =>
    pX5_wrongIfResting_73  Q K17 x1 x2 x3 (x4 + r55) x5 s70))))
set_option maxHeartbeats 4000000 in
set_option maxRecDepth 100000 in
theorem vX5_wrongIfResting_46 {p : Program} {l : Launch} {e : Env} {s : State} {m : MethodId} {args : Array Value} {below : List Frame} {meth : Method} {c : Code} {Y : zz_Y}  {Q : Int32 → zz_T → Prop} {K17 : Int32 → Int32 → Int32 → Int32 → Int32 → zz_T → Prop} (X : zz_X p m c cX5_wrongIfResting 7 s args RX5) (hr : meth.sig.returnType = (some .int)) (hlk : meth.locks = false) (hJ : zz_J Y) (hY : zz_ho Y) (hK17 : ∀ (x1 : Int32) (x2 : Int32) (x3 : Int32) (x4 : Int32) (x5 : Int32) (σ : zz_T), K17 x1 x2 x3 x4 x5 σ → zz_V p l e rmX5_wrongIfResting s m args below meth c (MQ below (va_Qi Q (zz_E Y) (zz_A Y)) args s 0 0 (zz_A Y)) 7 Y σ 17 [(0, .ref (Y.2.1 0)), (1, .int x1), (2, .int x2), (3, .int x3), (4, .int x4), (5, .int x5)] []) : ∀ (x1 : Int32) (x2 : Int32) (x3 : Int32) (x4 : Int32) (x5 : Int32) (t0 : Int32) (σ : zz_T), pX5_wrongIfResting_46  Q K17 x1 x2 x3 x4 x5 t0 σ → zz_V p l e rmX5_wrongIfResting s m args below meth c (MQ below (va_Qi Q (zz_E Y) (zz_A Y)) args s 0 0 (zz_A Y)) 7 Y σ 46 [(0, .ref (Y.2.1 0)), (1, .int x1), (2, .int x2), (3, .int x3), (4, .int x4), (5, .int x5)] [.int t0] := by
  intro x1 x2 x3 x4 x5 t0 σ h 
  unfold pX5_wrongIfResting_46 at h
  refine zv_istore (lv2 := [(6, .int t0), (0, .ref (Y.2.1 0)), (1, .int x1), (2, .int x2), (3, .int x3), (4, .int x4), (5, .int x5)]) X dX5_wrongIfResting_46 (by decide) rfl rfl ?_
  refine zv_iload X dX5_wrongIfResting_48 5 rfl rfl ?_
  refine zv_aload_n X dX5_wrongIfResting_50 1 rfl rfl rfl ?_
  refine zg_X5_2 (k := 0) X (zz_ho_o hY).1 (zz_ho_o hY).2 fl_X5_23 dX5_wrongIfResting_51 rfl ?_
  refine zv_iconst (v := 1) X dX5_wrongIfResting_54 (by decide) rfl ?_
  refine zv_cVi (k := 20) (ci := 1) X [.int 1] (kX1_burnRow l hJ 1 (zz_ho_trial hY) h) jl_X5_160 ⟨rfl, rfl⟩ ⟨Nat.le_of_ble_eq_true rfl, Nat.le_of_ble_eq_true rfl⟩ (zz_ho_trial hY).1.1 (by decide) (zz_ho_trial hY).1.2 rfl rfl rfl (Nat.le_of_ble_eq_true rfl) dX5_wrongIfResting_55 rfl (fun r55 s55 h => ?_)
  refine zv_iadd X dX5_wrongIfResting_58 rfl ?_
  refine zv_istore (lv2 := [(4, .int (x4 + r55)), (6, .int t0), (0, .ref (Y.2.1 0)), (1, .int x1), (2, .int x2), (3, .int x3), (5, .int x5)]) X dX5_wrongIfResting_59 (by decide) rfl rfl ?_
  refine zv_iload X dX5_wrongIfResting_61 1 rfl rfl ?_
  refine zv_if_eq (tgt := 73) X dX5_wrongIfResting_63 (by decide) rfl (fun q63 => ?_) (fun q63 => ?_)
  · replace h := h.1 q63
    refine zv_sub (lv2 := [(0, .ref (Y.2.1 0)), (1, .int x1), (2, .int x2), (3, .int x3), (4, .int (x4 + r55)), (5, .int x5)]) [2, 3, 4, 5, 0, 6] rfl ?_
    exact vX5_wrongIfResting_73 X hr hlk hJ hY hK17 x1 x2 x3 (x4 + r55) x5 _ h
  · replace h := h.2 q63
    refine zv_aload_n X dX5_wrongIfResting_66 2 rfl rfl rfl ?_
    refine zg_X5_2 (k := 0) X (zz_ho_o hY).1 (zz_ho_o hY).2 fl_X5_23 dX5_wrongIfResting_67 rfl ?_
    refine zv_cVv (k := 20) (ci := 1) X [] (kX1_loseHeat l hJ  (zz_ho_trial hY) h) jl_X5_318 ⟨rfl, rfl⟩ ⟨Nat.le_of_ble_eq_true rfl, Nat.le_of_ble_eq_true rfl⟩ (zz_ho_trial hY).1.1 (by decide) (zz_ho_trial hY).1.2 rfl rfl rfl (Nat.le_of_ble_eq_true rfl) dX5_wrongIfResting_70 rfl (fun s70 h => ?_)
    refine zv_sub (lv2 := [(0, .ref (Y.2.1 0)), (1, .int x1), (2, .int x2), (3, .int x3), (4, .int (x4 + r55)), (5, .int x5)]) [2, 3, 4, 5, 0, 6] rfl ?_
    exact vX5_wrongIfResting_73 X hr hlk hJ hY hK17 x1 x2 x3 (x4 + r55) x5 _ h
def pX5_wrongIfResting_17  (Q : Int32 → zz_T → Prop) : Nat → Int32 → Int32 → Int32 → Int32 → Int32 → zz_T → Prop
  | 0, _, _, _, _, _, _ => False
  | n + 1, x1, x2, x3, x4, x5, σ =>
    ((x2 ≤ x5 → Q x4 σ) ∧
    (¬ x2 ≤ x5 → ((x3 ≤ x4 → Q x4 σ) ∧
    (¬ x3 ≤ x4 → pX1_lineIn 20 0 σ (fun r34 s34 =>
    ((r34 = x1 → pX5_wrongIfResting_46  Q (pX5_wrongIfResting_17  Q n) x1 x2 x3 x4 x5 1 s34) ∧
    (¬ r34 = x1 → pX5_wrongIfResting_46  Q (pX5_wrongIfResting_17  Q n) x1 x2 x3 x4 x5 0 s34)))))))
set_option maxHeartbeats 4000000 in
set_option maxRecDepth 100000 in
theorem vX5_wrongIfResting_17 {p : Program} {l : Launch} {e : Env} {s : State} {m : MethodId} {args : Array Value} {below : List Frame} {meth : Method} {c : Code} {Y : zz_Y}  {Q : Int32 → zz_T → Prop} (X : zz_X p m c cX5_wrongIfResting 7 s args RX5) (hr : meth.sig.returnType = (some .int)) (hlk : meth.locks = false) (hJ : zz_J Y) (hY : zz_ho Y)  : ∀ (n : Nat) (x1 : Int32) (x2 : Int32) (x3 : Int32) (x4 : Int32) (x5 : Int32) (σ : zz_T), pX5_wrongIfResting_17  Q n x1 x2 x3 x4 x5 σ → zz_V p l e rmX5_wrongIfResting s m args below meth c (MQ below (va_Qi Q (zz_E Y) (zz_A Y)) args s 0 0 (zz_A Y)) 7 Y σ 17 [(0, .ref (Y.2.1 0)), (1, .int x1), (2, .int x2), (3, .int x3), (4, .int x4), (5, .int x5)] [] := by
  intro n
  induction n with
  | zero => intro x1 x2 x3 x4 x5 σ h; exact h.elim
  | succ n ih =>
    intro x1 x2 x3 x4 x5 σ h 
    unfold pX5_wrongIfResting_17 at h
    refine zv_iload X dX5_wrongIfResting_17 5 rfl rfl ?_
    refine zv_iload_n X dX5_wrongIfResting_19 2 rfl rfl rfl ?_
    refine zv_icmp_ge (tgt := 79) X dX5_wrongIfResting_20 (by decide) rfl (fun q20 => ?_) (fun q20 => ?_)
    · replace h := h.1 q20
      refine zv_iload X dX5_wrongIfResting_79 4 rfl rfl ?_
      exact zv_iret X hr hlk h dX5_wrongIfResting_81
    · replace h := h.2 q20
      refine zv_iload X dX5_wrongIfResting_23 4 rfl rfl ?_
      refine zv_iload_n X dX5_wrongIfResting_25 3 rfl rfl rfl ?_
      refine zv_icmp_ge (tgt := 79) X dX5_wrongIfResting_26 (by decide) rfl (fun q26 => ?_) (fun q26 => ?_)
      · replace h := h.1 q26
        refine zv_iload X dX5_wrongIfResting_79 4 rfl rfl ?_
        exact zv_iret X hr hlk h dX5_wrongIfResting_81
      · replace h := h.2 q26
        refine zv_aload_n X dX5_wrongIfResting_29 0 rfl rfl rfl ?_
        refine zg_X5_2 (k := 0) X (zz_ho_o hY).1 (zz_ho_o hY).2 fl_X5_23 dX5_wrongIfResting_30 rfl ?_
        refine zv_iconst (v := 0) X dX5_wrongIfResting_33 (by decide) rfl ?_
        refine zv_cVi (k := 20) (ci := 1) X [.int 0] (kX1_lineIn l hJ 0 (zz_ho_trial hY) h) jl_X5_315 ⟨rfl, rfl⟩ ⟨Nat.le_of_ble_eq_true rfl, Nat.le_of_ble_eq_true rfl⟩ (zz_ho_trial hY).1.1 (by decide) (zz_ho_trial hY).1.2 rfl rfl rfl (Nat.le_of_ble_eq_true rfl) dX5_wrongIfResting_34 rfl (fun r34 s34 h => ?_)
        refine zv_iload_n X dX5_wrongIfResting_37 1 rfl rfl rfl ?_
        refine zv_icmp_ne (tgt := 45) X dX5_wrongIfResting_38 (by decide) rfl (fun q38 => ?_) (fun q38 => ?_)
        · replace h := h.2 q38
          refine zv_iconst (v := 0) X dX5_wrongIfResting_45 (by decide) rfl ?_
          exact vX5_wrongIfResting_46 X hr hlk hJ hY ih x1 x2 x3 x4 x5 0 _ h
        · replace h := h.1 q38
          refine zv_iconst (v := 1) X dX5_wrongIfResting_41 (by decide) rfl ?_
          refine zv_goto (tgt := 46) X dX5_wrongIfResting_42 (by decide) ?_
          exact vX5_wrongIfResting_46 X hr hlk hJ hY ih x1 x2 x3 x4 x5 1 _ h
def pX5_wrongIfResting (x1 : Int32) (x2 : Int32) (x3 : Int32) (σ : zz_T) (Q : Int32 → zz_T → Prop) : Prop :=
    pX1_copyFrom 20 3 σ (fun s8 =>
    ∃ n17, pX5_wrongIfResting_17  Q n17 x1 x2 x3 0 0 s8)
set_option maxHeartbeats 4000000 in
set_option maxRecDepth 100000 in
theorem kX5_wrongIfResting (l : Launch) {Y : zz_Y} (hJ : zz_J Y) (x1 : Int32) (x2 : Int32) (x3 : Int32) (hY : zz_ho Y) {σ : zz_T} {Q : Int32 → zz_T → Prop} (h : pX5_wrongIfResting x1 x2 x3 σ Q) : zz_Mi l yX5_wrongIfResting cX5_wrongIfResting 7 (some .int) rmX5_wrongIfResting Y [.ref (Y.2.1 0), .int x1, .int x2, .int x3] σ Q := by
  refine zz_Mi.start (by decide) hJ (Nat.le_of_ble_eq_true rfl) (fun p e s m below meth c X hr hlk => ?_)
  have X : zz_X p m c cX5_wrongIfResting 7 s _ RX5 := X
  refine zv_sub (lv2 := [(0, .ref (Y.2.1 0)), (1, .int x1), (2, .int x2), (3, .int x3)]) [0, 1, 2, 3] rfl ?_
  unfold pX5_wrongIfResting at h
  refine zv_aload_n X dX5_wrongIfResting_0 0 rfl rfl rfl ?_
  refine zg_X5_2 (k := 0) X (zz_ho_o hY).1 (zz_ho_o hY).2 fl_X5_23 dX5_wrongIfResting_1 rfl ?_
  refine zv_aload_n X dX5_wrongIfResting_4 0 rfl rfl rfl ?_
  refine zg_X5_1 (k := 0) X (zz_ho_o hY).1 (zz_ho_o hY).2 fl_X5_19 dX5_wrongIfResting_5 rfl ?_
  refine zv_cVv (k := 20) (ci := 1) X [.ref (Y.2.1 3)] (kX1_copyFrom l hJ  (zz_ho_trial hY) (zz_ho_now hY) h) jl_X5_80 ⟨rfl, rfl⟩ ⟨Nat.le_of_ble_eq_true rfl, Nat.le_of_ble_eq_true rfl⟩ (zz_ho_trial hY).1.1 (by decide) (zz_ho_trial hY).1.2 rfl rfl rfl (Nat.le_of_ble_eq_true rfl) dX5_wrongIfResting_8 rfl (fun s8 h => ?_)
  refine zv_iconst (v := 0) X dX5_wrongIfResting_11 (by decide) rfl ?_
  refine zv_istore (lv2 := [(4, .int 0), (0, .ref (Y.2.1 0)), (1, .int x1), (2, .int x2), (3, .int x3)]) X dX5_wrongIfResting_12 (by decide) rfl rfl ?_
  refine zv_iconst (v := 0) X dX5_wrongIfResting_14 (by decide) rfl ?_
  refine zv_istore (lv2 := [(5, .int 0), (4, .int 0), (0, .ref (Y.2.1 0)), (1, .int x1), (2, .int x2), (3, .int x3)]) X dX5_wrongIfResting_15 (by decide) rfl rfl ?_
  obtain ⟨n17, h⟩ := h
  refine zv_sub (lv2 := [(0, .ref (Y.2.1 0)), (1, .int x1), (2, .int x2), (3, .int x3), (4, .int 0), (5, .int 0)]) [2, 3, 4, 5, 1, 0] rfl ?_
  exact vX5_wrongIfResting_17 X hr hlk hJ hY n17 x1 x2 x3 0 0 _ h
def rmX5_rest : Room := { frames := 5, cells := 0, slots := 0, locals := 127 }
def pX5_rest_96  (Q : Int32 → zz_T → Prop) (x4 : Int32) (σ : zz_T) : Prop :=
    Q x4 σ
set_option maxHeartbeats 4000000 in
set_option maxRecDepth 100000 in
theorem vX5_rest_96 {p : Program} {l : Launch} {e : Env} {s : State} {m : MethodId} {args : Array Value} {below : List Frame} {meth : Method} {c : Code} {Y : zz_Y}  {Q : Int32 → zz_T → Prop} (X : zz_X p m c cX5_rest 7 s args RX5) (hr : meth.sig.returnType = (some .int)) (hlk : meth.locks = false) (hJ : zz_J Y) (hY : zz_ho Y)  : ∀ (x4 : Int32) (σ : zz_T), pX5_rest_96  Q x4 σ → zz_V p l e rmX5_rest s m args below meth c (MQ below (va_Qi Q (zz_E Y) (zz_A Y)) args s 0 0 (zz_A Y)) 7 Y σ 96 [(4, .int x4)] [] := by
  intro x4 σ h 
  unfold pX5_rest_96 at h
  refine zv_iload X dX5_rest_96 0 rfl rfl ?_
  refine zv_goto (tgt := 102) X dX5_rest_98 (by decide) ?_
  exact zv_iret X hr hlk h dX5_rest_102
def pX5_rest_79  (Q : Int32 → zz_T → Prop) (K44 : Int32 → Int32 → Int32 → Int32 → Int32 → zz_T → Prop) (x1 : Int32) (x2 : Int32) (x3 : Int32) (x4 : Int32) (x5 : Int32) (σ : zz_T) : Prop :=
    K44 x1 x2 x3 x4 (x5 + 1) σ
set_option maxHeartbeats 4000000 in
set_option maxRecDepth 100000 in
theorem vX5_rest_79 {p : Program} {l : Launch} {e : Env} {s : State} {m : MethodId} {args : Array Value} {below : List Frame} {meth : Method} {c : Code} {Y : zz_Y}  {Q : Int32 → zz_T → Prop} {K44 : Int32 → Int32 → Int32 → Int32 → Int32 → zz_T → Prop} (X : zz_X p m c cX5_rest 7 s args RX5) (hr : meth.sig.returnType = (some .int)) (hlk : meth.locks = false) (hJ : zz_J Y) (hY : zz_ho Y) (hK44 : ∀ (x1 : Int32) (x2 : Int32) (x3 : Int32) (x4 : Int32) (x5 : Int32) (σ : zz_T), K44 x1 x2 x3 x4 x5 σ → zz_V p l e rmX5_rest s m args below meth c (MQ below (va_Qi Q (zz_E Y) (zz_A Y)) args s 0 0 (zz_A Y)) 7 Y σ 44 [(0, .ref (Y.2.1 0)), (1, .int x1), (2, .int x2), (3, .int x3), (4, .int x4), (5, .int x5)] []) : ∀ (x1 : Int32) (x2 : Int32) (x3 : Int32) (x4 : Int32) (x5 : Int32) (σ : zz_T), pX5_rest_79  Q K44 x1 x2 x3 x4 x5 σ → zz_V p l e rmX5_rest s m args below meth c (MQ below (va_Qi Q (zz_E Y) (zz_A Y)) args s 0 0 (zz_A Y)) 7 Y σ 79 [(0, .ref (Y.2.1 0)), (1, .int x1), (2, .int x2), (3, .int x3), (4, .int x4), (5, .int x5)] [] := by
  intro x1 x2 x3 x4 x5 σ h 
  unfold pX5_rest_79 at h
  refine zv_iinc (v := (x5 + 1)) (lv2 := [(5, .int (x5 + 1)), (0, .ref (Y.2.1 0)), (1, .int x1), (2, .int x2), (3, .int x3), (4, .int x4)]) X dX5_rest_79 5 rfl rfl (by decide) rfl rfl ?_
  refine zv_goto (tgt := 44) X dX5_rest_82 (by decide) ?_
  refine zv_sub (lv2 := [(0, .ref (Y.2.1 0)), (1, .int x1), (2, .int x2), (3, .int x3), (4, .int x4), (5, .int (x5 + 1))]) [1, 2, 3, 4, 5, 0] rfl ?_
  exact hK44 x1 x2 x3 x4 (x5 + 1) _ h
def pX5_rest_44  (Q : Int32 → zz_T → Prop) : Nat → Int32 → Int32 → Int32 → Int32 → Int32 → zz_T → Prop
  | 0, _, _, _, _, _, _ => False
  | n + 1, x1, x2, x3, x4, x5, σ =>
    (((σ.1 3 5) ≤ x5 → ((x2 = 0 → pX5_rest_96  Q x4 σ) ∧
    (¬ x2 = 0 → ((x4 = (-4) → pX5_rest_96  Q x4 σ) ∧
    (¬ x4 = (-4) → Q x3 σ))))) ∧
    (¬ (σ.1 3 5) ≤ x5 → pX5_wrongIfResting x5 x1 x3 σ (fun r61 s61 =>
    ((x3 ≤ r61 → pX5_rest_79  Q (pX5_rest_44  Q n) x1 x2 x3 x4 x5 s61) ∧
    (¬ x3 ≤ r61 → pX5_rest_79  Q (pX5_rest_44  Q n) x1 x2 r61 x5 x5 s61)))))
set_option maxHeartbeats 4000000 in
set_option maxRecDepth 100000 in
theorem vX5_rest_44 {p : Program} {l : Launch} {e : Env} {s : State} {m : MethodId} {args : Array Value} {below : List Frame} {meth : Method} {c : Code} {Y : zz_Y}  {Q : Int32 → zz_T → Prop} (X : zz_X p m c cX5_rest 7 s args RX5) (hr : meth.sig.returnType = (some .int)) (hlk : meth.locks = false) (hJ : zz_J Y) (hY : zz_ho Y)  : ∀ (n : Nat) (x1 : Int32) (x2 : Int32) (x3 : Int32) (x4 : Int32) (x5 : Int32) (σ : zz_T), pX5_rest_44  Q n x1 x2 x3 x4 x5 σ → zz_V p l e rmX5_rest s m args below meth c (MQ below (va_Qi Q (zz_E Y) (zz_A Y)) args s 0 0 (zz_A Y)) 7 Y σ 44 [(0, .ref (Y.2.1 0)), (1, .int x1), (2, .int x2), (3, .int x3), (4, .int x4), (5, .int x5)] [] := by
  intro n
  induction n with
  | zero => intro x1 x2 x3 x4 x5 σ h; exact h.elim
  | succ n ih =>
    intro x1 x2 x3 x4 x5 σ h 
    unfold pX5_rest_44 at h
    refine zv_iload X dX5_rest_44 5 rfl rfl ?_
    refine zv_aload_n X dX5_rest_46 0 rfl rfl rfl ?_
    refine zg_X5_1 (k := 0) X (zz_ho_o hY).1 (zz_ho_o hY).2 fl_X5_19 dX5_rest_47 rfl ?_
    refine zg_X1_5 (k := 3) X (zz_ho_now hY).1.1 (zz_ho_now hY).1.2 fl_X5_87 dX5_rest_50 rfl ?_
    refine zv_icmp_ge (tgt := 85) X dX5_rest_53 (by decide) rfl (fun q53 => ?_) (fun q53 => ?_)
    · replace h := h.1 q53
      refine zv_iload_n X dX5_rest_85 2 rfl rfl rfl ?_
      refine zv_if_eq (tgt := 96) X dX5_rest_86 (by decide) rfl (fun q86 => ?_) (fun q86 => ?_)
      · replace h := h.1 q86
        refine zv_sub (lv2 := [(4, .int x4)]) [4] rfl ?_
        exact vX5_rest_96 X hr hlk hJ hY x4 _ h
      · replace h := h.2 q86
        refine zv_iload X dX5_rest_89 4 rfl rfl ?_
        refine zv_bipush (v := (-4)) X dX5_rest_91 (by decide) rfl ?_
        refine zv_icmp_ne (tgt := 101) X dX5_rest_93 (by decide) rfl (fun q93 => ?_) (fun q93 => ?_)
        · replace h := h.2 q93
          refine zv_iload_n X dX5_rest_101 3 rfl rfl rfl ?_
          exact zv_iret X hr hlk h dX5_rest_102
        · replace h := h.1 q93
          refine zv_sub (lv2 := [(4, .int x4)]) [4] rfl ?_
          exact vX5_rest_96 X hr hlk hJ hY x4 _ h
    · replace h := h.2 q53
      refine zv_aload_n X dX5_rest_56 0 rfl rfl rfl ?_
      refine zv_iload X dX5_rest_57 5 rfl rfl ?_
      refine zv_iload_n X dX5_rest_59 1 rfl rfl rfl ?_
      refine zv_iload_n X dX5_rest_60 3 rfl rfl rfl ?_
      refine zv_cVi (k := 0) (ci := 5) X [.int x5, .int x1, .int x3] (kX5_wrongIfResting l hJ x5 x1 x3 hY h) jl_X5_200 ⟨rfl, rfl⟩ ⟨Nat.le_of_ble_eq_true rfl, Nat.le_of_ble_eq_true rfl⟩ (zz_ho_o hY).1 (by decide) (zz_ho_o hY).2 rfl rfl rfl (Nat.le_of_ble_eq_true rfl) dX5_rest_61 rfl (fun r61 s61 h => ?_)
      refine zv_istore (lv2 := [(6, .int r61), (0, .ref (Y.2.1 0)), (1, .int x1), (2, .int x2), (3, .int x3), (4, .int x4), (5, .int x5)]) X dX5_rest_64 (by decide) rfl rfl ?_
      refine zv_iload X dX5_rest_66 0 rfl rfl ?_
      refine zv_iload_n X dX5_rest_68 4 rfl rfl rfl ?_
      refine zv_icmp_ge (tgt := 79) X dX5_rest_69 (by decide) rfl (fun q69 => ?_) (fun q69 => ?_)
      · replace h := h.1 q69
        refine zv_sub (lv2 := [(0, .ref (Y.2.1 0)), (1, .int x1), (2, .int x2), (3, .int x3), (4, .int x4), (5, .int x5)]) [1, 2, 3, 4, 5, 6] rfl ?_
        exact vX5_rest_79 X hr hlk hJ hY ih x1 x2 x3 x4 x5 _ h
      · replace h := h.2 q69
        refine zv_iload X dX5_rest_72 0 rfl rfl ?_
        refine zv_istore_n (lv2 := [(3, .int r61), (6, .int r61), (0, .ref (Y.2.1 0)), (1, .int x1), (2, .int x2), (4, .int x4), (5, .int x5)]) X dX5_rest_74 rfl (by decide) rfl rfl ?_
        refine zv_iload X dX5_rest_75 6 rfl rfl ?_
        refine zv_istore (lv2 := [(4, .int x5), (3, .int r61), (6, .int r61), (0, .ref (Y.2.1 0)), (1, .int x1), (2, .int x2), (5, .int x5)]) X dX5_rest_77 (by decide) rfl rfl ?_
        refine zv_sub (lv2 := [(0, .ref (Y.2.1 0)), (1, .int x1), (2, .int x2), (3, .int r61), (4, .int x5), (5, .int x5)]) [3, 4, 5, 1, 0, 6] rfl ?_
        exact vX5_rest_79 X hr hlk hJ hY ih x1 x2 r61 x5 x5 _ h
def pX5_rest (x1 : Int32) (x2 : Int32) (σ : zz_T) (Q : Int32 → zz_T → Prop) : Prop :=
    pX5_badRows x1 σ (fun r1 s1 =>
    ((r1 = 0 → pX5_outside x2 0 1 s1 (fun r10 s10 =>
    ((r10 = 0 → pX1_copyFrom 20 3 s10 (fun s26 =>
    pX5_wrongInTrial x1 1000000 s26 (fun r33 s33 =>
    ∃ n44, pX5_rest_44  Q n44 x1 x2 r33 (-4) 0 s33))) ∧
    (¬ r10 = 0 → Q (-1) s10)))) ∧
    (¬ r1 = 0 → Q (-1) s1)))
set_option maxHeartbeats 4000000 in
set_option maxRecDepth 100000 in
theorem kX5_rest (l : Launch) {Y : zz_Y} (hJ : zz_J Y) (x1 : Int32) (x2 : Int32) (hY : zz_ho Y) {σ : zz_T} {Q : Int32 → zz_T → Prop} (h : pX5_rest x1 x2 σ Q) : zz_Mi l yX5_rest cX5_rest 7 (some .int) rmX5_rest Y [.ref (Y.2.1 0), .int x1, .int x2] σ Q := by
  refine zz_Mi.start (by decide) hJ (Nat.le_of_ble_eq_true rfl) (fun p e s m below meth c X hr hlk => ?_)
  have X : zz_X p m c cX5_rest 7 s _ RX5 := X
  refine zv_sub (lv2 := [(0, .ref (Y.2.1 0)), (1, .int x1), (2, .int x2)]) [0, 1, 2] rfl ?_
  unfold pX5_rest at h
  refine zv_iload_n X dX5_rest_0 1 rfl rfl rfl ?_
  refine zv_cSi X [.int x1] (kX5_badRows l hJ x1  h) jl_X5_157 ⟨rfl, rfl⟩ ⟨Nat.le_of_ble_eq_true rfl, Nat.le_of_ble_eq_true rfl⟩ rfl rfl (Nat.le_of_ble_eq_true rfl) dX5_rest_1 rfl (fun r1 s1 h => ?_)
  refine zv_if_ne (tgt := 16) X dX5_rest_4 (by decide) rfl (fun q4 => ?_) (fun q4 => ?_)
  · replace h := h.2 q4
    refine zv_iconst (v := (-1)) X dX5_rest_16 (by decide) rfl ?_
    exact zv_iret X hr hlk h dX5_rest_17
  · replace h := h.1 q4
    refine zv_iload_n X dX5_rest_7 2 rfl rfl rfl ?_
    refine zv_iconst (v := 0) X dX5_rest_8 (by decide) rfl ?_
    refine zv_iconst (v := 1) X dX5_rest_9 (by decide) rfl ?_
    refine zv_cSi X [.int x2, .int 0, .int 1] (kX5_outside l hJ x2 0 1  h) jl_X5_58 ⟨rfl, rfl⟩ ⟨Nat.le_of_ble_eq_true rfl, Nat.le_of_ble_eq_true rfl⟩ rfl rfl (Nat.le_of_ble_eq_true rfl) dX5_rest_10 rfl (fun r10 s10 h => ?_)
    refine zv_if_eq (tgt := 18) X dX5_rest_13 (by decide) rfl (fun q13 => ?_) (fun q13 => ?_)
    · replace h := h.1 q13
      refine zv_aload_n X dX5_rest_18 0 rfl rfl rfl ?_
      refine zg_X5_2 (k := 0) X (zz_ho_o hY).1 (zz_ho_o hY).2 fl_X5_23 dX5_rest_19 rfl ?_
      refine zv_aload_n X dX5_rest_22 0 rfl rfl rfl ?_
      refine zg_X5_1 (k := 0) X (zz_ho_o hY).1 (zz_ho_o hY).2 fl_X5_19 dX5_rest_23 rfl ?_
      refine zv_cVv (k := 20) (ci := 1) X [.ref (Y.2.1 3)] (kX1_copyFrom l hJ  (zz_ho_trial hY) (zz_ho_now hY) h) jl_X5_80 ⟨rfl, rfl⟩ ⟨Nat.le_of_ble_eq_true rfl, Nat.le_of_ble_eq_true rfl⟩ (zz_ho_trial hY).1.1 (by decide) (zz_ho_trial hY).1.2 rfl rfl rfl (Nat.le_of_ble_eq_true rfl) dX5_rest_26 rfl (fun s26 h => ?_)
      refine zv_aload_n X dX5_rest_29 0 rfl rfl rfl ?_
      refine zv_iload_n X dX5_rest_30 1 rfl rfl rfl ?_
      refine zv_ldc (v := 1000000) X dX5_rest_31 co_X5_193 rfl ?_
      refine zv_cVi (k := 0) (ci := 5) X [.int x1, .int 1000000] (kX5_wrongInTrial l hJ x1 1000000 hY h) jl_X5_194 ⟨rfl, rfl⟩ ⟨Nat.le_of_ble_eq_true rfl, Nat.le_of_ble_eq_true rfl⟩ (zz_ho_o hY).1 (by decide) (zz_ho_o hY).2 rfl rfl rfl (Nat.le_of_ble_eq_true rfl) dX5_rest_33 rfl (fun r33 s33 h => ?_)
      refine zv_istore_n (lv2 := [(3, .int r33), (0, .ref (Y.2.1 0)), (1, .int x1), (2, .int x2)]) X dX5_rest_36 rfl (by decide) rfl rfl ?_
      refine zv_bipush (v := (-4)) X dX5_rest_37 (by decide) rfl ?_
      refine zv_istore (lv2 := [(4, .int (-4)), (3, .int r33), (0, .ref (Y.2.1 0)), (1, .int x1), (2, .int x2)]) X dX5_rest_39 (by decide) rfl rfl ?_
      refine zv_iconst (v := 0) X dX5_rest_41 (by decide) rfl ?_
      refine zv_istore (lv2 := [(5, .int 0), (4, .int (-4)), (3, .int r33), (0, .ref (Y.2.1 0)), (1, .int x1), (2, .int x2)]) X dX5_rest_42 (by decide) rfl rfl ?_
      obtain ⟨n44, h⟩ := h
      refine zv_sub (lv2 := [(0, .ref (Y.2.1 0)), (1, .int x1), (2, .int x2), (3, .int r33), (4, .int (-4)), (5, .int 0)]) [3, 4, 5, 2, 1, 0] rfl ?_
      exact vX5_rest_44 X hr hlk hJ hY n44 x1 x2 r33 (-4) 0 _ h
    · replace h := h.2 q13
      refine zv_iconst (v := (-1)) X dX5_rest_16 (by decide) rfl ?_
      exact zv_iret X hr hlk h dX5_rest_17
def rmX5_badOdds : Room := { frames := 1, cells := 0, slots := 0, locals := 22 }
def pX5_badOdds_29  (Q : Int32 → zz_T → Prop) (σ : zz_T) : Prop :=
    (zz_bo 1 ∧ Q 1 σ)
set_option maxHeartbeats 4000000 in
set_option maxRecDepth 100000 in
theorem vX5_badOdds_29 {p : Program} {l : Launch} {e : Env} {s : State} {m : MethodId} {args : Array Value} {below : List Frame} {meth : Method} {c : Code} {Y : zz_Y}  {Q : Int32 → zz_T → Prop} (X : zz_X p m c cX5_badOdds 3 s args RX5) (hr : meth.sig.returnType = (some .boolean)) (hlk : meth.locks = false) (hJ : zz_J Y)   : ∀ (σ : zz_T), pX5_badOdds_29  Q σ → zz_V p l e rmX5_badOdds s m args below meth c (MQ below (va_Qi Q (zz_E Y) (zz_A Y)) args s 0 0 (zz_A Y)) 3 Y σ 29 [] [] := by
  intro σ h 
  unfold pX5_badOdds_29 at h
  refine zv_iconst (v := 1) X dX5_badOdds_29 (by decide) rfl ?_
  refine zv_goto (tgt := 34) X dX5_badOdds_30 (by decide) ?_
  exact zv_zret X hr hlk h dX5_badOdds_34
def pX5_badOdds (x0 : Int32) (x1 : Int32) (x2 : Int32) (σ : zz_T) (Q : Int32 → zz_T → Prop) : Prop :=
    pX5_outside x0 0 10 σ (fun r4 s4 =>
    ((r4 = 0 → pX5_outside x1 0 6 s4 (fun r14 s14 =>
    ((r14 = 0 → pX5_outside x2 0 1 s14 (fun r23 s23 =>
    ((r23 = 0 → (zz_bo 0 ∧ Q 0 s23)) ∧
    (¬ r23 = 0 → pX5_badOdds_29  Q s23)))) ∧
    (¬ r14 = 0 → pX5_badOdds_29  Q s14)))) ∧
    (¬ r4 = 0 → pX5_badOdds_29  Q s4)))
set_option maxHeartbeats 4000000 in
set_option maxRecDepth 100000 in
theorem kX5_badOdds (l : Launch) {Y : zz_Y} (hJ : zz_J Y) (x0 : Int32) (x1 : Int32) (x2 : Int32)  {σ : zz_T} {Q : Int32 → zz_T → Prop} (h : pX5_badOdds x0 x1 x2 σ Q) : zz_Mi l yX5_badOdds cX5_badOdds 3 (some .boolean) rmX5_badOdds Y [.int x0, .int x1, .int x2] σ Q := by
  refine zz_Mi.start (by decide) hJ (Nat.le_of_ble_eq_true rfl) (fun p e s m below meth c X hr hlk => ?_)
  have X : zz_X p m c cX5_badOdds 3 s _ RX5 := X
  refine zv_sub (lv2 := [(0, .int x0), (1, .int x1), (2, .int x2)]) [0, 1, 2] rfl ?_
  unfold pX5_badOdds at h
  refine zv_iload_n X dX5_badOdds_0 0 rfl rfl rfl ?_
  refine zv_iconst (v := 0) X dX5_badOdds_1 (by decide) rfl ?_
  refine zv_bipush (v := 10) X dX5_badOdds_2 (by decide) rfl ?_
  refine zv_cSi X [.int x0, .int 0, .int 10] (kX5_outside l hJ x0 0 10  h) jl_X5_58 ⟨rfl, rfl⟩ ⟨Nat.le_of_ble_eq_true rfl, Nat.le_of_ble_eq_true rfl⟩ rfl rfl (Nat.le_of_ble_eq_true rfl) dX5_badOdds_4 rfl (fun r4 s4 h => ?_)
  refine zv_if_ne (tgt := 29) X dX5_badOdds_7 (by decide) rfl (fun q7 => ?_) (fun q7 => ?_)
  · replace h := h.2 q7
    refine zv_sub (lv2 := []) [] rfl ?_
    exact vX5_badOdds_29 X hr hlk hJ  _ h
  · replace h := h.1 q7
    refine zv_iload_n X dX5_badOdds_10 1 rfl rfl rfl ?_
    refine zv_iconst (v := 0) X dX5_badOdds_11 (by decide) rfl ?_
    refine zv_bipush (v := 6) X dX5_badOdds_12 (by decide) rfl ?_
    refine zv_cSi X [.int x1, .int 0, .int 6] (kX5_outside l hJ x1 0 6  h) jl_X5_58 ⟨rfl, rfl⟩ ⟨Nat.le_of_ble_eq_true rfl, Nat.le_of_ble_eq_true rfl⟩ rfl rfl (Nat.le_of_ble_eq_true rfl) dX5_badOdds_14 rfl (fun r14 s14 h => ?_)
    refine zv_if_ne (tgt := 29) X dX5_badOdds_17 (by decide) rfl (fun q17 => ?_) (fun q17 => ?_)
    · replace h := h.2 q17
      refine zv_sub (lv2 := []) [] rfl ?_
      exact vX5_badOdds_29 X hr hlk hJ  _ h
    · replace h := h.1 q17
      refine zv_iload_n X dX5_badOdds_20 2 rfl rfl rfl ?_
      refine zv_iconst (v := 0) X dX5_badOdds_21 (by decide) rfl ?_
      refine zv_iconst (v := 1) X dX5_badOdds_22 (by decide) rfl ?_
      refine zv_cSi X [.int x2, .int 0, .int 1] (kX5_outside l hJ x2 0 1  h) jl_X5_58 ⟨rfl, rfl⟩ ⟨Nat.le_of_ble_eq_true rfl, Nat.le_of_ble_eq_true rfl⟩ rfl rfl (Nat.le_of_ble_eq_true rfl) dX5_badOdds_23 rfl (fun r23 s23 h => ?_)
      refine zv_if_eq (tgt := 33) X dX5_badOdds_26 (by decide) rfl (fun q26 => ?_) (fun q26 => ?_)
      · replace h := h.1 q26
        refine zv_iconst (v := 0) X dX5_badOdds_33 (by decide) rfl ?_
        exact zv_zret X hr hlk h dX5_badOdds_34
      · replace h := h.2 q26
        refine zv_sub (lv2 := []) [] rfl ?_
        exact vX5_badOdds_29 X hr hlk hJ  _ h
def rmX5_loneIsRight : Room := { frames := 3, cells := 0, slots := 0, locals := 75 }
def pX5_loneIsRight_42  (Q : Int32 → zz_T → Prop) (K19 : Int32 → Int32 → Int32 → zz_T → Prop) (x2 : Int32) (x3 : Int32) (x4 : Int32) (t1 : Int32) (t2 : Int32) (σ : zz_T) : Prop :=
    pX5_burnLone t1 t2 σ (fun r42 s42 =>
    pX1_wantedIn 3 x4 s42 (fun r51 s51 =>
    ((r42 = r51 → K19 x2 x3 (x4 + 1) s51) ∧
    (¬ r42 = r51 → (zz_bo 0 ∧ Q 0 s51)))))
set_option maxHeartbeats 4000000 in
set_option maxRecDepth 100000 in
theorem vX5_loneIsRight_42 {p : Program} {l : Launch} {e : Env} {s : State} {m : MethodId} {args : Array Value} {below : List Frame} {meth : Method} {c : Code} {Y : zz_Y}  {Q : Int32 → zz_T → Prop} {K19 : Int32 → Int32 → Int32 → zz_T → Prop} (X : zz_X p m c cX5_loneIsRight 5 s args RX5) (hr : meth.sig.returnType = (some .boolean)) (hlk : meth.locks = false) (hJ : zz_J Y) (hY : zz_ho Y) (hK19 : ∀ (x2 : Int32) (x3 : Int32) (x4 : Int32) (σ : zz_T), K19 x2 x3 x4 σ → zz_V p l e rmX5_loneIsRight s m args below meth c (MQ below (va_Qi Q (zz_E Y) (zz_A Y)) args s 0 0 (zz_A Y)) 5 Y σ 19 [(0, .ref (Y.2.1 0)), (2, .int x2), (3, .int x3), (4, .int x4)] []) : ∀ (x2 : Int32) (x3 : Int32) (x4 : Int32) (t1 : Int32) (t2 : Int32) (σ : zz_T), pX5_loneIsRight_42  Q K19 x2 x3 x4 t1 t2 σ → zz_V p l e rmX5_loneIsRight s m args below meth c (MQ below (va_Qi Q (zz_E Y) (zz_A Y)) args s 0 0 (zz_A Y)) 5 Y σ 42 [(0, .ref (Y.2.1 0)), (2, .int x2), (3, .int x3), (4, .int x4)] [.int t2, .int t1, .ref (Y.2.1 0)] := by
  intro x2 x3 x4 t1 t2 σ h 
  unfold pX5_loneIsRight_42 at h
  refine zv_cVi (k := 0) (ci := 5) X [.int t1, .int t2] (kX5_burnLone l hJ t1 t2 hY h) jl_X5_179 ⟨rfl, rfl⟩ ⟨Nat.le_of_ble_eq_true rfl, Nat.le_of_ble_eq_true rfl⟩ (zz_ho_o hY).1 (by decide) (zz_ho_o hY).2 rfl rfl rfl (Nat.le_of_ble_eq_true rfl) dX5_loneIsRight_42 rfl (fun r42 s42 h => ?_)
  refine zv_aload_n X dX5_loneIsRight_45 0 rfl rfl rfl ?_
  refine zg_X5_1 (k := 0) X (zz_ho_o hY).1 (zz_ho_o hY).2 fl_X5_19 dX5_loneIsRight_46 rfl ?_
  refine zv_iload X dX5_loneIsRight_49 3 rfl rfl ?_
  refine zv_cVi (k := 3) (ci := 1) X [.int x4] (kX1_wantedIn l hJ x4 (zz_ho_now hY) h) jl_X5_100 ⟨rfl, rfl⟩ ⟨Nat.le_of_ble_eq_true rfl, Nat.le_of_ble_eq_true rfl⟩ (zz_ho_now hY).1.1 (by decide) (zz_ho_now hY).1.2 rfl rfl rfl (Nat.le_of_ble_eq_true rfl) dX5_loneIsRight_51 rfl (fun r51 s51 h => ?_)
  refine zv_icmp_eq (tgt := 59) X dX5_loneIsRight_54 (by decide) rfl (fun q54 => ?_) (fun q54 => ?_)
  · replace h := h.1 q54
    refine zv_iinc (v := (x4 + 1)) (lv2 := [(4, .int (x4 + 1)), (0, .ref (Y.2.1 0)), (2, .int x2), (3, .int x3)]) X dX5_loneIsRight_59 3 rfl rfl (by decide) rfl rfl ?_
    refine zv_goto (tgt := 19) X dX5_loneIsRight_62 (by decide) ?_
    refine zv_sub (lv2 := [(0, .ref (Y.2.1 0)), (2, .int x2), (3, .int x3), (4, .int (x4 + 1))]) [1, 2, 3, 0] rfl ?_
    exact hK19 x2 x3 (x4 + 1) _ h
  · replace h := h.2 q54
    refine zv_iconst (v := 0) X dX5_loneIsRight_57 (by decide) rfl ?_
    exact zv_zret X hr hlk h dX5_loneIsRight_58
def pX5_loneIsRight_19  (Q : Int32 → zz_T → Prop) : Nat → Int32 → Int32 → Int32 → zz_T → Prop
  | 0, _, _, _, _ => False
  | n + 1, x2, x3, x4, σ =>
    ((x2 ≤ x4 → (zz_bo 1 ∧ Q 1 σ)) ∧
    (¬ x2 ≤ x4 → ((((x3 >>> (x4 &&& (31 : Int32))) &&& 1) = 0 → pX5_loneIsRight_42  Q (pX5_loneIsRight_19  Q n) x2 x3 x4 x4 1 σ) ∧
    (¬ ((x3 >>> (x4 &&& (31 : Int32))) &&& 1) = 0 → pX5_loneIsRight_42  Q (pX5_loneIsRight_19  Q n) x2 x3 x4 x4 0 σ))))
set_option maxHeartbeats 4000000 in
set_option maxRecDepth 100000 in
theorem vX5_loneIsRight_19 {p : Program} {l : Launch} {e : Env} {s : State} {m : MethodId} {args : Array Value} {below : List Frame} {meth : Method} {c : Code} {Y : zz_Y}  {Q : Int32 → zz_T → Prop} (X : zz_X p m c cX5_loneIsRight 5 s args RX5) (hr : meth.sig.returnType = (some .boolean)) (hlk : meth.locks = false) (hJ : zz_J Y) (hY : zz_ho Y)  : ∀ (n : Nat) (x2 : Int32) (x3 : Int32) (x4 : Int32) (σ : zz_T), pX5_loneIsRight_19  Q n x2 x3 x4 σ → zz_V p l e rmX5_loneIsRight s m args below meth c (MQ below (va_Qi Q (zz_E Y) (zz_A Y)) args s 0 0 (zz_A Y)) 5 Y σ 19 [(0, .ref (Y.2.1 0)), (2, .int x2), (3, .int x3), (4, .int x4)] [] := by
  intro n
  induction n with
  | zero => intro x2 x3 x4 σ h; exact h.elim
  | succ n ih =>
    intro x2 x3 x4 σ h 
    unfold pX5_loneIsRight_19 at h
    refine zv_iload X dX5_loneIsRight_19 3 rfl rfl ?_
    refine zv_iload_n X dX5_loneIsRight_21 1 rfl rfl rfl ?_
    refine zv_icmp_ge (tgt := 65) X dX5_loneIsRight_22 (by decide) rfl (fun q22 => ?_) (fun q22 => ?_)
    · replace h := h.1 q22
      refine zv_iconst (v := 1) X dX5_loneIsRight_65 (by decide) rfl ?_
      exact zv_zret X hr hlk h dX5_loneIsRight_66
    · replace h := h.2 q22
      refine zv_aload_n X dX5_loneIsRight_25 0 rfl rfl rfl ?_
      refine zv_iload X dX5_loneIsRight_26 3 rfl rfl ?_
      refine zv_iload_n X dX5_loneIsRight_28 2 rfl rfl rfl ?_
      refine zv_iload X dX5_loneIsRight_29 3 rfl rfl ?_
      refine zv_ishr X dX5_loneIsRight_31 rfl ?_
      refine zv_iconst (v := 1) X dX5_loneIsRight_32 (by decide) rfl ?_
      refine zv_iand X dX5_loneIsRight_33 rfl ?_
      refine zv_if_ne (tgt := 41) X dX5_loneIsRight_34 (by decide) rfl (fun q34 => ?_) (fun q34 => ?_)
      · replace h := h.2 q34
        refine zv_iconst (v := 0) X dX5_loneIsRight_41 (by decide) rfl ?_
        exact vX5_loneIsRight_42 X hr hlk hJ hY ih x2 x3 x4 x4 0 _ h
      · replace h := h.1 q34
        refine zv_iconst (v := 1) X dX5_loneIsRight_37 (by decide) rfl ?_
        refine zv_goto (tgt := 42) X dX5_loneIsRight_38 (by decide) ?_
        exact vX5_loneIsRight_42 X hr hlk hJ hY ih x2 x3 x4 x4 1 _ h
def pX5_loneIsRight (x1 : Int32) (x2 : Int32) (x3 : Int32) (σ : zz_T) (Q : Int32 → zz_T → Prop) : Prop :=
    vp_in x1 3 ∧
    pX0_copyFrom 37 (11 + 3 * (Int32.toNatClampNeg x1)) σ (fun s13 =>
    ∃ n19, pX5_loneIsRight_19  Q n19 x2 x3 0 s13)
set_option maxHeartbeats 4000000 in
set_option maxRecDepth 100000 in
theorem kX5_loneIsRight (l : Launch) {Y : zz_Y} (hJ : zz_J Y) (x1 : Int32) (x2 : Int32) (x3 : Int32) (hY : zz_ho Y) {σ : zz_T} {Q : Int32 → zz_T → Prop} (h : pX5_loneIsRight x1 x2 x3 σ Q) : zz_Mi l yX5_loneIsRight cX5_loneIsRight 5 (some .boolean) rmX5_loneIsRight Y [.ref (Y.2.1 0), .int x1, .int x2, .int x3] σ Q := by
  refine zz_Mi.start (by decide) hJ (Nat.le_of_ble_eq_true rfl) (fun p e s m below meth c X hr hlk => ?_)
  have X : zz_X p m c cX5_loneIsRight 5 s _ RX5 := X
  refine zv_sub (lv2 := [(0, .ref (Y.2.1 0)), (1, .int x1), (2, .int x2), (3, .int x3)]) [0, 1, 2, 3] rfl ?_
  unfold pX5_loneIsRight at h
  refine zv_aload_n X dX5_loneIsRight_0 0 rfl rfl rfl ?_
  refine zg_X5_3 (k := 0) X (zz_ho_o hY).1 (zz_ho_o hY).2 fl_X5_29 dX5_loneIsRight_1 rfl ?_
  refine zv_aload_n X dX5_loneIsRight_4 0 rfl rfl rfl ?_
  refine zg_X5_1 (k := 0) X (zz_ho_o hY).1 (zz_ho_o hY).2 fl_X5_19 dX5_loneIsRight_5 rfl ?_
  refine zg_X1_0 (k := 3) X (zz_ho_now hY).1.1 (zz_ho_now hY).1.2 fl_X5_108 dX5_loneIsRight_8 rfl ?_
  refine zv_iload_n X dX5_loneIsRight_11 1 rfl rfl rfl ?_
  obtain ⟨hi12, h⟩ := h
  refine zv_aald3 (k := 4) X (zz_ho_now hY).2.1.1 (zz_ho_now hY).2.1.2 hi12 dX5_loneIsRight_12 rfl ?_
  refine zv_cVv (k := 37) (ci := 0) X [.ref (Y.2.1 (11 + 3 * (Int32.toNatClampNeg x1)))] (kX0_copyFrom l hJ  (zz_ho_lone hY) ((zz_ho_now hY).2.2.2.2.2 _ (zz_lt hi12)) h) jl_X5_176 ⟨rfl, rfl⟩ ⟨Nat.le_of_ble_eq_true rfl, Nat.le_of_ble_eq_true rfl⟩ (zz_ho_lone hY).1.1 (by decide) (zz_ho_lone hY).1.2 rfl rfl rfl (Nat.le_of_ble_eq_true rfl) dX5_loneIsRight_13 rfl (fun s13 h => ?_)
  refine zv_iconst (v := 0) X dX5_loneIsRight_16 (by decide) rfl ?_
  refine zv_istore (lv2 := [(4, .int 0), (0, .ref (Y.2.1 0)), (1, .int x1), (2, .int x2), (3, .int x3)]) X dX5_loneIsRight_17 (by decide) rfl rfl ?_
  obtain ⟨n19, h⟩ := h
  refine zv_sub (lv2 := [(0, .ref (Y.2.1 0)), (2, .int x2), (3, .int x3), (4, .int 0)]) [1, 3, 4, 0] rfl ?_
  exact vX5_loneIsRight_19 X hr hlk hJ hY n19 x2 x3 0 _ h
def rmX5_part : Room := { frames := 0, cells := 0, slots := 0, locals := 0 }
def pX5_part_45  (Q : Int64 → zz_T → Prop) (x0 : Int64) (x2 : Int64) (x4 : Int32) (x5 : Int64) (σ : zz_T) : Prop :=
    ((x4 = 0 → ¬ x5 = 0 ∧
    Q (x0 / x5) σ) ∧
    (¬ x4 = 0 → ¬ x5 = 0 ∧
    Q (x2 / x5) σ))
set_option maxHeartbeats 4000000 in
set_option maxRecDepth 100000 in
theorem vX5_part_45 {p : Program} {l : Launch} {e : Env} {s : State} {m : MethodId} {args : Array Value} {below : List Frame} {meth : Method} {c : Code} {Y : zz_Y}  {Q : Int64 → zz_T → Prop} (X : zz_X p m c cX5_part 12 s args RX5) (hr : meth.sig.returnType = (some .long)) (hlk : meth.locks = false) (hJ : zz_J Y)   : ∀ (x0 : Int64) (x2 : Int64) (x4 : Int32) (x5 : Int64) (σ : zz_T), pX5_part_45  Q x0 x2 x4 x5 σ → zz_V p l e rmX5_part s m args below meth c (MQ below (va_Ql Q (zz_E Y) (zz_A Y)) args s 0 0 (zz_A Y)) 12 Y σ 45 [(0, .long x0), (2, .long x2), (4, .int x4), (5, .long x5)] [] := by
  intro x0 x2 x4 x5 σ h 
  unfold pX5_part_45 at h
  refine zv_iload X dX5_part_45 2 rfl rfl ?_
  refine zv_if_ne (tgt := 54) X dX5_part_47 (by decide) rfl (fun q47 => ?_) (fun q47 => ?_)
  · replace h := h.2 q47
    refine zv_lload_n X dX5_part_54 1 rfl rfl rfl ?_
    refine zv_lload X dX5_part_55 3 rfl rfl ?_
    obtain ⟨z57, h⟩ := h
    refine zv_ldiv X dX5_part_57 z57 rfl ?_
    exact zv_lret X hr hlk h dX5_part_58
  · replace h := h.1 q47
    refine zv_lload_n X dX5_part_50 0 rfl rfl rfl ?_
    refine zv_goto (tgt := 55) X dX5_part_51 (by decide) ?_
    refine zv_lload X dX5_part_55 3 rfl rfl ?_
    obtain ⟨z57, h⟩ := h
    refine zv_ldiv X dX5_part_57 z57 rfl ?_
    exact zv_lret X hr hlk h dX5_part_58
def pX5_part_9  (Q : Int64 → zz_T → Prop) : Nat → Int64 → Int64 → Int32 → Int64 → Int64 → Int32 → zz_T → Prop
  | 0, _, _, _, _, _, _, _ => False
  | n + 1, x0, x2, x4, x5, x7, x9, σ =>
    ((200 ≤ x9 → pX5_part_45  Q x0 x2 x4 x5 σ) ∧
    (¬ 200 ≤ x9 → (((lg_cmp x7 0) = 0 → pX5_part_45  Q x0 x2 x4 x5 σ) ∧
    (¬ (lg_cmp x7 0) = 0 → ¬ x7 = 0 ∧
    pX5_part_9  Q n x0 x2 x4 x7 (x5 - x5 / x7 * x7) (x9 + 1) σ))))
set_option maxHeartbeats 4000000 in
set_option maxRecDepth 100000 in
theorem vX5_part_9 {p : Program} {l : Launch} {e : Env} {s : State} {m : MethodId} {args : Array Value} {below : List Frame} {meth : Method} {c : Code} {Y : zz_Y}  {Q : Int64 → zz_T → Prop} (X : zz_X p m c cX5_part 12 s args RX5) (hr : meth.sig.returnType = (some .long)) (hlk : meth.locks = false) (hJ : zz_J Y)   : ∀ (n : Nat) (x0 : Int64) (x2 : Int64) (x4 : Int32) (x5 : Int64) (x7 : Int64) (x9 : Int32) (σ : zz_T), pX5_part_9  Q n x0 x2 x4 x5 x7 x9 σ → zz_V p l e rmX5_part s m args below meth c (MQ below (va_Ql Q (zz_E Y) (zz_A Y)) args s 0 0 (zz_A Y)) 12 Y σ 9 [(0, .long x0), (2, .long x2), (4, .int x4), (5, .long x5), (7, .long x7), (9, .int x9)] [] := by
  intro n
  induction n with
  | zero => intro x0 x2 x4 x5 x7 x9 σ h; exact h.elim
  | succ n ih =>
    intro x0 x2 x4 x5 x7 x9 σ h 
    unfold pX5_part_9 at h
    refine zv_iload X dX5_part_9 5 rfl rfl ?_
    refine zv_sipush (v := 200) X dX5_part_11 (by decide) rfl ?_
    refine zv_icmp_ge (tgt := 45) X dX5_part_14 (by decide) rfl (fun q14 => ?_) (fun q14 => ?_)
    · replace h := h.1 q14
      refine zv_sub (lv2 := [(0, .long x0), (2, .long x2), (4, .int x4), (5, .long x5)]) [0, 1, 2, 3] rfl ?_
      exact vX5_part_45 X hr hlk hJ  x0 x2 x4 x5 _ h
    · replace h := h.2 q14
      refine zv_lload X dX5_part_17 4 rfl rfl ?_
      refine zv_lconst (v := 0) X dX5_part_19 (by decide) rfl ?_
      refine zv_lcmp X dX5_part_20 rfl ?_
      refine zv_if_eq (tgt := 45) X dX5_part_21 (by decide) rfl (fun q21 => ?_) (fun q21 => ?_)
      · replace h := h.1 q21
        refine zv_sub (lv2 := [(0, .long x0), (2, .long x2), (4, .int x4), (5, .long x5)]) [0, 1, 2, 3] rfl ?_
        exact vX5_part_45 X hr hlk hJ  x0 x2 x4 x5 _ h
      · replace h := h.2 q21
        refine zv_lload X dX5_part_24 3 rfl rfl ?_
        refine zv_lload X dX5_part_26 4 rfl rfl ?_
        obtain ⟨z28, h⟩ := h
        refine zv_lrem X dX5_part_28 z28 rfl ?_
        refine zv_lstore (lv2 := [(10, .long (x5 - x5 / x7 * x7)), (0, .long x0), (2, .long x2), (4, .int x4), (5, .long x5), (7, .long x7), (9, .int x9)]) X dX5_part_29 (by decide) rfl rfl ?_
        refine zv_lload X dX5_part_31 5 rfl rfl ?_
        refine zv_lstore (lv2 := [(5, .long x7), (10, .long (x5 - x5 / x7 * x7)), (0, .long x0), (2, .long x2), (4, .int x4), (7, .long x7), (9, .int x9)]) X dX5_part_33 (by decide) rfl rfl ?_
        refine zv_lload X dX5_part_35 1 rfl rfl ?_
        refine zv_lstore (lv2 := [(7, .long (x5 - x5 / x7 * x7)), (5, .long x7), (10, .long (x5 - x5 / x7 * x7)), (0, .long x0), (2, .long x2), (4, .int x4), (9, .int x9)]) X dX5_part_37 (by decide) rfl rfl ?_
        refine zv_iinc (v := (x9 + 1)) (lv2 := [(9, .int (x9 + 1)), (7, .long (x5 - x5 / x7 * x7)), (5, .long x7), (10, .long (x5 - x5 / x7 * x7)), (0, .long x0), (2, .long x2), (4, .int x4)]) X dX5_part_39 6 rfl rfl (by decide) rfl rfl ?_
        refine zv_goto (tgt := 9) X dX5_part_42 (by decide) ?_
        refine zv_sub (lv2 := [(0, .long x0), (2, .long x2), (4, .int x4), (5, .long x7), (7, .long (x5 - x5 / x7 * x7)), (9, .int (x9 + 1))]) [4, 5, 6, 2, 1, 0] rfl ?_
        exact ih x0 x2 x4 x7 (x5 - x5 / x7 * x7) (x9 + 1) _ h
def pX5_part (x0 : Int64) (x2 : Int64) (x4 : Int32) (σ : zz_T) (Q : Int64 → zz_T → Prop) : Prop :=
    ∃ n9, pX5_part_9  Q n9 x0 x2 x4 x2 x0 0 σ
set_option maxHeartbeats 4000000 in
set_option maxRecDepth 100000 in
theorem kX5_part (l : Launch) {Y : zz_Y} (hJ : zz_J Y) (x0 : Int64) (x2 : Int64) (x4 : Int32)  {σ : zz_T} {Q : Int64 → zz_T → Prop} (h : pX5_part x0 x2 x4 σ Q) : zz_Ml l yX5_part cX5_part 12 (some .long) rmX5_part Y [.long x0, .long x2, .int x4] σ Q := by
  refine zz_Ml.start (by decide) hJ (Nat.le_of_ble_eq_true rfl) (fun p e s m below meth c X hr hlk => ?_)
  have X : zz_X p m c cX5_part 12 s _ RX5 := X
  refine zv_sub (lv2 := [(0, .long x0), (2, .long x2), (4, .int x4)]) [0, 1, 2] rfl ?_
  unfold pX5_part at h
  refine zv_lload_n X dX5_part_0 1 rfl rfl rfl ?_
  refine zv_lstore (lv2 := [(5, .long x2), (0, .long x0), (2, .long x2), (4, .int x4)]) X dX5_part_1 (by decide) rfl rfl ?_
  refine zv_lload_n X dX5_part_3 1 rfl rfl rfl ?_
  refine zv_lstore (lv2 := [(7, .long x0), (5, .long x2), (0, .long x0), (2, .long x2), (4, .int x4)]) X dX5_part_4 (by decide) rfl rfl ?_
  refine zv_iconst (v := 0) X dX5_part_6 (by decide) rfl ?_
  refine zv_istore (lv2 := [(9, .int 0), (7, .long x0), (5, .long x2), (0, .long x0), (2, .long x2), (4, .int x4)]) X dX5_part_7 (by decide) rfl rfl ?_
  obtain ⟨n9, h⟩ := h
  refine zv_sub (lv2 := [(0, .long x0), (2, .long x2), (4, .int x4), (5, .long x2), (7, .long x0), (9, .int 0)]) [3, 4, 5, 2, 1, 0] rfl ?_
  exact vX5_part_9 X hr hlk hJ  n9 x0 x2 x4 x2 x0 0 _ h
def rmX5_raised : Room := { frames := 0, cells := 0, slots := 0, locals := 0 }
def pX5_raised_5  (Q : Int64 → zz_T → Prop) : Nat → Int32 → Int32 → Int64 → Int32 → zz_T → Prop
  | 0, _, _, _, _, _ => False
  | n + 1, x0, x1, x2, x4, σ =>
    ((x1 ≤ x4 → Q x2 σ) ∧
    (¬ x1 ≤ x4 → pX5_raised_5  Q n x0 x1 (x2 * (Int32.toInt64 x0)) (x4 + 1) σ))
set_option maxHeartbeats 4000000 in
set_option maxRecDepth 100000 in
theorem vX5_raised_5 {p : Program} {l : Launch} {e : Env} {s : State} {m : MethodId} {args : Array Value} {below : List Frame} {meth : Method} {c : Code} {Y : zz_Y}  {Q : Int64 → zz_T → Prop} (X : zz_X p m c cX5_raised 5 s args RX5) (hr : meth.sig.returnType = (some .long)) (hlk : meth.locks = false) (hJ : zz_J Y)   : ∀ (n : Nat) (x0 : Int32) (x1 : Int32) (x2 : Int64) (x4 : Int32) (σ : zz_T), pX5_raised_5  Q n x0 x1 x2 x4 σ → zz_V p l e rmX5_raised s m args below meth c (MQ below (va_Ql Q (zz_E Y) (zz_A Y)) args s 0 0 (zz_A Y)) 5 Y σ 5 [(0, .int x0), (1, .int x1), (2, .long x2), (4, .int x4)] [] := by
  intro n
  induction n with
  | zero => intro x0 x1 x2 x4 σ h; exact h.elim
  | succ n ih =>
    intro x0 x1 x2 x4 σ h 
    unfold pX5_raised_5 at h
    refine zv_iload X dX5_raised_5 3 rfl rfl ?_
    refine zv_iload_n X dX5_raised_7 1 rfl rfl rfl ?_
    refine zv_icmp_ge (tgt := 22) X dX5_raised_8 (by decide) rfl (fun q8 => ?_) (fun q8 => ?_)
    · replace h := h.1 q8
      refine zv_lload_n X dX5_raised_22 2 rfl rfl rfl ?_
      exact zv_lret X hr hlk h dX5_raised_23
    · replace h := h.2 q8
      refine zv_lload_n X dX5_raised_11 2 rfl rfl rfl ?_
      refine zv_iload_n X dX5_raised_12 0 rfl rfl rfl ?_
      refine zv_i2l X dX5_raised_13 rfl ?_
      refine zv_lmul X dX5_raised_14 rfl ?_
      refine zv_lstore_n (lv2 := [(2, .long (x2 * (Int32.toInt64 x0))), (0, .int x0), (1, .int x1), (4, .int x4)]) X dX5_raised_15 rfl (by decide) rfl rfl ?_
      refine zv_iinc (v := (x4 + 1)) (lv2 := [(4, .int (x4 + 1)), (2, .long (x2 * (Int32.toInt64 x0))), (0, .int x0), (1, .int x1)]) X dX5_raised_16 3 rfl rfl (by decide) rfl rfl ?_
      refine zv_goto (tgt := 5) X dX5_raised_19 (by decide) ?_
      refine zv_sub (lv2 := [(0, .int x0), (1, .int x1), (2, .long (x2 * (Int32.toInt64 x0))), (4, .int (x4 + 1))]) [2, 3, 1, 0] rfl ?_
      exact ih x0 x1 (x2 * (Int32.toInt64 x0)) (x4 + 1) _ h
def pX5_raised (x0 : Int32) (x1 : Int32) (σ : zz_T) (Q : Int64 → zz_T → Prop) : Prop :=
    ∃ n5, pX5_raised_5  Q n5 x0 x1 1 0 σ
set_option maxHeartbeats 4000000 in
set_option maxRecDepth 100000 in
theorem kX5_raised (l : Launch) {Y : zz_Y} (hJ : zz_J Y) (x0 : Int32) (x1 : Int32)  {σ : zz_T} {Q : Int64 → zz_T → Prop} (h : pX5_raised x0 x1 σ Q) : zz_Ml l yX5_raised cX5_raised 5 (some .long) rmX5_raised Y [.int x0, .int x1] σ Q := by
  refine zz_Ml.start (by decide) hJ (Nat.le_of_ble_eq_true rfl) (fun p e s m below meth c X hr hlk => ?_)
  have X : zz_X p m c cX5_raised 5 s _ RX5 := X
  refine zv_sub (lv2 := [(0, .int x0), (1, .int x1)]) [0, 1] rfl ?_
  unfold pX5_raised at h
  refine zv_lconst (v := 1) X dX5_raised_0 (by decide) rfl ?_
  refine zv_lstore_n (lv2 := [(2, .long 1), (0, .int x0), (1, .int x1)]) X dX5_raised_1 rfl (by decide) rfl rfl ?_
  refine zv_iconst (v := 0) X dX5_raised_2 (by decide) rfl ?_
  refine zv_istore (lv2 := [(4, .int 0), (2, .long 1), (0, .int x0), (1, .int x1)]) X dX5_raised_3 (by decide) rfl rfl ?_
  obtain ⟨n5, h⟩ := h
  refine zv_sub (lv2 := [(0, .int x0), (1, .int x1), (2, .long 1), (4, .int 0)]) [2, 3, 1, 0] rfl ?_
  exact vX5_raised_5 X hr hlk hJ  n5 x0 x1 1 0 _ h
def rmX5_weightOf : Room := { frames := 1, cells := 0, slots := 0, locals := 24 }
def pX5_weightOf (x0 : Int32) (x1 : Int32) (x2 : Int32) (σ : zz_T) (Q : Int64 → zz_T → Prop) : Prop :=
    pJ6_bitCount_0f7a4 x0 σ (fun r1 s1 =>
    pX5_raised x1 r1 s1 (fun r7 s7 =>
    pX5_raised (10 - x1) (x2 - r1) s7 (fun r17 s17 =>
    Q (r7 * r17) s17)))
set_option maxHeartbeats 4000000 in
set_option maxRecDepth 100000 in
theorem kX5_weightOf (l : Launch) {Y : zz_Y} (hJ : zz_J Y) (x0 : Int32) (x1 : Int32) (x2 : Int32)  {σ : zz_T} {Q : Int64 → zz_T → Prop} (h : pX5_weightOf x0 x1 x2 σ Q) : zz_Ml l yX5_weightOf cX5_weightOf 4 (some .long) rmX5_weightOf Y [.int x0, .int x1, .int x2] σ Q := by
  refine zz_Ml.start (by decide) hJ (Nat.le_of_ble_eq_true rfl) (fun p e s m below meth c X hr hlk => ?_)
  have X : zz_X p m c cX5_weightOf 4 s _ RX5 := X
  refine zv_sub (lv2 := [(0, .int x0), (1, .int x1), (2, .int x2)]) [0, 1, 2] rfl ?_
  unfold pX5_weightOf at h
  refine zv_iload_n X dX5_weightOf_0 0 rfl rfl rfl ?_
  refine zv_cSi X [.int x0] (kJ6_bitCount_0f7a4 l hJ x0  h) jl_X5_242 ⟨rfl, rfl⟩ ⟨Nat.le_of_ble_eq_true rfl, Nat.le_of_ble_eq_true rfl⟩ rfl rfl (Nat.le_of_ble_eq_true rfl) dX5_weightOf_1 rfl (fun r1 s1 h => ?_)
  refine zv_istore_n (lv2 := [(3, .int r1), (0, .int x0), (1, .int x1), (2, .int x2)]) X dX5_weightOf_4 rfl (by decide) rfl rfl ?_
  refine zv_iload_n X dX5_weightOf_5 2 rfl rfl rfl ?_
  refine zv_iload_n X dX5_weightOf_6 0 rfl rfl rfl ?_
  refine zv_cSl X [.int x1, .int r1] (kX5_raised l hJ x1 r1  h) jl_X5_208 ⟨rfl, rfl⟩ ⟨Nat.le_of_ble_eq_true rfl, Nat.le_of_ble_eq_true rfl⟩ rfl rfl (Nat.le_of_ble_eq_true rfl) dX5_weightOf_7 rfl (fun r7 s7 h => ?_)
  refine zv_bipush (v := 10) X dX5_weightOf_10 (by decide) rfl ?_
  refine zv_iload_n X dX5_weightOf_12 2 rfl rfl rfl ?_
  refine zv_isub X dX5_weightOf_13 rfl ?_
  refine zv_iload_n X dX5_weightOf_14 3 rfl rfl rfl ?_
  refine zv_iload_n X dX5_weightOf_15 0 rfl rfl rfl ?_
  refine zv_isub X dX5_weightOf_16 rfl ?_
  refine zv_cSl X [.int (10 - x1), .int (x2 - r1)] (kX5_raised l hJ (10 - x1) (x2 - r1)  h) jl_X5_208 ⟨rfl, rfl⟩ ⟨Nat.le_of_ble_eq_true rfl, Nat.le_of_ble_eq_true rfl⟩ rfl rfl (Nat.le_of_ble_eq_true rfl) dX5_weightOf_17 rfl (fun r17 s17 h => ?_)
  refine zv_lmul X dX5_weightOf_20 rfl ?_
  exact zv_lret X hr hlk h dX5_weightOf_21
def rmX5_luck : Room := { frames := 4, cells := 0, slots := 0, locals := 99 }
def pX5_luck_78  (Q : Int64 → zz_T → Prop) (K36 : Int32 → Int32 → Int32 → Int32 → Int64 → Int64 → Int32 → zz_T → Prop) (x1 : Int32) (x2 : Int32) (x3 : Int32) (x4 : Int32) (x5 : Int64) (x7 : Int64) (x9 : Int32) (σ : zz_T) : Prop :=
    K36 x1 x2 x3 x4 x5 x7 (x9 + 1) σ
set_option maxHeartbeats 4000000 in
set_option maxRecDepth 100000 in
theorem vX5_luck_78 {p : Program} {l : Launch} {e : Env} {s : State} {m : MethodId} {args : Array Value} {below : List Frame} {meth : Method} {c : Code} {Y : zz_Y}  {Q : Int64 → zz_T → Prop} {K36 : Int32 → Int32 → Int32 → Int32 → Int64 → Int64 → Int32 → zz_T → Prop} (X : zz_X p m c cX5_luck 12 s args RX5) (hr : meth.sig.returnType = (some .long)) (hlk : meth.locks = false) (hJ : zz_J Y) (hY : zz_ho Y) (hK36 : ∀ (x1 : Int32) (x2 : Int32) (x3 : Int32) (x4 : Int32) (x5 : Int64) (x7 : Int64) (x9 : Int32) (σ : zz_T), K36 x1 x2 x3 x4 x5 x7 x9 σ → zz_V p l e rmX5_luck s m args below meth c (MQ below (va_Ql Q (zz_E Y) (zz_A Y)) args s 0 0 (zz_A Y)) 12 Y σ 36 [(0, .ref (Y.2.1 0)), (1, .int x1), (2, .int x2), (3, .int x3), (4, .int x4), (5, .long x5), (7, .long x7), (9, .int x9)] []) : ∀ (x1 : Int32) (x2 : Int32) (x3 : Int32) (x4 : Int32) (x5 : Int64) (x7 : Int64) (x9 : Int32) (σ : zz_T), pX5_luck_78  Q K36 x1 x2 x3 x4 x5 x7 x9 σ → zz_V p l e rmX5_luck s m args below meth c (MQ below (va_Ql Q (zz_E Y) (zz_A Y)) args s 0 0 (zz_A Y)) 12 Y σ 78 [(0, .ref (Y.2.1 0)), (1, .int x1), (2, .int x2), (3, .int x3), (4, .int x4), (5, .long x5), (7, .long x7), (9, .int x9)] [] := by
  intro x1 x2 x3 x4 x5 x7 x9 σ h 
  unfold pX5_luck_78 at h
  refine zv_iinc (v := (x9 + 1)) (lv2 := [(9, .int (x9 + 1)), (0, .ref (Y.2.1 0)), (1, .int x1), (2, .int x2), (3, .int x3), (4, .int x4), (5, .long x5), (7, .long x7)]) X dX5_luck_78 7 rfl rfl (by decide) rfl rfl ?_
  refine zv_goto (tgt := 36) X dX5_luck_81 (by decide) ?_
  refine zv_sub (lv2 := [(0, .ref (Y.2.1 0)), (1, .int x1), (2, .int x2), (3, .int x3), (4, .int x4), (5, .long x5), (7, .long x7), (9, .int (x9 + 1))]) [1, 2, 3, 4, 5, 6, 7, 0] rfl ?_
  exact hK36 x1 x2 x3 x4 x5 x7 (x9 + 1) _ h
def pX5_luck_36  (Q : Int64 → zz_T → Prop) : Nat → Int32 → Int32 → Int32 → Int32 → Int64 → Int64 → Int32 → zz_T → Prop
  | 0, _, _, _, _, _, _, _, _ => False
  | n + 1, x1, x2, x3, x4, x5, x7, x9, σ =>
    (((1 <<< (x3 &&& (31 : Int32))) ≤ x9 → pX5_part x7 x5 x4 σ (fun r90 s90 =>
    Q r90 s90)) ∧
    (¬ (1 <<< (x3 &&& (31 : Int32))) ≤ x9 → pX5_weightOf x9 x1 x3 σ (fun r48 s48 =>
    (((lg_cmp r48 0) = 0 → pX5_luck_78  Q (pX5_luck_36  Q n) x1 x2 x3 x4 x5 x7 x9 s48) ∧
    (¬ (lg_cmp r48 0) = 0 → pX5_loneIsRight x2 x3 x9 s48 (fun r65 s65 =>
    ((r65 = 0 → pX5_luck_78  Q (pX5_luck_36  Q n) x1 x2 x3 x4 x5 x7 x9 s65) ∧
    (¬ r65 = 0 → pX5_luck_78  Q (pX5_luck_36  Q n) x1 x2 x3 x4 x5 (x7 + r48) x9 s65))))))))
set_option maxHeartbeats 4000000 in
set_option maxRecDepth 100000 in
theorem vX5_luck_36 {p : Program} {l : Launch} {e : Env} {s : State} {m : MethodId} {args : Array Value} {below : List Frame} {meth : Method} {c : Code} {Y : zz_Y}  {Q : Int64 → zz_T → Prop} (X : zz_X p m c cX5_luck 12 s args RX5) (hr : meth.sig.returnType = (some .long)) (hlk : meth.locks = false) (hJ : zz_J Y) (hY : zz_ho Y)  : ∀ (n : Nat) (x1 : Int32) (x2 : Int32) (x3 : Int32) (x4 : Int32) (x5 : Int64) (x7 : Int64) (x9 : Int32) (σ : zz_T), pX5_luck_36  Q n x1 x2 x3 x4 x5 x7 x9 σ → zz_V p l e rmX5_luck s m args below meth c (MQ below (va_Ql Q (zz_E Y) (zz_A Y)) args s 0 0 (zz_A Y)) 12 Y σ 36 [(0, .ref (Y.2.1 0)), (1, .int x1), (2, .int x2), (3, .int x3), (4, .int x4), (5, .long x5), (7, .long x7), (9, .int x9)] [] := by
  intro n
  induction n with
  | zero => intro x1 x2 x3 x4 x5 x7 x9 σ h; exact h.elim
  | succ n ih =>
    intro x1 x2 x3 x4 x5 x7 x9 σ h 
    unfold pX5_luck_36 at h
    refine zv_iload X dX5_luck_36 7 rfl rfl ?_
    refine zv_iconst (v := 1) X dX5_luck_38 (by decide) rfl ?_
    refine zv_iload_n X dX5_luck_39 3 rfl rfl rfl ?_
    refine zv_ishl X dX5_luck_40 rfl ?_
    refine zv_icmp_ge (tgt := 84) X dX5_luck_41 (by decide) rfl (fun q41 => ?_) (fun q41 => ?_)
    · replace h := h.1 q41
      refine zv_lload X dX5_luck_84 6 rfl rfl ?_
      refine zv_lload X dX5_luck_86 5 rfl rfl ?_
      refine zv_iload X dX5_luck_88 4 rfl rfl ?_
      refine zv_cSl X [.long x7, .long x5, .int x4] (kX5_part l hJ x7 x5 x4  h) jl_X5_219 ⟨rfl, rfl⟩ ⟨Nat.le_of_ble_eq_true rfl, Nat.le_of_ble_eq_true rfl⟩ rfl rfl (Nat.le_of_ble_eq_true rfl) dX5_luck_90 rfl (fun r90 s90 h => ?_)
      exact zv_lret X hr hlk h dX5_luck_93
    · replace h := h.2 q41
      refine zv_iload X dX5_luck_44 7 rfl rfl ?_
      refine zv_iload_n X dX5_luck_46 1 rfl rfl rfl ?_
      refine zv_iload_n X dX5_luck_47 3 rfl rfl rfl ?_
      refine zv_cSl X [.int x9, .int x1, .int x3] (kX5_weightOf l hJ x9 x1 x3  h) jl_X5_212 ⟨rfl, rfl⟩ ⟨Nat.le_of_ble_eq_true rfl, Nat.le_of_ble_eq_true rfl⟩ rfl rfl (Nat.le_of_ble_eq_true rfl) dX5_luck_48 rfl (fun r48 s48 h => ?_)
      refine zv_lstore (lv2 := [(10, .long r48), (0, .ref (Y.2.1 0)), (1, .int x1), (2, .int x2), (3, .int x3), (4, .int x4), (5, .long x5), (7, .long x7), (9, .int x9)]) X dX5_luck_51 (by decide) rfl rfl ?_
      refine zv_lload X dX5_luck_53 0 rfl rfl ?_
      refine zv_lconst (v := 0) X dX5_luck_55 (by decide) rfl ?_
      refine zv_lcmp X dX5_luck_56 rfl ?_
      refine zv_if_eq (tgt := 78) X dX5_luck_57 (by decide) rfl (fun q57 => ?_) (fun q57 => ?_)
      · replace h := h.1 q57
        refine zv_sub (lv2 := [(0, .ref (Y.2.1 0)), (1, .int x1), (2, .int x2), (3, .int x3), (4, .int x4), (5, .long x5), (7, .long x7), (9, .int x9)]) [1, 2, 3, 4, 5, 6, 7, 8] rfl ?_
        exact vX5_luck_78 X hr hlk hJ hY ih x1 x2 x3 x4 x5 x7 x9 _ h
      · replace h := h.2 q57
        refine zv_aload_n X dX5_luck_60 1 rfl rfl rfl ?_
        refine zv_iload_n X dX5_luck_61 3 rfl rfl rfl ?_
        refine zv_iload_n X dX5_luck_62 4 rfl rfl rfl ?_
        refine zv_iload X dX5_luck_63 8 rfl rfl ?_
        refine zv_cVi (k := 0) (ci := 5) X [.int x2, .int x3, .int x9] (kX5_loneIsRight l hJ x2 x3 x9 hY h) jl_X5_216 ⟨rfl, rfl⟩ ⟨Nat.le_of_ble_eq_true rfl, Nat.le_of_ble_eq_true rfl⟩ (zz_ho_o hY).1 (by decide) (zz_ho_o hY).2 rfl rfl rfl (Nat.le_of_ble_eq_true rfl) dX5_luck_65 rfl (fun r65 s65 h => ?_)
        refine zv_if_eq (tgt := 78) X dX5_luck_68 (by decide) rfl (fun q68 => ?_) (fun q68 => ?_)
        · replace h := h.1 q68
          refine zv_sub (lv2 := [(0, .ref (Y.2.1 0)), (1, .int x1), (2, .int x2), (3, .int x3), (4, .int x4), (5, .long x5), (7, .long x7), (9, .int x9)]) [1, 2, 3, 4, 5, 6, 7, 8] rfl ?_
          exact vX5_luck_78 X hr hlk hJ hY ih x1 x2 x3 x4 x5 x7 x9 _ h
        · replace h := h.2 q68
          refine zv_lload X dX5_luck_71 7 rfl rfl ?_
          refine zv_lload X dX5_luck_73 0 rfl rfl ?_
          refine zv_ladd X dX5_luck_75 rfl ?_
          refine zv_lstore (lv2 := [(7, .long (x7 + r48)), (10, .long r48), (0, .ref (Y.2.1 0)), (1, .int x1), (2, .int x2), (3, .int x3), (4, .int x4), (5, .long x5), (9, .int x9)]) X dX5_luck_76 (by decide) rfl rfl ?_
          refine zv_sub (lv2 := [(0, .ref (Y.2.1 0)), (1, .int x1), (2, .int x2), (3, .int x3), (4, .int x4), (5, .long x5), (7, .long (x7 + r48)), (9, .int x9)]) [2, 3, 4, 5, 6, 7, 0, 8] rfl ?_
          exact vX5_luck_78 X hr hlk hJ hY ih x1 x2 x3 x4 x5 (x7 + r48) x9 _ h
def pX5_luck (x1 : Int32) (x2 : Int32) (x3 : Int32) (x4 : Int32) (σ : zz_T) (Q : Int64 → zz_T → Prop) : Prop :=
    pX5_badOdds x1 x3 x4 σ (fun r4 s4 =>
    ((r4 = 0 → pX5_noHead x2 s4 (fun r12 s12 =>
    ((r12 = 0 → pX5_raised 10 x3 s12 (fun r25 s25 =>
    ∃ n36, pX5_luck_36  Q n36 x1 x2 x3 x4 r25 0 0 s25)) ∧
    (¬ r12 = 0 → Q (-1) s12)))) ∧
    (¬ r4 = 0 → Q (-1) s4)))
set_option maxHeartbeats 4000000 in
set_option maxRecDepth 100000 in
theorem kX5_luck (l : Launch) {Y : zz_Y} (hJ : zz_J Y) (x1 : Int32) (x2 : Int32) (x3 : Int32) (x4 : Int32) (hY : zz_ho Y) {σ : zz_T} {Q : Int64 → zz_T → Prop} (h : pX5_luck x1 x2 x3 x4 σ Q) : zz_Ml l yX5_luck cX5_luck 12 (some .long) rmX5_luck Y [.ref (Y.2.1 0), .int x1, .int x2, .int x3, .int x4] σ Q := by
  refine zz_Ml.start (by decide) hJ (Nat.le_of_ble_eq_true rfl) (fun p e s m below meth c X hr hlk => ?_)
  have X : zz_X p m c cX5_luck 12 s _ RX5 := X
  refine zv_sub (lv2 := [(0, .ref (Y.2.1 0)), (1, .int x1), (2, .int x2), (3, .int x3), (4, .int x4)]) [0, 1, 2, 3, 4] rfl ?_
  unfold pX5_luck at h
  refine zv_iload_n X dX5_luck_0 1 rfl rfl rfl ?_
  refine zv_iload_n X dX5_luck_1 3 rfl rfl rfl ?_
  refine zv_iload X dX5_luck_2 4 rfl rfl ?_
  refine zv_cSi X [.int x1, .int x3, .int x4] (kX5_badOdds l hJ x1 x3 x4  h) jl_X5_203 ⟨rfl, rfl⟩ ⟨Nat.le_of_ble_eq_true rfl, Nat.le_of_ble_eq_true rfl⟩ rfl rfl (Nat.le_of_ble_eq_true rfl) dX5_luck_4 rfl (fun r4 s4 h => ?_)
  refine zv_if_ne (tgt := 18) X dX5_luck_7 (by decide) rfl (fun q7 => ?_) (fun q7 => ?_)
  · replace h := h.2 q7
    refine zv_ldc2 (v := (-1)) X dX5_luck_18 co_X5_206 rfl ?_
    exact zv_lret X hr hlk h dX5_luck_21
  · replace h := h.1 q7
    refine zv_aload_n X dX5_luck_10 0 rfl rfl rfl ?_
    refine zv_iload_n X dX5_luck_11 2 rfl rfl rfl ?_
    refine zv_cVi (k := 0) (ci := 5) X [.int x2] (kX5_noHead l hJ x2 hY h) jl_X5_104 ⟨rfl, rfl⟩ ⟨Nat.le_of_ble_eq_true rfl, Nat.le_of_ble_eq_true rfl⟩ (zz_ho_o hY).1 (by decide) (zz_ho_o hY).2 rfl rfl rfl (Nat.le_of_ble_eq_true rfl) dX5_luck_12 rfl (fun r12 s12 h => ?_)
    refine zv_if_eq (tgt := 22) X dX5_luck_15 (by decide) rfl (fun q15 => ?_) (fun q15 => ?_)
    · replace h := h.1 q15
      refine zv_bipush (v := 10) X dX5_luck_22 (by decide) rfl ?_
      refine zv_iload_n X dX5_luck_24 3 rfl rfl rfl ?_
      refine zv_cSl X [.int 10, .int x3] (kX5_raised l hJ 10 x3  h) jl_X5_208 ⟨rfl, rfl⟩ ⟨Nat.le_of_ble_eq_true rfl, Nat.le_of_ble_eq_true rfl⟩ rfl rfl (Nat.le_of_ble_eq_true rfl) dX5_luck_25 rfl (fun r25 s25 h => ?_)
      refine zv_lstore (lv2 := [(5, .long r25), (0, .ref (Y.2.1 0)), (1, .int x1), (2, .int x2), (3, .int x3), (4, .int x4)]) X dX5_luck_28 (by decide) rfl rfl ?_
      refine zv_lconst (v := 0) X dX5_luck_30 (by decide) rfl ?_
      refine zv_lstore (lv2 := [(7, .long 0), (5, .long r25), (0, .ref (Y.2.1 0)), (1, .int x1), (2, .int x2), (3, .int x3), (4, .int x4)]) X dX5_luck_31 (by decide) rfl rfl ?_
      refine zv_iconst (v := 0) X dX5_luck_33 (by decide) rfl ?_
      refine zv_istore (lv2 := [(9, .int 0), (7, .long 0), (5, .long r25), (0, .ref (Y.2.1 0)), (1, .int x1), (2, .int x2), (3, .int x3), (4, .int x4)]) X dX5_luck_34 (by decide) rfl rfl ?_
      obtain ⟨n36, h⟩ := h
      refine zv_sub (lv2 := [(0, .ref (Y.2.1 0)), (1, .int x1), (2, .int x2), (3, .int x3), (4, .int x4), (5, .long r25), (7, .long 0), (9, .int 0)]) [3, 4, 5, 6, 7, 2, 1, 0] rfl ?_
      exact vX5_luck_36 X hr hlk hJ hY n36 x1 x2 x3 x4 r25 0 0 _ h
    · replace h := h.2 q15
      refine zv_ldc2 (v := (-1)) X dX5_luck_18 co_X5_206 rfl ?_
      exact zv_lret X hr hlk h dX5_luck_21
def rmX5_wrongWithout : Room := { frames := 4, cells := 0, slots := 0, locals := 101 }
def pX5_wrongWithout_41  (Q : Int32 → zz_T → Prop) (K16 : Int32 → Int32 → Int32 → Int32 → zz_T → Prop) (x1 : Int32) (x2 : Int32) (x4 : Int32) (t0 : Int32) (t2 : Int32) (σ : zz_T) : Prop :=
    pX1_burnRow 20 t2 σ (fun r41 s41 =>
    K16 x1 x2 (t0 + r41) (x4 + 1) s41)
set_option maxHeartbeats 4000000 in
set_option maxRecDepth 100000 in
theorem vX5_wrongWithout_41 {p : Program} {l : Launch} {e : Env} {s : State} {m : MethodId} {args : Array Value} {below : List Frame} {meth : Method} {c : Code} {Y : zz_Y}  {Q : Int32 → zz_T → Prop} {K16 : Int32 → Int32 → Int32 → Int32 → zz_T → Prop} (X : zz_X p m c cX5_wrongWithout 5 s args RX5) (hr : meth.sig.returnType = (some .int)) (hlk : meth.locks = false) (hJ : zz_J Y) (hY : zz_ho Y) (hK16 : ∀ (x1 : Int32) (x2 : Int32) (x3 : Int32) (x4 : Int32) (σ : zz_T), K16 x1 x2 x3 x4 σ → zz_V p l e rmX5_wrongWithout s m args below meth c (MQ below (va_Qi Q (zz_E Y) (zz_A Y)) args s 0 0 (zz_A Y)) 5 Y σ 16 [(0, .ref (Y.2.1 0)), (1, .int x1), (2, .int x2), (3, .int x3), (4, .int x4)] []) : ∀ (x1 : Int32) (x2 : Int32) (x4 : Int32) (t0 : Int32) (t2 : Int32) (σ : zz_T), pX5_wrongWithout_41  Q K16 x1 x2 x4 t0 t2 σ → zz_V p l e rmX5_wrongWithout s m args below meth c (MQ below (va_Qi Q (zz_E Y) (zz_A Y)) args s 0 0 (zz_A Y)) 5 Y σ 41 [(0, .ref (Y.2.1 0)), (1, .int x1), (2, .int x2), (4, .int x4)] [.int t2, .ref (Y.2.1 20), .int t0] := by
  intro x1 x2 x4 t0 t2 σ h 
  unfold pX5_wrongWithout_41 at h
  refine zv_cVi (k := 20) (ci := 1) X [.int t2] (kX1_burnRow l hJ t2 (zz_ho_trial hY) h) jl_X5_160 ⟨rfl, rfl⟩ ⟨Nat.le_of_ble_eq_true rfl, Nat.le_of_ble_eq_true rfl⟩ (zz_ho_trial hY).1.1 (by decide) (zz_ho_trial hY).1.2 rfl rfl rfl (Nat.le_of_ble_eq_true rfl) dX5_wrongWithout_41 rfl (fun r41 s41 h => ?_)
  refine zv_iadd X dX5_wrongWithout_44 rfl ?_
  refine zv_istore_n (lv2 := [(3, .int (t0 + r41)), (0, .ref (Y.2.1 0)), (1, .int x1), (2, .int x2), (4, .int x4)]) X dX5_wrongWithout_45 rfl (by decide) rfl rfl ?_
  refine zv_iinc (v := (x4 + 1)) (lv2 := [(4, .int (x4 + 1)), (3, .int (t0 + r41)), (0, .ref (Y.2.1 0)), (1, .int x1), (2, .int x2)]) X dX5_wrongWithout_46 4 rfl rfl (by decide) rfl rfl ?_
  refine zv_goto (tgt := 16) X dX5_wrongWithout_49 (by decide) ?_
  refine zv_sub (lv2 := [(0, .ref (Y.2.1 0)), (1, .int x1), (2, .int x2), (3, .int (t0 + r41)), (4, .int (x4 + 1))]) [2, 3, 4, 1, 0] rfl ?_
  exact hK16 x1 x2 (t0 + r41) (x4 + 1) _ h
def pX5_wrongWithout_16  (Q : Int32 → zz_T → Prop) : Nat → Int32 → Int32 → Int32 → Int32 → zz_T → Prop
  | 0, _, _, _, _, _ => False
  | n + 1, x1, x2, x3, x4, σ =>
    ((x1 ≤ x4 → Q x3 σ) ∧
    (¬ x1 ≤ x4 → ((((x2 >>> (x4 &&& (31 : Int32))) &&& 1) = 0 → pX5_wrongWithout_41  Q (pX5_wrongWithout_16  Q n) x1 x2 x4 x3 1 σ) ∧
    (¬ ((x2 >>> (x4 &&& (31 : Int32))) &&& 1) = 0 → pX5_wrongWithout_41  Q (pX5_wrongWithout_16  Q n) x1 x2 x4 x3 0 σ))))
set_option maxHeartbeats 4000000 in
set_option maxRecDepth 100000 in
theorem vX5_wrongWithout_16 {p : Program} {l : Launch} {e : Env} {s : State} {m : MethodId} {args : Array Value} {below : List Frame} {meth : Method} {c : Code} {Y : zz_Y}  {Q : Int32 → zz_T → Prop} (X : zz_X p m c cX5_wrongWithout 5 s args RX5) (hr : meth.sig.returnType = (some .int)) (hlk : meth.locks = false) (hJ : zz_J Y) (hY : zz_ho Y)  : ∀ (n : Nat) (x1 : Int32) (x2 : Int32) (x3 : Int32) (x4 : Int32) (σ : zz_T), pX5_wrongWithout_16  Q n x1 x2 x3 x4 σ → zz_V p l e rmX5_wrongWithout s m args below meth c (MQ below (va_Qi Q (zz_E Y) (zz_A Y)) args s 0 0 (zz_A Y)) 5 Y σ 16 [(0, .ref (Y.2.1 0)), (1, .int x1), (2, .int x2), (3, .int x3), (4, .int x4)] [] := by
  intro n
  induction n with
  | zero => intro x1 x2 x3 x4 σ h; exact h.elim
  | succ n ih =>
    intro x1 x2 x3 x4 σ h 
    unfold pX5_wrongWithout_16 at h
    refine zv_iload X dX5_wrongWithout_16 4 rfl rfl ?_
    refine zv_iload_n X dX5_wrongWithout_18 1 rfl rfl rfl ?_
    refine zv_icmp_ge (tgt := 52) X dX5_wrongWithout_19 (by decide) rfl (fun q19 => ?_) (fun q19 => ?_)
    · replace h := h.1 q19
      refine zv_iload_n X dX5_wrongWithout_52 3 rfl rfl rfl ?_
      exact zv_iret X hr hlk h dX5_wrongWithout_53
    · replace h := h.2 q19
      refine zv_iload_n X dX5_wrongWithout_22 3 rfl rfl rfl ?_
      refine zv_aload_n X dX5_wrongWithout_23 0 rfl rfl rfl ?_
      refine zg_X5_2 (k := 0) X (zz_ho_o hY).1 (zz_ho_o hY).2 fl_X5_23 dX5_wrongWithout_24 rfl ?_
      refine zv_iload_n X dX5_wrongWithout_27 2 rfl rfl rfl ?_
      refine zv_iload X dX5_wrongWithout_28 4 rfl rfl ?_
      refine zv_ishr X dX5_wrongWithout_30 rfl ?_
      refine zv_iconst (v := 1) X dX5_wrongWithout_31 (by decide) rfl ?_
      refine zv_iand X dX5_wrongWithout_32 rfl ?_
      refine zv_if_ne (tgt := 40) X dX5_wrongWithout_33 (by decide) rfl (fun q33 => ?_) (fun q33 => ?_)
      · replace h := h.2 q33
        refine zv_iconst (v := 0) X dX5_wrongWithout_40 (by decide) rfl ?_
        refine zv_sub (lv2 := [(0, .ref (Y.2.1 0)), (1, .int x1), (2, .int x2), (4, .int x4)]) [0, 1, 2, 4] rfl ?_
        exact vX5_wrongWithout_41 X hr hlk hJ hY ih x1 x2 x4 x3 0 _ h
      · replace h := h.1 q33
        refine zv_iconst (v := 1) X dX5_wrongWithout_36 (by decide) rfl ?_
        refine zv_goto (tgt := 41) X dX5_wrongWithout_37 (by decide) ?_
        refine zv_sub (lv2 := [(0, .ref (Y.2.1 0)), (1, .int x1), (2, .int x2), (4, .int x4)]) [0, 1, 2, 4] rfl ?_
        exact vX5_wrongWithout_41 X hr hlk hJ hY ih x1 x2 x4 x3 1 _ h
def pX5_wrongWithout (x1 : Int32) (x2 : Int32) (σ : zz_T) (Q : Int32 → zz_T → Prop) : Prop :=
    pX1_copyFrom 20 3 σ (fun s8 =>
    ∃ n16, pX5_wrongWithout_16  Q n16 x1 x2 0 0 s8)
set_option maxHeartbeats 4000000 in
set_option maxRecDepth 100000 in
theorem kX5_wrongWithout (l : Launch) {Y : zz_Y} (hJ : zz_J Y) (x1 : Int32) (x2 : Int32) (hY : zz_ho Y) {σ : zz_T} {Q : Int32 → zz_T → Prop} (h : pX5_wrongWithout x1 x2 σ Q) : zz_Mi l yX5_wrongWithout cX5_wrongWithout 5 (some .int) rmX5_wrongWithout Y [.ref (Y.2.1 0), .int x1, .int x2] σ Q := by
  refine zz_Mi.start (by decide) hJ (Nat.le_of_ble_eq_true rfl) (fun p e s m below meth c X hr hlk => ?_)
  have X : zz_X p m c cX5_wrongWithout 5 s _ RX5 := X
  refine zv_sub (lv2 := [(0, .ref (Y.2.1 0)), (1, .int x1), (2, .int x2)]) [0, 1, 2] rfl ?_
  unfold pX5_wrongWithout at h
  refine zv_aload_n X dX5_wrongWithout_0 0 rfl rfl rfl ?_
  refine zg_X5_2 (k := 0) X (zz_ho_o hY).1 (zz_ho_o hY).2 fl_X5_23 dX5_wrongWithout_1 rfl ?_
  refine zv_aload_n X dX5_wrongWithout_4 0 rfl rfl rfl ?_
  refine zg_X5_1 (k := 0) X (zz_ho_o hY).1 (zz_ho_o hY).2 fl_X5_19 dX5_wrongWithout_5 rfl ?_
  refine zv_cVv (k := 20) (ci := 1) X [.ref (Y.2.1 3)] (kX1_copyFrom l hJ  (zz_ho_trial hY) (zz_ho_now hY) h) jl_X5_80 ⟨rfl, rfl⟩ ⟨Nat.le_of_ble_eq_true rfl, Nat.le_of_ble_eq_true rfl⟩ (zz_ho_trial hY).1.1 (by decide) (zz_ho_trial hY).1.2 rfl rfl rfl (Nat.le_of_ble_eq_true rfl) dX5_wrongWithout_8 rfl (fun s8 h => ?_)
  refine zv_iconst (v := 0) X dX5_wrongWithout_11 (by decide) rfl ?_
  refine zv_istore_n (lv2 := [(3, .int 0), (0, .ref (Y.2.1 0)), (1, .int x1), (2, .int x2)]) X dX5_wrongWithout_12 rfl (by decide) rfl rfl ?_
  refine zv_iconst (v := 0) X dX5_wrongWithout_13 (by decide) rfl ?_
  refine zv_istore (lv2 := [(4, .int 0), (3, .int 0), (0, .ref (Y.2.1 0)), (1, .int x1), (2, .int x2)]) X dX5_wrongWithout_14 (by decide) rfl rfl ?_
  obtain ⟨n16, h⟩ := h
  refine zv_sub (lv2 := [(0, .ref (Y.2.1 0)), (1, .int x1), (2, .int x2), (3, .int 0), (4, .int 0)]) [2, 3, 4, 1, 0] rfl ?_
  exact vX5_wrongWithout_16 X hr hlk hJ hY n16 x1 x2 0 0 _ h
