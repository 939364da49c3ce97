def rmX5_outside : Room := { frames := 0, cells := 0, slots := 0, locals := 0 }
def pX5_outside_10  (Q : Int32 → zz_T → Prop) (σ : zz_T) : Prop :=
    (zz_bo 1 ∧ Q 1 σ)
set_option maxHeartbeats 4000000 in
set_option maxRecDepth 100000 in
theorem vX5_outside_10 {p : Program} {l : Launch} {e : Env} {s : State} {m : MethodId} {args : Array Value} {below : List Frame} {meth : Method} {c : Code} {Y : zz_Y}  {Q : Int32 → zz_T → Prop} (X : zz_X p m c cX5_outside 3 s args RX5) (hr : meth.sig.returnType = (some .boolean)) (hlk : meth.locks = false) (hJ : zz_J Y)   : ∀ (σ : zz_T), pX5_outside_10  Q σ → zz_V p l e rmX5_outside s m args below meth c (MQ below (va_Qi Q (zz_E Y) (zz_A Y)) args s 0 0 (zz_A Y)) 3 Y σ 10 [] [] := by
  intro σ h 
  unfold pX5_outside_10 at h
  refine zv_iconst (v := 1) X dX5_outside_10 (by decide) rfl ?_
  refine zv_goto (tgt := 15) X dX5_outside_11 (by decide) ?_
  exact zv_zret X hr hlk h dX5_outside_15
def pX5_outside (x0 : Int32) (x1 : Int32) (x2 : Int32) (σ : zz_T) (Q : Int32 → zz_T → Prop) : Prop :=
    ((x0 < x1 → pX5_outside_10  Q σ) ∧
    (¬ x0 < x1 → ((x0 ≤ x2 → (zz_bo 0 ∧ Q 0 σ)) ∧
    (¬ x0 ≤ x2 → pX5_outside_10  Q σ))))
set_option maxHeartbeats 4000000 in
set_option maxRecDepth 100000 in
theorem kX5_outside (l : Launch) {Y : zz_Y} (hJ : zz_J Y) (x0 : Int32) (x1 : Int32) (x2 : Int32)  {σ : zz_T} {Q : Int32 → zz_T → Prop} (h : pX5_outside x0 x1 x2 σ Q) : zz_Mi l yX5_outside cX5_outside 3 (some .boolean) rmX5_outside Y [.int x0, .int x1, .int x2] σ Q := by
  refine zz_Mi.start (by decide) hJ (Nat.le_of_ble_eq_true rfl) (fun p e s m below meth c X hr hlk => ?_)
  have X : zz_X p m c cX5_outside 3 s _ RX5 := X
  refine zv_sub (lv2 := [(0, .int x0), (1, .int x1), (2, .int x2)]) [0, 1, 2] rfl ?_
  unfold pX5_outside at h
  refine zv_iload_n X dX5_outside_0 0 rfl rfl rfl ?_
  refine zv_iload_n X dX5_outside_1 1 rfl rfl rfl ?_
  refine zv_icmp_lt (tgt := 10) X dX5_outside_2 (by decide) rfl (fun q2 => ?_) (fun q2 => ?_)
  · replace h := h.1 q2
    refine zv_sub (lv2 := []) [] rfl ?_
    exact vX5_outside_10 X hr hlk hJ  _ h
  · replace h := h.2 q2
    refine zv_iload_n X dX5_outside_5 0 rfl rfl rfl ?_
    refine zv_iload_n X dX5_outside_6 2 rfl rfl rfl ?_
    refine zv_icmp_le (tgt := 14) X dX5_outside_7 (by decide) rfl (fun q7 => ?_) (fun q7 => ?_)
    · replace h := h.1 q7
      refine zv_iconst (v := 0) X dX5_outside_14 (by decide) rfl ?_
      exact zv_zret X hr hlk h dX5_outside_15
    · replace h := h.2 q7
      refine zv_sub (lv2 := []) [] rfl ?_
      exact vX5_outside_10 X hr hlk hJ  _ h
def rmX5_feed : Room := { frames := 1, cells := 0, slots := 0, locals := 22 }
def pX5_feed (x1 : Int32) (σ : zz_T) (Q : Int32 → zz_T → Prop) : Prop :=
    pX5_outside x1 0 127 σ (fun r4 s4 =>
    ((r4 = 0 → (((s4.1 1 1) < 160 → vp_in (s4.1 1 1) 160 ∧
    Q ((zz_i (zz_i s4 2 (Int32.toNatClampNeg (s4.1 1 1)) (vp_nar .byte (Int32.toInt8 x1).toInt32)) 1 1 (((zz_i s4 2 (Int32.toNatClampNeg (s4.1 1 1)) (vp_nar .byte (Int32.toInt8 x1).toInt32)).1 1 1) + 1)).1 1 1) (zz_i (zz_i s4 2 (Int32.toNatClampNeg (s4.1 1 1)) (vp_nar .byte (Int32.toInt8 x1).toInt32)) 1 1 (((zz_i s4 2 (Int32.toNatClampNeg (s4.1 1 1)) (vp_nar .byte (Int32.toInt8 x1).toInt32)).1 1 1) + 1))) ∧
    (¬ (s4.1 1 1) < 160 → Q (-3) s4))) ∧
    (¬ r4 = 0 → Q (-1) s4)))
set_option maxHeartbeats 4000000 in
set_option maxRecDepth 100000 in
theorem kX5_feed (l : Launch) {Y : zz_Y} (hJ : zz_J Y) (x1 : Int32) (hY : zz_ho Y) {σ : zz_T} {Q : Int32 → zz_T → Prop} (h : pX5_feed x1 σ Q) : zz_Mi l yX5_feed cX5_feed 2 (some .int) rmX5_feed Y [.ref (Y.2.1 0), .int x1] σ Q := by
  refine zz_Mi.start (by decide) hJ (Nat.le_of_ble_eq_true rfl) (fun p e s m below meth c X hr hlk => ?_)
  have X : zz_X p m c cX5_feed 2 s _ RX5 := X
  refine zv_sub (lv2 := [(0, .ref (Y.2.1 0)), (1, .int x1)]) [0, 1] rfl ?_
  unfold pX5_feed at h
  refine zv_iload_n X dX5_feed_0 1 rfl rfl rfl ?_
  refine zv_iconst (v := 0) X dX5_feed_1 (by decide) rfl ?_
  refine zv_bipush (v := 127) X dX5_feed_2 (by decide) rfl ?_
  refine zv_cSi X [.int x1, .int 0, .int 127] (kX5_outside l hJ x1 0 127  h) jl_X5_58 ⟨rfl, rfl⟩ ⟨Nat.le_of_ble_eq_true rfl, Nat.le_of_ble_eq_true rfl⟩ rfl rfl (Nat.le_of_ble_eq_true rfl) dX5_feed_4 rfl (fun r4 s4 h => ?_)
  refine zv_if_eq (tgt := 12) X dX5_feed_7 (by decide) rfl (fun q7 => ?_) (fun q7 => ?_)
  · replace h := h.1 q7
    refine zv_aload_n X dX5_feed_12 0 rfl rfl rfl ?_
    refine zg_X5_0 (k := 0) X (zz_ho_o hY).1 (zz_ho_o hY).2 fl_X5_10 dX5_feed_13 rfl ?_
    refine zg_X4_1 (k := 1) X (zz_ho_tape hY).1.1 (zz_ho_tape hY).1.2 fl_X5_62 dX5_feed_16 rfl ?_
    refine zv_sipush (v := 160) X dX5_feed_19 (by decide) rfl ?_
    refine zv_icmp_lt (tgt := 28) X dX5_feed_22 (by decide) rfl (fun q22 => ?_) (fun q22 => ?_)
    · replace h := h.1 q22
      refine zv_aload_n X dX5_feed_28 0 rfl rfl rfl ?_
      refine zg_X5_0 (k := 0) X (zz_ho_o hY).1 (zz_ho_o hY).2 fl_X5_10 dX5_feed_29 rfl ?_
      refine zg_X4_0 (k := 1) X (zz_ho_tape hY).1.1 (zz_ho_tape hY).1.2 fl_X5_66 dX5_feed_32 rfl ?_
      refine zv_aload_n X dX5_feed_35 0 rfl rfl rfl ?_
      refine zg_X5_0 (k := 0) X (zz_ho_o hY).1 (zz_ho_o hY).2 fl_X5_10 dX5_feed_36 rfl ?_
      refine zg_X4_1 (k := 1) X (zz_ho_tape hY).1.1 (zz_ho_tape hY).1.2 fl_X5_62 dX5_feed_39 rfl ?_
      refine zv_iload_n X dX5_feed_42 1 rfl rfl rfl ?_
      refine zv_i2b X dX5_feed_43 rfl ?_
      obtain ⟨hi44, h⟩ := h
      refine zv_bast (k := 2) X (zz_ho_tape hY).2.1 (zz_ho_tape hY).2.2 hi44 dX5_feed_44 rfl ?_
      refine zv_aload_n X dX5_feed_45 0 rfl rfl rfl ?_
      refine zg_X5_0 (k := 0) X (zz_ho_o hY).1 (zz_ho_o hY).2 fl_X5_10 dX5_feed_46 rfl ?_
      refine zv_dup X dX5_feed_49 rfl rfl ?_
      refine zg_X4_1 (k := 1) X (zz_ho_tape hY).1.1 (zz_ho_tape hY).1.2 fl_X5_62 dX5_feed_50 rfl ?_
      refine zv_iconst (v := 1) X dX5_feed_53 (by decide) rfl ?_
      refine zv_iadd X dX5_feed_54 rfl ?_
      refine zp_X4_1 (k := 1) X (zz_ho_tape hY).1.1 (zz_ho_tape hY).1.2 fl_X5_62 dX5_feed_55 rfl ?_
      refine zv_aload_n X dX5_feed_58 0 rfl rfl rfl ?_
      refine zg_X5_0 (k := 0) X (zz_ho_o hY).1 (zz_ho_o hY).2 fl_X5_10 dX5_feed_59 rfl ?_
      refine zg_X4_1 (k := 1) X (zz_ho_tape hY).1.1 (zz_ho_tape hY).1.2 fl_X5_62 dX5_feed_62 rfl ?_
      exact zv_iret X hr hlk h dX5_feed_65
    · replace h := h.2 q22
      refine zv_bipush (v := (-3)) X dX5_feed_25 (by decide) rfl ?_
      exact zv_iret X hr hlk h dX5_feed_27
  · replace h := h.2 q7
    refine zv_iconst (v := (-1)) X dX5_feed_10 (by decide) rfl ?_
    exact zv_iret X hr hlk h dX5_feed_11
def rmX5_end : Room := { frames := 1, cells := 0, slots := 0, locals := 22 }
def pX5_end (x1 : Int32) (σ : zz_T) (Q : Int32 → zz_T → Prop) : Prop :=
    pX5_outside x1 0 (σ.1 1 1) σ (fun r9 s9 =>
    ((r9 = 0 → Q (s9.1 1 1) (zz_i s9 1 1 x1)) ∧
    (¬ r9 = 0 → Q (-1) s9)))
set_option maxHeartbeats 4000000 in
set_option maxRecDepth 100000 in
theorem kX5_end (l : Launch) {Y : zz_Y} (hJ : zz_J Y) (x1 : Int32) (hY : zz_ho Y) {σ : zz_T} {Q : Int32 → zz_T → Prop} (h : pX5_end x1 σ Q) : zz_Mi l yX5_end cX5_end 3 (some .int) rmX5_end Y [.ref (Y.2.1 0), .int x1] σ Q := by
  refine zz_Mi.start (by decide) hJ (Nat.le_of_ble_eq_true rfl) (fun p e s m below meth c X hr hlk => ?_)
  have X : zz_X p m c cX5_end 3 s _ RX5 := X
  refine zv_sub (lv2 := [(0, .ref (Y.2.1 0)), (1, .int x1)]) [0, 1] rfl ?_
  unfold pX5_end at h
  refine zv_iload_n X dX5_end_0 1 rfl rfl rfl ?_
  refine zv_iconst (v := 0) X dX5_end_1 (by decide) rfl ?_
  refine zv_aload_n X dX5_end_2 0 rfl rfl rfl ?_
  refine zg_X5_0 (k := 0) X (zz_ho_o hY).1 (zz_ho_o hY).2 fl_X5_10 dX5_end_3 rfl ?_
  refine zg_X4_1 (k := 1) X (zz_ho_tape hY).1.1 (zz_ho_tape hY).1.2 fl_X5_62 dX5_end_6 rfl ?_
  refine zv_cSi X [.int x1, .int 0, .int (σ.1 1 1)] (kX5_outside l hJ x1 0 (σ.1 1 1)  h) jl_X5_58 ⟨rfl, rfl⟩ ⟨Nat.le_of_ble_eq_true rfl, Nat.le_of_ble_eq_true rfl⟩ rfl rfl (Nat.le_of_ble_eq_true rfl) dX5_end_9 rfl (fun r9 s9 h => ?_)
  refine zv_if_eq (tgt := 17) X dX5_end_12 (by decide) rfl (fun q12 => ?_) (fun q12 => ?_)
  · replace h := h.1 q12
    refine zv_aload_n X dX5_end_17 0 rfl rfl rfl ?_
    refine zg_X5_0 (k := 0) X (zz_ho_o hY).1 (zz_ho_o hY).2 fl_X5_10 dX5_end_18 rfl ?_
    refine zg_X4_1 (k := 1) X (zz_ho_tape hY).1.1 (zz_ho_tape hY).1.2 fl_X5_62 dX5_end_21 rfl ?_
    refine zv_istore_n (lv2 := [(2, .int (s9.1 1 1)), (0, .ref (Y.2.1 0)), (1, .int x1)]) X dX5_end_24 rfl (by decide) rfl rfl ?_
    refine zv_aload_n X dX5_end_25 1 rfl rfl rfl ?_
    refine zg_X5_0 (k := 0) X (zz_ho_o hY).1 (zz_ho_o hY).2 fl_X5_10 dX5_end_26 rfl ?_
    refine zv_iload_n X dX5_end_29 2 rfl rfl rfl ?_
    refine zp_X4_1 (k := 1) X (zz_ho_tape hY).1.1 (zz_ho_tape hY).1.2 fl_X5_62 dX5_end_30 rfl ?_
    refine zv_iload_n X dX5_end_33 0 rfl rfl rfl ?_
    exact zv_iret X hr hlk h dX5_end_34
  · replace h := h.2 q12
    refine zv_iconst (v := (-1)) X dX5_end_15 (by decide) rfl ?_
    exact zv_iret X hr hlk h dX5_end_16
def rmX5_text : Room := { frames := 8, cells := 0, slots := 0, locals := 172 }
def pX5_text_54  (Q : Int32 → zz_T → Prop) : Nat → Int32 → Int32 → zz_T → Prop
  | 0, _, _, _ => False
  | n + 1, x1, x2, σ =>
    ((2 ≤ x2 → Q x1 σ) ∧
    (¬ 2 ≤ x2 → vp_in x2 2 ∧
    pX5_text_54  Q n x1 (x2 + 1) (zz_i σ 41 (Int32.toNatClampNeg x2) (vp_nar .boolean 0))))
set_option maxHeartbeats 4000000 in
set_option maxRecDepth 100000 in
theorem vX5_text_54 {p : Program} {l : Launch} {e : Env} {s : State} {m : MethodId} {args : Array Value} {below : List Frame} {meth : Method} {c : Code} {Y : zz_Y}  {Q : Int32 → zz_T → Prop} (X : zz_X p m c cX5_text 3 s args RX5) (hr : meth.sig.returnType = (some .int)) (hlk : meth.locks = false) (hJ : zz_J Y) (hY : zz_ho Y)  : ∀ (n : Nat) (x1 : Int32) (x2 : Int32) (σ : zz_T), pX5_text_54  Q n x1 x2 σ → zz_V p l e rmX5_text s m args below meth c (MQ below (va_Qi Q (zz_E Y) (zz_A Y)) args s 0 0 (zz_A Y)) 3 Y σ 54 [(0, .ref (Y.2.1 0)), (1, .int x1), (2, .int x2)] [] := by
  intro n
  induction n with
  | zero => intro x1 x2 σ h; exact h.elim
  | succ n ih =>
    intro x1 x2 σ h 
    unfold pX5_text_54 at h
    refine zv_iload_n X dX5_text_54 2 rfl rfl rfl ?_
    refine zv_iconst (v := 2) X dX5_text_55 (by decide) rfl ?_
    refine zv_icmp_ge (tgt := 72) X dX5_text_56 (by decide) rfl (fun q56 => ?_) (fun q56 => ?_)
    · replace h := h.1 q56
      refine zv_iload_n X dX5_text_72 1 rfl rfl rfl ?_
      exact zv_iret X hr hlk h dX5_text_73
    · replace h := h.2 q56
      refine zv_aload_n X dX5_text_59 0 rfl rfl rfl ?_
      refine zg_X5_5 (k := 0) X (zz_ho_o hY).1 (zz_ho_o hY).2 fl_X5_37 dX5_text_60 rfl ?_
      refine zv_iload_n X dX5_text_63 2 rfl rfl rfl ?_
      refine zv_iconst (v := 0) X dX5_text_64 (by decide) rfl ?_
      obtain ⟨hi65, h⟩ := h
      refine zv_zast (k := 41) X (zz_ho_kept hY).1 (zz_ho_kept hY).2 hi65 dX5_text_65 rfl ?_
      refine zv_iinc (v := (x2 + 1)) (lv2 := [(2, .int (x2 + 1)), (0, .ref (Y.2.1 0)), (1, .int x1)]) X dX5_text_66 2 rfl rfl (by decide) rfl rfl ?_
      refine zv_goto (tgt := 54) X dX5_text_69 (by decide) ?_
      refine zv_sub (lv2 := [(0, .ref (Y.2.1 0)), (1, .int x1), (2, .int (x2 + 1))]) [1, 2, 0] rfl ?_
      exact ih x1 (x2 + 1) _ h
def pX5_text  (σ : zz_T) (Q : Int32 → zz_T → Prop) : Prop :=
    pX4_readInto 1 20 σ (fun r8 s8 =>
    ((((zz_i s8 1 1 0).1 1 2) = 0 → pX1_copyFrom 3 20 (zz_i s8 1 1 0) (fun s49 =>
    ∃ n54, pX5_text_54  Q n54 r8 0 s49)) ∧
    (¬ ((zz_i s8 1 1 0).1 1 2) = 0 → Q ((-10) - ((zz_i s8 1 1 0).1 1 3)) (zz_i s8 1 1 0))))
set_option maxHeartbeats 4000000 in
set_option maxRecDepth 100000 in
theorem kX5_text (l : Launch) {Y : zz_Y} (hJ : zz_J Y)  (hY : zz_ho Y) {σ : zz_T} {Q : Int32 → zz_T → Prop} (h : pX5_text  σ Q) : zz_Mi l yX5_text cX5_text 3 (some .int) rmX5_text Y [.ref (Y.2.1 0)] σ Q := by
  refine zz_Mi.start (by decide) hJ (Nat.le_of_ble_eq_true rfl) (fun p e s m below meth c X hr hlk => ?_)
  have X : zz_X p m c cX5_text 3 s _ RX5 := X
  refine zv_sub (lv2 := [(0, .ref (Y.2.1 0))]) [0] rfl ?_
  unfold pX5_text at h
  refine zv_aload_n X dX5_text_0 0 rfl rfl rfl ?_
  refine zg_X5_0 (k := 0) X (zz_ho_o hY).1 (zz_ho_o hY).2 fl_X5_10 dX5_text_1 rfl ?_
  refine zv_aload_n X dX5_text_4 0 rfl rfl rfl ?_
  refine zg_X5_2 (k := 0) X (zz_ho_o hY).1 (zz_ho_o hY).2 fl_X5_23 dX5_text_5 rfl ?_
  refine zv_cVi (k := 1) (ci := 4) X [.ref (Y.2.1 20)] (kX4_readInto l hJ  (zz_ho_tape hY) (zz_ho_trial hY) h) jl_X5_70 ⟨rfl, rfl⟩ ⟨Nat.le_of_ble_eq_true rfl, Nat.le_of_ble_eq_true rfl⟩ (zz_ho_tape hY).1.1 (by decide) (zz_ho_tape hY).1.2 rfl rfl rfl (Nat.le_of_ble_eq_true rfl) dX5_text_8 rfl (fun r8 s8 h => ?_)
  refine zv_istore_n (lv2 := [(1, .int r8), (0, .ref (Y.2.1 0))]) X dX5_text_11 rfl (by decide) rfl rfl ?_
  refine zv_aload_n X dX5_text_12 1 rfl rfl rfl ?_
  refine zg_X5_0 (k := 0) X (zz_ho_o hY).1 (zz_ho_o hY).2 fl_X5_10 dX5_text_13 rfl ?_
  refine zv_iconst (v := 0) X dX5_text_16 (by decide) rfl ?_
  refine zp_X4_1 (k := 1) X (zz_ho_tape hY).1.1 (zz_ho_tape hY).1.2 fl_X5_62 dX5_text_17 rfl ?_
  refine zv_aload_n X dX5_text_20 1 rfl rfl rfl ?_
  refine zg_X5_0 (k := 0) X (zz_ho_o hY).1 (zz_ho_o hY).2 fl_X5_10 dX5_text_21 rfl ?_
  refine zg_X4_2 (k := 1) X (zz_ho_tape hY).1.1 (zz_ho_tape hY).1.2 fl_X5_74 dX5_text_24 rfl ?_
  refine zv_if_eq (tgt := 41) X dX5_text_27 (by decide) rfl (fun q27 => ?_) (fun q27 => ?_)
  · replace h := h.1 q27
    refine zv_aload_n X dX5_text_41 1 rfl rfl rfl ?_
    refine zg_X5_1 (k := 0) X (zz_ho_o hY).1 (zz_ho_o hY).2 fl_X5_19 dX5_text_42 rfl ?_
    refine zv_aload_n X dX5_text_45 1 rfl rfl rfl ?_
    refine zg_X5_2 (k := 0) X (zz_ho_o hY).1 (zz_ho_o hY).2 fl_X5_23 dX5_text_46 rfl ?_
    refine zv_cVv (k := 3) (ci := 1) X [.ref (Y.2.1 20)] (kX1_copyFrom l hJ  (zz_ho_now hY) (zz_ho_trial hY) h) jl_X5_80 ⟨rfl, rfl⟩ ⟨Nat.le_of_ble_eq_true rfl, Nat.le_of_ble_eq_true rfl⟩ (zz_ho_now hY).1.1 (by decide) (zz_ho_now hY).1.2 rfl rfl rfl (Nat.le_of_ble_eq_true rfl) dX5_text_49 rfl (fun s49 h => ?_)
    refine zv_iconst (v := 0) X dX5_text_52 (by decide) rfl ?_
    refine zv_istore_n (lv2 := [(2, .int 0), (1, .int r8), (0, .ref (Y.2.1 0))]) X dX5_text_53 rfl (by decide) rfl rfl ?_
    obtain ⟨n54, h⟩ := h
    refine zv_sub (lv2 := [(0, .ref (Y.2.1 0)), (1, .int r8), (2, .int 0)]) [2, 1, 0] rfl ?_
    exact vX5_text_54 X hr hlk hJ hY n54 r8 0 _ h
  · replace h := h.2 q27
    refine zv_bipush (v := (-10)) X dX5_text_30 (by decide) rfl ?_
    refine zv_aload_n X dX5_text_32 1 rfl rfl rfl ?_
    refine zg_X5_0 (k := 0) X (zz_ho_o hY).1 (zz_ho_o hY).2 fl_X5_10 dX5_text_33 rfl ?_
    refine zg_X4_3 (k := 1) X (zz_ho_tape hY).1.1 (zz_ho_tape hY).1.2 fl_X5_77 dX5_text_36 rfl ?_
    refine zv_isub X dX5_text_39 rfl ?_
    exact zv_iret X hr hlk h dX5_text_40
def rmX5_fault : Room := { frames := 0, cells := 0, slots := 0, locals := 0 }
def pX5_fault  (σ : zz_T) (Q : Int32 → zz_T → Prop) : Prop :=
    Q (σ.1 1 2) σ
set_option maxHeartbeats 4000000 in
set_option maxRecDepth 100000 in
theorem kX5_fault (l : Launch) {Y : zz_Y} (hJ : zz_J Y)  (hY : zz_ho Y) {σ : zz_T} {Q : Int32 → zz_T → Prop} (h : pX5_fault  σ Q) : zz_Mi l yX5_fault cX5_fault 1 (some .int) rmX5_fault Y [.ref (Y.2.1 0)] σ Q := by
  refine zz_Mi.start (by decide) hJ (Nat.le_of_ble_eq_true rfl) (fun p e s m below meth c X hr hlk => ?_)
  have X : zz_X p m c cX5_fault 1 s _ RX5 := X
  refine zv_sub (lv2 := [(0, .ref (Y.2.1 0))]) [0] rfl ?_
  unfold pX5_fault at h
  refine zv_aload_n X dX5_fault_0 0 rfl rfl rfl ?_
  refine zg_X5_0 (k := 0) X (zz_ho_o hY).1 (zz_ho_o hY).2 fl_X5_10 dX5_fault_1 rfl ?_
  refine zg_X4_2 (k := 1) X (zz_ho_tape hY).1.1 (zz_ho_tape hY).1.2 fl_X5_74 dX5_fault_4 rfl ?_
  exact zv_iret X hr hlk h dX5_fault_7
def rmX5_rule : Room := { frames := 2, cells := 0, slots := 0, locals := 42 }
def pX5_rule (x1 : Int32) (σ : zz_T) (Q : Int32 → zz_T → Prop) : Prop :=
    ((x1 = 0 → Q (σ.1 3 4) σ) ∧
    (¬ x1 = 0 → ((x1 = 1 → Q (σ.1 3 5) σ) ∧
    (¬ x1 = 1 → ((x1 = 2 → Q (σ.1 3 6) σ) ∧
    (¬ x1 = 2 → ((x1 = 3 → vp_in 0 3 ∧
    Q (σ.1 6 (Int32.toNatClampNeg 0)) σ) ∧
    (¬ x1 = 3 → ((x1 = 4 → vp_in 1 3 ∧
    Q (σ.1 6 (Int32.toNatClampNeg 1)) σ) ∧
    (¬ x1 = 4 → ((x1 = 5 → vp_in 2 3 ∧
    Q (σ.1 6 (Int32.toNatClampNeg 2)) σ) ∧
    (¬ x1 = 5 → ((x1 = 6 → pX1_wrongOfAll 3 σ (fun r106 s106 =>
    Q r106 s106)) ∧
    (¬ x1 = 6 → ((x1 = 7 → pX1_wantedIn 3 0 σ (fun r115 s115 =>
    Q r115 s115)) ∧
    (¬ x1 = 7 → Q (-1) σ))))))))))))))))
set_option maxHeartbeats 4000000 in
set_option maxRecDepth 100000 in
theorem kX5_rule (l : Launch) {Y : zz_Y} (hJ : zz_J Y) (x1 : Int32) (hY : zz_ho Y) {σ : zz_T} {Q : Int32 → zz_T → Prop} (h : pX5_rule x1 σ Q) : zz_Mi l yX5_rule cX5_rule 2 (some .int) rmX5_rule Y [.ref (Y.2.1 0), .int x1] σ Q := by
  refine zz_Mi.start (by decide) hJ (Nat.le_of_ble_eq_true rfl) (fun p e s m below meth c X hr hlk => ?_)
  have X : zz_X p m c cX5_rule 2 s _ RX5 := X
  refine zv_sub (lv2 := [(0, .ref (Y.2.1 0)), (1, .int x1)]) [0, 1] rfl ?_
  unfold pX5_rule at h
  refine zv_iload_n X dX5_rule_0 1 rfl rfl rfl ?_
  by_cases e1_0 : x1 = 0
  · replace h := h.1 e1_0
    refine zv_tableIn (tgt := 48) X 0 dX5_rule_1 e1_0 ⟨⟨by decide, by decide⟩, rfl⟩ (by decide) ?_
    refine zv_aload_n X dX5_rule_48 0 rfl rfl rfl ?_
    refine zg_X5_1 (k := 0) X (zz_ho_o hY).1 (zz_ho_o hY).2 fl_X5_19 dX5_rule_49 rfl ?_
    refine zg_X1_4 (k := 3) X (zz_ho_now hY).1.1 (zz_ho_now hY).1.2 fl_X5_84 dX5_rule_52 rfl ?_
    exact zv_iret X hr hlk h dX5_rule_55
  · replace h := h.2 e1_0
    by_cases e1_1 : x1 = 1
    · replace h := h.1 e1_1
      refine zv_tableIn (tgt := 56) X 1 dX5_rule_1 e1_1 ⟨⟨by decide, by decide⟩, rfl⟩ (by decide) ?_
      refine zv_aload_n X dX5_rule_56 0 rfl rfl rfl ?_
      refine zg_X5_1 (k := 0) X (zz_ho_o hY).1 (zz_ho_o hY).2 fl_X5_19 dX5_rule_57 rfl ?_
      refine zg_X1_5 (k := 3) X (zz_ho_now hY).1.1 (zz_ho_now hY).1.2 fl_X5_87 dX5_rule_60 rfl ?_
      exact zv_iret X hr hlk h dX5_rule_63
    · replace h := h.2 e1_1
      by_cases e1_2 : x1 = 2
      · replace h := h.1 e1_2
        refine zv_tableIn (tgt := 64) X 2 dX5_rule_1 e1_2 ⟨⟨by decide, by decide⟩, rfl⟩ (by decide) ?_
        refine zv_aload_n X dX5_rule_64 0 rfl rfl rfl ?_
        refine zg_X5_1 (k := 0) X (zz_ho_o hY).1 (zz_ho_o hY).2 fl_X5_19 dX5_rule_65 rfl ?_
        refine zg_X1_6 (k := 3) X (zz_ho_now hY).1.1 (zz_ho_now hY).1.2 fl_X5_90 dX5_rule_68 rfl ?_
        exact zv_iret X hr hlk h dX5_rule_71
      · replace h := h.2 e1_2
        by_cases e1_3 : x1 = 3
        · replace h := h.1 e1_3
          refine zv_tableIn (tgt := 72) X 3 dX5_rule_1 e1_3 ⟨⟨by decide, by decide⟩, rfl⟩ (by decide) ?_
          refine zv_aload_n X dX5_rule_72 0 rfl rfl rfl ?_
          refine zg_X5_1 (k := 0) X (zz_ho_o hY).1 (zz_ho_o hY).2 fl_X5_19 dX5_rule_73 rfl ?_
          refine zg_X1_2 (k := 3) X (zz_ho_now hY).1.1 (zz_ho_now hY).1.2 fl_X5_93 dX5_rule_76 rfl ?_
          refine zv_iconst (v := 0) X dX5_rule_79 (by decide) rfl ?_
          obtain ⟨hi80, h⟩ := h
          refine zv_iald (k := 6) X (zz_ho_now hY).2.2.2.1.1 (zz_ho_now hY).2.2.2.1.2 hi80 dX5_rule_80 rfl ?_
          exact zv_iret X hr hlk h dX5_rule_81
        · replace h := h.2 e1_3
          by_cases e1_4 : x1 = 4
          · replace h := h.1 e1_4
            refine zv_tableIn (tgt := 82) X 4 dX5_rule_1 e1_4 ⟨⟨by decide, by decide⟩, rfl⟩ (by decide) ?_
            refine zv_aload_n X dX5_rule_82 0 rfl rfl rfl ?_
            refine zg_X5_1 (k := 0) X (zz_ho_o hY).1 (zz_ho_o hY).2 fl_X5_19 dX5_rule_83 rfl ?_
            refine zg_X1_2 (k := 3) X (zz_ho_now hY).1.1 (zz_ho_now hY).1.2 fl_X5_93 dX5_rule_86 rfl ?_
            refine zv_iconst (v := 1) X dX5_rule_89 (by decide) rfl ?_
            obtain ⟨hi90, h⟩ := h
            refine zv_iald (k := 6) X (zz_ho_now hY).2.2.2.1.1 (zz_ho_now hY).2.2.2.1.2 hi90 dX5_rule_90 rfl ?_
            exact zv_iret X hr hlk h dX5_rule_91
          · replace h := h.2 e1_4
            by_cases e1_5 : x1 = 5
            · replace h := h.1 e1_5
              refine zv_tableIn (tgt := 92) X 5 dX5_rule_1 e1_5 ⟨⟨by decide, by decide⟩, rfl⟩ (by decide) ?_
              refine zv_aload_n X dX5_rule_92 0 rfl rfl rfl ?_
              refine zg_X5_1 (k := 0) X (zz_ho_o hY).1 (zz_ho_o hY).2 fl_X5_19 dX5_rule_93 rfl ?_
              refine zg_X1_2 (k := 3) X (zz_ho_now hY).1.1 (zz_ho_now hY).1.2 fl_X5_93 dX5_rule_96 rfl ?_
              refine zv_iconst (v := 2) X dX5_rule_99 (by decide) rfl ?_
              obtain ⟨hi100, h⟩ := h
              refine zv_iald (k := 6) X (zz_ho_now hY).2.2.2.1.1 (zz_ho_now hY).2.2.2.1.2 hi100 dX5_rule_100 rfl ?_
              exact zv_iret X hr hlk h dX5_rule_101
            · replace h := h.2 e1_5
              by_cases e1_6 : x1 = 6
              · replace h := h.1 e1_6
                refine zv_tableIn (tgt := 102) X 6 dX5_rule_1 e1_6 ⟨⟨by decide, by decide⟩, rfl⟩ (by decide) ?_
                refine zv_aload_n X dX5_rule_102 0 rfl rfl rfl ?_
                refine zg_X5_1 (k := 0) X (zz_ho_o hY).1 (zz_ho_o hY).2 fl_X5_19 dX5_rule_103 rfl ?_
                refine zv_cVi (k := 3) (ci := 1) X [] (kX1_wrongOfAll l hJ  (zz_ho_now hY) h) jl_X5_96 ⟨rfl, rfl⟩ ⟨Nat.le_of_ble_eq_true rfl, Nat.le_of_ble_eq_true rfl⟩ (zz_ho_now hY).1.1 (by decide) (zz_ho_now hY).1.2 rfl rfl rfl (Nat.le_of_ble_eq_true rfl) dX5_rule_106 rfl (fun r106 s106 h => ?_)
                exact zv_iret X hr hlk h dX5_rule_109
              · replace h := h.2 e1_6
                by_cases e1_7 : x1 = 7
                · replace h := h.1 e1_7
                  refine zv_tableIn (tgt := 110) X 7 dX5_rule_1 e1_7 ⟨⟨by decide, by decide⟩, rfl⟩ (by decide) ?_
                  refine zv_aload_n X dX5_rule_110 0 rfl rfl rfl ?_
                  refine zg_X5_1 (k := 0) X (zz_ho_o hY).1 (zz_ho_o hY).2 fl_X5_19 dX5_rule_111 rfl ?_
                  refine zv_iconst (v := 0) X dX5_rule_114 (by decide) rfl ?_
                  refine zv_cVi (k := 3) (ci := 1) X [.int 0] (kX1_wantedIn l hJ 0 (zz_ho_now hY) h) jl_X5_100 ⟨rfl, rfl⟩ ⟨Nat.le_of_ble_eq_true rfl, Nat.le_of_ble_eq_true rfl⟩ (zz_ho_now hY).1.1 (by decide) (zz_ho_now hY).1.2 rfl rfl rfl (Nat.le_of_ble_eq_true rfl) dX5_rule_115 rfl (fun r115 s115 h => ?_)
                  exact zv_iret X hr hlk h dX5_rule_118
                · replace h := h.2 e1_7
                  refine zv_tableOut (tgt := 119) X dX5_rule_1 (by have := zz_nt e1_0 (z := 0) rfl; have := zz_nt e1_1 (z := 1) rfl; have := zz_nt e1_2 (z := 2) rfl; have := zz_nt e1_3 (z := 3) rfl; have := zz_nt e1_4 (z := 4) rfl; have := zz_nt e1_5 (z := 5) rfl; have := zz_nt e1_6 (z := 6) rfl; have := zz_nt e1_7 (z := 7) rfl; omega) (by decide) ?_
                  refine zv_iconst (v := (-1)) X dX5_rule_119 (by decide) rfl ?_
                  exact zv_iret X hr hlk h dX5_rule_120
def rmX5_noHead : Room := { frames := 1, cells := 0, slots := 0, locals := 22 }
def pX5_noHead (x1 : Int32) (σ : zz_T) (Q : Int32 → zz_T → Prop) : Prop :=
    pX5_outside x1 0 ((σ.1 3 4) - 1) σ (fun r11 s11 =>
    (zz_bo r11 ∧ Q r11 s11))
set_option maxHeartbeats 4000000 in
set_option maxRecDepth 100000 in
theorem kX5_noHead (l : Launch) {Y : zz_Y} (hJ : zz_J Y) (x1 : Int32) (hY : zz_ho Y) {σ : zz_T} {Q : Int32 → zz_T → Prop} (h : pX5_noHead x1 σ Q) : zz_Mi l yX5_noHead cX5_noHead 2 (some .boolean) rmX5_noHead Y [.ref (Y.2.1 0), .int x1] σ Q := by
  refine zz_Mi.start (by decide) hJ (Nat.le_of_ble_eq_true rfl) (fun p e s m below meth c X hr hlk => ?_)
  have X : zz_X p m c cX5_noHead 2 s _ RX5 := X
  refine zv_sub (lv2 := [(0, .ref (Y.2.1 0)), (1, .int x1)]) [0, 1] rfl ?_
  unfold pX5_noHead at h
  refine zv_iload_n X dX5_noHead_0 1 rfl rfl rfl ?_
  refine zv_iconst (v := 0) X dX5_noHead_1 (by decide) rfl ?_
  refine zv_aload_n X dX5_noHead_2 0 rfl rfl rfl ?_
  refine zg_X5_1 (k := 0) X (zz_ho_o hY).1 (zz_ho_o hY).2 fl_X5_19 dX5_noHead_3 rfl ?_
  refine zg_X1_4 (k := 3) X (zz_ho_now hY).1.1 (zz_ho_now hY).1.2 fl_X5_84 dX5_noHead_6 rfl ?_
  refine zv_iconst (v := 1) X dX5_noHead_9 (by decide) rfl ?_
  refine zv_isub X dX5_noHead_10 rfl ?_
  refine zv_cSi X [.int x1, .int 0, .int ((σ.1 3 4) - 1)] (kX5_outside l hJ x1 0 ((σ.1 3 4) - 1)  h) jl_X5_58 ⟨rfl, rfl⟩ ⟨Nat.le_of_ble_eq_true rfl, Nat.le_of_ble_eq_true rfl⟩ rfl rfl (Nat.le_of_ble_eq_true rfl) dX5_noHead_11 rfl (fun r11 s11 h => ?_)
  exact zv_zret X hr hlk h dX5_noHead_14
def rmX5_head : Room := { frames := 2, cells := 0, slots := 0, locals := 43 }
def pX5_head (x1 : Int32) (x2 : Int32) (σ : zz_T) (Q : Int32 → zz_T → Prop) : Prop :=
    pX5_noHead x1 σ (fun r2 s2 =>
    ((r2 = 0 → vp_in x1 3 ∧
    ((x2 = 0 → Q (s2.1 (11 + 3 * (Int32.toNatClampNeg x1)) 2) s2) ∧
    (¬ x2 = 0 → ((x2 = 1 → Q (s2.1 (11 + 3 * (Int32.toNatClampNeg x1)) 3) s2) ∧
    (¬ x2 = 1 → ((x2 = 2 → Q (s2.1 (11 + 3 * (Int32.toNatClampNeg x1)) 4) s2) ∧
    (¬ x2 = 2 → ((x2 = 3 → pX0_heatSum (11 + 3 * (Int32.toNatClampNeg x1)) s2 (fun r68 s68 =>
    Q r68 s68)) ∧
    (¬ x2 = 3 → Q (-1) s2))))))))) ∧
    (¬ r2 = 0 → Q (-1) s2)))
set_option maxHeartbeats 4000000 in
set_option maxRecDepth 100000 in
theorem kX5_head (l : Launch) {Y : zz_Y} (hJ : zz_J Y) (x1 : Int32) (x2 : Int32) (hY : zz_ho Y) {σ : zz_T} {Q : Int32 → zz_T → Prop} (h : pX5_head x1 x2 σ Q) : zz_Mi l yX5_head cX5_head 4 (some .int) rmX5_head Y [.ref (Y.2.1 0), .int x1, .int x2] σ Q := by
  refine zz_Mi.start (by decide) hJ (Nat.le_of_ble_eq_true rfl) (fun p e s m below meth c X hr hlk => ?_)
  have X : zz_X p m c cX5_head 4 s _ RX5 := X
  refine zv_sub (lv2 := [(0, .ref (Y.2.1 0)), (1, .int x1), (2, .int x2)]) [0, 1, 2] rfl ?_
  unfold pX5_head at h
  refine zv_aload_n X dX5_head_0 0 rfl rfl rfl ?_
  refine zv_iload_n X dX5_head_1 1 rfl rfl rfl ?_
  refine zv_cVi (k := 0) (ci := 5) X [.int x1] (kX5_noHead l hJ x1 hY h) jl_X5_104 ⟨rfl, rfl⟩ ⟨Nat.le_of_ble_eq_true rfl, Nat.le_of_ble_eq_true rfl⟩ (zz_ho_o hY).1 (by decide) (zz_ho_o hY).2 rfl rfl rfl (Nat.le_of_ble_eq_true rfl) dX5_head_2 rfl (fun r2 s2 h => ?_)
  refine zv_if_eq (tgt := 10) X dX5_head_5 (by decide) rfl (fun q5 => ?_) (fun q5 => ?_)
  · replace h := h.1 q5
    refine zv_aload_n X dX5_head_10 0 rfl rfl rfl ?_
    refine zg_X5_1 (k := 0) X (zz_ho_o hY).1 (zz_ho_o hY).2 fl_X5_19 dX5_head_11 rfl ?_
    refine zg_X1_0 (k := 3) X (zz_ho_now hY).1.1 (zz_ho_now hY).1.2 fl_X5_108 dX5_head_14 rfl ?_
    refine zv_iload_n X dX5_head_17 1 rfl rfl rfl ?_
    obtain ⟨hi18, h⟩ := h
    refine zv_aald3 (k := 4) X (zz_ho_now hY).2.1.1 (zz_ho_now hY).2.1.2 hi18 dX5_head_18 rfl ?_
    refine zv_astore_n (lv2 := [(3, .ref (Y.2.1 (11 + 3 * (Int32.toNatClampNeg x1)))), (0, .ref (Y.2.1 0)), (1, .int x1), (2, .int x2)]) X dX5_head_19 rfl (by decide) rfl rfl ?_
    refine zv_iload_n X dX5_head_20 3 rfl rfl rfl ?_
    by_cases e21_0 : x2 = 0
    · replace h := h.1 e21_0
      refine zv_tableIn (tgt := 52) X 0 dX5_head_21 e21_0 ⟨⟨by decide, by decide⟩, rfl⟩ (by decide) ?_
      refine zv_aload_n X dX5_head_52 0 rfl rfl rfl ?_
      refine zg_X0_2 (k := (11 + 3 * (Int32.toNatClampNeg x1))) X ((zz_ho_now hY).2.2.2.2.2 _ (zz_lt hi18)).1.1 ((zz_ho_now hY).2.2.2.2.2 _ (zz_lt hi18)).1.2 fl_X5_112 dX5_head_53 rfl ?_
      exact zv_iret X hr hlk h dX5_head_56
    · replace h := h.2 e21_0
      by_cases e21_1 : x2 = 1
      · replace h := h.1 e21_1
        refine zv_tableIn (tgt := 57) X 1 dX5_head_21 e21_1 ⟨⟨by decide, by decide⟩, rfl⟩ (by decide) ?_
        refine zv_aload_n X dX5_head_57 0 rfl rfl rfl ?_
        refine zg_X0_3 (k := (11 + 3 * (Int32.toNatClampNeg x1))) X ((zz_ho_now hY).2.2.2.2.2 _ (zz_lt hi18)).1.1 ((zz_ho_now hY).2.2.2.2.2 _ (zz_lt hi18)).1.2 fl_X5_115 dX5_head_58 rfl ?_
        exact zv_iret X hr hlk h dX5_head_61
      · replace h := h.2 e21_1
        by_cases e21_2 : x2 = 2
        · replace h := h.1 e21_2
          refine zv_tableIn (tgt := 62) X 2 dX5_head_21 e21_2 ⟨⟨by decide, by decide⟩, rfl⟩ (by decide) ?_
          refine zv_aload_n X dX5_head_62 0 rfl rfl rfl ?_
          refine zg_X0_4 (k := (11 + 3 * (Int32.toNatClampNeg x1))) X ((zz_ho_now hY).2.2.2.2.2 _ (zz_lt hi18)).1.1 ((zz_ho_now hY).2.2.2.2.2 _ (zz_lt hi18)).1.2 fl_X5_118 dX5_head_63 rfl ?_
          exact zv_iret X hr hlk h dX5_head_66
        · replace h := h.2 e21_2
          by_cases e21_3 : x2 = 3
          · replace h := h.1 e21_3
            refine zv_tableIn (tgt := 67) X 3 dX5_head_21 e21_3 ⟨⟨by decide, by decide⟩, rfl⟩ (by decide) ?_
            refine zv_aload_n X dX5_head_67 0 rfl rfl rfl ?_
            refine zv_cVi (k := (11 + 3 * (Int32.toNatClampNeg x1))) (ci := 0) X [] (kX0_heatSum l hJ  ((zz_ho_now hY).2.2.2.2.2 _ (zz_lt hi18)) h) jl_X5_121 ⟨rfl, rfl⟩ ⟨Nat.le_of_ble_eq_true rfl, Nat.le_of_ble_eq_true rfl⟩ ((zz_ho_now hY).2.2.2.2.2 _ (zz_lt hi18)).1.1 (by decide) ((zz_ho_now hY).2.2.2.2.2 _ (zz_lt hi18)).1.2 rfl rfl rfl (Nat.le_of_ble_eq_true rfl) dX5_head_68 rfl (fun r68 s68 h => ?_)
            exact zv_iret X hr hlk h dX5_head_71
          · replace h := h.2 e21_3
            refine zv_tableOut (tgt := 72) X dX5_head_21 (by have := zz_nt e21_0 (z := 0) rfl; have := zz_nt e21_1 (z := 1) rfl; have := zz_nt e21_2 (z := 2) rfl; have := zz_nt e21_3 (z := 3) rfl; omega) (by decide) ?_
            refine zv_iconst (v := (-1)) X dX5_head_72 (by decide) rfl ?_
            exact zv_iret X hr hlk h dX5_head_73
  · replace h := h.2 q5
    refine zv_iconst (v := (-1)) X dX5_head_8 (by decide) rfl ?_
    exact zv_iret X hr hlk h dX5_head_9
def rmX5_noDot : Room := { frames := 1, cells := 0, slots := 0, locals := 22 }
def pX5_noDot (x0 : Int32) (σ : zz_T) (Q : Int32 → zz_T → Prop) : Prop :=
    pX5_outside x0 0 7 σ (fun r4 s4 =>
    (zz_bo r4 ∧ Q r4 s4))
set_option maxHeartbeats 4000000 in
set_option maxRecDepth 100000 in
theorem kX5_noDot (l : Launch) {Y : zz_Y} (hJ : zz_J Y) (x0 : Int32)  {σ : zz_T} {Q : Int32 → zz_T → Prop} (h : pX5_noDot x0 σ Q) : zz_Mi l yX5_noDot cX5_noDot 1 (some .boolean) rmX5_noDot Y [.int x0] σ Q := by
  refine zz_Mi.start (by decide) hJ (Nat.le_of_ble_eq_true rfl) (fun p e s m below meth c X hr hlk => ?_)
  have X : zz_X p m c cX5_noDot 1 s _ RX5 := X
  refine zv_sub (lv2 := [(0, .int x0)]) [0] rfl ?_
  unfold pX5_noDot at h
  refine zv_iload_n X dX5_noDot_0 0 rfl rfl rfl ?_
  refine zv_iconst (v := 0) X dX5_noDot_1 (by decide) rfl ?_
  refine zv_bipush (v := 7) X dX5_noDot_2 (by decide) rfl ?_
  refine zv_cSi X [.int x0, .int 0, .int 7] (kX5_outside l hJ x0 0 7  h) jl_X5_58 ⟨rfl, rfl⟩ ⟨Nat.le_of_ble_eq_true rfl, Nat.le_of_ble_eq_true rfl⟩ rfl rfl (Nat.le_of_ble_eq_true rfl) dX5_noDot_4 rfl (fun r4 s4 h => ?_)
  exact zv_zret X hr hlk h dX5_noDot_7
def rmX5_dot : Room := { frames := 2, cells := 0, slots := 0, locals := 43 }
def pX5_dot (x1 : Int32) (x2 : Int32) (x3 : Int32) (σ : zz_T) (Q : Int32 → zz_T → Prop) : Prop :=
    pX5_noHead x1 σ (fun r2 s2 =>
    ((r2 = 0 → pX5_noDot x2 s2 (fun r9 s9 =>
    ((r9 = 0 → pX5_outside x3 0 1 s9 (fun r18 s18 =>
    ((r18 = 0 → vp_in x1 3 ∧
    ((x3 = 0 → vp_in x2 8 ∧
    Q (s18.1 ((11 + 3 * (Int32.toNatClampNeg x1)) + 1) (Int32.toNatClampNeg x2)) s18) ∧
    (¬ x3 = 0 → pX1_wantedIn 3 0 s18 (fun r59 s59 =>
    pX1_wantedIn 3 1 s59 (fun r67 s67 =>
    pX0_gain (11 + 3 * (Int32.toNatClampNeg x1)) x2 r59 r67 s67 (fun r70 s70 =>
    Q r70 s70)))))) ∧
    (¬ r18 = 0 → Q (-1) s18)))) ∧
    (¬ r9 = 0 → Q (-1) s9)))) ∧
    (¬ r2 = 0 → Q (-1) s2)))
set_option maxHeartbeats 4000000 in
set_option maxRecDepth 100000 in
theorem kX5_dot (l : Launch) {Y : zz_Y} (hJ : zz_J Y) (x1 : Int32) (x2 : Int32) (x3 : Int32) (hY : zz_ho Y) {σ : zz_T} {Q : Int32 → zz_T → Prop} (h : pX5_dot x1 x2 x3 σ Q) : zz_Mi l yX5_dot cX5_dot 5 (some .int) rmX5_dot Y [.ref (Y.2.1 0), .int x1, .int x2, .int x3] σ Q := by
  refine zz_Mi.start (by decide) hJ (Nat.le_of_ble_eq_true rfl) (fun p e s m below meth c X hr hlk => ?_)
  have X : zz_X p m c cX5_dot 5 s _ RX5 := X
  refine zv_sub (lv2 := [(0, .ref (Y.2.1 0)), (1, .int x1), (2, .int x2), (3, .int x3)]) [0, 1, 2, 3] rfl ?_
  unfold pX5_dot at h
  refine zv_aload_n X dX5_dot_0 0 rfl rfl rfl ?_
  refine zv_iload_n X dX5_dot_1 1 rfl rfl rfl ?_
  refine zv_cVi (k := 0) (ci := 5) X [.int x1] (kX5_noHead l hJ x1 hY h) jl_X5_104 ⟨rfl, rfl⟩ ⟨Nat.le_of_ble_eq_true rfl, Nat.le_of_ble_eq_true rfl⟩ (zz_ho_o hY).1 (by decide) (zz_ho_o hY).2 rfl rfl rfl (Nat.le_of_ble_eq_true rfl) dX5_dot_2 rfl (fun r2 s2 h => ?_)
  refine zv_if_ne (tgt := 24) X dX5_dot_5 (by decide) rfl (fun q5 => ?_) (fun q5 => ?_)
  · replace h := h.2 q5
    refine zv_iconst (v := (-1)) X dX5_dot_24 (by decide) rfl ?_
    exact zv_iret X hr hlk h dX5_dot_25
  · replace h := h.1 q5
    refine zv_iload_n X dX5_dot_8 2 rfl rfl rfl ?_
    refine zv_cSi X [.int x2] (kX5_noDot l hJ x2  h) jl_X5_124 ⟨rfl, rfl⟩ ⟨Nat.le_of_ble_eq_true rfl, Nat.le_of_ble_eq_true rfl⟩ rfl rfl (Nat.le_of_ble_eq_true rfl) dX5_dot_9 rfl (fun r9 s9 h => ?_)
    refine zv_if_ne (tgt := 24) X dX5_dot_12 (by decide) rfl (fun q12 => ?_) (fun q12 => ?_)
    · replace h := h.2 q12
      refine zv_iconst (v := (-1)) X dX5_dot_24 (by decide) rfl ?_
      exact zv_iret X hr hlk h dX5_dot_25
    · replace h := h.1 q12
      refine zv_iload_n X dX5_dot_15 3 rfl rfl rfl ?_
      refine zv_iconst (v := 0) X dX5_dot_16 (by decide) rfl ?_
      refine zv_iconst (v := 1) X dX5_dot_17 (by decide) rfl ?_
      refine zv_cSi X [.int x3, .int 0, .int 1] (kX5_outside l hJ x3 0 1  h) jl_X5_58 ⟨rfl, rfl⟩ ⟨Nat.le_of_ble_eq_true rfl, Nat.le_of_ble_eq_true rfl⟩ rfl rfl (Nat.le_of_ble_eq_true rfl) dX5_dot_18 rfl (fun r18 s18 h => ?_)
      refine zv_if_eq (tgt := 26) X dX5_dot_21 (by decide) rfl (fun q21 => ?_) (fun q21 => ?_)
      · replace h := h.1 q21
        refine zv_aload_n X dX5_dot_26 0 rfl rfl rfl ?_
        refine zg_X5_1 (k := 0) X (zz_ho_o hY).1 (zz_ho_o hY).2 fl_X5_19 dX5_dot_27 rfl ?_
        refine zg_X1_0 (k := 3) X (zz_ho_now hY).1.1 (zz_ho_now hY).1.2 fl_X5_108 dX5_dot_30 rfl ?_
        refine zv_iload_n X dX5_dot_33 1 rfl rfl rfl ?_
        obtain ⟨hi34, h⟩ := h
        refine zv_aald3 (k := 4) X (zz_ho_now hY).2.1.1 (zz_ho_now hY).2.1.2 hi34 dX5_dot_34 rfl ?_
        refine zv_astore (lv2 := [(4, .ref (Y.2.1 (11 + 3 * (Int32.toNatClampNeg x1)))), (0, .ref (Y.2.1 0)), (1, .int x1), (2, .int x2), (3, .int x3)]) X dX5_dot_35 (by decide) rfl rfl ?_
        refine zv_iload_n X dX5_dot_37 4 rfl rfl rfl ?_
        refine zv_if_ne (tgt := 51) X dX5_dot_38 (by decide) rfl (fun q38 => ?_) (fun q38 => ?_)
        · replace h := h.2 q38
          refine zv_aload X dX5_dot_51 0 rfl rfl ?_
          refine zv_iload_n X dX5_dot_53 3 rfl rfl rfl ?_
          refine zv_aload_n X dX5_dot_54 1 rfl rfl rfl ?_
          refine zg_X5_1 (k := 0) X (zz_ho_o hY).1 (zz_ho_o hY).2 fl_X5_19 dX5_dot_55 rfl ?_
          refine zv_iconst (v := 0) X dX5_dot_58 (by decide) rfl ?_
          refine zv_cVi (k := 3) (ci := 1) X [.int 0] (kX1_wantedIn l hJ 0 (zz_ho_now hY) h) jl_X5_100 ⟨rfl, rfl⟩ ⟨Nat.le_of_ble_eq_true rfl, Nat.le_of_ble_eq_true rfl⟩ (zz_ho_now hY).1.1 (by decide) (zz_ho_now hY).1.2 rfl rfl rfl (Nat.le_of_ble_eq_true rfl) dX5_dot_59 rfl (fun r59 s59 h => ?_)
          refine zv_aload_n X dX5_dot_62 1 rfl rfl rfl ?_
          refine zg_X5_1 (k := 0) X (zz_ho_o hY).1 (zz_ho_o hY).2 fl_X5_19 dX5_dot_63 rfl ?_
          refine zv_iconst (v := 1) X dX5_dot_66 (by decide) rfl ?_
          refine zv_cVi (k := 3) (ci := 1) X [.int 1] (kX1_wantedIn l hJ 1 (zz_ho_now hY) h) jl_X5_100 ⟨rfl, rfl⟩ ⟨Nat.le_of_ble_eq_true rfl, Nat.le_of_ble_eq_true rfl⟩ (zz_ho_now hY).1.1 (by decide) (zz_ho_now hY).1.2 rfl rfl rfl (Nat.le_of_ble_eq_true rfl) dX5_dot_67 rfl (fun r67 s67 h => ?_)
          refine zv_cVi (k := (11 + 3 * (Int32.toNatClampNeg x1))) (ci := 0) X [.int x2, .int r59, .int r67] (kX0_gain l hJ x2 r59 r67 ((zz_ho_now hY).2.2.2.2.2 _ (zz_lt hi34)) h) jl_X5_130 ⟨rfl, rfl⟩ ⟨Nat.le_of_ble_eq_true rfl, Nat.le_of_ble_eq_true rfl⟩ ((zz_ho_now hY).2.2.2.2.2 _ (zz_lt hi34)).1.1 (by decide) ((zz_ho_now hY).2.2.2.2.2 _ (zz_lt hi34)).1.2 rfl rfl rfl (Nat.le_of_ble_eq_true rfl) dX5_dot_70 rfl (fun r70 s70 h => ?_)
          exact zv_iret X hr hlk h dX5_dot_73
        · replace h := h.1 q38
          refine zv_aload X dX5_dot_41 0 rfl rfl ?_
          refine zg_X0_0 (k := (11 + 3 * (Int32.toNatClampNeg x1))) X ((zz_ho_now hY).2.2.2.2.2 _ (zz_lt hi34)).1.1 ((zz_ho_now hY).2.2.2.2.2 _ (zz_lt hi34)).1.2 fl_X5_127 dX5_dot_43 rfl ?_
          refine zv_iload_n X dX5_dot_46 3 rfl rfl rfl ?_
          obtain ⟨hi47, h⟩ := h
          refine zv_iald (k := ((11 + 3 * (Int32.toNatClampNeg x1)) + 1)) X ((zz_ho_now hY).2.2.2.2.2 _ (zz_lt hi34)).2.1.1 ((zz_ho_now hY).2.2.2.2.2 _ (zz_lt hi34)).2.1.2 hi47 dX5_dot_47 rfl ?_
          refine zv_goto (tgt := 73) X dX5_dot_48 (by decide) ?_
          exact zv_iret X hr hlk h dX5_dot_73
      · replace h := h.2 q21
        refine zv_iconst (v := (-1)) X dX5_dot_24 (by decide) rfl ?_
        exact zv_iret X hr hlk h dX5_dot_25
def rmX5_noLine : Room := { frames := 1, cells := 0, slots := 0, locals := 22 }
def pX5_noLine (x1 : Int32) (σ : zz_T) (Q : Int32 → zz_T → Prop) : Prop :=
    pX5_outside x1 0 ((σ.1 3 5) - 1) σ (fun r11 s11 =>
    (zz_bo r11 ∧ Q r11 s11))
set_option maxHeartbeats 4000000 in
set_option maxRecDepth 100000 in
theorem kX5_noLine (l : Launch) {Y : zz_Y} (hJ : zz_J Y) (x1 : Int32) (hY : zz_ho Y) {σ : zz_T} {Q : Int32 → zz_T → Prop} (h : pX5_noLine x1 σ Q) : zz_Mi l yX5_noLine cX5_noLine 2 (some .boolean) rmX5_noLine Y [.ref (Y.2.1 0), .int x1] σ Q := by
  refine zz_Mi.start (by decide) hJ (Nat.le_of_ble_eq_true rfl) (fun p e s m below meth c X hr hlk => ?_)
  have X : zz_X p m c cX5_noLine 2 s _ RX5 := X
  refine zv_sub (lv2 := [(0, .ref (Y.2.1 0)), (1, .int x1)]) [0, 1] rfl ?_
  unfold pX5_noLine at h
  refine zv_iload_n X dX5_noLine_0 1 rfl rfl rfl ?_
  refine zv_iconst (v := 0) X dX5_noLine_1 (by decide) rfl ?_
  refine zv_aload_n X dX5_noLine_2 0 rfl rfl rfl ?_
  refine zg_X5_1 (k := 0) X (zz_ho_o hY).1 (zz_ho_o hY).2 fl_X5_19 dX5_noLine_3 rfl ?_
  refine zg_X1_5 (k := 3) X (zz_ho_now hY).1.1 (zz_ho_now hY).1.2 fl_X5_87 dX5_noLine_6 rfl ?_
  refine zv_iconst (v := 1) X dX5_noLine_9 (by decide) rfl ?_
  refine zv_isub X dX5_noLine_10 rfl ?_
  refine zv_cSi X [.int x1, .int 0, .int ((σ.1 3 5) - 1)] (kX5_outside l hJ x1 0 ((σ.1 3 5) - 1)  h) jl_X5_58 ⟨rfl, rfl⟩ ⟨Nat.le_of_ble_eq_true rfl, Nat.le_of_ble_eq_true rfl⟩ rfl rfl (Nat.le_of_ble_eq_true rfl) dX5_noLine_11 rfl (fun r11 s11 h => ?_)
  exact zv_zret X hr hlk h dX5_noLine_14
def rmX5_line : Room := { frames := 2, cells := 0, slots := 0, locals := 43 }
def pX5_line (x1 : Int32) (σ : zz_T) (Q : Int32 → zz_T → Prop) : Prop :=
    pX5_noLine x1 σ (fun r2 s2 =>
    ((r2 = 0 → vp_in x1 12 ∧
    Q (s2.1 5 (Int32.toNatClampNeg x1)) s2) ∧
    (¬ r2 = 0 → Q (-1) s2)))
set_option maxHeartbeats 4000000 in
set_option maxRecDepth 100000 in
theorem kX5_line (l : Launch) {Y : zz_Y} (hJ : zz_J Y) (x1 : Int32) (hY : zz_ho Y) {σ : zz_T} {Q : Int32 → zz_T → Prop} (h : pX5_line x1 σ Q) : zz_Mi l yX5_line cX5_line 2 (some .int) rmX5_line Y [.ref (Y.2.1 0), .int x1] σ Q := by
  refine zz_Mi.start (by decide) hJ (Nat.le_of_ble_eq_true rfl) (fun p e s m below meth c X hr hlk => ?_)
  have X : zz_X p m c cX5_line 2 s _ RX5 := X
  refine zv_sub (lv2 := [(0, .ref (Y.2.1 0)), (1, .int x1)]) [0, 1] rfl ?_
  unfold pX5_line at h
  refine zv_aload_n X dX5_line_0 0 rfl rfl rfl ?_
  refine zv_iload_n X dX5_line_1 1 rfl rfl rfl ?_
  refine zv_cVi (k := 0) (ci := 5) X [.int x1] (kX5_noLine l hJ x1 hY h) jl_X5_134 ⟨rfl, rfl⟩ ⟨Nat.le_of_ble_eq_true rfl, Nat.le_of_ble_eq_true rfl⟩ (zz_ho_o hY).1 (by decide) (zz_ho_o hY).2 rfl rfl rfl (Nat.le_of_ble_eq_true rfl) dX5_line_2 rfl (fun r2 s2 h => ?_)
  refine zv_if_eq (tgt := 12) X dX5_line_5 (by decide) rfl (fun q5 => ?_) (fun q5 => ?_)
  · replace h := h.1 q5
    refine zv_aload_n X dX5_line_12 0 rfl rfl rfl ?_
    refine zg_X5_1 (k := 0) X (zz_ho_o hY).1 (zz_ho_o hY).2 fl_X5_19 dX5_line_13 rfl ?_
    refine zg_X1_1 (k := 3) X (zz_ho_now hY).1.1 (zz_ho_now hY).1.2 fl_X5_137 dX5_line_16 rfl ?_
    refine zv_iload_n X dX5_line_19 1 rfl rfl rfl ?_
    obtain ⟨hi20, h⟩ := h
    refine zv_iald (k := 5) X (zz_ho_now hY).2.2.1.1 (zz_ho_now hY).2.2.1.2 hi20 dX5_line_20 rfl ?_
    exact zv_iret X hr hlk h dX5_line_21
  · replace h := h.2 q5
    refine zv_iconst (v := (-1)) X dX5_line_8 (by decide) rfl ?_
    refine zv_goto (tgt := 21) X dX5_line_9 (by decide) ?_
    exact zv_iret X hr hlk h dX5_line_21
def rmX5_mostOf : Room := { frames := 0, cells := 0, slots := 0, locals := 0 }
def pX5_mostOf (x0 : Int32) (σ : zz_T) (Q : Int32 → zz_T → Prop) : Prop :=
    ((x0 = 0 → Q 3 σ) ∧
    (¬ x0 = 0 → Q 30 σ))
set_option maxHeartbeats 4000000 in
set_option maxRecDepth 100000 in
theorem kX5_mostOf (l : Launch) {Y : zz_Y} (hJ : zz_J Y) (x0 : Int32)  {σ : zz_T} {Q : Int32 → zz_T → Prop} (h : pX5_mostOf x0 σ Q) : zz_Mi l yX5_mostOf cX5_mostOf 1 (some .int) rmX5_mostOf Y [.int x0] σ Q := by
  refine zz_Mi.start (by decide) hJ (Nat.le_of_ble_eq_true rfl) (fun p e s m below meth c X hr hlk => ?_)
  have X : zz_X p m c cX5_mostOf 1 s _ RX5 := X
  refine zv_sub (lv2 := [(0, .int x0)]) [0] rfl ?_
  unfold pX5_mostOf at h
  refine zv_iload_n X dX5_mostOf_0 0 rfl rfl rfl ?_
  refine zv_if_ne (tgt := 8) X dX5_mostOf_1 (by decide) rfl (fun q1 => ?_) (fun q1 => ?_)
  · replace h := h.2 q1
    refine zv_bipush (v := 30) X dX5_mostOf_8 (by decide) rfl ?_
    exact zv_iret X hr hlk h dX5_mostOf_10
  · replace h := h.1 q1
    refine zv_iconst (v := 3) X dX5_mostOf_4 (by decide) rfl ?_
    refine zv_goto (tgt := 10) X dX5_mostOf_5 (by decide) ?_
    exact zv_iret X hr hlk h dX5_mostOf_10
def rmX5_alter : Room := { frames := 2, cells := 0, slots := 0, locals := 43 }
def pX5_alter_59  (Q : Int32 → zz_T → Prop) (x2 : Int32) (x3 : Int32) (a4 : Nat) (t0 : Int32) (σ : zz_T) : Prop :=
    pX0_drive a4 x2 x3 σ (fun s65 =>
    Q t0 s65)
set_option maxHeartbeats 4000000 in
set_option maxRecDepth 100000 in
theorem vX5_alter_59 {p : Program} {l : Launch} {e : Env} {s : State} {m : MethodId} {args : Array Value} {below : List Frame} {meth : Method} {c : Code} {Y : zz_Y}  {Q : Int32 → zz_T → Prop} (X : zz_X p m c cX5_alter 6 s args RX5) (hr : meth.sig.returnType = (some .int)) (hlk : meth.locks = false) (hJ : zz_J Y) (hY : zz_ho Y)  : ∀ (x2 : Int32) (x3 : Int32) (a4 : Nat) (t0 : Int32) (σ : zz_T), pX5_alter_59  Q x2 x3 a4 t0 σ → zz_hd Y a4 → zz_V p l e rmX5_alter s m args below meth c (MQ below (va_Qi Q (zz_E Y) (zz_A Y)) args s 0 0 (zz_A Y)) 6 Y σ 59 [(2, .int x2), (3, .int x3), (4, .ref (Y.2.1 a4))] [.int t0] := by
  intro x2 x3 a4 t0 σ h h4a
  unfold pX5_alter_59 at h
  refine zv_istore (lv2 := [(5, .int t0), (2, .int x2), (3, .int x3), (4, .ref (Y.2.1 a4))]) X dX5_alter_59 (by decide) rfl rfl ?_
  refine zv_aload X dX5_alter_61 3 rfl rfl ?_
  refine zv_iload_n X dX5_alter_63 1 rfl rfl rfl ?_
  refine zv_iload_n X dX5_alter_64 2 rfl rfl rfl ?_
  refine zv_cVv (k := a4) (ci := 0) X [.int x2, .int x3] (kX0_drive l hJ x2 x3 h4a h) jl_X5_143 ⟨rfl, rfl⟩ ⟨Nat.le_of_ble_eq_true rfl, Nat.le_of_ble_eq_true rfl⟩ h4a.1.1 (by decide) h4a.1.2 rfl rfl rfl (Nat.le_of_ble_eq_true rfl) dX5_alter_65 rfl (fun s65 h => ?_)
  refine zv_iload X dX5_alter_68 0 rfl rfl ?_
  exact zv_iret X hr hlk h dX5_alter_70
def pX5_alter (x1 : Int32) (x2 : Int32) (x3 : Int32) (σ : zz_T) (Q : Int32 → zz_T → Prop) : Prop :=
    pX5_noHead x1 σ (fun r2 s2 =>
    ((r2 = 0 → pX5_outside x2 0 1 s2 (fun r11 s11 =>
    ((r11 = 0 → pX5_mostOf x2 s11 (fun r20 s20 =>
    pX5_outside x3 0 r20 s20 (fun r23 s23 =>
    ((r23 = 0 → vp_in x1 3 ∧
    ((x2 = 0 → pX5_alter_59  Q x2 x3 (11 + 3 * (Int32.toNatClampNeg x1)) (s23.1 (11 + 3 * (Int32.toNatClampNeg x1)) 2) s23) ∧
    (¬ x2 = 0 → pX5_alter_59  Q x2 x3 (11 + 3 * (Int32.toNatClampNeg x1)) (s23.1 (11 + 3 * (Int32.toNatClampNeg x1)) 3) s23))) ∧
    (¬ r23 = 0 → Q (-1) s23))))) ∧
    (¬ r11 = 0 → Q (-1) s11)))) ∧
    (¬ r2 = 0 → Q (-1) s2)))
set_option maxHeartbeats 4000000 in
set_option maxRecDepth 100000 in
theorem kX5_alter (l : Launch) {Y : zz_Y} (hJ : zz_J Y) (x1 : Int32) (x2 : Int32) (x3 : Int32) (hY : zz_ho Y) {σ : zz_T} {Q : Int32 → zz_T → Prop} (h : pX5_alter x1 x2 x3 σ Q) : zz_Mi l yX5_alter cX5_alter 6 (some .int) rmX5_alter Y [.ref (Y.2.1 0), .int x1, .int x2, .int x3] σ Q := by
  refine zz_Mi.start (by decide) hJ (Nat.le_of_ble_eq_true rfl) (fun p e s m below meth c X hr hlk => ?_)
  have X : zz_X p m c cX5_alter 6 s _ RX5 := X
  refine zv_sub (lv2 := [(0, .ref (Y.2.1 0)), (1, .int x1), (2, .int x2), (3, .int x3)]) [0, 1, 2, 3] rfl ?_
  unfold pX5_alter at h
  refine zv_aload_n X dX5_alter_0 0 rfl rfl rfl ?_
  refine zv_iload_n X dX5_alter_1 1 rfl rfl rfl ?_
  refine zv_cVi (k := 0) (ci := 5) X [.int x1] (kX5_noHead l hJ x1 hY h) jl_X5_104 ⟨rfl, rfl⟩ ⟨Nat.le_of_ble_eq_true rfl, Nat.le_of_ble_eq_true rfl⟩ (zz_ho_o hY).1 (by decide) (zz_ho_o hY).2 rfl rfl rfl (Nat.le_of_ble_eq_true rfl) dX5_alter_2 rfl (fun r2 s2 h => ?_)
  refine zv_if_ne (tgt := 29) X dX5_alter_5 (by decide) rfl (fun q5 => ?_) (fun q5 => ?_)
  · replace h := h.2 q5
    refine zv_iconst (v := (-1)) X dX5_alter_29 (by decide) rfl ?_
    exact zv_iret X hr hlk h dX5_alter_30
  · replace h := h.1 q5
    refine zv_iload_n X dX5_alter_8 2 rfl rfl rfl ?_
    refine zv_iconst (v := 0) X dX5_alter_9 (by decide) rfl ?_
    refine zv_iconst (v := 1) X dX5_alter_10 (by decide) rfl ?_
    refine zv_cSi X [.int x2, .int 0, .int 1] (kX5_outside l hJ x2 0 1  h) jl_X5_58 ⟨rfl, rfl⟩ ⟨Nat.le_of_ble_eq_true rfl, Nat.le_of_ble_eq_true rfl⟩ rfl rfl (Nat.le_of_ble_eq_true rfl) dX5_alter_11 rfl (fun r11 s11 h => ?_)
    refine zv_if_ne (tgt := 29) X dX5_alter_14 (by decide) rfl (fun q14 => ?_) (fun q14 => ?_)
    · replace h := h.2 q14
      refine zv_iconst (v := (-1)) X dX5_alter_29 (by decide) rfl ?_
      exact zv_iret X hr hlk h dX5_alter_30
    · replace h := h.1 q14
      refine zv_iload_n X dX5_alter_17 3 rfl rfl rfl ?_
      refine zv_iconst (v := 0) X dX5_alter_18 (by decide) rfl ?_
      refine zv_iload_n X dX5_alter_19 2 rfl rfl rfl ?_
      refine zv_cSi X [.int x2] (kX5_mostOf l hJ x2  h) jl_X5_140 ⟨rfl, rfl⟩ ⟨Nat.le_of_ble_eq_true rfl, Nat.le_of_ble_eq_true rfl⟩ rfl rfl (Nat.le_of_ble_eq_true rfl) dX5_alter_20 rfl (fun r20 s20 h => ?_)
      refine zv_cSi X [.int x3, .int 0, .int r20] (kX5_outside l hJ x3 0 r20  h) jl_X5_58 ⟨rfl, rfl⟩ ⟨Nat.le_of_ble_eq_true rfl, Nat.le_of_ble_eq_true rfl⟩ rfl rfl (Nat.le_of_ble_eq_true rfl) dX5_alter_23 rfl (fun r23 s23 h => ?_)
      refine zv_if_eq (tgt := 31) X dX5_alter_26 (by decide) rfl (fun q26 => ?_) (fun q26 => ?_)
      · replace h := h.1 q26
        refine zv_aload_n X dX5_alter_31 0 rfl rfl rfl ?_
        refine zg_X5_1 (k := 0) X (zz_ho_o hY).1 (zz_ho_o hY).2 fl_X5_19 dX5_alter_32 rfl ?_
        refine zg_X1_0 (k := 3) X (zz_ho_now hY).1.1 (zz_ho_now hY).1.2 fl_X5_108 dX5_alter_35 rfl ?_
        refine zv_iload_n X dX5_alter_38 1 rfl rfl rfl ?_
        obtain ⟨hi39, h⟩ := h
        refine zv_aald3 (k := 4) X (zz_ho_now hY).2.1.1 (zz_ho_now hY).2.1.2 hi39 dX5_alter_39 rfl ?_
        refine zv_astore (lv2 := [(4, .ref (Y.2.1 (11 + 3 * (Int32.toNatClampNeg x1)))), (0, .ref (Y.2.1 0)), (1, .int x1), (2, .int x2), (3, .int x3)]) X dX5_alter_40 (by decide) rfl rfl ?_
        refine zv_iload_n X dX5_alter_42 3 rfl rfl rfl ?_
        refine zv_if_ne (tgt := 54) X dX5_alter_43 (by decide) rfl (fun q43 => ?_) (fun q43 => ?_)
        · replace h := h.2 q43
          refine zv_aload X dX5_alter_54 0 rfl rfl ?_
          refine zg_X0_3 (k := (11 + 3 * (Int32.toNatClampNeg x1))) X ((zz_ho_now hY).2.2.2.2.2 _ (zz_lt hi39)).1.1 ((zz_ho_now hY).2.2.2.2.2 _ (zz_lt hi39)).1.2 fl_X5_115 dX5_alter_56 rfl ?_
          refine zv_sub (lv2 := [(2, .int x2), (3, .int x3), (4, .ref (Y.2.1 (11 + 3 * (Int32.toNatClampNeg x1))))]) [3, 4, 0] rfl ?_
          exact vX5_alter_59 X hr hlk hJ hY x2 x3 (11 + 3 * (Int32.toNatClampNeg x1)) (s23.1 (11 + 3 * (Int32.toNatClampNeg x1)) 3) _ h ((zz_ho_now hY).2.2.2.2.2 _ (zz_lt hi39))
        · replace h := h.1 q43
          refine zv_aload X dX5_alter_46 0 rfl rfl ?_
          refine zg_X0_2 (k := (11 + 3 * (Int32.toNatClampNeg x1))) X ((zz_ho_now hY).2.2.2.2.2 _ (zz_lt hi39)).1.1 ((zz_ho_now hY).2.2.2.2.2 _ (zz_lt hi39)).1.2 fl_X5_112 dX5_alter_48 rfl ?_
          refine zv_goto (tgt := 59) X dX5_alter_51 (by decide) ?_
          refine zv_sub (lv2 := [(2, .int x2), (3, .int x3), (4, .ref (Y.2.1 (11 + 3 * (Int32.toNatClampNeg x1))))]) [3, 4, 0] rfl ?_
          exact vX5_alter_59 X hr hlk hJ hY x2 x3 (11 + 3 * (Int32.toNatClampNeg x1)) (s23.1 (11 + 3 * (Int32.toNatClampNeg x1)) 2) _ h ((zz_ho_now hY).2.2.2.2.2 _ (zz_lt hi39))
      · replace h := h.2 q26
        refine zv_iconst (v := (-1)) X dX5_alter_29 (by decide) rfl ?_
        exact zv_iret X hr hlk h dX5_alter_30
def rmX5_tell : Room := { frames := 1, cells := 0, slots := 0, locals := 22 }
def pX5_tell (x1 : Int32) (x2 : Int32) (σ : zz_T) (Q : Int32 → zz_T → Prop) : Prop :=
    pX5_outside x1 0 2 σ (fun r3 s3 =>
    ((r3 = 0 → vp_in x1 3 ∧
    vp_in x1 3 ∧
    pX5_outside x2 (zz_f 0 (Int32.toNatClampNeg x1)) (zz_f 1 (Int32.toNatClampNeg x1)) s3 (fun r20 s20 =>
    ((r20 = 0 → vp_in x1 3 ∧
    vp_in x1 3 ∧
    Q (s20.1 6 (Int32.toNatClampNeg x1)) (zz_i s20 6 (Int32.toNatClampNeg x1) x2)) ∧
    (¬ r20 = 0 → Q (-1) s20)))) ∧
    (¬ r3 = 0 → Q (-1) s3)))
set_option maxHeartbeats 4000000 in
set_option maxRecDepth 100000 in
theorem kX5_tell (l : Launch) {Y : zz_Y} (hJ : zz_J Y) (x1 : Int32) (x2 : Int32) (hY : zz_ho Y) {σ : zz_T} {Q : Int32 → zz_T → Prop} (h : pX5_tell x1 x2 σ Q) : zz_Mi l yX5_tell cX5_tell 4 (some .int) rmX5_tell Y [.ref (Y.2.1 0), .int x1, .int x2] σ Q := by
  refine zz_Mi.start (by decide) hJ (Nat.le_of_ble_eq_true rfl) (fun p e s m below meth c X hr hlk => ?_)
  have X : zz_X p m c cX5_tell 4 s _ RX5 := X
  refine zv_sub (lv2 := [(0, .ref (Y.2.1 0)), (1, .int x1), (2, .int x2)]) [0, 1, 2] rfl ?_
  unfold pX5_tell at h
  refine zv_iload_n X dX5_tell_0 1 rfl rfl rfl ?_
  refine zv_iconst (v := 0) X dX5_tell_1 (by decide) rfl ?_
  refine zv_iconst (v := 2) X dX5_tell_2 (by decide) rfl ?_
  refine zv_cSi X [.int x1, .int 0, .int 2] (kX5_outside l hJ x1 0 2  h) jl_X5_58 ⟨rfl, rfl⟩ ⟨Nat.le_of_ble_eq_true rfl, Nat.le_of_ble_eq_true rfl⟩ rfl rfl (Nat.le_of_ble_eq_true rfl) dX5_tell_3 rfl (fun r3 s3 h => ?_)
  refine zv_if_ne (tgt := 26) X dX5_tell_6 (by decide) rfl (fun q6 => ?_) (fun q6 => ?_)
  · replace h := h.2 q6
    refine zv_iconst (v := (-1)) X dX5_tell_26 (by decide) rfl ?_
    exact zv_iret X hr hlk h dX5_tell_27
  · replace h := h.1 q6
    refine zv_iload_n X dX5_tell_9 2 rfl rfl rfl ?_
    refine zv_st X 0 (by decide) (show Cond.fieldLink _ _ _ _ _ ∈ _ from fl_X5_147) dX5_tell_10 rfl ?_
    refine zv_iload_n X dX5_tell_13 1 rfl rfl rfl ?_
    obtain ⟨hi14, h⟩ := h
    refine zv_tald X 0 (by decide) hi14 dX5_tell_14 rfl ?_
    refine zv_st X 1 (by decide) (show Cond.fieldLink _ _ _ _ _ ∈ _ from fl_X5_150) dX5_tell_15 rfl ?_
    refine zv_iload_n X dX5_tell_18 1 rfl rfl rfl ?_
    obtain ⟨hi19, h⟩ := h
    refine zv_tald X 1 (by decide) hi19 dX5_tell_19 rfl ?_
    refine zv_cSi X [.int x2, .int (zz_f 0 (Int32.toNatClampNeg x1)), .int (zz_f 1 (Int32.toNatClampNeg x1))] (kX5_outside l hJ x2 (zz_f 0 (Int32.toNatClampNeg x1)) (zz_f 1 (Int32.toNatClampNeg x1))  h) jl_X5_58 ⟨rfl, rfl⟩ ⟨Nat.le_of_ble_eq_true rfl, Nat.le_of_ble_eq_true rfl⟩ rfl rfl (Nat.le_of_ble_eq_true rfl) dX5_tell_20 rfl (fun r20 s20 h => ?_)
    refine zv_if_eq (tgt := 28) X dX5_tell_23 (by decide) rfl (fun q23 => ?_) (fun q23 => ?_)
    · replace h := h.1 q23
      refine zv_aload_n X dX5_tell_28 0 rfl rfl rfl ?_
      refine zg_X5_1 (k := 0) X (zz_ho_o hY).1 (zz_ho_o hY).2 fl_X5_19 dX5_tell_29 rfl ?_
      refine zg_X1_2 (k := 3) X (zz_ho_now hY).1.1 (zz_ho_now hY).1.2 fl_X5_93 dX5_tell_32 rfl ?_
      refine zv_iload_n X dX5_tell_35 1 rfl rfl rfl ?_
      obtain ⟨hi36, h⟩ := h
      refine zv_iald (k := 6) X (zz_ho_now hY).2.2.2.1.1 (zz_ho_now hY).2.2.2.1.2 hi36 dX5_tell_36 rfl ?_
      refine zv_istore_n (lv2 := [(3, .int (s20.1 6 (Int32.toNatClampNeg x1))), (0, .ref (Y.2.1 0)), (1, .int x1), (2, .int x2)]) X dX5_tell_37 rfl (by decide) rfl rfl ?_
      refine zv_aload_n X dX5_tell_38 1 rfl rfl rfl ?_
      refine zg_X5_1 (k := 0) X (zz_ho_o hY).1 (zz_ho_o hY).2 fl_X5_19 dX5_tell_39 rfl ?_
      refine zg_X1_2 (k := 3) X (zz_ho_now hY).1.1 (zz_ho_now hY).1.2 fl_X5_93 dX5_tell_42 rfl ?_
      refine zv_iload_n X dX5_tell_45 2 rfl rfl rfl ?_
      refine zv_iload_n X dX5_tell_46 3 rfl rfl rfl ?_
      obtain ⟨hi47, h⟩ := h
      refine zv_iast (k := 6) X (zz_ho_now hY).2.2.2.1.1 (zz_ho_now hY).2.2.2.1.2 hi47 dX5_tell_47 rfl ?_
      refine zv_iload_n X dX5_tell_48 0 rfl rfl rfl ?_
      exact zv_iret X hr hlk h dX5_tell_49
    · replace h := h.2 q23
      refine zv_iconst (v := (-1)) X dX5_tell_26 (by decide) rfl ?_
      exact zv_iret X hr hlk h dX5_tell_27
def rmX5_warm : Room := { frames := 2, cells := 0, slots := 0, locals := 43 }
def pX5_warm (x1 : Int32) (x2 : Int32) (x3 : Int32) (σ : zz_T) (Q : Int32 → zz_T → Prop) : Prop :=
    pX5_noHead x1 σ (fun r2 s2 =>
    ((r2 = 0 → pX5_noDot x2 s2 (fun r9 s9 =>
    ((r9 = 0 → pX5_outside x3 0 99 s9 (fun r19 s19 =>
    ((r19 = 0 → vp_in x1 3 ∧
    vp_in x2 8 ∧
    vp_in x1 3 ∧
    vp_in x2 8 ∧
    Q (s19.1 ((11 + 3 * (Int32.toNatClampNeg x1)) + 1) (Int32.toNatClampNeg x2)) (zz_i s19 ((11 + 3 * (Int32.toNatClampNeg x1)) + 1) (Int32.toNatClampNeg x2) x3)) ∧
    (¬ r19 = 0 → Q (-1) s19)))) ∧
    (¬ r9 = 0 → Q (-1) s9)))) ∧
    (¬ r2 = 0 → Q (-1) s2)))
set_option maxHeartbeats 4000000 in
set_option maxRecDepth 100000 in
theorem kX5_warm (l : Launch) {Y : zz_Y} (hJ : zz_J Y) (x1 : Int32) (x2 : Int32) (x3 : Int32) (hY : zz_ho Y) {σ : zz_T} {Q : Int32 → zz_T → Prop} (h : pX5_warm x1 x2 x3 σ Q) : zz_Mi l yX5_warm cX5_warm 5 (some .int) rmX5_warm Y [.ref (Y.2.1 0), .int x1, .int x2, .int x3] σ Q := by
  refine zz_Mi.start (by decide) hJ (Nat.le_of_ble_eq_true rfl) (fun p e s m below meth c X hr hlk => ?_)
  have X : zz_X p m c cX5_warm 5 s _ RX5 := X
  refine zv_sub (lv2 := [(0, .ref (Y.2.1 0)), (1, .int x1), (2, .int x2), (3, .int x3)]) [0, 1, 2, 3] rfl ?_
  unfold pX5_warm at h
  refine zv_aload_n X dX5_warm_0 0 rfl rfl rfl ?_
  refine zv_iload_n X dX5_warm_1 1 rfl rfl rfl ?_
  refine zv_cVi (k := 0) (ci := 5) X [.int x1] (kX5_noHead l hJ x1 hY h) jl_X5_104 ⟨rfl, rfl⟩ ⟨Nat.le_of_ble_eq_true rfl, Nat.le_of_ble_eq_true rfl⟩ (zz_ho_o hY).1 (by decide) (zz_ho_o hY).2 rfl rfl rfl (Nat.le_of_ble_eq_true rfl) dX5_warm_2 rfl (fun r2 s2 h => ?_)
  refine zv_if_ne (tgt := 25) X dX5_warm_5 (by decide) rfl (fun q5 => ?_) (fun q5 => ?_)
  · replace h := h.2 q5
    refine zv_iconst (v := (-1)) X dX5_warm_25 (by decide) rfl ?_
    exact zv_iret X hr hlk h dX5_warm_26
  · replace h := h.1 q5
    refine zv_iload_n X dX5_warm_8 2 rfl rfl rfl ?_
    refine zv_cSi X [.int x2] (kX5_noDot l hJ x2  h) jl_X5_124 ⟨rfl, rfl⟩ ⟨Nat.le_of_ble_eq_true rfl, Nat.le_of_ble_eq_true rfl⟩ rfl rfl (Nat.le_of_ble_eq_true rfl) dX5_warm_9 rfl (fun r9 s9 h => ?_)
    refine zv_if_ne (tgt := 25) X dX5_warm_12 (by decide) rfl (fun q12 => ?_) (fun q12 => ?_)
    · replace h := h.2 q12
      refine zv_iconst (v := (-1)) X dX5_warm_25 (by decide) rfl ?_
      exact zv_iret X hr hlk h dX5_warm_26
    · replace h := h.1 q12
      refine zv_iload_n X dX5_warm_15 3 rfl rfl rfl ?_
      refine zv_iconst (v := 0) X dX5_warm_16 (by decide) rfl ?_
      refine zv_bipush (v := 99) X dX5_warm_17 (by decide) rfl ?_
      refine zv_cSi X [.int x3, .int 0, .int 99] (kX5_outside l hJ x3 0 99  h) jl_X5_58 ⟨rfl, rfl⟩ ⟨Nat.le_of_ble_eq_true rfl, Nat.le_of_ble_eq_true rfl⟩ rfl rfl (Nat.le_of_ble_eq_true rfl) dX5_warm_19 rfl (fun r19 s19 h => ?_)
      refine zv_if_eq (tgt := 27) X dX5_warm_22 (by decide) rfl (fun q22 => ?_) (fun q22 => ?_)
      · replace h := h.1 q22
        refine zv_aload_n X dX5_warm_27 0 rfl rfl rfl ?_
        refine zg_X5_1 (k := 0) X (zz_ho_o hY).1 (zz_ho_o hY).2 fl_X5_19 dX5_warm_28 rfl ?_
        refine zg_X1_0 (k := 3) X (zz_ho_now hY).1.1 (zz_ho_now hY).1.2 fl_X5_108 dX5_warm_31 rfl ?_
        refine zv_iload_n X dX5_warm_34 1 rfl rfl rfl ?_
        obtain ⟨hi35, h⟩ := h
        refine zv_aald3 (k := 4) X (zz_ho_now hY).2.1.1 (zz_ho_now hY).2.1.2 hi35 dX5_warm_35 rfl ?_
        refine zg_X0_0 (k := (11 + 3 * (Int32.toNatClampNeg x1))) X ((zz_ho_now hY).2.2.2.2.2 _ (zz_lt hi35)).1.1 ((zz_ho_now hY).2.2.2.2.2 _ (zz_lt hi35)).1.2 fl_X5_127 dX5_warm_36 rfl ?_
        refine zv_iload_n X dX5_warm_39 2 rfl rfl rfl ?_
        obtain ⟨hi40, h⟩ := h
        refine zv_iald (k := ((11 + 3 * (Int32.toNatClampNeg x1)) + 1)) X ((zz_ho_now hY).2.2.2.2.2 _ (zz_lt hi35)).2.1.1 ((zz_ho_now hY).2.2.2.2.2 _ (zz_lt hi35)).2.1.2 hi40 dX5_warm_40 rfl ?_
        refine zv_istore (lv2 := [(4, .int (s19.1 ((11 + 3 * (Int32.toNatClampNeg x1)) + 1) (Int32.toNatClampNeg x2))), (0, .ref (Y.2.1 0)), (1, .int x1), (2, .int x2), (3, .int x3)]) X dX5_warm_41 (by decide) rfl rfl ?_
        refine zv_aload_n X dX5_warm_43 1 rfl rfl rfl ?_
        refine zg_X5_1 (k := 0) X (zz_ho_o hY).1 (zz_ho_o hY).2 fl_X5_19 dX5_warm_44 rfl ?_
        refine zg_X1_0 (k := 3) X (zz_ho_now hY).1.1 (zz_ho_now hY).1.2 fl_X5_108 dX5_warm_47 rfl ?_
        refine zv_iload_n X dX5_warm_50 2 rfl rfl rfl ?_
        obtain ⟨hi51, h⟩ := h
        refine zv_aald3 (k := 4) X (zz_ho_now hY).2.1.1 (zz_ho_now hY).2.1.2 hi51 dX5_warm_51 rfl ?_
        refine zg_X0_0 (k := (11 + 3 * (Int32.toNatClampNeg x1))) X ((zz_ho_now hY).2.2.2.2.2 _ (zz_lt hi51)).1.1 ((zz_ho_now hY).2.2.2.2.2 _ (zz_lt hi51)).1.2 fl_X5_127 dX5_warm_52 rfl ?_
        refine zv_iload_n X dX5_warm_55 3 rfl rfl rfl ?_
        refine zv_iload_n X dX5_warm_56 4 rfl rfl rfl ?_
        obtain ⟨hi57, h⟩ := h
        refine zv_iast (k := ((11 + 3 * (Int32.toNatClampNeg x1)) + 1)) X ((zz_ho_now hY).2.2.2.2.2 _ (zz_lt hi51)).2.1.1 ((zz_ho_now hY).2.2.2.2.2 _ (zz_lt hi51)).2.1.2 hi57 dX5_warm_57 rfl ?_
        refine zv_iload X dX5_warm_58 0 rfl rfl ?_
        exact zv_iret X hr hlk h dX5_warm_60
      · replace h := h.2 q22
        refine zv_iconst (v := (-1)) X dX5_warm_25 (by decide) rfl ?_
        exact zv_iret X hr hlk h dX5_warm_26
def rmX5_lineRefused : Room := { frames := 2, cells := 0, slots := 0, locals := 43 }
def pX5_lineRefused_19  (Q : Int32 → zz_T → Prop) (σ : zz_T) : Prop :=
    (zz_bo 1 ∧ Q 1 σ)
set_option maxHeartbeats 4000000 in
set_option maxRecDepth 100000 in
theorem vX5_lineRefused_19 {p : Program} {l : Launch} {e : Env} {s : State} {m : MethodId} {args : Array Value} {below : List Frame} {meth : Method} {c : Code} {Y : zz_Y}  {Q : Int32 → zz_T → Prop} (X : zz_X p m c cX5_lineRefused 3 s args RX5) (hr : meth.sig.returnType = (some .boolean)) (hlk : meth.locks = false) (hJ : zz_J Y) (hY : zz_ho Y)  : ∀ (σ : zz_T), pX5_lineRefused_19  Q σ → zz_V p l e rmX5_lineRefused s m args below meth c (MQ below (va_Qi Q (zz_E Y) (zz_A Y)) args s 0 0 (zz_A Y)) 3 Y σ 19 [] [] := by
  intro σ h 
  unfold pX5_lineRefused_19 at h
  refine zv_iconst (v := 1) X dX5_lineRefused_19 (by decide) rfl ?_
  refine zv_goto (tgt := 24) X dX5_lineRefused_20 (by decide) ?_
  exact zv_zret X hr hlk h dX5_lineRefused_24
def pX5_lineRefused (x1 : Int32) (x2 : Int32) (σ : zz_T) (Q : Int32 → zz_T → Prop) : Prop :=
    pX5_noLine x1 σ (fun r2 s2 =>
    ((r2 = 0 → pX5_outside x2 0 255 s2 (fun r13 s13 =>
    ((r13 = 0 → (zz_bo 0 ∧ Q 0 s13)) ∧
    (¬ r13 = 0 → pX5_lineRefused_19  Q s13)))) ∧
    (¬ r2 = 0 → pX5_lineRefused_19  Q s2)))
set_option maxHeartbeats 4000000 in
set_option maxRecDepth 100000 in
theorem kX5_lineRefused (l : Launch) {Y : zz_Y} (hJ : zz_J Y) (x1 : Int32) (x2 : Int32) (hY : zz_ho Y) {σ : zz_T} {Q : Int32 → zz_T → Prop} (h : pX5_lineRefused x1 x2 σ Q) : zz_Mi l yX5_lineRefused cX5_lineRefused 3 (some .boolean) rmX5_lineRefused Y [.ref (Y.2.1 0), .int x1, .int x2] σ Q := by
  refine zz_Mi.start (by decide) hJ (Nat.le_of_ble_eq_true rfl) (fun p e s m below meth c X hr hlk => ?_)
  have X : zz_X p m c cX5_lineRefused 3 s _ RX5 := X
  refine zv_sub (lv2 := [(0, .ref (Y.2.1 0)), (1, .int x1), (2, .int x2)]) [0, 1, 2] rfl ?_
  unfold pX5_lineRefused at h
  refine zv_aload_n X dX5_lineRefused_0 0 rfl rfl rfl ?_
  refine zv_iload_n X dX5_lineRefused_1 1 rfl rfl rfl ?_
  refine zv_cVi (k := 0) (ci := 5) X [.int x1] (kX5_noLine l hJ x1 hY h) jl_X5_134 ⟨rfl, rfl⟩ ⟨Nat.le_of_ble_eq_true rfl, Nat.le_of_ble_eq_true rfl⟩ (zz_ho_o hY).1 (by decide) (zz_ho_o hY).2 rfl rfl rfl (Nat.le_of_ble_eq_true rfl) dX5_lineRefused_2 rfl (fun r2 s2 h => ?_)
  refine zv_if_ne (tgt := 19) X dX5_lineRefused_5 (by decide) rfl (fun q5 => ?_) (fun q5 => ?_)
  · replace h := h.2 q5
    refine zv_sub (lv2 := []) [] rfl ?_
    exact vX5_lineRefused_19 X hr hlk hJ hY _ h
  · replace h := h.1 q5
    refine zv_iload_n X dX5_lineRefused_8 2 rfl rfl rfl ?_
    refine zv_iconst (v := 0) X dX5_lineRefused_9 (by decide) rfl ?_
    refine zv_sipush (v := 255) X dX5_lineRefused_10 (by decide) rfl ?_
    refine zv_cSi X [.int x2, .int 0, .int 255] (kX5_outside l hJ x2 0 255  h) jl_X5_58 ⟨rfl, rfl⟩ ⟨Nat.le_of_ble_eq_true rfl, Nat.le_of_ble_eq_true rfl⟩ rfl rfl (Nat.le_of_ble_eq_true rfl) dX5_lineRefused_13 rfl (fun r13 s13 h => ?_)
    refine zv_if_eq (tgt := 23) X dX5_lineRefused_16 (by decide) rfl (fun q16 => ?_) (fun q16 => ?_)
    · replace h := h.1 q16
      refine zv_iconst (v := 0) X dX5_lineRefused_23 (by decide) rfl ?_
      exact zv_zret X hr hlk h dX5_lineRefused_24
    · replace h := h.2 q16
      refine zv_sub (lv2 := []) [] rfl ?_
      exact vX5_lineRefused_19 X hr hlk hJ hY _ h
def rmX5_set : Room := { frames := 3, cells := 0, slots := 0, locals := 65 }
def pX5_set (x1 : Int32) (x2 : Int32) (σ : zz_T) (Q : Int32 → zz_T → Prop) : Prop :=
    pX5_lineRefused x1 x2 σ (fun r3 s3 =>
    ((r3 = 0 → vp_in x1 12 ∧
    vp_in x1 12 ∧
    Q (s3.1 5 (Int32.toNatClampNeg x1)) (zz_i s3 5 (Int32.toNatClampNeg x1) x2)) ∧
    (¬ r3 = 0 → Q (-1) s3)))
set_option maxHeartbeats 4000000 in
set_option maxRecDepth 100000 in
theorem kX5_set (l : Launch) {Y : zz_Y} (hJ : zz_J Y) (x1 : Int32) (x2 : Int32) (hY : zz_ho Y) {σ : zz_T} {Q : Int32 → zz_T → Prop} (h : pX5_set x1 x2 σ Q) : zz_Mi l yX5_set cX5_set 4 (some .int) rmX5_set Y [.ref (Y.2.1 0), .int x1, .int x2] σ Q := by
  refine zz_Mi.start (by decide) hJ (Nat.le_of_ble_eq_true rfl) (fun p e s m below meth c X hr hlk => ?_)
  have X : zz_X p m c cX5_set 4 s _ RX5 := X
  refine zv_sub (lv2 := [(0, .ref (Y.2.1 0)), (1, .int x1), (2, .int x2)]) [0, 1, 2] rfl ?_
  unfold pX5_set at h
  refine zv_aload_n X dX5_set_0 0 rfl rfl rfl ?_
  refine zv_iload_n X dX5_set_1 1 rfl rfl rfl ?_
  refine zv_iload_n X dX5_set_2 2 rfl rfl rfl ?_
  refine zv_cVi (k := 0) (ci := 5) X [.int x1, .int x2] (kX5_lineRefused l hJ x1 x2 hY h) jl_X5_153 ⟨rfl, rfl⟩ ⟨Nat.le_of_ble_eq_true rfl, Nat.le_of_ble_eq_true rfl⟩ (zz_ho_o hY).1 (by decide) (zz_ho_o hY).2 rfl rfl rfl (Nat.le_of_ble_eq_true rfl) dX5_set_3 rfl (fun r3 s3 h => ?_)
  refine zv_if_eq (tgt := 11) X dX5_set_6 (by decide) rfl (fun q6 => ?_) (fun q6 => ?_)
  · replace h := h.1 q6
    refine zv_aload_n X dX5_set_11 0 rfl rfl rfl ?_
    refine zg_X5_1 (k := 0) X (zz_ho_o hY).1 (zz_ho_o hY).2 fl_X5_19 dX5_set_12 rfl ?_
    refine zg_X1_1 (k := 3) X (zz_ho_now hY).1.1 (zz_ho_now hY).1.2 fl_X5_137 dX5_set_15 rfl ?_
    refine zv_iload_n X dX5_set_18 1 rfl rfl rfl ?_
    obtain ⟨hi19, h⟩ := h
    refine zv_iald (k := 5) X (zz_ho_now hY).2.2.1.1 (zz_ho_now hY).2.2.1.2 hi19 dX5_set_19 rfl ?_
    refine zv_istore_n (lv2 := [(3, .int (s3.1 5 (Int32.toNatClampNeg x1))), (0, .ref (Y.2.1 0)), (1, .int x1), (2, .int x2)]) X dX5_set_20 rfl (by decide) rfl rfl ?_
    refine zv_aload_n X dX5_set_21 1 rfl rfl rfl ?_
    refine zg_X5_1 (k := 0) X (zz_ho_o hY).1 (zz_ho_o hY).2 fl_X5_19 dX5_set_22 rfl ?_
    refine zg_X1_1 (k := 3) X (zz_ho_now hY).1.1 (zz_ho_now hY).1.2 fl_X5_137 dX5_set_25 rfl ?_
    refine zv_iload_n X dX5_set_28 2 rfl rfl rfl ?_
    refine zv_iload_n X dX5_set_29 3 rfl rfl rfl ?_
    obtain ⟨hi30, h⟩ := h
    refine zv_iast (k := 5) X (zz_ho_now hY).2.2.1.1 (zz_ho_now hY).2.2.1.2 hi30 dX5_set_30 rfl ?_
    refine zv_iload_n X dX5_set_31 0 rfl rfl rfl ?_
    exact zv_iret X hr hlk h dX5_set_32
  · replace h := h.2 q6
    refine zv_iconst (v := (-1)) X dX5_set_9 (by decide) rfl ?_
    exact zv_iret X hr hlk h dX5_set_10
def rmX5_add : Room := { frames := 1, cells := 0, slots := 0, locals := 22 }
def pX5_add (x1 : Int32) (σ : zz_T) (Q : Int32 → zz_T → Prop) : Prop :=
    pX5_outside x1 0 255 σ (fun r5 s5 =>
    ((r5 = 0 → (((s5.1 3 5) < 12 → vp_in (s5.1 3 5) 12 ∧
    Q ((zz_i (zz_i s5 5 (Int32.toNatClampNeg (s5.1 3 5)) x1) 3 5 (((zz_i s5 5 (Int32.toNatClampNeg (s5.1 3 5)) x1).1 3 5) + 1)).1 3 5) (zz_i (zz_i s5 5 (Int32.toNatClampNeg (s5.1 3 5)) x1) 3 5 (((zz_i s5 5 (Int32.toNatClampNeg (s5.1 3 5)) x1).1 3 5) + 1))) ∧
    (¬ (s5.1 3 5) < 12 → Q (-3) s5))) ∧
    (¬ r5 = 0 → Q (-1) s5)))
set_option maxHeartbeats 4000000 in
set_option maxRecDepth 100000 in
theorem kX5_add (l : Launch) {Y : zz_Y} (hJ : zz_J Y) (x1 : Int32) (hY : zz_ho Y) {σ : zz_T} {Q : Int32 → zz_T → Prop} (h : pX5_add x1 σ Q) : zz_Mi l yX5_add cX5_add 2 (some .int) rmX5_add Y [.ref (Y.2.1 0), .int x1] σ Q := by
  refine zz_Mi.start (by decide) hJ (Nat.le_of_ble_eq_true rfl) (fun p e s m below meth c X hr hlk => ?_)
  have X : zz_X p m c cX5_add 2 s _ RX5 := X
  refine zv_sub (lv2 := [(0, .ref (Y.2.1 0)), (1, .int x1)]) [0, 1] rfl ?_
  unfold pX5_add at h
  refine zv_iload_n X dX5_add_0 1 rfl rfl rfl ?_
  refine zv_iconst (v := 0) X dX5_add_1 (by decide) rfl ?_
  refine zv_sipush (v := 255) X dX5_add_2 (by decide) rfl ?_
  refine zv_cSi X [.int x1, .int 0, .int 255] (kX5_outside l hJ x1 0 255  h) jl_X5_58 ⟨rfl, rfl⟩ ⟨Nat.le_of_ble_eq_true rfl, Nat.le_of_ble_eq_true rfl⟩ rfl rfl (Nat.le_of_ble_eq_true rfl) dX5_add_5 rfl (fun r5 s5 h => ?_)
  refine zv_if_eq (tgt := 13) X dX5_add_8 (by decide) rfl (fun q8 => ?_) (fun q8 => ?_)
  · replace h := h.1 q8
    refine zv_aload_n X dX5_add_13 0 rfl rfl rfl ?_
    refine zg_X5_1 (k := 0) X (zz_ho_o hY).1 (zz_ho_o hY).2 fl_X5_19 dX5_add_14 rfl ?_
    refine zg_X1_5 (k := 3) X (zz_ho_now hY).1.1 (zz_ho_now hY).1.2 fl_X5_87 dX5_add_17 rfl ?_
    refine zv_bipush (v := 12) X dX5_add_20 (by decide) rfl ?_
    refine zv_icmp_lt (tgt := 28) X dX5_add_22 (by decide) rfl (fun q22 => ?_) (fun q22 => ?_)
    · replace h := h.1 q22
      refine zv_aload_n X dX5_add_28 0 rfl rfl rfl ?_
      refine zg_X5_1 (k := 0) X (zz_ho_o hY).1 (zz_ho_o hY).2 fl_X5_19 dX5_add_29 rfl ?_
      refine zg_X1_1 (k := 3) X (zz_ho_now hY).1.1 (zz_ho_now hY).1.2 fl_X5_137 dX5_add_32 rfl ?_
      refine zv_aload_n X dX5_add_35 0 rfl rfl rfl ?_
      refine zg_X5_1 (k := 0) X (zz_ho_o hY).1 (zz_ho_o hY).2 fl_X5_19 dX5_add_36 rfl ?_
      refine zg_X1_5 (k := 3) X (zz_ho_now hY).1.1 (zz_ho_now hY).1.2 fl_X5_87 dX5_add_39 rfl ?_
      refine zv_iload_n X dX5_add_42 1 rfl rfl rfl ?_
      obtain ⟨hi43, h⟩ := h
      refine zv_iast (k := 5) X (zz_ho_now hY).2.2.1.1 (zz_ho_now hY).2.2.1.2 hi43 dX5_add_43 rfl ?_
      refine zv_aload_n X dX5_add_44 0 rfl rfl rfl ?_
      refine zg_X5_1 (k := 0) X (zz_ho_o hY).1 (zz_ho_o hY).2 fl_X5_19 dX5_add_45 rfl ?_
      refine zv_dup X dX5_add_48 rfl rfl ?_
      refine zg_X1_5 (k := 3) X (zz_ho_now hY).1.1 (zz_ho_now hY).1.2 fl_X5_87 dX5_add_49 rfl ?_
      refine zv_iconst (v := 1) X dX5_add_52 (by decide) rfl ?_
      refine zv_iadd X dX5_add_53 rfl ?_
      refine zp_X1_5 (k := 3) X (zz_ho_now hY).1.1 (zz_ho_now hY).1.2 fl_X5_87 dX5_add_54 rfl ?_
      refine zv_aload_n X dX5_add_57 0 rfl rfl rfl ?_
      refine zg_X5_1 (k := 0) X (zz_ho_o hY).1 (zz_ho_o hY).2 fl_X5_19 dX5_add_58 rfl ?_
      refine zg_X1_5 (k := 3) X (zz_ho_now hY).1.1 (zz_ho_now hY).1.2 fl_X5_87 dX5_add_61 rfl ?_
      exact zv_iret X hr hlk h dX5_add_64
    · replace h := h.2 q22
      refine zv_bipush (v := (-3)) X dX5_add_25 (by decide) rfl ?_
      exact zv_iret X hr hlk h dX5_add_27
  · replace h := h.2 q8
    refine zv_iconst (v := (-1)) X dX5_add_11 (by decide) rfl ?_
    exact zv_iret X hr hlk h dX5_add_12
def rmX5_cut : Room := { frames := 1, cells := 0, slots := 0, locals := 22 }
def pX5_cut (x1 : Int32) (σ : zz_T) (Q : Int32 → zz_T → Prop) : Prop :=
    pX5_outside x1 0 (σ.1 3 5) σ (fun r9 s9 =>
    ((r9 = 0 → Q (s9.1 3 5) (zz_i s9 3 5 x1)) ∧
    (¬ r9 = 0 → Q (-1) s9)))
set_option maxHeartbeats 4000000 in
set_option maxRecDepth 100000 in
theorem kX5_cut (l : Launch) {Y : zz_Y} (hJ : zz_J Y) (x1 : Int32) (hY : zz_ho Y) {σ : zz_T} {Q : Int32 → zz_T → Prop} (h : pX5_cut x1 σ Q) : zz_Mi l yX5_cut cX5_cut 3 (some .int) rmX5_cut Y [.ref (Y.2.1 0), .int x1] σ Q := by
  refine zz_Mi.start (by decide) hJ (Nat.le_of_ble_eq_true rfl) (fun p e s m below meth c X hr hlk => ?_)
  have X : zz_X p m c cX5_cut 3 s _ RX5 := X
  refine zv_sub (lv2 := [(0, .ref (Y.2.1 0)), (1, .int x1)]) [0, 1] rfl ?_
  unfold pX5_cut at h
  refine zv_iload_n X dX5_cut_0 1 rfl rfl rfl ?_
  refine zv_iconst (v := 0) X dX5_cut_1 (by decide) rfl ?_
  refine zv_aload_n X dX5_cut_2 0 rfl rfl rfl ?_
  refine zg_X5_1 (k := 0) X (zz_ho_o hY).1 (zz_ho_o hY).2 fl_X5_19 dX5_cut_3 rfl ?_
  refine zg_X1_5 (k := 3) X (zz_ho_now hY).1.1 (zz_ho_now hY).1.2 fl_X5_87 dX5_cut_6 rfl ?_
  refine zv_cSi X [.int x1, .int 0, .int (σ.1 3 5)] (kX5_outside l hJ x1 0 (σ.1 3 5)  h) jl_X5_58 ⟨rfl, rfl⟩ ⟨Nat.le_of_ble_eq_true rfl, Nat.le_of_ble_eq_true rfl⟩ rfl rfl (Nat.le_of_ble_eq_true rfl) dX5_cut_9 rfl (fun r9 s9 h => ?_)
  refine zv_if_eq (tgt := 17) X dX5_cut_12 (by decide) rfl (fun q12 => ?_) (fun q12 => ?_)
  · replace h := h.1 q12
    refine zv_aload_n X dX5_cut_17 0 rfl rfl rfl ?_
    refine zg_X5_1 (k := 0) X (zz_ho_o hY).1 (zz_ho_o hY).2 fl_X5_19 dX5_cut_18 rfl ?_
    refine zg_X1_5 (k := 3) X (zz_ho_now hY).1.1 (zz_ho_now hY).1.2 fl_X5_87 dX5_cut_21 rfl ?_
    refine zv_istore_n (lv2 := [(2, .int (s9.1 3 5)), (0, .ref (Y.2.1 0)), (1, .int x1)]) X dX5_cut_24 rfl (by decide) rfl rfl ?_
    refine zv_aload_n X dX5_cut_25 1 rfl rfl rfl ?_
    refine zg_X5_1 (k := 0) X (zz_ho_o hY).1 (zz_ho_o hY).2 fl_X5_19 dX5_cut_26 rfl ?_
    refine zv_iload_n X dX5_cut_29 2 rfl rfl rfl ?_
    refine zp_X1_5 (k := 3) X (zz_ho_now hY).1.1 (zz_ho_now hY).1.2 fl_X5_87 dX5_cut_30 rfl ?_
    refine zv_iload_n X dX5_cut_33 0 rfl rfl rfl ?_
    exact zv_iret X hr hlk h dX5_cut_34
  · replace h := h.2 q12
    refine zv_iconst (v := (-1)) X dX5_cut_15 (by decide) rfl ?_
    exact zv_iret X hr hlk h dX5_cut_16
def rmX5_badRows : Room := { frames := 1, cells := 0, slots := 0, locals := 22 }
def pX5_badRows (x0 : Int32) (σ : zz_T) (Q : Int32 → zz_T → Prop) : Prop :=
    pX5_outside x0 0 60 σ (fun r4 s4 =>
    (zz_bo r4 ∧ Q r4 s4))
set_option maxHeartbeats 4000000 in
set_option maxRecDepth 100000 in
theorem kX5_badRows (l : Launch) {Y : zz_Y} (hJ : zz_J Y) (x0 : Int32)  {σ : zz_T} {Q : Int32 → zz_T → Prop} (h : pX5_badRows x0 σ Q) : zz_Mi l yX5_badRows cX5_badRows 1 (some .boolean) rmX5_badRows Y [.int x0] σ Q := by
  refine zz_Mi.start (by decide) hJ (Nat.le_of_ble_eq_true rfl) (fun p e s m below meth c X hr hlk => ?_)
  have X : zz_X p m c cX5_badRows 1 s _ RX5 := X
  refine zv_sub (lv2 := [(0, .int x0)]) [0] rfl ?_
  unfold pX5_badRows at h
  refine zv_iload_n X dX5_badRows_0 0 rfl rfl rfl ?_
  refine zv_iconst (v := 0) X dX5_badRows_1 (by decide) rfl ?_
  refine zv_bipush (v := 60) X dX5_badRows_2 (by decide) rfl ?_
  refine zv_cSi X [.int x0, .int 0, .int 60] (kX5_outside l hJ x0 0 60  h) jl_X5_58 ⟨rfl, rfl⟩ ⟨Nat.le_of_ble_eq_true rfl, Nat.le_of_ble_eq_true rfl⟩ rfl rfl (Nat.le_of_ble_eq_true rfl) dX5_badRows_4 rfl (fun r4 s4 h => ?_)
  exact zv_zret X hr hlk h dX5_badRows_7
def rmX5_burn : Room := { frames := 4, cells := 0, slots := 0, locals := 101 }
def pX5_burn_31  (Q : Int32 → zz_T → Prop) : Nat → Int32 → Int32 → Int32 → zz_T → Prop
  | 0, _, _, _, _ => False
  | n + 1, x1, x2, x3, σ =>
    ((x1 ≤ x3 → Q x2 σ) ∧
    (¬ x1 ≤ x3 → pX1_burnRow 3 1 σ (fun r42 s42 =>
    pX5_burn_31  Q n x1 (x2 + r42) (x3 + 1) s42)))
set_option maxHeartbeats 4000000 in
set_option maxRecDepth 100000 in
theorem vX5_burn_31 {p : Program} {l : Launch} {e : Env} {s : State} {m : MethodId} {args : Array Value} {below : List Frame} {meth : Method} {c : Code} {Y : zz_Y}  {Q : Int32 → zz_T → Prop} (X : zz_X p m c cX5_burn 4 s args RX5) (hr : meth.sig.returnType = (some .int)) (hlk : meth.locks = false) (hJ : zz_J Y) (hY : zz_ho Y)  : ∀ (n : Nat) (x1 : Int32) (x2 : Int32) (x3 : Int32) (σ : zz_T), pX5_burn_31  Q n x1 x2 x3 σ → zz_V p l e rmX5_burn s m args below meth c (MQ below (va_Qi Q (zz_E Y) (zz_A Y)) args s 0 0 (zz_A Y)) 4 Y σ 31 [(0, .ref (Y.2.1 0)), (1, .int x1), (2, .int x2), (3, .int x3)] [] := by
  intro n
  induction n with
  | zero => intro x1 x2 x3 σ h; exact h.elim
  | succ n ih =>
    intro x1 x2 x3 σ h 
    unfold pX5_burn_31 at h
    refine zv_iload_n X dX5_burn_31 3 rfl rfl rfl ?_
    refine zv_iload_n X dX5_burn_32 1 rfl rfl rfl ?_
    refine zv_icmp_ge (tgt := 53) X dX5_burn_33 (by decide) rfl (fun q33 => ?_) (fun q33 => ?_)
    · replace h := h.1 q33
      refine zv_iload_n X dX5_burn_53 2 rfl rfl rfl ?_
      exact zv_iret X hr hlk h dX5_burn_54
    · replace h := h.2 q33
      refine zv_iload_n X dX5_burn_36 2 rfl rfl rfl ?_
      refine zv_aload_n X dX5_burn_37 0 rfl rfl rfl ?_
      refine zg_X5_1 (k := 0) X (zz_ho_o hY).1 (zz_ho_o hY).2 fl_X5_19 dX5_burn_38 rfl ?_
      refine zv_iconst (v := 1) X dX5_burn_41 (by decide) rfl ?_
      refine zv_cVi (k := 3) (ci := 1) X [.int 1] (kX1_burnRow l hJ 1 (zz_ho_now hY) h) jl_X5_160 ⟨rfl, rfl⟩ ⟨Nat.le_of_ble_eq_true rfl, Nat.le_of_ble_eq_true rfl⟩ (zz_ho_now hY).1.1 (by decide) (zz_ho_now hY).1.2 rfl rfl rfl (Nat.le_of_ble_eq_true rfl) dX5_burn_42 rfl (fun r42 s42 h => ?_)
      refine zv_iadd X dX5_burn_45 rfl ?_
      refine zv_istore_n (lv2 := [(2, .int (x2 + r42)), (0, .ref (Y.2.1 0)), (1, .int x1), (3, .int x3)]) X dX5_burn_46 rfl (by decide) rfl rfl ?_
      refine zv_iinc (v := (x3 + 1)) (lv2 := [(3, .int (x3 + 1)), (2, .int (x2 + r42)), (0, .ref (Y.2.1 0)), (1, .int x1)]) X dX5_burn_47 3 rfl rfl (by decide) rfl rfl ?_
      refine zv_goto (tgt := 31) X dX5_burn_50 (by decide) ?_
      refine zv_sub (lv2 := [(0, .ref (Y.2.1 0)), (1, .int x1), (2, .int (x2 + r42)), (3, .int (x3 + 1))]) [2, 3, 1, 0] rfl ?_
      exact ih x1 (x2 + r42) (x3 + 1) _ h
def pX5_burn (x1 : Int32) (σ : zz_T) (Q : Int32 → zz_T → Prop) : Prop :=
    pX5_badRows x1 σ (fun r1 s1 =>
    ((r1 = 0 → ((((s1.1 3 6) + x1) < 10000 → ∃ n31, pX5_burn_31  Q n31 x1 0 0 s1) ∧
    (¬ ((s1.1 3 6) + x1) < 10000 → Q (-3) s1))) ∧
    (¬ r1 = 0 → Q (-1) s1)))
set_option maxHeartbeats 4000000 in
set_option maxRecDepth 100000 in
theorem kX5_burn (l : Launch) {Y : zz_Y} (hJ : zz_J Y) (x1 : Int32) (hY : zz_ho Y) {σ : zz_T} {Q : Int32 → zz_T → Prop} (h : pX5_burn x1 σ Q) : zz_Mi l yX5_burn cX5_burn 4 (some .int) rmX5_burn Y [.ref (Y.2.1 0), .int x1] σ Q := by
  refine zz_Mi.start (by decide) hJ (Nat.le_of_ble_eq_true rfl) (fun p e s m below meth c X hr hlk => ?_)
  have X : zz_X p m c cX5_burn 4 s _ RX5 := X
  refine zv_sub (lv2 := [(0, .ref (Y.2.1 0)), (1, .int x1)]) [0, 1] rfl ?_
  unfold pX5_burn at h
  refine zv_iload_n X dX5_burn_0 1 rfl rfl rfl ?_
  refine zv_cSi X [.int x1] (kX5_badRows l hJ x1  h) jl_X5_157 ⟨rfl, rfl⟩ ⟨Nat.le_of_ble_eq_true rfl, Nat.le_of_ble_eq_true rfl⟩ rfl rfl (Nat.le_of_ble_eq_true rfl) dX5_burn_1 rfl (fun r1 s1 h => ?_)
  refine zv_if_eq (tgt := 9) X dX5_burn_4 (by decide) rfl (fun q4 => ?_) (fun q4 => ?_)
  · replace h := h.1 q4
    refine zv_aload_n X dX5_burn_9 0 rfl rfl rfl ?_
    refine zg_X5_1 (k := 0) X (zz_ho_o hY).1 (zz_ho_o hY).2 fl_X5_19 dX5_burn_10 rfl ?_
    refine zg_X1_6 (k := 3) X (zz_ho_now hY).1.1 (zz_ho_now hY).1.2 fl_X5_90 dX5_burn_13 rfl ?_
    refine zv_iload_n X dX5_burn_16 1 rfl rfl rfl ?_
    refine zv_iadd X dX5_burn_17 rfl ?_
    refine zv_sipush (v := 10000) X dX5_burn_18 (by decide) rfl ?_
    refine zv_icmp_lt (tgt := 27) X dX5_burn_21 (by decide) rfl (fun q21 => ?_) (fun q21 => ?_)
    · replace h := h.1 q21
      refine zv_iconst (v := 0) X dX5_burn_27 (by decide) rfl ?_
      refine zv_istore_n (lv2 := [(2, .int 0), (0, .ref (Y.2.1 0)), (1, .int x1)]) X dX5_burn_28 rfl (by decide) rfl rfl ?_
      refine zv_iconst (v := 0) X dX5_burn_29 (by decide) rfl ?_
      refine zv_istore_n (lv2 := [(3, .int 0), (2, .int 0), (0, .ref (Y.2.1 0)), (1, .int x1)]) X dX5_burn_30 rfl (by decide) rfl rfl ?_
      obtain ⟨n31, h⟩ := h
      refine zv_sub (lv2 := [(0, .ref (Y.2.1 0)), (1, .int x1), (2, .int 0), (3, .int 0)]) [2, 3, 1, 0] rfl ?_
      exact vX5_burn_31 X hr hlk hJ hY n31 x1 0 0 _ h
    · replace h := h.2 q21
      refine zv_bipush (v := (-3)) X dX5_burn_24 (by decide) rfl ?_
      exact zv_iret X hr hlk h dX5_burn_26
  · replace h := h.2 q4
    refine zv_iconst (v := (-1)) X dX5_burn_7 (by decide) rfl ?_
    exact zv_iret X hr hlk h dX5_burn_8
def rmX5_runs : Room := { frames := 4, cells := 0, slots := 0, locals := 101 }
def pX5_runs_76  (Q : Int32 → zz_T → Prop) (K43 : Int32 → Int32 → Int32 → Int32 → Int32 → Int32 → Int32 → zz_T → Prop) (x1 : Int32) (x2 : Int32) (x3 : Int32) (x4 : Int32) (x5 : Int32) (x7 : Int32) (t0 : Int32) (t1 : Int32) (σ : zz_T) : Prop :=
    pX1_hottest 20 σ (fun r97 s97 =>
    K43 x1 x2 x3 (x4 + (σ.1 20 7)) (if x5 < r97 then r97 else x5) (t0 + t1) (x7 + 1) s97)
set_option maxHeartbeats 4000000 in
set_option maxRecDepth 100000 in
theorem vX5_runs_76 {p : Program} {l : Launch} {e : Env} {s : State} {m : MethodId} {args : Array Value} {below : List Frame} {meth : Method} {c : Code} {Y : zz_Y}  {Q : Int32 → zz_T → Prop} {K43 : Int32 → Int32 → Int32 → Int32 → Int32 → Int32 → Int32 → zz_T → Prop} (X : zz_X p m c cX5_runs 9 s args RX5) (hr : meth.sig.returnType = (some .int)) (hlk : meth.locks = false) (hJ : zz_J Y) (hY : zz_ho Y) (hK43 : ∀ (x1 : Int32) (x2 : Int32) (x3 : Int32) (x4 : Int32) (x5 : Int32) (x6 : Int32) (x7 : Int32) (σ : zz_T), K43 x1 x2 x3 x4 x5 x6 x7 σ → zz_V p l e rmX5_runs s m args below meth c (MQ below (va_Qi Q (zz_E Y) (zz_A Y)) args s 0 0 (zz_A Y)) 9 Y σ 43 [(0, .ref (Y.2.1 0)), (1, .int x1), (2, .int x2), (3, .int x3), (4, .int x4), (5, .int x5), (6, .int x6), (7, .int x7)] []) : ∀ (x1 : Int32) (x2 : Int32) (x3 : Int32) (x4 : Int32) (x5 : Int32) (x7 : Int32) (t0 : Int32) (t1 : Int32) (σ : zz_T), pX5_runs_76  Q K43 x1 x2 x3 x4 x5 x7 t0 t1 σ → zz_V p l e rmX5_runs s m args below meth c (MQ below (va_Qi Q (zz_E Y) (zz_A Y)) args s 0 0 (zz_A Y)) 9 Y σ 76 [(0, .ref (Y.2.1 0)), (1, .int x1), (2, .int x2), (3, .int x3), (4, .int x4), (5, .int x5), (7, .int x7)] [.int t1, .int t0] := by
  intro x1 x2 x3 x4 x5 x7 t0 t1 σ h 
  unfold pX5_runs_76 at h
  refine zv_iadd X dX5_runs_76 rfl ?_
  refine zv_istore (lv2 := [(6, .int (t0 + t1)), (0, .ref (Y.2.1 0)), (1, .int x1), (2, .int x2), (3, .int x3), (4, .int x4), (5, .int x5), (7, .int x7)]) X dX5_runs_77 (by decide) rfl rfl ?_
  refine zv_iload X dX5_runs_79 5 rfl rfl ?_
  refine zv_aload_n X dX5_runs_81 1 rfl rfl rfl ?_
  refine zg_X5_2 (k := 0) X (zz_ho_o hY).1 (zz_ho_o hY).2 fl_X5_23 dX5_runs_82 rfl ?_
  refine zg_X1_7 (k := 20) X (zz_ho_trial hY).1.1 (zz_ho_trial hY).1.2 fl_X5_164 dX5_runs_85 rfl ?_
  refine zv_iadd X dX5_runs_88 rfl ?_
  refine zv_istore (lv2 := [(4, .int (x4 + (σ.1 20 7))), (6, .int (t0 + t1)), (0, .ref (Y.2.1 0)), (1, .int x1), (2, .int x2), (3, .int x3), (5, .int x5), (7, .int x7)]) X dX5_runs_89 (by decide) rfl rfl ?_
  refine zv_iload X dX5_runs_91 6 rfl rfl ?_
  refine zv_aload_n X dX5_runs_93 2 rfl rfl rfl ?_
  refine zg_X5_2 (k := 0) X (zz_ho_o hY).1 (zz_ho_o hY).2 fl_X5_23 dX5_runs_94 rfl ?_
  refine zv_cVi (k := 20) (ci := 1) X [] (kX1_hottest l hJ  (zz_ho_trial hY) h) jl_X5_167 ⟨rfl, rfl⟩ ⟨Nat.le_of_ble_eq_true rfl, Nat.le_of_ble_eq_true rfl⟩ (zz_ho_trial hY).1.1 (by decide) (zz_ho_trial hY).1.2 rfl rfl rfl (Nat.le_of_ble_eq_true rfl) dX5_runs_97 rfl (fun r97 s97 h => ?_)
  refine zv_max X ml_X5_170 (Nat.le_of_ble_eq_true rfl) (Nat.le_of_ble_eq_true rfl) dX5_runs_100 rfl ?_
  refine zv_istore (lv2 := [(5, .int (if x5 < r97 then r97 else x5)), (4, .int (x4 + (σ.1 20 7))), (6, .int (t0 + t1)), (0, .ref (Y.2.1 0)), (1, .int x1), (2, .int x2), (3, .int x3), (7, .int x7)]) X dX5_runs_103 (by decide) rfl rfl ?_
  refine zv_iinc (v := (x7 + 1)) (lv2 := [(7, .int (x7 + 1)), (5, .int (if x5 < r97 then r97 else x5)), (4, .int (x4 + (σ.1 20 7))), (6, .int (t0 + t1)), (0, .ref (Y.2.1 0)), (1, .int x1), (2, .int x2), (3, .int x3)]) X dX5_runs_105 7 rfl rfl (by decide) rfl rfl ?_
  refine zv_goto (tgt := 43) X dX5_runs_108 (by decide) ?_
  refine zv_sub (lv2 := [(0, .ref (Y.2.1 0)), (1, .int x1), (2, .int x2), (3, .int x3), (4, .int (x4 + (σ.1 20 7))), (5, .int (if x5 < r97 then r97 else x5)), (6, .int (t0 + t1)), (7, .int (x7 + 1))]) [4, 5, 6, 7, 2, 1, 3, 0] rfl ?_
  exact hK43 x1 x2 x3 (x4 + (σ.1 20 7)) (if x5 < r97 then r97 else x5) (t0 + t1) (x7 + 1) _ h
def pX5_runs_43  (Q : Int32 → zz_T → Prop) : Nat → Int32 → Int32 → Int32 → Int32 → Int32 → Int32 → Int32 → zz_T → Prop
  | 0, _, _, _, _, _, _, _, _ => False
  | n + 1, x1, x2, x3, x4, x5, x6, x7, σ =>
    ((x1 ≤ x7 → ((x2 = 0 → Q x3 σ) ∧
    (¬ x2 = 0 → ((x2 = 1 → Q x4 σ) ∧
    (¬ x2 = 1 → ((x2 = 2 → Q x5 σ) ∧
    (¬ x2 = 2 → Q x6 σ))))))) ∧
    (¬ x1 ≤ x7 → pX1_burnRow 20 1 σ (fun r54 s54 =>
    ((r54 ≤ 0 → pX5_runs_76  Q (pX5_runs_43  Q n) x1 x2 (x3 + r54) x4 x5 x7 x6 0 s54) ∧
    (¬ r54 ≤ 0 → pX5_runs_76  Q (pX5_runs_43  Q n) x1 x2 (x3 + r54) x4 x5 x7 x6 1 s54)))))
set_option maxHeartbeats 4000000 in
set_option maxRecDepth 100000 in
theorem vX5_runs_43 {p : Program} {l : Launch} {e : Env} {s : State} {m : MethodId} {args : Array Value} {below : List Frame} {meth : Method} {c : Code} {Y : zz_Y}  {Q : Int32 → zz_T → Prop} (X : zz_X p m c cX5_runs 9 s args RX5) (hr : meth.sig.returnType = (some .int)) (hlk : meth.locks = false) (hJ : zz_J Y) (hY : zz_ho Y)  : ∀ (n : Nat) (x1 : Int32) (x2 : Int32) (x3 : Int32) (x4 : Int32) (x5 : Int32) (x6 : Int32) (x7 : Int32) (σ : zz_T), pX5_runs_43  Q n x1 x2 x3 x4 x5 x6 x7 σ → zz_V p l e rmX5_runs s m args below meth c (MQ below (va_Qi Q (zz_E Y) (zz_A Y)) args s 0 0 (zz_A Y)) 9 Y σ 43 [(0, .ref (Y.2.1 0)), (1, .int x1), (2, .int x2), (3, .int x3), (4, .int x4), (5, .int x5), (6, .int x6), (7, .int x7)] [] := by
  intro n
  induction n with
  | zero => intro x1 x2 x3 x4 x5 x6 x7 σ h; exact h.elim
  | succ n ih =>
    intro x1 x2 x3 x4 x5 x6 x7 σ h 
    unfold pX5_runs_43 at h
    refine zv_iload X dX5_runs_43 7 rfl rfl ?_
    refine zv_iload_n X dX5_runs_45 1 rfl rfl rfl ?_
    refine zv_icmp_ge (tgt := 111) X dX5_runs_46 (by decide) rfl (fun q46 => ?_) (fun q46 => ?_)
    · replace h := h.1 q46
      refine zv_iload_n X dX5_runs_111 2 rfl rfl rfl ?_
      by_cases e112_0 : x2 = 0
      · replace h := h.1 e112_0
        refine zv_tableIn (tgt := 140) X 0 dX5_runs_112 e112_0 ⟨⟨by decide, by decide⟩, rfl⟩ (by decide) ?_
        refine zv_iload_n X dX5_runs_140 3 rfl rfl rfl ?_
        exact zv_iret X hr hlk h dX5_runs_141
      · replace h := h.2 e112_0
        by_cases e112_1 : x2 = 1
        · replace h := h.1 e112_1
          refine zv_tableIn (tgt := 142) X 1 dX5_runs_112 e112_1 ⟨⟨by decide, by decide⟩, rfl⟩ (by decide) ?_
          refine zv_iload X dX5_runs_142 4 rfl rfl ?_
          exact zv_iret X hr hlk h dX5_runs_144
        · replace h := h.2 e112_1
          by_cases e112_2 : x2 = 2
          · replace h := h.1 e112_2
            refine zv_tableIn (tgt := 145) X 2 dX5_runs_112 e112_2 ⟨⟨by decide, by decide⟩, rfl⟩ (by decide) ?_
            refine zv_iload X dX5_runs_145 5 rfl rfl ?_
            exact zv_iret X hr hlk h dX5_runs_147
          · replace h := h.2 e112_2
            refine zv_tableOut (tgt := 148) X dX5_runs_112 (by have := zz_nt e112_0 (z := 0) rfl; have := zz_nt e112_1 (z := 1) rfl; have := zz_nt e112_2 (z := 2) rfl; omega) (by decide) ?_
            refine zv_iload X dX5_runs_148 6 rfl rfl ?_
            exact zv_iret X hr hlk h dX5_runs_150
    · replace h := h.2 q46
      refine zv_aload_n X dX5_runs_49 0 rfl rfl rfl ?_
      refine zg_X5_2 (k := 0) X (zz_ho_o hY).1 (zz_ho_o hY).2 fl_X5_23 dX5_runs_50 rfl ?_
      refine zv_iconst (v := 1) X dX5_runs_53 (by decide) rfl ?_
      refine zv_cVi (k := 20) (ci := 1) X [.int 1] (kX1_burnRow l hJ 1 (zz_ho_trial hY) h) jl_X5_160 ⟨rfl, rfl⟩ ⟨Nat.le_of_ble_eq_true rfl, Nat.le_of_ble_eq_true rfl⟩ (zz_ho_trial hY).1.1 (by decide) (zz_ho_trial hY).1.2 rfl rfl rfl (Nat.le_of_ble_eq_true rfl) dX5_runs_54 rfl (fun r54 s54 h => ?_)
      refine zv_istore (lv2 := [(8, .int r54), (0, .ref (Y.2.1 0)), (1, .int x1), (2, .int x2), (3, .int x3), (4, .int x4), (5, .int x5), (6, .int x6), (7, .int x7)]) X dX5_runs_57 (by decide) rfl rfl ?_
      refine zv_iload_n X dX5_runs_59 4 rfl rfl rfl ?_
      refine zv_iload X dX5_runs_60 0 rfl rfl ?_
      refine zv_iadd X dX5_runs_62 rfl ?_
      refine zv_istore_n (lv2 := [(3, .int (x3 + r54)), (8, .int r54), (0, .ref (Y.2.1 0)), (1, .int x1), (2, .int x2), (4, .int x4), (5, .int x5), (6, .int x6), (7, .int x7)]) X dX5_runs_63 rfl (by decide) rfl rfl ?_
      refine zv_iload X dX5_runs_64 7 rfl rfl ?_
      refine zv_iload X dX5_runs_66 1 rfl rfl ?_
      refine zv_if_le (tgt := 75) X dX5_runs_68 (by decide) rfl (fun q68 => ?_) (fun q68 => ?_)
      · replace h := h.1 q68
        refine zv_iconst (v := 0) X dX5_runs_75 (by decide) rfl ?_
        refine zv_sub (lv2 := [(0, .ref (Y.2.1 0)), (1, .int x1), (2, .int x2), (3, .int (x3 + r54)), (4, .int x4), (5, .int x5), (7, .int x7)]) [2, 3, 4, 0, 5, 6, 8] rfl ?_
        exact vX5_runs_76 X hr hlk hJ hY ih x1 x2 (x3 + r54) x4 x5 x7 x6 0 _ h
      · replace h := h.2 q68
        refine zv_iconst (v := 1) X dX5_runs_71 (by decide) rfl ?_
        refine zv_goto (tgt := 76) X dX5_runs_72 (by decide) ?_
        refine zv_sub (lv2 := [(0, .ref (Y.2.1 0)), (1, .int x1), (2, .int x2), (3, .int (x3 + r54)), (4, .int x4), (5, .int x5), (7, .int x7)]) [2, 3, 4, 0, 5, 6, 8] rfl ?_
        exact vX5_runs_76 X hr hlk hJ hY ih x1 x2 (x3 + r54) x4 x5 x7 x6 1 _ h
def pX5_runs (x1 : Int32) (x2 : Int32) (σ : zz_T) (Q : Int32 → zz_T → Prop) : Prop :=
    pX5_badRows x1 σ (fun r1 s1 =>
    ((r1 = 0 → pX5_outside x2 0 3 s1 (fun r10 s10 =>
    ((r10 = 0 → pX1_copyFrom 20 3 s10 (fun s26 =>
    ∃ n43, pX5_runs_43  Q n43 x1 x2 0 0 0 0 0 s26)) ∧
    (¬ r10 = 0 → Q (-1) s10)))) ∧
    (¬ r1 = 0 → Q (-1) s1)))
set_option maxHeartbeats 4000000 in
set_option maxRecDepth 100000 in
theorem kX5_runs (l : Launch) {Y : zz_Y} (hJ : zz_J Y) (x1 : Int32) (x2 : Int32) (hY : zz_ho Y) {σ : zz_T} {Q : Int32 → zz_T → Prop} (h : pX5_runs x1 x2 σ Q) : zz_Mi l yX5_runs cX5_runs 9 (some .int) rmX5_runs Y [.ref (Y.2.1 0), .int x1, .int x2] σ Q := by
  refine zz_Mi.start (by decide) hJ (Nat.le_of_ble_eq_true rfl) (fun p e s m below meth c X hr hlk => ?_)
  have X : zz_X p m c cX5_runs 9 s _ RX5 := X
  refine zv_sub (lv2 := [(0, .ref (Y.2.1 0)), (1, .int x1), (2, .int x2)]) [0, 1, 2] rfl ?_
  unfold pX5_runs at h
  refine zv_iload_n X dX5_runs_0 1 rfl rfl rfl ?_
  refine zv_cSi X [.int x1] (kX5_badRows l hJ x1  h) jl_X5_157 ⟨rfl, rfl⟩ ⟨Nat.le_of_ble_eq_true rfl, Nat.le_of_ble_eq_true rfl⟩ rfl rfl (Nat.le_of_ble_eq_true rfl) dX5_runs_1 rfl (fun r1 s1 h => ?_)
  refine zv_if_ne (tgt := 16) X dX5_runs_4 (by decide) rfl (fun q4 => ?_) (fun q4 => ?_)
  · replace h := h.2 q4
    refine zv_iconst (v := (-1)) X dX5_runs_16 (by decide) rfl ?_
    exact zv_iret X hr hlk h dX5_runs_17
  · replace h := h.1 q4
    refine zv_iload_n X dX5_runs_7 2 rfl rfl rfl ?_
    refine zv_iconst (v := 0) X dX5_runs_8 (by decide) rfl ?_
    refine zv_iconst (v := 3) X dX5_runs_9 (by decide) rfl ?_
    refine zv_cSi X [.int x2, .int 0, .int 3] (kX5_outside l hJ x2 0 3  h) jl_X5_58 ⟨rfl, rfl⟩ ⟨Nat.le_of_ble_eq_true rfl, Nat.le_of_ble_eq_true rfl⟩ rfl rfl (Nat.le_of_ble_eq_true rfl) dX5_runs_10 rfl (fun r10 s10 h => ?_)
    refine zv_if_eq (tgt := 18) X dX5_runs_13 (by decide) rfl (fun q13 => ?_) (fun q13 => ?_)
    · replace h := h.1 q13
      refine zv_aload_n X dX5_runs_18 0 rfl rfl rfl ?_
      refine zg_X5_2 (k := 0) X (zz_ho_o hY).1 (zz_ho_o hY).2 fl_X5_23 dX5_runs_19 rfl ?_
      refine zv_aload_n X dX5_runs_22 0 rfl rfl rfl ?_
      refine zg_X5_1 (k := 0) X (zz_ho_o hY).1 (zz_ho_o hY).2 fl_X5_19 dX5_runs_23 rfl ?_
      refine zv_cVv (k := 20) (ci := 1) X [.ref (Y.2.1 3)] (kX1_copyFrom l hJ  (zz_ho_trial hY) (zz_ho_now hY) h) jl_X5_80 ⟨rfl, rfl⟩ ⟨Nat.le_of_ble_eq_true rfl, Nat.le_of_ble_eq_true rfl⟩ (zz_ho_trial hY).1.1 (by decide) (zz_ho_trial hY).1.2 rfl rfl rfl (Nat.le_of_ble_eq_true rfl) dX5_runs_26 rfl (fun s26 h => ?_)
      refine zv_iconst (v := 0) X dX5_runs_29 (by decide) rfl ?_
      refine zv_istore_n (lv2 := [(3, .int 0), (0, .ref (Y.2.1 0)), (1, .int x1), (2, .int x2)]) X dX5_runs_30 rfl (by decide) rfl rfl ?_
      refine zv_iconst (v := 0) X dX5_runs_31 (by decide) rfl ?_
      refine zv_istore (lv2 := [(4, .int 0), (3, .int 0), (0, .ref (Y.2.1 0)), (1, .int x1), (2, .int x2)]) X dX5_runs_32 (by decide) rfl rfl ?_
      refine zv_iconst (v := 0) X dX5_runs_34 (by decide) rfl ?_
      refine zv_istore (lv2 := [(5, .int 0), (4, .int 0), (3, .int 0), (0, .ref (Y.2.1 0)), (1, .int x1), (2, .int x2)]) X dX5_runs_35 (by decide) rfl rfl ?_
      refine zv_iconst (v := 0) X dX5_runs_37 (by decide) rfl ?_
      refine zv_istore (lv2 := [(6, .int 0), (5, .int 0), (4, .int 0), (3, .int 0), (0, .ref (Y.2.1 0)), (1, .int x1), (2, .int x2)]) X dX5_runs_38 (by decide) rfl rfl ?_
      refine zv_iconst (v := 0) X dX5_runs_40 (by decide) rfl ?_
      refine zv_istore (lv2 := [(7, .int 0), (6, .int 0), (5, .int 0), (4, .int 0), (3, .int 0), (0, .ref (Y.2.1 0)), (1, .int x1), (2, .int x2)]) X dX5_runs_41 (by decide) rfl rfl ?_
      obtain ⟨n43, h⟩ := h
      refine zv_sub (lv2 := [(0, .ref (Y.2.1 0)), (1, .int x1), (2, .int x2), (3, .int 0), (4, .int 0), (5, .int 0), (6, .int 0), (7, .int 0)]) [5, 6, 7, 4, 3, 2, 1, 0] rfl ?_
      exact vX5_runs_43 X hr hlk hJ hY n43 x1 x2 0 0 0 0 0 _ h
    · replace h := h.2 q13
      refine zv_iconst (v := (-1)) X dX5_runs_16 (by decide) rfl ?_
      exact zv_iret X hr hlk h dX5_runs_17
def rmX5_burnLone : Room := { frames := 2, cells := 0, slots := 0, locals := 53 }
def pX5_burnLone (x1 : Int32) (x2 : Int32) (σ : zz_T) (Q : Int32 → zz_T → Prop) : Prop :=
    pX1_wantedIn 3 x1 σ (fun r13 s13 =>
    pX1_wantedIn 3 (x1 + 1) s13 (fun r23 s23 =>
    pX0_burnLine 37 3 r13 r23 x2 s23 (fun r27 s27 =>
    Q r27 s27)))
set_option maxHeartbeats 4000000 in
set_option maxRecDepth 100000 in
theorem kX5_burnLone (l : Launch) {Y : zz_Y} (hJ : zz_J Y) (x1 : Int32) (x2 : Int32) (hY : zz_ho Y) {σ : zz_T} {Q : Int32 → zz_T → Prop} (h : pX5_burnLone x1 x2 σ Q) : zz_Mi l yX5_burnLone cX5_burnLone 3 (some .int) rmX5_burnLone Y [.ref (Y.2.1 0), .int x1, .int x2] σ Q := by
  refine zz_Mi.start (by decide) hJ (Nat.le_of_ble_eq_true rfl) (fun p e s m below meth c X hr hlk => ?_)
  have X : zz_X p m c cX5_burnLone 3 s _ RX5 := X
  refine zv_sub (lv2 := [(0, .ref (Y.2.1 0)), (1, .int x1), (2, .int x2)]) [0, 1, 2] rfl ?_
  unfold pX5_burnLone at h
  refine zv_aload_n X dX5_burnLone_0 0 rfl rfl rfl ?_
  refine zg_X5_3 (k := 0) X (zz_ho_o hY).1 (zz_ho_o hY).2 fl_X5_29 dX5_burnLone_1 rfl ?_
  refine zv_aload_n X dX5_burnLone_4 0 rfl rfl rfl ?_
  refine zg_X5_1 (k := 0) X (zz_ho_o hY).1 (zz_ho_o hY).2 fl_X5_19 dX5_burnLone_5 rfl ?_
  refine zv_aload_n X dX5_burnLone_8 0 rfl rfl rfl ?_
  refine zg_X5_1 (k := 0) X (zz_ho_o hY).1 (zz_ho_o hY).2 fl_X5_19 dX5_burnLone_9 rfl ?_
  refine zv_iload_n X dX5_burnLone_12 1 rfl rfl rfl ?_
  refine zv_cVi (k := 3) (ci := 1) X [.int x1] (kX1_wantedIn l hJ x1 (zz_ho_now hY) h) jl_X5_100 ⟨rfl, rfl⟩ ⟨Nat.le_of_ble_eq_true rfl, Nat.le_of_ble_eq_true rfl⟩ (zz_ho_now hY).1.1 (by decide) (zz_ho_now hY).1.2 rfl rfl rfl (Nat.le_of_ble_eq_true rfl) dX5_burnLone_13 rfl (fun r13 s13 h => ?_)
  refine zv_aload_n X dX5_burnLone_16 0 rfl rfl rfl ?_
  refine zg_X5_1 (k := 0) X (zz_ho_o hY).1 (zz_ho_o hY).2 fl_X5_19 dX5_burnLone_17 rfl ?_
  refine zv_iload_n X dX5_burnLone_20 1 rfl rfl rfl ?_
  refine zv_iconst (v := 1) X dX5_burnLone_21 (by decide) rfl ?_
  refine zv_iadd X dX5_burnLone_22 rfl ?_
  refine zv_cVi (k := 3) (ci := 1) X [.int (x1 + 1)] (kX1_wantedIn l hJ (x1 + 1) (zz_ho_now hY) h) jl_X5_100 ⟨rfl, rfl⟩ ⟨Nat.le_of_ble_eq_true rfl, Nat.le_of_ble_eq_true rfl⟩ (zz_ho_now hY).1.1 (by decide) (zz_ho_now hY).1.2 rfl rfl rfl (Nat.le_of_ble_eq_true rfl) dX5_burnLone_23 rfl (fun r23 s23 h => ?_)
  refine zv_iload_n X dX5_burnLone_26 2 rfl rfl rfl ?_
  refine zv_cVi (k := 37) (ci := 0) X [.ref (Y.2.1 3), .int r13, .int r23, .int x2] (kX0_burnLine l hJ r13 r23 x2 (zz_ho_lone hY) (zz_ho_now hY) h) jl_X5_293 ⟨rfl, rfl⟩ ⟨Nat.le_of_ble_eq_true rfl, Nat.le_of_ble_eq_true rfl⟩ (zz_ho_lone hY).1.1 (by decide) (zz_ho_lone hY).1.2 rfl rfl rfl (Nat.le_of_ble_eq_true rfl) dX5_burnLone_27 rfl (fun r27 s27 h => ?_)
  exact zv_iret X hr hlk h dX5_burnLone_30
def rmX5_black : Room := { frames := 3, cells := 0, slots := 0, locals := 75 }
def pX5_black_38  (Q : Int32 → zz_T → Prop) : Nat → Int32 → Int32 → Int32 → zz_T → Prop
  | 0, _, _, _, _ => False
  | n + 1, x2, x3, x4, σ =>
    ((x2 < x4 → Q x3 σ) ∧
    (¬ x2 < x4 → pX5_burnLone x4 1 σ (fun r48 s48 =>
    pX5_black_38  Q n x2 r48 (x4 + 1) s48)))
set_option maxHeartbeats 4000000 in
set_option maxRecDepth 100000 in
theorem vX5_black_38 {p : Program} {l : Launch} {e : Env} {s : State} {m : MethodId} {args : Array Value} {below : List Frame} {meth : Method} {c : Code} {Y : zz_Y}  {Q : Int32 → zz_T → Prop} (X : zz_X p m c cX5_black 5 s args RX5) (hr : meth.sig.returnType = (some .int)) (hlk : meth.locks = false) (hJ : zz_J Y) (hY : zz_ho Y)  : ∀ (n : Nat) (x2 : Int32) (x3 : Int32) (x4 : Int32) (σ : zz_T), pX5_black_38  Q n x2 x3 x4 σ → zz_V p l e rmX5_black s m args below meth c (MQ below (va_Qi Q (zz_E Y) (zz_A Y)) args s 0 0 (zz_A Y)) 5 Y σ 38 [(0, .ref (Y.2.1 0)), (2, .int x2), (3, .int x3), (4, .int x4)] [] := by
  intro n
  induction n with
  | zero => intro x2 x3 x4 σ h; exact h.elim
  | succ n ih =>
    intro x2 x3 x4 σ h 
    unfold pX5_black_38 at h
    refine zv_iload X dX5_black_38 3 rfl rfl ?_
    refine zv_iload_n X dX5_black_40 1 rfl rfl rfl ?_
    refine zv_icmp_gt (tgt := 58) X dX5_black_41 (by decide) rfl (fun q41 => ?_) (fun q41 => ?_)
    · replace h := h.1 q41
      refine zv_iload_n X dX5_black_58 2 rfl rfl rfl ?_
      exact zv_iret X hr hlk h dX5_black_59
    · replace h := h.2 q41
      refine zv_aload_n X dX5_black_44 0 rfl rfl rfl ?_
      refine zv_iload X dX5_black_45 3 rfl rfl ?_
      refine zv_iconst (v := 1) X dX5_black_47 (by decide) rfl ?_
      refine zv_cVi (k := 0) (ci := 5) X [.int x4, .int 1] (kX5_burnLone l hJ x4 1 hY h) jl_X5_179 ⟨rfl, rfl⟩ ⟨Nat.le_of_ble_eq_true rfl, Nat.le_of_ble_eq_true rfl⟩ (zz_ho_o hY).1 (by decide) (zz_ho_o hY).2 rfl rfl rfl (Nat.le_of_ble_eq_true rfl) dX5_black_48 rfl (fun r48 s48 h => ?_)
      refine zv_istore_n (lv2 := [(3, .int r48), (0, .ref (Y.2.1 0)), (2, .int x2), (4, .int x4)]) X dX5_black_51 rfl (by decide) rfl rfl ?_
      refine zv_iinc (v := (x4 + 1)) (lv2 := [(4, .int (x4 + 1)), (3, .int r48), (0, .ref (Y.2.1 0)), (2, .int x2)]) X dX5_black_52 3 rfl rfl (by decide) rfl rfl ?_
      refine zv_goto (tgt := 38) X dX5_black_55 (by decide) ?_
      refine zv_sub (lv2 := [(0, .ref (Y.2.1 0)), (2, .int x2), (3, .int r48), (4, .int (x4 + 1))]) [2, 3, 1, 0] rfl ?_
      exact ih x2 r48 (x4 + 1) _ h
def pX5_black (x1 : Int32) (x2 : Int32) (σ : zz_T) (Q : Int32 → zz_T → Prop) : Prop :=
    pX5_noHead x1 σ (fun r2 s2 =>
    ((r2 = 0 → pX5_badRows x2 s2 (fun r9 s9 =>
    ((r9 = 0 → vp_in x1 3 ∧
    pX0_copyFrom 37 (11 + 3 * (Int32.toNatClampNeg x1)) s9 (fun s30 =>
    ∃ n38, pX5_black_38  Q n38 x2 0 0 s30)) ∧
    (¬ r9 = 0 → Q (-1) s9)))) ∧
    (¬ r2 = 0 → Q (-1) s2)))
set_option maxHeartbeats 4000000 in
set_option maxRecDepth 100000 in
theorem kX5_black (l : Launch) {Y : zz_Y} (hJ : zz_J Y) (x1 : Int32) (x2 : Int32) (hY : zz_ho Y) {σ : zz_T} {Q : Int32 → zz_T → Prop} (h : pX5_black x1 x2 σ Q) : zz_Mi l yX5_black cX5_black 5 (some .int) rmX5_black Y [.ref (Y.2.1 0), .int x1, .int x2] σ Q := by
  refine zz_Mi.start (by decide) hJ (Nat.le_of_ble_eq_true rfl) (fun p e s m below meth c X hr hlk => ?_)
  have X : zz_X p m c cX5_black 5 s _ RX5 := X
  refine zv_sub (lv2 := [(0, .ref (Y.2.1 0)), (1, .int x1), (2, .int x2)]) [0, 1, 2] rfl ?_
  unfold pX5_black at h
  refine zv_aload_n X dX5_black_0 0 rfl rfl rfl ?_
  refine zv_iload_n X dX5_black_1 1 rfl rfl rfl ?_
  refine zv_cVi (k := 0) (ci := 5) X [.int x1] (kX5_noHead l hJ x1 hY h) jl_X5_104 ⟨rfl, rfl⟩ ⟨Nat.le_of_ble_eq_true rfl, Nat.le_of_ble_eq_true rfl⟩ (zz_ho_o hY).1 (by decide) (zz_ho_o hY).2 rfl rfl rfl (Nat.le_of_ble_eq_true rfl) dX5_black_2 rfl (fun r2 s2 h => ?_)
  refine zv_if_ne (tgt := 15) X dX5_black_5 (by decide) rfl (fun q5 => ?_) (fun q5 => ?_)
  · replace h := h.2 q5
    refine zv_iconst (v := (-1)) X dX5_black_15 (by decide) rfl ?_
    exact zv_iret X hr hlk h dX5_black_16
  · replace h := h.1 q5
    refine zv_iload_n X dX5_black_8 2 rfl rfl rfl ?_
    refine zv_cSi X [.int x2] (kX5_badRows l hJ x2  h) jl_X5_157 ⟨rfl, rfl⟩ ⟨Nat.le_of_ble_eq_true rfl, Nat.le_of_ble_eq_true rfl⟩ rfl rfl (Nat.le_of_ble_eq_true rfl) dX5_black_9 rfl (fun r9 s9 h => ?_)
    refine zv_if_eq (tgt := 17) X dX5_black_12 (by decide) rfl (fun q12 => ?_) (fun q12 => ?_)
    · replace h := h.1 q12
      refine zv_aload_n X dX5_black_17 0 rfl rfl rfl ?_
      refine zg_X5_3 (k := 0) X (zz_ho_o hY).1 (zz_ho_o hY).2 fl_X5_29 dX5_black_18 rfl ?_
      refine zv_aload_n X dX5_black_21 0 rfl rfl rfl ?_
      refine zg_X5_1 (k := 0) X (zz_ho_o hY).1 (zz_ho_o hY).2 fl_X5_19 dX5_black_22 rfl ?_
      refine zg_X1_0 (k := 3) X (zz_ho_now hY).1.1 (zz_ho_now hY).1.2 fl_X5_108 dX5_black_25 rfl ?_
      refine zv_iload_n X dX5_black_28 1 rfl rfl rfl ?_
      obtain ⟨hi29, h⟩ := h
      refine zv_aald3 (k := 4) X (zz_ho_now hY).2.1.1 (zz_ho_now hY).2.1.2 hi29 dX5_black_29 rfl ?_
      refine zv_cVv (k := 37) (ci := 0) X [.ref (Y.2.1 (11 + 3 * (Int32.toNatClampNeg x1)))] (kX0_copyFrom l hJ  (zz_ho_lone hY) ((zz_ho_now hY).2.2.2.2.2 _ (zz_lt hi29)) h) jl_X5_176 ⟨rfl, rfl⟩ ⟨Nat.le_of_ble_eq_true rfl, Nat.le_of_ble_eq_true rfl⟩ (zz_ho_lone hY).1.1 (by decide) (zz_ho_lone hY).1.2 rfl rfl rfl (Nat.le_of_ble_eq_true rfl) dX5_black_30 rfl (fun s30 h => ?_)
      refine zv_iconst (v := 0) X dX5_black_33 (by decide) rfl ?_
      refine zv_istore_n (lv2 := [(3, .int 0), (0, .ref (Y.2.1 0)), (1, .int x1), (2, .int x2)]) X dX5_black_34 rfl (by decide) rfl rfl ?_
      refine zv_iconst (v := 0) X dX5_black_35 (by decide) rfl ?_
      refine zv_istore (lv2 := [(4, .int 0), (3, .int 0), (0, .ref (Y.2.1 0)), (1, .int x1), (2, .int x2)]) X dX5_black_36 (by decide) rfl rfl ?_
      obtain ⟨n38, h⟩ := h
      refine zv_sub (lv2 := [(0, .ref (Y.2.1 0)), (2, .int x2), (3, .int 0), (4, .int 0)]) [2, 4, 1, 0] rfl ?_
      exact vX5_black_38 X hr hlk hJ hY n38 x2 0 0 _ h
    · replace h := h.2 q12
      refine zv_iconst (v := (-1)) X dX5_black_15 (by decide) rfl ?_
      exact zv_iret X hr hlk h dX5_black_16
def rmX5_ahead : Room := { frames := 3, cells := 0, slots := 0, locals := 75 }
def pX5_ahead_43  (Q : Int32 → zz_T → Prop) : Nat → Int32 → Int32 → Int32 → zz_T → Prop
  | 0, _, _, _, _ => False
  | n + 1, x2, x3, x4, σ =>
    ((x3 ≤ x4 → vp_in x2 8 ∧
    Q (σ.1 38 (Int32.toNatClampNeg x2)) σ) ∧
    (¬ x3 ≤ x4 → pX5_burnLone x4 1 σ (fun r53 s53 =>
    pX5_ahead_43  Q n x2 x3 (x4 + 1) s53)))
set_option maxHeartbeats 4000000 in
set_option maxRecDepth 100000 in
theorem vX5_ahead_43 {p : Program} {l : Launch} {e : Env} {s : State} {m : MethodId} {args : Array Value} {below : List Frame} {meth : Method} {c : Code} {Y : zz_Y}  {Q : Int32 → zz_T → Prop} (X : zz_X p m c cX5_ahead 5 s args RX5) (hr : meth.sig.returnType = (some .int)) (hlk : meth.locks = false) (hJ : zz_J Y) (hY : zz_ho Y)  : ∀ (n : Nat) (x2 : Int32) (x3 : Int32) (x4 : Int32) (σ : zz_T), pX5_ahead_43  Q n x2 x3 x4 σ → zz_V p l e rmX5_ahead s m args below meth c (MQ below (va_Qi Q (zz_E Y) (zz_A Y)) args s 0 0 (zz_A Y)) 5 Y σ 43 [(0, .ref (Y.2.1 0)), (2, .int x2), (3, .int x3), (4, .int x4)] [] := by
  intro n
  induction n with
  | zero => intro x2 x3 x4 σ h; exact h.elim
  | succ n ih =>
    intro x2 x3 x4 σ h 
    unfold pX5_ahead_43 at h
    refine zv_iload X dX5_ahead_43 3 rfl rfl ?_
    refine zv_iload_n X dX5_ahead_45 2 rfl rfl rfl ?_
    refine zv_icmp_ge (tgt := 63) X dX5_ahead_46 (by decide) rfl (fun q46 => ?_) (fun q46 => ?_)
    · replace h := h.1 q46
      refine zv_aload_n X dX5_ahead_63 0 rfl rfl rfl ?_
      refine zg_X5_3 (k := 0) X (zz_ho_o hY).1 (zz_ho_o hY).2 fl_X5_29 dX5_ahead_64 rfl ?_
      refine zg_X0_0 (k := 37) X (zz_ho_lone hY).1.1 (zz_ho_lone hY).1.2 fl_X5_127 dX5_ahead_67 rfl ?_
      refine zv_iload_n X dX5_ahead_70 1 rfl rfl rfl ?_
      obtain ⟨hi71, h⟩ := h
      refine zv_iald (k := 38) X (zz_ho_lone hY).2.1.1 (zz_ho_lone hY).2.1.2 hi71 dX5_ahead_71 rfl ?_
      exact zv_iret X hr hlk h dX5_ahead_72
    · replace h := h.2 q46
      refine zv_aload_n X dX5_ahead_49 0 rfl rfl rfl ?_
      refine zv_iload X dX5_ahead_50 3 rfl rfl ?_
      refine zv_iconst (v := 1) X dX5_ahead_52 (by decide) rfl ?_
      refine zv_cVi (k := 0) (ci := 5) X [.int x4, .int 1] (kX5_burnLone l hJ x4 1 hY h) jl_X5_179 ⟨rfl, rfl⟩ ⟨Nat.le_of_ble_eq_true rfl, Nat.le_of_ble_eq_true rfl⟩ (zz_ho_o hY).1 (by decide) (zz_ho_o hY).2 rfl rfl rfl (Nat.le_of_ble_eq_true rfl) dX5_ahead_53 rfl (fun r53 s53 h => ?_)
      refine zv_pop X dX5_ahead_56 rfl rfl ?_
      refine zv_iinc (v := (x4 + 1)) (lv2 := [(4, .int (x4 + 1)), (0, .ref (Y.2.1 0)), (2, .int x2), (3, .int x3)]) X dX5_ahead_57 3 rfl rfl (by decide) rfl rfl ?_
      refine zv_goto (tgt := 43) X dX5_ahead_60 (by decide) ?_
      refine zv_sub (lv2 := [(0, .ref (Y.2.1 0)), (2, .int x2), (3, .int x3), (4, .int (x4 + 1))]) [1, 2, 3, 0] rfl ?_
      exact ih x2 x3 (x4 + 1) _ h
def pX5_ahead (x1 : Int32) (x2 : Int32) (x3 : Int32) (σ : zz_T) (Q : Int32 → zz_T → Prop) : Prop :=
    pX5_noHead x1 σ (fun r2 s2 =>
    ((r2 = 0 → pX5_noDot x2 s2 (fun r9 s9 =>
    ((r9 = 0 → pX5_badRows x3 s9 (fun r16 s16 =>
    ((r16 = 0 → vp_in x1 3 ∧
    pX0_copyFrom 37 (11 + 3 * (Int32.toNatClampNeg x1)) s16 (fun s37 =>
    ∃ n43, pX5_ahead_43  Q n43 x2 x3 0 s37)) ∧
    (¬ r16 = 0 → Q (-1) s16)))) ∧
    (¬ r9 = 0 → Q (-1) s9)))) ∧
    (¬ r2 = 0 → Q (-1) s2)))
set_option maxHeartbeats 4000000 in
set_option maxRecDepth 100000 in
theorem kX5_ahead (l : Launch) {Y : zz_Y} (hJ : zz_J Y) (x1 : Int32) (x2 : Int32) (x3 : Int32) (hY : zz_ho Y) {σ : zz_T} {Q : Int32 → zz_T → Prop} (h : pX5_ahead x1 x2 x3 σ Q) : zz_Mi l yX5_ahead cX5_ahead 5 (some .int) rmX5_ahead Y [.ref (Y.2.1 0), .int x1, .int x2, .int x3] σ Q := by
  refine zz_Mi.start (by decide) hJ (Nat.le_of_ble_eq_true rfl) (fun p e s m below meth c X hr hlk => ?_)
  have X : zz_X p m c cX5_ahead 5 s _ RX5 := X
  refine zv_sub (lv2 := [(0, .ref (Y.2.1 0)), (1, .int x1), (2, .int x2), (3, .int x3)]) [0, 1, 2, 3] rfl ?_
  unfold pX5_ahead at h
  refine zv_aload_n X dX5_ahead_0 0 rfl rfl rfl ?_
  refine zv_iload_n X dX5_ahead_1 1 rfl rfl rfl ?_
  refine zv_cVi (k := 0) (ci := 5) X [.int x1] (kX5_noHead l hJ x1 hY h) jl_X5_104 ⟨rfl, rfl⟩ ⟨Nat.le_of_ble_eq_true rfl, Nat.le_of_ble_eq_true rfl⟩ (zz_ho_o hY).1 (by decide) (zz_ho_o hY).2 rfl rfl rfl (Nat.le_of_ble_eq_true rfl) dX5_ahead_2 rfl (fun r2 s2 h => ?_)
  refine zv_if_ne (tgt := 22) X dX5_ahead_5 (by decide) rfl (fun q5 => ?_) (fun q5 => ?_)
  · replace h := h.2 q5
    refine zv_iconst (v := (-1)) X dX5_ahead_22 (by decide) rfl ?_
    exact zv_iret X hr hlk h dX5_ahead_23
  · replace h := h.1 q5
    refine zv_iload_n X dX5_ahead_8 2 rfl rfl rfl ?_
    refine zv_cSi X [.int x2] (kX5_noDot l hJ x2  h) jl_X5_124 ⟨rfl, rfl⟩ ⟨Nat.le_of_ble_eq_true rfl, Nat.le_of_ble_eq_true rfl⟩ rfl rfl (Nat.le_of_ble_eq_true rfl) dX5_ahead_9 rfl (fun r9 s9 h => ?_)
    refine zv_if_ne (tgt := 22) X dX5_ahead_12 (by decide) rfl (fun q12 => ?_) (fun q12 => ?_)
    · replace h := h.2 q12
      refine zv_iconst (v := (-1)) X dX5_ahead_22 (by decide) rfl ?_
      exact zv_iret X hr hlk h dX5_ahead_23
    · replace h := h.1 q12
      refine zv_iload_n X dX5_ahead_15 3 rfl rfl rfl ?_
      refine zv_cSi X [.int x3] (kX5_badRows l hJ x3  h) jl_X5_157 ⟨rfl, rfl⟩ ⟨Nat.le_of_ble_eq_true rfl, Nat.le_of_ble_eq_true rfl⟩ rfl rfl (Nat.le_of_ble_eq_true rfl) dX5_ahead_16 rfl (fun r16 s16 h => ?_)
      refine zv_if_eq (tgt := 24) X dX5_ahead_19 (by decide) rfl (fun q19 => ?_) (fun q19 => ?_)
      · replace h := h.1 q19
        refine zv_aload_n X dX5_ahead_24 0 rfl rfl rfl ?_
        refine zg_X5_3 (k := 0) X (zz_ho_o hY).1 (zz_ho_o hY).2 fl_X5_29 dX5_ahead_25 rfl ?_
        refine zv_aload_n X dX5_ahead_28 0 rfl rfl rfl ?_
        refine zg_X5_1 (k := 0) X (zz_ho_o hY).1 (zz_ho_o hY).2 fl_X5_19 dX5_ahead_29 rfl ?_
        refine zg_X1_0 (k := 3) X (zz_ho_now hY).1.1 (zz_ho_now hY).1.2 fl_X5_108 dX5_ahead_32 rfl ?_
        refine zv_iload_n X dX5_ahead_35 1 rfl rfl rfl ?_
        obtain ⟨hi36, h⟩ := h
        refine zv_aald3 (k := 4) X (zz_ho_now hY).2.1.1 (zz_ho_now hY).2.1.2 hi36 dX5_ahead_36 rfl ?_
        refine zv_cVv (k := 37) (ci := 0) X [.ref (Y.2.1 (11 + 3 * (Int32.toNatClampNeg x1)))] (kX0_copyFrom l hJ  (zz_ho_lone hY) ((zz_ho_now hY).2.2.2.2.2 _ (zz_lt hi36)) h) jl_X5_176 ⟨rfl, rfl⟩ ⟨Nat.le_of_ble_eq_true rfl, Nat.le_of_ble_eq_true rfl⟩ (zz_ho_lone hY).1.1 (by decide) (zz_ho_lone hY).1.2 rfl rfl rfl (Nat.le_of_ble_eq_true rfl) dX5_ahead_37 rfl (fun s37 h => ?_)
        refine zv_iconst (v := 0) X dX5_ahead_40 (by decide) rfl ?_
        refine zv_istore (lv2 := [(4, .int 0), (0, .ref (Y.2.1 0)), (1, .int x1), (2, .int x2), (3, .int x3)]) X dX5_ahead_41 (by decide) rfl rfl ?_
        obtain ⟨n43, h⟩ := h
        refine zv_sub (lv2 := [(0, .ref (Y.2.1 0)), (2, .int x2), (3, .int x3), (4, .int 0)]) [1, 3, 4, 0] rfl ?_
        exact vX5_ahead_43 X hr hlk hJ hY n43 x2 x3 0 _ h
      · replace h := h.2 q19
        refine zv_iconst (v := (-1)) X dX5_ahead_22 (by decide) rfl ?_
        exact zv_iret X hr hlk h dX5_ahead_23
def rmX5_when : Room := { frames := 3, cells := 0, slots := 0, locals := 75 }
def pX5_when_28  (Q : Int32 → zz_T → Prop) : Nat → Int32 → zz_T → Prop
  | 0, _, _ => False
  | n + 1, x2, σ =>
    ((60 < x2 → Q (-4) σ) ∧
    (¬ 60 < x2 → pX5_burnLone x2 1 σ (fun r37 s37 =>
    pX1_wantedIn 3 x2 s37 (fun r45 s45 =>
    ((r37 = r45 → pX5_when_28  Q n (x2 + 1) s45) ∧
    (¬ r37 = r45 → Q x2 s45))))))
set_option maxHeartbeats 4000000 in
set_option maxRecDepth 100000 in
theorem vX5_when_28 {p : Program} {l : Launch} {e : Env} {s : State} {m : MethodId} {args : Array Value} {below : List Frame} {meth : Method} {c : Code} {Y : zz_Y}  {Q : Int32 → zz_T → Prop} (X : zz_X p m c cX5_when 3 s args RX5) (hr : meth.sig.returnType = (some .int)) (hlk : meth.locks = false) (hJ : zz_J Y) (hY : zz_ho Y)  : ∀ (n : Nat) (x2 : Int32) (σ : zz_T), pX5_when_28  Q n x2 σ → zz_V p l e rmX5_when s m args below meth c (MQ below (va_Qi Q (zz_E Y) (zz_A Y)) args s 0 0 (zz_A Y)) 3 Y σ 28 [(0, .ref (Y.2.1 0)), (2, .int x2)] [] := by
  intro n
  induction n with
  | zero => intro x2 σ h; exact h.elim
  | succ n ih =>
    intro x2 σ h 
    unfold pX5_when_28 at h
    refine zv_iload_n X dX5_when_28 1 rfl rfl rfl ?_
    refine zv_bipush (v := 60) X dX5_when_29 (by decide) rfl ?_
    refine zv_icmp_gt (tgt := 59) X dX5_when_31 (by decide) rfl (fun q31 => ?_) (fun q31 => ?_)
    · replace h := h.1 q31
      refine zv_bipush (v := (-4)) X dX5_when_59 (by decide) rfl ?_
      exact zv_iret X hr hlk h dX5_when_61
    · replace h := h.2 q31
      refine zv_aload_n X dX5_when_34 0 rfl rfl rfl ?_
      refine zv_iload_n X dX5_when_35 1 rfl rfl rfl ?_
      refine zv_iconst (v := 1) X dX5_when_36 (by decide) rfl ?_
      refine zv_cVi (k := 0) (ci := 5) X [.int x2, .int 1] (kX5_burnLone l hJ x2 1 hY h) jl_X5_179 ⟨rfl, rfl⟩ ⟨Nat.le_of_ble_eq_true rfl, Nat.le_of_ble_eq_true rfl⟩ (zz_ho_o hY).1 (by decide) (zz_ho_o hY).2 rfl rfl rfl (Nat.le_of_ble_eq_true rfl) dX5_when_37 rfl (fun r37 s37 h => ?_)
      refine zv_aload_n X dX5_when_40 0 rfl rfl rfl ?_
      refine zg_X5_1 (k := 0) X (zz_ho_o hY).1 (zz_ho_o hY).2 fl_X5_19 dX5_when_41 rfl ?_
      refine zv_iload_n X dX5_when_44 1 rfl rfl rfl ?_
      refine zv_cVi (k := 3) (ci := 1) X [.int x2] (kX1_wantedIn l hJ x2 (zz_ho_now hY) h) jl_X5_100 ⟨rfl, rfl⟩ ⟨Nat.le_of_ble_eq_true rfl, Nat.le_of_ble_eq_true rfl⟩ (zz_ho_now hY).1.1 (by decide) (zz_ho_now hY).1.2 rfl rfl rfl (Nat.le_of_ble_eq_true rfl) dX5_when_45 rfl (fun r45 s45 h => ?_)
      refine zv_icmp_eq (tgt := 53) X dX5_when_48 (by decide) rfl (fun q48 => ?_) (fun q48 => ?_)
      · replace h := h.1 q48
        refine zv_iinc (v := (x2 + 1)) (lv2 := [(2, .int (x2 + 1)), (0, .ref (Y.2.1 0))]) X dX5_when_53 1 rfl rfl (by decide) rfl rfl ?_
        refine zv_goto (tgt := 28) X dX5_when_56 (by decide) ?_
        refine zv_sub (lv2 := [(0, .ref (Y.2.1 0)), (2, .int (x2 + 1))]) [1, 0] rfl ?_
        exact ih (x2 + 1) _ h
      · replace h := h.2 q48
        refine zv_iload_n X dX5_when_51 1 rfl rfl rfl ?_
        exact zv_iret X hr hlk h dX5_when_52
def pX5_when (x1 : Int32) (σ : zz_T) (Q : Int32 → zz_T → Prop) : Prop :=
    pX5_noHead x1 σ (fun r2 s2 =>
    ((r2 = 0 → vp_in x1 3 ∧
    pX0_copyFrom 37 (11 + 3 * (Int32.toNatClampNeg x1)) s2 (fun s23 =>
    ∃ n28, pX5_when_28  Q n28 0 s23)) ∧
    (¬ r2 = 0 → Q (-1) s2)))
set_option maxHeartbeats 4000000 in
set_option maxRecDepth 100000 in
theorem kX5_when (l : Launch) {Y : zz_Y} (hJ : zz_J Y) (x1 : Int32) (hY : zz_ho Y) {σ : zz_T} {Q : Int32 → zz_T → Prop} (h : pX5_when x1 σ Q) : zz_Mi l yX5_when cX5_when 3 (some .int) rmX5_when Y [.ref (Y.2.1 0), .int x1] σ Q := by
  refine zz_Mi.start (by decide) hJ (Nat.le_of_ble_eq_true rfl) (fun p e s m below meth c X hr hlk => ?_)
  have X : zz_X p m c cX5_when 3 s _ RX5 := X
  refine zv_sub (lv2 := [(0, .ref (Y.2.1 0)), (1, .int x1)]) [0, 1] rfl ?_
  unfold pX5_when at h
  refine zv_aload_n X dX5_when_0 0 rfl rfl rfl ?_
  refine zv_iload_n X dX5_when_1 1 rfl rfl rfl ?_
  refine zv_cVi (k := 0) (ci := 5) X [.int x1] (kX5_noHead l hJ x1 hY h) jl_X5_104 ⟨rfl, rfl⟩ ⟨Nat.le_of_ble_eq_true rfl, Nat.le_of_ble_eq_true rfl⟩ (zz_ho_o hY).1 (by decide) (zz_ho_o hY).2 rfl rfl rfl (Nat.le_of_ble_eq_true rfl) dX5_when_2 rfl (fun r2 s2 h => ?_)
  refine zv_if_eq (tgt := 10) X dX5_when_5 (by decide) rfl (fun q5 => ?_) (fun q5 => ?_)
  · replace h := h.1 q5
    refine zv_aload_n X dX5_when_10 0 rfl rfl rfl ?_
    refine zg_X5_3 (k := 0) X (zz_ho_o hY).1 (zz_ho_o hY).2 fl_X5_29 dX5_when_11 rfl ?_
    refine zv_aload_n X dX5_when_14 0 rfl rfl rfl ?_
    refine zg_X5_1 (k := 0) X (zz_ho_o hY).1 (zz_ho_o hY).2 fl_X5_19 dX5_when_15 rfl ?_
    refine zg_X1_0 (k := 3) X (zz_ho_now hY).1.1 (zz_ho_now hY).1.2 fl_X5_108 dX5_when_18 rfl ?_
    refine zv_iload_n X dX5_when_21 1 rfl rfl rfl ?_
    obtain ⟨hi22, h⟩ := h
    refine zv_aald3 (k := 4) X (zz_ho_now hY).2.1.1 (zz_ho_now hY).2.1.2 hi22 dX5_when_22 rfl ?_
    refine zv_cVv (k := 37) (ci := 0) X [.ref (Y.2.1 (11 + 3 * (Int32.toNatClampNeg x1)))] (kX0_copyFrom l hJ  (zz_ho_lone hY) ((zz_ho_now hY).2.2.2.2.2 _ (zz_lt hi22)) h) jl_X5_176 ⟨rfl, rfl⟩ ⟨Nat.le_of_ble_eq_true rfl, Nat.le_of_ble_eq_true rfl⟩ (zz_ho_lone hY).1.1 (by decide) (zz_ho_lone hY).1.2 rfl rfl rfl (Nat.le_of_ble_eq_true rfl) dX5_when_23 rfl (fun s23 h => ?_)
    refine zv_iconst (v := 0) X dX5_when_26 (by decide) rfl ?_
    refine zv_istore_n (lv2 := [(2, .int 0), (0, .ref (Y.2.1 0)), (1, .int x1)]) X dX5_when_27 rfl (by decide) rfl rfl ?_
    obtain ⟨n28, h⟩ := h
    refine zv_sub (lv2 := [(0, .ref (Y.2.1 0)), (2, .int 0)]) [1, 0] rfl ?_
    exact vX5_when_28 X hr hlk hJ hY n28 0 _ h
  · replace h := h.2 q5
    refine zv_iconst (v := (-1)) X dX5_when_8 (by decide) rfl ?_
    exact zv_iret X hr hlk h dX5_when_9
def rmX5_wrongOfLone : Room := { frames := 3, cells := 0, slots := 0, locals := 75 }
def pX5_wrongOfLone_5  (Q : Int32 → zz_T → Prop) : Nat → Int32 → Int32 → Int32 → Int32 → zz_T → Prop
  | 0, _, _, _, _, _ => False
  | n + 1, x1, x2, x3, x4, σ =>
    ((x1 ≤ x4 → Q x3 σ) ∧
    (¬ x1 ≤ x4 → ((x2 ≤ x3 → Q x3 σ) ∧
    (¬ x2 ≤ x3 → pX5_burnLone x4 1 σ (fun r21 s21 =>
    pX1_wantedIn 3 x4 s21 (fun r30 s30 =>
    pJ6_bitCount_0f7a4 (r21 ^^^ r30) s30 (fun r34 s34 =>
    pX5_wrongOfLone_5  Q n x1 x2 (x3 + r34) (x4 + 1) s34)))))))
set_option maxHeartbeats 4000000 in
set_option maxRecDepth 100000 in
theorem vX5_wrongOfLone_5 {p : Program} {l : Launch} {e : Env} {s : State} {m : MethodId} {args : Array Value} {below : List Frame} {meth : Method} {c : Code} {Y : zz_Y}  {Q : Int32 → zz_T → Prop} (X : zz_X p m c cX5_wrongOfLone 5 s args RX5) (hr : meth.sig.returnType = (some .int)) (hlk : meth.locks = false) (hJ : zz_J Y) (hY : zz_ho Y)  : ∀ (n : Nat) (x1 : Int32) (x2 : Int32) (x3 : Int32) (x4 : Int32) (σ : zz_T), pX5_wrongOfLone_5  Q n x1 x2 x3 x4 σ → zz_V p l e rmX5_wrongOfLone s m args below meth c (MQ below (va_Qi Q (zz_E Y) (zz_A Y)) args s 0 0 (zz_A Y)) 5 Y σ 5 [(0, .ref (Y.2.1 0)), (1, .int x1), (2, .int x2), (3, .int x3), (4, .int x4)] [] := by
  intro n
  induction n with
  | zero => intro x1 x2 x3 x4 σ h; exact h.elim
  | succ n ih =>
    intro x1 x2 x3 x4 σ h 
    unfold pX5_wrongOfLone_5 at h
    refine zv_iload X dX5_wrongOfLone_5 4 rfl rfl ?_
    refine zv_iload_n X dX5_wrongOfLone_7 1 rfl rfl rfl ?_
    refine zv_icmp_ge (tgt := 45) X dX5_wrongOfLone_8 (by decide) rfl (fun q8 => ?_) (fun q8 => ?_)
    · replace h := h.1 q8
      refine zv_iload_n X dX5_wrongOfLone_45 3 rfl rfl rfl ?_
      exact zv_iret X hr hlk h dX5_wrongOfLone_46
    · replace h := h.2 q8
      refine zv_iload_n X dX5_wrongOfLone_11 3 rfl rfl rfl ?_
      refine zv_iload_n X dX5_wrongOfLone_12 2 rfl rfl rfl ?_
      refine zv_icmp_ge (tgt := 45) X dX5_wrongOfLone_13 (by decide) rfl (fun q13 => ?_) (fun q13 => ?_)
      · replace h := h.1 q13
        refine zv_iload_n X dX5_wrongOfLone_45 3 rfl rfl rfl ?_
        exact zv_iret X hr hlk h dX5_wrongOfLone_46
      · replace h := h.2 q13
        refine zv_iload_n X dX5_wrongOfLone_16 3 rfl rfl rfl ?_
        refine zv_aload_n X dX5_wrongOfLone_17 0 rfl rfl rfl ?_
        refine zv_iload X dX5_wrongOfLone_18 4 rfl rfl ?_
        refine zv_iconst (v := 1) X dX5_wrongOfLone_20 (by decide) rfl ?_
        refine zv_cVi (k := 0) (ci := 5) X [.int x4, .int 1] (kX5_burnLone l hJ x4 1 hY h) jl_X5_179 ⟨rfl, rfl⟩ ⟨Nat.le_of_ble_eq_true rfl, Nat.le_of_ble_eq_true rfl⟩ (zz_ho_o hY).1 (by decide) (zz_ho_o hY).2 rfl rfl rfl (Nat.le_of_ble_eq_true rfl) dX5_wrongOfLone_21 rfl (fun r21 s21 h => ?_)
        refine zv_aload_n X dX5_wrongOfLone_24 0 rfl rfl rfl ?_
        refine zg_X5_1 (k := 0) X (zz_ho_o hY).1 (zz_ho_o hY).2 fl_X5_19 dX5_wrongOfLone_25 rfl ?_
        refine zv_iload X dX5_wrongOfLone_28 4 rfl rfl ?_
        refine zv_cVi (k := 3) (ci := 1) X [.int x4] (kX1_wantedIn l hJ x4 (zz_ho_now hY) h) jl_X5_100 ⟨rfl, rfl⟩ ⟨Nat.le_of_ble_eq_true rfl, Nat.le_of_ble_eq_true rfl⟩ (zz_ho_now hY).1.1 (by decide) (zz_ho_now hY).1.2 rfl rfl rfl (Nat.le_of_ble_eq_true rfl) dX5_wrongOfLone_30 rfl (fun r30 s30 h => ?_)
        refine zv_ixor X dX5_wrongOfLone_33 rfl ?_
        refine zv_cSi X [.int (r21 ^^^ r30)] (kJ6_bitCount_0f7a4 l hJ (r21 ^^^ r30)  h) jl_X5_242 ⟨rfl, rfl⟩ ⟨Nat.le_of_ble_eq_true rfl, Nat.le_of_ble_eq_true rfl⟩ rfl rfl (Nat.le_of_ble_eq_true rfl) dX5_wrongOfLone_34 rfl (fun r34 s34 h => ?_)
        refine zv_iadd X dX5_wrongOfLone_37 rfl ?_
        refine zv_istore_n (lv2 := [(3, .int (x3 + r34)), (0, .ref (Y.2.1 0)), (1, .int x1), (2, .int x2), (4, .int x4)]) X dX5_wrongOfLone_38 rfl (by decide) rfl rfl ?_
        refine zv_iinc (v := (x4 + 1)) (lv2 := [(4, .int (x4 + 1)), (3, .int (x3 + r34)), (0, .ref (Y.2.1 0)), (1, .int x1), (2, .int x2)]) X dX5_wrongOfLone_39 4 rfl rfl (by decide) rfl rfl ?_
        refine zv_goto (tgt := 5) X dX5_wrongOfLone_42 (by decide) ?_
        refine zv_sub (lv2 := [(0, .ref (Y.2.1 0)), (1, .int x1), (2, .int x2), (3, .int (x3 + r34)), (4, .int (x4 + 1))]) [2, 3, 4, 1, 0] rfl ?_
        exact ih x1 x2 (x3 + r34) (x4 + 1) _ h
def pX5_wrongOfLone (x1 : Int32) (x2 : Int32) (σ : zz_T) (Q : Int32 → zz_T → Prop) : Prop :=
    ∃ n5, pX5_wrongOfLone_5  Q n5 x1 x2 0 0 σ
set_option maxHeartbeats 4000000 in
set_option maxRecDepth 100000 in
theorem kX5_wrongOfLone (l : Launch) {Y : zz_Y} (hJ : zz_J Y) (x1 : Int32) (x2 : Int32) (hY : zz_ho Y) {σ : zz_T} {Q : Int32 → zz_T → Prop} (h : pX5_wrongOfLone x1 x2 σ Q) : zz_Mi l yX5_wrongOfLone cX5_wrongOfLone 5 (some .int) rmX5_wrongOfLone Y [.ref (Y.2.1 0), .int x1, .int x2] σ Q := by
  refine zz_Mi.start (by decide) hJ (Nat.le_of_ble_eq_true rfl) (fun p e s m below meth c X hr hlk => ?_)
  have X : zz_X p m c cX5_wrongOfLone 5 s _ RX5 := X
  refine zv_sub (lv2 := [(0, .ref (Y.2.1 0)), (1, .int x1), (2, .int x2)]) [0, 1, 2] rfl ?_
  unfold pX5_wrongOfLone at h
  refine zv_iconst (v := 0) X dX5_wrongOfLone_0 (by decide) rfl ?_
  refine zv_istore_n (lv2 := [(3, .int 0), (0, .ref (Y.2.1 0)), (1, .int x1), (2, .int x2)]) X dX5_wrongOfLone_1 rfl (by decide) rfl rfl ?_
  refine zv_iconst (v := 0) X dX5_wrongOfLone_2 (by decide) rfl ?_
  refine zv_istore (lv2 := [(4, .int 0), (3, .int 0), (0, .ref (Y.2.1 0)), (1, .int x1), (2, .int x2)]) X dX5_wrongOfLone_3 (by decide) rfl rfl ?_
  obtain ⟨n5, h⟩ := h
  refine zv_sub (lv2 := [(0, .ref (Y.2.1 0)), (1, .int x1), (2, .int x2), (3, .int 0), (4, .int 0)]) [2, 3, 4, 1, 0] rfl ?_
  exact vX5_wrongOfLone_5 X hr hlk hJ hY n5 x1 x2 0 0 _ h
def rmX5_bestDrive : Room := { frames := 4, cells := 0, slots := 0, locals := 99 }
def pX5_bestDrive_96  (Q : Int32 → zz_T → Prop) (K37 : Int32 → Int32 → Int32 → Int32 → Int32 → Int32 → Int32 → zz_T → Prop) (x1 : Int32) (x2 : Int32) (x3 : Int32) (x4 : Int32) (x5 : Int32) (x6 : Int32) (x7 : Int32) (σ : zz_T) : Prop :=
    K37 x1 x2 x3 x4 x5 x6 (x7 + 1) σ
set_option maxHeartbeats 4000000 in
set_option maxRecDepth 100000 in
theorem vX5_bestDrive_96 {p : Program} {l : Launch} {e : Env} {s : State} {m : MethodId} {args : Array Value} {below : List Frame} {meth : Method} {c : Code} {Y : zz_Y}  {Q : Int32 → zz_T → Prop} {K37 : Int32 → Int32 → Int32 → Int32 → Int32 → Int32 → Int32 → zz_T → Prop} (X : zz_X p m c cX5_bestDrive 9 s args RX5) (hr : meth.sig.returnType = (some .int)) (hlk : meth.locks = false) (hJ : zz_J Y) (hY : zz_ho Y) (hK37 : ∀ (x1 : Int32) (x2 : Int32) (x3 : Int32) (x4 : Int32) (x5 : Int32) (x6 : Int32) (x7 : Int32) (σ : zz_T), K37 x1 x2 x3 x4 x5 x6 x7 σ → zz_V p l e rmX5_bestDrive s m args below meth c (MQ below (va_Qi Q (zz_E Y) (zz_A Y)) args s 0 0 (zz_A Y)) 9 Y σ 37 [(0, .ref (Y.2.1 0)), (1, .int x1), (2, .int x2), (3, .int x3), (4, .int x4), (5, .int x5), (6, .int x6), (7, .int x7)] []) : ∀ (x1 : Int32) (x2 : Int32) (x3 : Int32) (x4 : Int32) (x5 : Int32) (x6 : Int32) (x7 : Int32) (σ : zz_T), pX5_bestDrive_96  Q K37 x1 x2 x3 x4 x5 x6 x7 σ → zz_V p l e rmX5_bestDrive s m args below meth c (MQ below (va_Qi Q (zz_E Y) (zz_A Y)) args s 0 0 (zz_A Y)) 9 Y σ 96 [(0, .ref (Y.2.1 0)), (1, .int x1), (2, .int x2), (3, .int x3), (4, .int x4), (5, .int x5), (6, .int x6), (7, .int x7)] [] := by
  intro x1 x2 x3 x4 x5 x6 x7 σ h 
  unfold pX5_bestDrive_96 at h
  refine zv_iinc (v := (x7 + 1)) (lv2 := [(7, .int (x7 + 1)), (0, .ref (Y.2.1 0)), (1, .int x1), (2, .int x2), (3, .int x3), (4, .int x4), (5, .int x5), (6, .int x6)]) X dX5_bestDrive_96 7 rfl rfl (by decide) rfl rfl ?_
  refine zv_goto (tgt := 37) X dX5_bestDrive_99 (by decide) ?_
  refine zv_sub (lv2 := [(0, .ref (Y.2.1 0)), (1, .int x1), (2, .int x2), (3, .int x3), (4, .int x4), (5, .int x5), (6, .int x6), (7, .int (x7 + 1))]) [1, 2, 3, 4, 5, 6, 7, 0] rfl ?_
  exact hK37 x1 x2 x3 x4 x5 x6 (x7 + 1) _ h
def pX5_bestDrive_37  (Q : Int32 → zz_T → Prop) : Nat → Int32 → Int32 → Int32 → Int32 → Int32 → Int32 → Int32 → zz_T → Prop
  | 0, _, _, _, _, _, _, _, _ => False
  | n + 1, x1, x2, x3, x4, x5, x6, x7, σ =>
    pX5_mostOf x2 σ (fun r40 s40 =>
    ((r40 < x7 → ((x4 = 0 → Q x6 s40) ∧
    (¬ x4 = 0 → Q x5 s40))) ∧
    (¬ r40 < x7 → vp_in x1 3 ∧
    pX0_copyFrom 37 (11 + 3 * (Int32.toNatClampNeg x1)) s40 (fun s59 =>
    pX0_drive 37 x2 x7 s59 (fun s69 =>
    pX5_wrongOfLone x3 x5 s69 (fun r76 s76 =>
    ((x5 ≤ r76 → pX5_bestDrive_96  Q (pX5_bestDrive_37  Q n) x1 x2 x3 x4 x5 x6 x7 s76) ∧
    (¬ x5 ≤ r76 → pX5_bestDrive_96  Q (pX5_bestDrive_37  Q n) x1 x2 x3 x4 r76 x7 x7 s76))))))))
set_option maxHeartbeats 4000000 in
set_option maxRecDepth 100000 in
theorem vX5_bestDrive_37 {p : Program} {l : Launch} {e : Env} {s : State} {m : MethodId} {args : Array Value} {below : List Frame} {meth : Method} {c : Code} {Y : zz_Y}  {Q : Int32 → zz_T → Prop} (X : zz_X p m c cX5_bestDrive 9 s args RX5) (hr : meth.sig.returnType = (some .int)) (hlk : meth.locks = false) (hJ : zz_J Y) (hY : zz_ho Y)  : ∀ (n : Nat) (x1 : Int32) (x2 : Int32) (x3 : Int32) (x4 : Int32) (x5 : Int32) (x6 : Int32) (x7 : Int32) (σ : zz_T), pX5_bestDrive_37  Q n x1 x2 x3 x4 x5 x6 x7 σ → zz_V p l e rmX5_bestDrive s m args below meth c (MQ below (va_Qi Q (zz_E Y) (zz_A Y)) args s 0 0 (zz_A Y)) 9 Y σ 37 [(0, .ref (Y.2.1 0)), (1, .int x1), (2, .int x2), (3, .int x3), (4, .int x4), (5, .int x5), (6, .int x6), (7, .int x7)] [] := by
  intro n
  induction n with
  | zero => intro x1 x2 x3 x4 x5 x6 x7 σ h; exact h.elim
  | succ n ih =>
    intro x1 x2 x3 x4 x5 x6 x7 σ h 
    unfold pX5_bestDrive_37 at h
    refine zv_iload X dX5_bestDrive_37 7 rfl rfl ?_
    refine zv_iload_n X dX5_bestDrive_39 2 rfl rfl rfl ?_
    refine zv_cSi X [.int x2] (kX5_mostOf l hJ x2  h) jl_X5_140 ⟨rfl, rfl⟩ ⟨Nat.le_of_ble_eq_true rfl, Nat.le_of_ble_eq_true rfl⟩ rfl rfl (Nat.le_of_ble_eq_true rfl) dX5_bestDrive_40 rfl (fun r40 s40 h => ?_)
    refine zv_icmp_gt (tgt := 102) X dX5_bestDrive_43 (by decide) rfl (fun q43 => ?_) (fun q43 => ?_)
    · replace h := h.1 q43
      refine zv_iload X dX5_bestDrive_102 4 rfl rfl ?_
      refine zv_if_ne (tgt := 112) X dX5_bestDrive_104 (by decide) rfl (fun q104 => ?_) (fun q104 => ?_)
      · replace h := h.2 q104
        refine zv_iload X dX5_bestDrive_112 5 rfl rfl ?_
        exact zv_iret X hr hlk h dX5_bestDrive_114
      · replace h := h.1 q104
        refine zv_iload X dX5_bestDrive_107 6 rfl rfl ?_
        refine zv_goto (tgt := 114) X dX5_bestDrive_109 (by decide) ?_
        exact zv_iret X hr hlk h dX5_bestDrive_114
    · replace h := h.2 q43
      refine zv_aload_n X dX5_bestDrive_46 0 rfl rfl rfl ?_
      refine zg_X5_3 (k := 0) X (zz_ho_o hY).1 (zz_ho_o hY).2 fl_X5_29 dX5_bestDrive_47 rfl ?_
      refine zv_aload_n X dX5_bestDrive_50 0 rfl rfl rfl ?_
      refine zg_X5_1 (k := 0) X (zz_ho_o hY).1 (zz_ho_o hY).2 fl_X5_19 dX5_bestDrive_51 rfl ?_
      refine zg_X1_0 (k := 3) X (zz_ho_now hY).1.1 (zz_ho_now hY).1.2 fl_X5_108 dX5_bestDrive_54 rfl ?_
      refine zv_iload_n X dX5_bestDrive_57 1 rfl rfl rfl ?_
      obtain ⟨hi58, h⟩ := h
      refine zv_aald3 (k := 4) X (zz_ho_now hY).2.1.1 (zz_ho_now hY).2.1.2 hi58 dX5_bestDrive_58 rfl ?_
      refine zv_cVv (k := 37) (ci := 0) X [.ref (Y.2.1 (11 + 3 * (Int32.toNatClampNeg x1)))] (kX0_copyFrom l hJ  (zz_ho_lone hY) ((zz_ho_now hY).2.2.2.2.2 _ (zz_lt hi58)) h) jl_X5_176 ⟨rfl, rfl⟩ ⟨Nat.le_of_ble_eq_true rfl, Nat.le_of_ble_eq_true rfl⟩ (zz_ho_lone hY).1.1 (by decide) (zz_ho_lone hY).1.2 rfl rfl rfl (Nat.le_of_ble_eq_true rfl) dX5_bestDrive_59 rfl (fun s59 h => ?_)
      refine zv_aload_n X dX5_bestDrive_62 0 rfl rfl rfl ?_
      refine zg_X5_3 (k := 0) X (zz_ho_o hY).1 (zz_ho_o hY).2 fl_X5_29 dX5_bestDrive_63 rfl ?_
      refine zv_iload_n X dX5_bestDrive_66 2 rfl rfl rfl ?_
      refine zv_iload X dX5_bestDrive_67 7 rfl rfl ?_
      refine zv_cVv (k := 37) (ci := 0) X [.int x2, .int x7] (kX0_drive l hJ x2 x7 (zz_ho_lone hY) h) jl_X5_143 ⟨rfl, rfl⟩ ⟨Nat.le_of_ble_eq_true rfl, Nat.le_of_ble_eq_true rfl⟩ (zz_ho_lone hY).1.1 (by decide) (zz_ho_lone hY).1.2 rfl rfl rfl (Nat.le_of_ble_eq_true rfl) dX5_bestDrive_69 rfl (fun s69 h => ?_)
      refine zv_aload_n X dX5_bestDrive_72 0 rfl rfl rfl ?_
      refine zv_iload_n X dX5_bestDrive_73 3 rfl rfl rfl ?_
      refine zv_iload X dX5_bestDrive_74 5 rfl rfl ?_
      refine zv_cVi (k := 0) (ci := 5) X [.int x3, .int x5] (kX5_wrongOfLone l hJ x3 x5 hY h) jl_X5_296 ⟨rfl, rfl⟩ ⟨Nat.le_of_ble_eq_true rfl, Nat.le_of_ble_eq_true rfl⟩ (zz_ho_o hY).1 (by decide) (zz_ho_o hY).2 rfl rfl rfl (Nat.le_of_ble_eq_true rfl) dX5_bestDrive_76 rfl (fun r76 s76 h => ?_)
      refine zv_istore (lv2 := [(8, .int r76), (0, .ref (Y.2.1 0)), (1, .int x1), (2, .int x2), (3, .int x3), (4, .int x4), (5, .int x5), (6, .int x6), (7, .int x7)]) X dX5_bestDrive_79 (by decide) rfl rfl ?_
      refine zv_iload X dX5_bestDrive_81 0 rfl rfl ?_
      refine zv_iload X dX5_bestDrive_83 6 rfl rfl ?_
      refine zv_icmp_ge (tgt := 96) X dX5_bestDrive_85 (by decide) rfl (fun q85 => ?_) (fun q85 => ?_)
      · replace h := h.1 q85
        refine zv_sub (lv2 := [(0, .ref (Y.2.1 0)), (1, .int x1), (2, .int x2), (3, .int x3), (4, .int x4), (5, .int x5), (6, .int x6), (7, .int x7)]) [1, 2, 3, 4, 5, 6, 7, 8] rfl ?_
        exact vX5_bestDrive_96 X hr hlk hJ hY ih x1 x2 x3 x4 x5 x6 x7 _ h
      · replace h := h.2 q85
        refine zv_iload X dX5_bestDrive_88 0 rfl rfl ?_
        refine zv_istore (lv2 := [(5, .int r76), (8, .int r76), (0, .ref (Y.2.1 0)), (1, .int x1), (2, .int x2), (3, .int x3), (4, .int x4), (6, .int x6), (7, .int x7)]) X dX5_bestDrive_90 (by decide) rfl rfl ?_
        refine zv_iload X dX5_bestDrive_92 8 rfl rfl ?_
        refine zv_istore (lv2 := [(6, .int x7), (5, .int r76), (8, .int r76), (0, .ref (Y.2.1 0)), (1, .int x1), (2, .int x2), (3, .int x3), (4, .int x4), (7, .int x7)]) X dX5_bestDrive_94 (by decide) rfl rfl ?_
        refine zv_sub (lv2 := [(0, .ref (Y.2.1 0)), (1, .int x1), (2, .int x2), (3, .int x3), (4, .int x4), (5, .int r76), (6, .int x7), (7, .int x7)]) [3, 4, 5, 6, 7, 1, 0, 8] rfl ?_
        exact vX5_bestDrive_96 X hr hlk hJ hY ih x1 x2 x3 x4 r76 x7 x7 _ h
def pX5_bestDrive (x1 : Int32) (x2 : Int32) (x3 : Int32) (x4 : Int32) (σ : zz_T) (Q : Int32 → zz_T → Prop) : Prop :=
    pX5_noHead x1 σ (fun r2 s2 =>
    ((r2 = 0 → pX5_badRows x3 s2 (fun r9 s9 =>
    ((r9 = 0 → pX5_outside x4 0 1 s9 (fun r19 s19 =>
    ((r19 = 0 → ∃ n37, pX5_bestDrive_37  Q n37 x1 x2 x3 x4 1000000 0 0 s19) ∧
    (¬ r19 = 0 → Q (-1) s19)))) ∧
    (¬ r9 = 0 → Q (-1) s9)))) ∧
    (¬ r2 = 0 → Q (-1) s2)))
set_option maxHeartbeats 4000000 in
set_option maxRecDepth 100000 in
theorem kX5_bestDrive (l : Launch) {Y : zz_Y} (hJ : zz_J Y) (x1 : Int32) (x2 : Int32) (x3 : Int32) (x4 : Int32) (hY : zz_ho Y) {σ : zz_T} {Q : Int32 → zz_T → Prop} (h : pX5_bestDrive x1 x2 x3 x4 σ Q) : zz_Mi l yX5_bestDrive cX5_bestDrive 9 (some .int) rmX5_bestDrive Y [.ref (Y.2.1 0), .int x1, .int x2, .int x3, .int x4] σ Q := by
  refine zz_Mi.start (by decide) hJ (Nat.le_of_ble_eq_true rfl) (fun p e s m below meth c X hr hlk => ?_)
  have X : zz_X p m c cX5_bestDrive 9 s _ RX5 := X
  refine zv_sub (lv2 := [(0, .ref (Y.2.1 0)), (1, .int x1), (2, .int x2), (3, .int x3), (4, .int x4)]) [0, 1, 2, 3, 4] rfl ?_
  unfold pX5_bestDrive at h
  refine zv_aload_n X dX5_bestDrive_0 0 rfl rfl rfl ?_
  refine zv_iload_n X dX5_bestDrive_1 1 rfl rfl rfl ?_
  refine zv_cVi (k := 0) (ci := 5) X [.int x1] (kX5_noHead l hJ x1 hY h) jl_X5_104 ⟨rfl, rfl⟩ ⟨Nat.le_of_ble_eq_true rfl, Nat.le_of_ble_eq_true rfl⟩ (zz_ho_o hY).1 (by decide) (zz_ho_o hY).2 rfl rfl rfl (Nat.le_of_ble_eq_true rfl) dX5_bestDrive_2 rfl (fun r2 s2 h => ?_)
  refine zv_if_ne (tgt := 25) X dX5_bestDrive_5 (by decide) rfl (fun q5 => ?_) (fun q5 => ?_)
  · replace h := h.2 q5
    refine zv_iconst (v := (-1)) X dX5_bestDrive_25 (by decide) rfl ?_
    exact zv_iret X hr hlk h dX5_bestDrive_26
  · replace h := h.1 q5
    refine zv_iload_n X dX5_bestDrive_8 3 rfl rfl rfl ?_
    refine zv_cSi X [.int x3] (kX5_badRows l hJ x3  h) jl_X5_157 ⟨rfl, rfl⟩ ⟨Nat.le_of_ble_eq_true rfl, Nat.le_of_ble_eq_true rfl⟩ rfl rfl (Nat.le_of_ble_eq_true rfl) dX5_bestDrive_9 rfl (fun r9 s9 h => ?_)
    refine zv_if_ne (tgt := 25) X dX5_bestDrive_12 (by decide) rfl (fun q12 => ?_) (fun q12 => ?_)
    · replace h := h.2 q12
      refine zv_iconst (v := (-1)) X dX5_bestDrive_25 (by decide) rfl ?_
      exact zv_iret X hr hlk h dX5_bestDrive_26
    · replace h := h.1 q12
      refine zv_iload X dX5_bestDrive_15 4 rfl rfl ?_
      refine zv_iconst (v := 0) X dX5_bestDrive_17 (by decide) rfl ?_
      refine zv_iconst (v := 1) X dX5_bestDrive_18 (by decide) rfl ?_
      refine zv_cSi X [.int x4, .int 0, .int 1] (kX5_outside l hJ x4 0 1  h) jl_X5_58 ⟨rfl, rfl⟩ ⟨Nat.le_of_ble_eq_true rfl, Nat.le_of_ble_eq_true rfl⟩ rfl rfl (Nat.le_of_ble_eq_true rfl) dX5_bestDrive_19 rfl (fun r19 s19 h => ?_)
      refine zv_if_eq (tgt := 27) X dX5_bestDrive_22 (by decide) rfl (fun q22 => ?_) (fun q22 => ?_)
      · replace h := h.1 q22
        refine zv_ldc (v := 1000000) X dX5_bestDrive_27 co_X5_193 rfl ?_
        refine zv_istore (lv2 := [(5, .int 1000000), (0, .ref (Y.2.1 0)), (1, .int x1), (2, .int x2), (3, .int x3), (4, .int x4)]) X dX5_bestDrive_29 (by decide) rfl rfl ?_
        refine zv_iconst (v := 0) X dX5_bestDrive_31 (by decide) rfl ?_
        refine zv_istore (lv2 := [(6, .int 0), (5, .int 1000000), (0, .ref (Y.2.1 0)), (1, .int x1), (2, .int x2), (3, .int x3), (4, .int x4)]) X dX5_bestDrive_32 (by decide) rfl rfl ?_
        refine zv_iconst (v := 0) X dX5_bestDrive_34 (by decide) rfl ?_
        refine zv_istore (lv2 := [(7, .int 0), (6, .int 0), (5, .int 1000000), (0, .ref (Y.2.1 0)), (1, .int x1), (2, .int x2), (3, .int x3), (4, .int x4)]) X dX5_bestDrive_35 (by decide) rfl rfl ?_
        obtain ⟨n37, h⟩ := h
        refine zv_sub (lv2 := [(0, .ref (Y.2.1 0)), (1, .int x1), (2, .int x2), (3, .int x3), (4, .int x4), (5, .int 1000000), (6, .int 0), (7, .int 0)]) [3, 4, 5, 6, 7, 2, 1, 0] rfl ?_
        exact vX5_bestDrive_37 X hr hlk hJ hY n37 x1 x2 x3 x4 1000000 0 0 _ h
      · replace h := h.2 q22
        refine zv_iconst (v := (-1)) X dX5_bestDrive_25 (by decide) rfl ?_
        exact zv_iret X hr hlk h dX5_bestDrive_26
def rmX5_power : Room := { frames := 5, cells := 0, slots := 0, locals := 127 }
def pX5_power (x1 : Int32) (x2 : Int32) (x3 : Int32) (σ : zz_T) (Q : Int32 → zz_T → Prop) : Prop :=
    pX5_bestDrive x1 1 x2 x3 σ (fun r5 s5 =>
    Q r5 s5)
set_option maxHeartbeats 4000000 in
set_option maxRecDepth 100000 in
theorem kX5_power (l : Launch) {Y : zz_Y} (hJ : zz_J Y) (x1 : Int32) (x2 : Int32) (x3 : Int32) (hY : zz_ho Y) {σ : zz_T} {Q : Int32 → zz_T → Prop} (h : pX5_power x1 x2 x3 σ Q) : zz_Mi l yX5_power cX5_power 4 (some .int) rmX5_power Y [.ref (Y.2.1 0), .int x1, .int x2, .int x3] σ Q := by
  refine zz_Mi.start (by decide) hJ (Nat.le_of_ble_eq_true rfl) (fun p e s m below meth c X hr hlk => ?_)
  have X : zz_X p m c cX5_power 4 s _ RX5 := X
  refine zv_sub (lv2 := [(0, .ref (Y.2.1 0)), (1, .int x1), (2, .int x2), (3, .int x3)]) [0, 1, 2, 3] rfl ?_
  unfold pX5_power at h
  refine zv_aload_n X dX5_power_0 0 rfl rfl rfl ?_
  refine zv_iload_n X dX5_power_1 1 rfl rfl rfl ?_
  refine zv_iconst (v := 1) X dX5_power_2 (by decide) rfl ?_
  refine zv_iload_n X dX5_power_3 2 rfl rfl rfl ?_
  refine zv_iload_n X dX5_power_4 3 rfl rfl rfl ?_
  refine zv_cVi (k := 0) (ci := 5) X [.int x1, .int 1, .int x2, .int x3] (kX5_bestDrive l hJ x1 1 x2 x3 hY h) jl_X5_183 ⟨rfl, rfl⟩ ⟨Nat.le_of_ble_eq_true rfl, Nat.le_of_ble_eq_true rfl⟩ (zz_ho_o hY).1 (by decide) (zz_ho_o hY).2 rfl rfl rfl (Nat.le_of_ble_eq_true rfl) dX5_power_5 rfl (fun r5 s5 h => ?_)
  exact zv_iret X hr hlk h dX5_power_8
