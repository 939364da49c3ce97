def rmX5_mean : Room := { frames := 5, cells := 0, slots := 0, locals := 125 }
def pX5_mean_67  (Q : Int64 → zz_T → Prop) (K27 : Int32 → Int32 → Int32 → Int64 → Int64 → Int32 → zz_T → Prop) (x1 : Int32) (x2 : Int32) (x3 : Int32) (x4 : Int64) (x6 : Int64) (x8 : Int32) (σ : zz_T) : Prop :=
    K27 x1 x2 x3 x4 x6 (x8 + 1) σ
set_option maxHeartbeats 4000000 in
set_option maxRecDepth 100000 in
theorem vX5_mean_67 {p : Program} {l : Launch} {e : Env} {s : State} {m : MethodId} {args : Array Value} {below : List Frame} {meth : Method} {c : Code} {Y : zz_Y}  {Q : Int64 → zz_T → Prop} {K27 : Int32 → Int32 → Int32 → Int64 → Int64 → Int32 → zz_T → Prop} (X : zz_X p m c cX5_mean 11 s args RX5) (hr : meth.sig.returnType = (some .long)) (hlk : meth.locks = false) (hJ : zz_J Y) (hY : zz_ho Y) (hK27 : ∀ (x1 : Int32) (x2 : Int32) (x3 : Int32) (x4 : Int64) (x6 : Int64) (x8 : Int32) (σ : zz_T), K27 x1 x2 x3 x4 x6 x8 σ → zz_V p l e rmX5_mean s m args below meth c (MQ below (va_Ql Q (zz_E Y) (zz_A Y)) args s 0 0 (zz_A Y)) 11 Y σ 27 [(0, .ref (Y.2.1 0)), (1, .int x1), (2, .int x2), (3, .int x3), (4, .long x4), (6, .long x6), (8, .int x8)] []) : ∀ (x1 : Int32) (x2 : Int32) (x3 : Int32) (x4 : Int64) (x6 : Int64) (x8 : Int32) (σ : zz_T), pX5_mean_67  Q K27 x1 x2 x3 x4 x6 x8 σ → zz_V p l e rmX5_mean s m args below meth c (MQ below (va_Ql Q (zz_E Y) (zz_A Y)) args s 0 0 (zz_A Y)) 11 Y σ 67 [(0, .ref (Y.2.1 0)), (1, .int x1), (2, .int x2), (3, .int x3), (4, .long x4), (6, .long x6), (8, .int x8)] [] := by
  intro x1 x2 x3 x4 x6 x8 σ h 
  unfold pX5_mean_67 at h
  refine zv_iinc (v := (x8 + 1)) (lv2 := [(8, .int (x8 + 1)), (0, .ref (Y.2.1 0)), (1, .int x1), (2, .int x2), (3, .int x3), (4, .long x4), (6, .long x6)]) X dX5_mean_67 6 rfl rfl (by decide) rfl rfl ?_
  refine zv_goto (tgt := 27) X dX5_mean_70 (by decide) ?_
  refine zv_sub (lv2 := [(0, .ref (Y.2.1 0)), (1, .int x1), (2, .int x2), (3, .int x3), (4, .long x4), (6, .long x6), (8, .int (x8 + 1))]) [1, 2, 3, 4, 5, 6, 0] rfl ?_
  exact hK27 x1 x2 x3 x4 x6 (x8 + 1) _ h
def pX5_mean_27  (Q : Int64 → zz_T → Prop) : Nat → Int32 → Int32 → Int32 → Int64 → Int64 → Int32 → zz_T → Prop
  | 0, _, _, _, _, _, _, _ => False
  | n + 1, x1, x2, x3, x4, x6, x8, σ =>
    (((1 <<< (x2 &&& (31 : Int32))) ≤ x8 → pX5_part x6 x4 x3 σ (fun r78 s78 =>
    Q r78 s78)) ∧
    (¬ (1 <<< (x2 &&& (31 : Int32))) ≤ x8 → pX5_weightOf x8 x1 x2 σ (fun r39 s39 =>
    (((lg_cmp r39 0) = 0 → pX5_mean_67  Q (pX5_mean_27  Q n) x1 x2 x3 x4 x6 x8 s39) ∧
    (¬ (lg_cmp r39 0) = 0 → pX5_wrongWithout x2 x8 s39 (fun r59 s59 =>
    pX5_mean_67  Q (pX5_mean_27  Q n) x1 x2 x3 x4 (x6 + (r39 * (Int32.toInt64 r59))) x8 s59))))))
set_option maxHeartbeats 4000000 in
set_option maxRecDepth 100000 in
theorem vX5_mean_27 {p : Program} {l : Launch} {e : Env} {s : State} {m : MethodId} {args : Array Value} {below : List Frame} {meth : Method} {c : Code} {Y : zz_Y}  {Q : Int64 → zz_T → Prop} (X : zz_X p m c cX5_mean 11 s args RX5) (hr : meth.sig.returnType = (some .long)) (hlk : meth.locks = false) (hJ : zz_J Y) (hY : zz_ho Y)  : ∀ (n : Nat) (x1 : Int32) (x2 : Int32) (x3 : Int32) (x4 : Int64) (x6 : Int64) (x8 : Int32) (σ : zz_T), pX5_mean_27  Q n x1 x2 x3 x4 x6 x8 σ → zz_V p l e rmX5_mean s m args below meth c (MQ below (va_Ql Q (zz_E Y) (zz_A Y)) args s 0 0 (zz_A Y)) 11 Y σ 27 [(0, .ref (Y.2.1 0)), (1, .int x1), (2, .int x2), (3, .int x3), (4, .long x4), (6, .long x6), (8, .int x8)] [] := by
  intro n
  induction n with
  | zero => intro x1 x2 x3 x4 x6 x8 σ h; exact h.elim
  | succ n ih =>
    intro x1 x2 x3 x4 x6 x8 σ h 
    unfold pX5_mean_27 at h
    refine zv_iload X dX5_mean_27 6 rfl rfl ?_
    refine zv_iconst (v := 1) X dX5_mean_29 (by decide) rfl ?_
    refine zv_iload_n X dX5_mean_30 2 rfl rfl rfl ?_
    refine zv_ishl X dX5_mean_31 rfl ?_
    refine zv_icmp_ge (tgt := 73) X dX5_mean_32 (by decide) rfl (fun q32 => ?_) (fun q32 => ?_)
    · replace h := h.1 q32
      refine zv_lload X dX5_mean_73 5 rfl rfl ?_
      refine zv_lload X dX5_mean_75 4 rfl rfl ?_
      refine zv_iload_n X dX5_mean_77 3 rfl rfl rfl ?_
      refine zv_cSl X [.long x6, .long x4, .int x3] (kX5_part l hJ x6 x4 x3  h) jl_X5_219 ⟨rfl, rfl⟩ ⟨Nat.le_of_ble_eq_true rfl, Nat.le_of_ble_eq_true rfl⟩ rfl rfl (Nat.le_of_ble_eq_true rfl) dX5_mean_78 rfl (fun r78 s78 h => ?_)
      exact zv_lret X hr hlk h dX5_mean_81
    · replace h := h.2 q32
      refine zv_iload X dX5_mean_35 6 rfl rfl ?_
      refine zv_iload_n X dX5_mean_37 1 rfl rfl rfl ?_
      refine zv_iload_n X dX5_mean_38 2 rfl rfl rfl ?_
      refine zv_cSl X [.int x8, .int x1, .int x2] (kX5_weightOf l hJ x8 x1 x2  h) jl_X5_212 ⟨rfl, rfl⟩ ⟨Nat.le_of_ble_eq_true rfl, Nat.le_of_ble_eq_true rfl⟩ rfl rfl (Nat.le_of_ble_eq_true rfl) dX5_mean_39 rfl (fun r39 s39 h => ?_)
      refine zv_lstore (lv2 := [(9, .long r39), (0, .ref (Y.2.1 0)), (1, .int x1), (2, .int x2), (3, .int x3), (4, .long x4), (6, .long x6), (8, .int x8)]) X dX5_mean_42 (by decide) rfl rfl ?_
      refine zv_lload X dX5_mean_44 0 rfl rfl ?_
      refine zv_lconst (v := 0) X dX5_mean_46 (by decide) rfl ?_
      refine zv_lcmp X dX5_mean_47 rfl ?_
      refine zv_if_eq (tgt := 67) X dX5_mean_48 (by decide) rfl (fun q48 => ?_) (fun q48 => ?_)
      · replace h := h.1 q48
        refine zv_sub (lv2 := [(0, .ref (Y.2.1 0)), (1, .int x1), (2, .int x2), (3, .int x3), (4, .long x4), (6, .long x6), (8, .int x8)]) [1, 2, 3, 4, 5, 6, 7] rfl ?_
        exact vX5_mean_67 X hr hlk hJ hY ih x1 x2 x3 x4 x6 x8 _ h
      · replace h := h.2 q48
        refine zv_lload X dX5_mean_51 6 rfl rfl ?_
        refine zv_lload X dX5_mean_53 0 rfl rfl ?_
        refine zv_aload_n X dX5_mean_55 1 rfl rfl rfl ?_
        refine zv_iload_n X dX5_mean_56 3 rfl rfl rfl ?_
        refine zv_iload X dX5_mean_57 7 rfl rfl ?_
        refine zv_cVi (k := 0) (ci := 5) X [.int x2, .int x8] (kX5_wrongWithout l hJ x2 x8 hY h) jl_X5_223 ⟨rfl, rfl⟩ ⟨Nat.le_of_ble_eq_true rfl, Nat.le_of_ble_eq_true rfl⟩ (zz_ho_o hY).1 (by decide) (zz_ho_o hY).2 rfl rfl rfl (Nat.le_of_ble_eq_true rfl) dX5_mean_59 rfl (fun r59 s59 h => ?_)
        refine zv_i2l X dX5_mean_62 rfl ?_
        refine zv_lmul X dX5_mean_63 rfl ?_
        refine zv_ladd X dX5_mean_64 rfl ?_
        refine zv_lstore (lv2 := [(6, .long (x6 + (r39 * (Int32.toInt64 r59)))), (9, .long r39), (0, .ref (Y.2.1 0)), (1, .int x1), (2, .int x2), (3, .int x3), (4, .long x4), (8, .int x8)]) X dX5_mean_65 (by decide) rfl rfl ?_
        refine zv_sub (lv2 := [(0, .ref (Y.2.1 0)), (1, .int x1), (2, .int x2), (3, .int x3), (4, .long x4), (6, .long (x6 + (r39 * (Int32.toInt64 r59)))), (8, .int x8)]) [2, 3, 4, 5, 6, 0, 7] rfl ?_
        exact vX5_mean_67 X hr hlk hJ hY ih x1 x2 x3 x4 (x6 + (r39 * (Int32.toInt64 r59))) x8 _ h
def pX5_mean (x1 : Int32) (x2 : Int32) (x3 : Int32) (σ : zz_T) (Q : Int64 → zz_T → Prop) : Prop :=
    pX5_badOdds x1 x2 x3 σ (fun r3 s3 =>
    ((r3 = 0 → pX5_raised 10 x2 s3 (fun r16 s16 =>
    ∃ n27, pX5_mean_27  Q n27 x1 x2 x3 r16 0 0 s16)) ∧
    (¬ r3 = 0 → Q (-1) s3)))
set_option maxHeartbeats 4000000 in
set_option maxRecDepth 100000 in
theorem kX5_mean (l : Launch) {Y : zz_Y} (hJ : zz_J Y) (x1 : Int32) (x2 : Int32) (x3 : Int32) (hY : zz_ho Y) {σ : zz_T} {Q : Int64 → zz_T → Prop} (h : pX5_mean x1 x2 x3 σ Q) : zz_Ml l yX5_mean cX5_mean 11 (some .long) rmX5_mean Y [.ref (Y.2.1 0), .int x1, .int x2, .int x3] σ Q := by
  refine zz_Ml.start (by decide) hJ (Nat.le_of_ble_eq_true rfl) (fun p e s m below meth c X hr hlk => ?_)
  have X : zz_X p m c cX5_mean 11 s _ RX5 := X
  refine zv_sub (lv2 := [(0, .ref (Y.2.1 0)), (1, .int x1), (2, .int x2), (3, .int x3)]) [0, 1, 2, 3] rfl ?_
  unfold pX5_mean at h
  refine zv_iload_n X dX5_mean_0 1 rfl rfl rfl ?_
  refine zv_iload_n X dX5_mean_1 2 rfl rfl rfl ?_
  refine zv_iload_n X dX5_mean_2 3 rfl rfl rfl ?_
  refine zv_cSi X [.int x1, .int x2, .int x3] (kX5_badOdds l hJ x1 x2 x3  h) jl_X5_203 ⟨rfl, rfl⟩ ⟨Nat.le_of_ble_eq_true rfl, Nat.le_of_ble_eq_true rfl⟩ rfl rfl (Nat.le_of_ble_eq_true rfl) dX5_mean_3 rfl (fun r3 s3 h => ?_)
  refine zv_if_eq (tgt := 13) X dX5_mean_6 (by decide) rfl (fun q6 => ?_) (fun q6 => ?_)
  · replace h := h.1 q6
    refine zv_bipush (v := 10) X dX5_mean_13 (by decide) rfl ?_
    refine zv_iload_n X dX5_mean_15 2 rfl rfl rfl ?_
    refine zv_cSl X [.int 10, .int x2] (kX5_raised l hJ 10 x2  h) jl_X5_208 ⟨rfl, rfl⟩ ⟨Nat.le_of_ble_eq_true rfl, Nat.le_of_ble_eq_true rfl⟩ rfl rfl (Nat.le_of_ble_eq_true rfl) dX5_mean_16 rfl (fun r16 s16 h => ?_)
    refine zv_lstore (lv2 := [(4, .long r16), (0, .ref (Y.2.1 0)), (1, .int x1), (2, .int x2), (3, .int x3)]) X dX5_mean_19 (by decide) rfl rfl ?_
    refine zv_lconst (v := 0) X dX5_mean_21 (by decide) rfl ?_
    refine zv_lstore (lv2 := [(6, .long 0), (4, .long r16), (0, .ref (Y.2.1 0)), (1, .int x1), (2, .int x2), (3, .int x3)]) X dX5_mean_22 (by decide) rfl rfl ?_
    refine zv_iconst (v := 0) X dX5_mean_24 (by decide) rfl ?_
    refine zv_istore (lv2 := [(8, .int 0), (6, .long 0), (4, .long r16), (0, .ref (Y.2.1 0)), (1, .int x1), (2, .int x2), (3, .int x3)]) X dX5_mean_25 (by decide) rfl rfl ?_
    obtain ⟨n27, h⟩ := h
    refine zv_sub (lv2 := [(0, .ref (Y.2.1 0)), (1, .int x1), (2, .int x2), (3, .int x3), (4, .long r16), (6, .long 0), (8, .int 0)]) [3, 4, 5, 6, 2, 1, 0] rfl ?_
    exact vX5_mean_27 X hr hlk hJ hY n27 x1 x2 x3 r16 0 0 _ h
  · replace h := h.2 q6
    refine zv_ldc2 (v := (-1)) X dX5_mean_9 co_X5_206 rfl ?_
    exact zv_lret X hr hlk h dX5_mean_12
def rmX5_see : Room := { frames := 2, cells := 0, slots := 0, locals := 43 }
def pX5_see (x1 : Int32) (x2 : Int32) (x3 : Int32) (σ : zz_T) (Q : Int32 → zz_T → Prop) : Prop :=
    pX5_outside x1 0 40 σ (fun r4 s4 =>
    ((r4 = 0 → pX5_noHead x2 s4 (fun r12 s12 =>
    ((r12 = 0 → pX5_outside x3 0 255 s12 (fun r23 s23 =>
    ((r23 = 0 → (((s23.1 7 3) < 6 → pX2_append 7 x1 x2 x3 s23 (fun s59 =>
    Q (s59.1 7 3) s59)) ∧
    (¬ (s23.1 7 3) < 6 → Q (-3) s23))) ∧
    (¬ r23 = 0 → Q (-1) s23)))) ∧
    (¬ r12 = 0 → Q (-1) s12)))) ∧
    (¬ r4 = 0 → Q (-1) s4)))
set_option maxHeartbeats 4000000 in
set_option maxRecDepth 100000 in
theorem kX5_see (l : Launch) {Y : zz_Y} (hJ : zz_J Y) (x1 : Int32) (x2 : Int32) (x3 : Int32) (hY : zz_ho Y) {σ : zz_T} {Q : Int32 → zz_T → Prop} (h : pX5_see x1 x2 x3 σ Q) : zz_Mi l yX5_see cX5_see 4 (some .int) rmX5_see Y [.ref (Y.2.1 0), .int x1, .int x2, .int x3] σ Q := by
  refine zz_Mi.start (by decide) hJ (Nat.le_of_ble_eq_true rfl) (fun p e s m below meth c X hr hlk => ?_)
  have X : zz_X p m c cX5_see 4 s _ RX5 := X
  refine zv_sub (lv2 := [(0, .ref (Y.2.1 0)), (1, .int x1), (2, .int x2), (3, .int x3)]) [0, 1, 2, 3] rfl ?_
  unfold pX5_see at h
  refine zv_iload_n X dX5_see_0 1 rfl rfl rfl ?_
  refine zv_iconst (v := 0) X dX5_see_1 (by decide) rfl ?_
  refine zv_bipush (v := 40) X dX5_see_2 (by decide) rfl ?_
  refine zv_cSi X [.int x1, .int 0, .int 40] (kX5_outside l hJ x1 0 40  h) jl_X5_58 ⟨rfl, rfl⟩ ⟨Nat.le_of_ble_eq_true rfl, Nat.le_of_ble_eq_true rfl⟩ rfl rfl (Nat.le_of_ble_eq_true rfl) dX5_see_4 rfl (fun r4 s4 h => ?_)
  refine zv_if_ne (tgt := 29) X dX5_see_7 (by decide) rfl (fun q7 => ?_) (fun q7 => ?_)
  · replace h := h.2 q7
    refine zv_iconst (v := (-1)) X dX5_see_29 (by decide) rfl ?_
    exact zv_iret X hr hlk h dX5_see_30
  · replace h := h.1 q7
    refine zv_aload_n X dX5_see_10 0 rfl rfl rfl ?_
    refine zv_iload_n X dX5_see_11 2 rfl rfl rfl ?_
    refine zv_cVi (k := 0) (ci := 5) X [.int x2] (kX5_noHead l hJ x2 hY h) jl_X5_104 ⟨rfl, rfl⟩ ⟨Nat.le_of_ble_eq_true rfl, Nat.le_of_ble_eq_true rfl⟩ (zz_ho_o hY).1 (by decide) (zz_ho_o hY).2 rfl rfl rfl (Nat.le_of_ble_eq_true rfl) dX5_see_12 rfl (fun r12 s12 h => ?_)
    refine zv_if_ne (tgt := 29) X dX5_see_15 (by decide) rfl (fun q15 => ?_) (fun q15 => ?_)
    · replace h := h.2 q15
      refine zv_iconst (v := (-1)) X dX5_see_29 (by decide) rfl ?_
      exact zv_iret X hr hlk h dX5_see_30
    · replace h := h.1 q15
      refine zv_iload_n X dX5_see_18 3 rfl rfl rfl ?_
      refine zv_iconst (v := 0) X dX5_see_19 (by decide) rfl ?_
      refine zv_sipush (v := 255) X dX5_see_20 (by decide) rfl ?_
      refine zv_cSi X [.int x3, .int 0, .int 255] (kX5_outside l hJ x3 0 255  h) jl_X5_58 ⟨rfl, rfl⟩ ⟨Nat.le_of_ble_eq_true rfl, Nat.le_of_ble_eq_true rfl⟩ rfl rfl (Nat.le_of_ble_eq_true rfl) dX5_see_23 rfl (fun r23 s23 h => ?_)
      refine zv_if_eq (tgt := 31) X dX5_see_26 (by decide) rfl (fun q26 => ?_) (fun q26 => ?_)
      · replace h := h.1 q26
        refine zv_aload_n X dX5_see_31 0 rfl rfl rfl ?_
        refine zg_X5_1 (k := 0) X (zz_ho_o hY).1 (zz_ho_o hY).2 fl_X5_19 dX5_see_32 rfl ?_
        refine zg_X1_3 (k := 3) X (zz_ho_now hY).1.1 (zz_ho_now hY).1.2 fl_X5_226 dX5_see_35 rfl ?_
        refine zg_X2_3 (k := 7) X (zz_ho_now hY).2.2.2.2.1.1.1 (zz_ho_now hY).2.2.2.2.1.1.2 fl_X5_230 dX5_see_38 rfl ?_
        refine zv_bipush (v := 6) X dX5_see_41 (by decide) rfl ?_
        refine zv_icmp_lt (tgt := 49) X dX5_see_43 (by decide) rfl (fun q43 => ?_) (fun q43 => ?_)
        · replace h := h.1 q43
          refine zv_aload_n X dX5_see_49 0 rfl rfl rfl ?_
          refine zg_X5_1 (k := 0) X (zz_ho_o hY).1 (zz_ho_o hY).2 fl_X5_19 dX5_see_50 rfl ?_
          refine zg_X1_3 (k := 3) X (zz_ho_now hY).1.1 (zz_ho_now hY).1.2 fl_X5_226 dX5_see_53 rfl ?_
          refine zv_iload_n X dX5_see_56 1 rfl rfl rfl ?_
          refine zv_iload_n X dX5_see_57 2 rfl rfl rfl ?_
          refine zv_iload_n X dX5_see_58 3 rfl rfl rfl ?_
          refine zv_cVv (k := 7) (ci := 2) X [.int x1, .int x2, .int x3] (kX2_append l hJ x1 x2 x3 (zz_ho_now hY).2.2.2.2.1 h) jl_X5_235 ⟨rfl, rfl⟩ ⟨Nat.le_of_ble_eq_true rfl, Nat.le_of_ble_eq_true rfl⟩ (zz_ho_now hY).2.2.2.2.1.1.1 (by decide) (zz_ho_now hY).2.2.2.2.1.1.2 rfl rfl rfl (Nat.le_of_ble_eq_true rfl) dX5_see_59 rfl (fun s59 h => ?_)
          refine zv_aload_n X dX5_see_62 0 rfl rfl rfl ?_
          refine zg_X5_1 (k := 0) X (zz_ho_o hY).1 (zz_ho_o hY).2 fl_X5_19 dX5_see_63 rfl ?_
          refine zg_X1_3 (k := 3) X (zz_ho_now hY).1.1 (zz_ho_now hY).1.2 fl_X5_226 dX5_see_66 rfl ?_
          refine zg_X2_3 (k := 7) X (zz_ho_now hY).2.2.2.2.1.1.1 (zz_ho_now hY).2.2.2.2.1.1.2 fl_X5_230 dX5_see_69 rfl ?_
          exact zv_iret X hr hlk h dX5_see_72
        · replace h := h.2 q43
          refine zv_bipush (v := (-3)) X dX5_see_46 (by decide) rfl ?_
          exact zv_iret X hr hlk h dX5_see_48
      · replace h := h.2 q26
        refine zv_iconst (v := (-1)) X dX5_see_29 (by decide) rfl ?_
        exact zv_iret X hr hlk h dX5_see_30
def rmX5_forget : Room := { frames := 1, cells := 0, slots := 0, locals := 22 }
def pX5_forget (x1 : Int32) (σ : zz_T) (Q : Int32 → zz_T → Prop) : Prop :=
    pX5_outside x1 0 (σ.1 7 3) σ (fun r12 s12 =>
    ((r12 = 0 → Q (s12.1 7 3) (zz_i s12 7 3 x1)) ∧
    (¬ r12 = 0 → Q (-1) s12)))
set_option maxHeartbeats 4000000 in
set_option maxRecDepth 100000 in
theorem kX5_forget (l : Launch) {Y : zz_Y} (hJ : zz_J Y) (x1 : Int32) (hY : zz_ho Y) {σ : zz_T} {Q : Int32 → zz_T → Prop} (h : pX5_forget x1 σ Q) : zz_Mi l yX5_forget cX5_forget 3 (some .int) rmX5_forget Y [.ref (Y.2.1 0), .int x1] σ Q := by
  refine zz_Mi.start (by decide) hJ (Nat.le_of_ble_eq_true rfl) (fun p e s m below meth c X hr hlk => ?_)
  have X : zz_X p m c cX5_forget 3 s _ RX5 := X
  refine zv_sub (lv2 := [(0, .ref (Y.2.1 0)), (1, .int x1)]) [0, 1] rfl ?_
  unfold pX5_forget at h
  refine zv_iload_n X dX5_forget_0 1 rfl rfl rfl ?_
  refine zv_iconst (v := 0) X dX5_forget_1 (by decide) rfl ?_
  refine zv_aload_n X dX5_forget_2 0 rfl rfl rfl ?_
  refine zg_X5_1 (k := 0) X (zz_ho_o hY).1 (zz_ho_o hY).2 fl_X5_19 dX5_forget_3 rfl ?_
  refine zg_X1_3 (k := 3) X (zz_ho_now hY).1.1 (zz_ho_now hY).1.2 fl_X5_226 dX5_forget_6 rfl ?_
  refine zg_X2_3 (k := 7) X (zz_ho_now hY).2.2.2.2.1.1.1 (zz_ho_now hY).2.2.2.2.1.1.2 fl_X5_230 dX5_forget_9 rfl ?_
  refine zv_cSi X [.int x1, .int 0, .int (σ.1 7 3)] (kX5_outside l hJ x1 0 (σ.1 7 3)  h) jl_X5_58 ⟨rfl, rfl⟩ ⟨Nat.le_of_ble_eq_true rfl, Nat.le_of_ble_eq_true rfl⟩ rfl rfl (Nat.le_of_ble_eq_true rfl) dX5_forget_12 rfl (fun r12 s12 h => ?_)
  refine zv_if_eq (tgt := 20) X dX5_forget_15 (by decide) rfl (fun q15 => ?_) (fun q15 => ?_)
  · replace h := h.1 q15
    refine zv_aload_n X dX5_forget_20 0 rfl rfl rfl ?_
    refine zg_X5_1 (k := 0) X (zz_ho_o hY).1 (zz_ho_o hY).2 fl_X5_19 dX5_forget_21 rfl ?_
    refine zg_X1_3 (k := 3) X (zz_ho_now hY).1.1 (zz_ho_now hY).1.2 fl_X5_226 dX5_forget_24 rfl ?_
    refine zg_X2_3 (k := 7) X (zz_ho_now hY).2.2.2.2.1.1.1 (zz_ho_now hY).2.2.2.2.1.1.2 fl_X5_230 dX5_forget_27 rfl ?_
    refine zv_istore_n (lv2 := [(2, .int (s12.1 7 3)), (0, .ref (Y.2.1 0)), (1, .int x1)]) X dX5_forget_30 rfl (by decide) rfl rfl ?_
    refine zv_aload_n X dX5_forget_31 1 rfl rfl rfl ?_
    refine zg_X5_1 (k := 0) X (zz_ho_o hY).1 (zz_ho_o hY).2 fl_X5_19 dX5_forget_32 rfl ?_
    refine zg_X1_3 (k := 3) X (zz_ho_now hY).1.1 (zz_ho_now hY).1.2 fl_X5_226 dX5_forget_35 rfl ?_
    refine zv_iload_n X dX5_forget_38 2 rfl rfl rfl ?_
    refine zp_X2_3 (k := 7) X (zz_ho_now hY).2.2.2.2.1.1.1 (zz_ho_now hY).2.2.2.2.1.1.2 fl_X5_230 dX5_forget_39 rfl ?_
    refine zv_iload_n X dX5_forget_42 0 rfl rfl rfl ?_
    exact zv_iret X hr hlk h dX5_forget_43
  · replace h := h.2 q15
    refine zv_iconst (v := (-1)) X dX5_forget_18 (by decide) rfl ?_
    exact zv_iret X hr hlk h dX5_forget_19
def rmX5_noteLooks : Room := { frames := 2, cells := 0, slots := 0, locals := 53 }
def pX5_noteLooks_2  (Q : zz_T → Prop) : Nat → Int32 → Int32 → zz_T → Prop
  | 0, _, _, _ => False
  | n + 1, x1, x2, σ =>
    ((41 ≤ x2 → Q σ) ∧
    (¬ 41 ≤ x2 → pX1_wantedIn 3 x2 σ (fun r31 s31 =>
    pX1_wantedIn 3 (x2 + 1) s31 (fun r41 s41 =>
    pX0_burnLine 37 3 r31 r41 1 s41 (fun r45 s45 =>
    vp_in ((x1 * 41) + x2) 1271 ∧
    pX5_noteLooks_2  Q n x1 (x2 + 1) (zz_i s45 44 (Int32.toNatClampNeg ((x1 * 41) + x2)) r45))))))
set_option maxHeartbeats 4000000 in
set_option maxRecDepth 100000 in
theorem vX5_noteLooks_2 {p : Program} {l : Launch} {e : Env} {s : State} {m : MethodId} {args : Array Value} {below : List Frame} {meth : Method} {c : Code} {Y : zz_Y}  {Q : zz_T → Prop} (X : zz_X p m c cX5_noteLooks 3 s args RX5) (hr : meth.sig.returnType = none) (hlk : meth.locks = false) (hJ : zz_J Y) (hY : zz_ho Y)  : ∀ (n : Nat) (x1 : Int32) (x2 : Int32) (σ : zz_T), pX5_noteLooks_2  Q n x1 x2 σ → zz_V p l e rmX5_noteLooks s m args below meth c (MQ below (va_Qv Q (zz_E Y) (zz_A Y)) args s 0 0 (zz_A Y)) 3 Y σ 2 [(0, .ref (Y.2.1 0)), (1, .int x1), (2, .int x2)] [] := by
  intro n
  induction n with
  | zero => intro x1 x2 σ h; exact h.elim
  | succ n ih =>
    intro x1 x2 σ h 
    unfold pX5_noteLooks_2 at h
    refine zv_iload_n X dX5_noteLooks_2 2 rfl rfl rfl ?_
    refine zv_bipush (v := 41) X dX5_noteLooks_3 (by decide) rfl ?_
    refine zv_icmp_ge (tgt := 55) X dX5_noteLooks_5 (by decide) rfl (fun q5 => ?_) (fun q5 => ?_)
    · replace h := h.1 q5
      exact zv_vret X hr hlk h dX5_noteLooks_55
    · replace h := h.2 q5
      refine zv_aload_n X dX5_noteLooks_8 0 rfl rfl rfl ?_
      refine zg_X5_8 (k := 0) X (zz_ho_o hY).1 (zz_ho_o hY).2 fl_X5_51 dX5_noteLooks_9 rfl ?_
      refine zv_iload_n X dX5_noteLooks_12 1 rfl rfl rfl ?_
      refine zv_bipush (v := 41) X dX5_noteLooks_13 (by decide) rfl ?_
      refine zv_imul X dX5_noteLooks_15 rfl ?_
      refine zv_iload_n X dX5_noteLooks_16 2 rfl rfl rfl ?_
      refine zv_iadd X dX5_noteLooks_17 rfl ?_
      refine zv_aload_n X dX5_noteLooks_18 0 rfl rfl rfl ?_
      refine zg_X5_3 (k := 0) X (zz_ho_o hY).1 (zz_ho_o hY).2 fl_X5_29 dX5_noteLooks_19 rfl ?_
      refine zv_aload_n X dX5_noteLooks_22 0 rfl rfl rfl ?_
      refine zg_X5_1 (k := 0) X (zz_ho_o hY).1 (zz_ho_o hY).2 fl_X5_19 dX5_noteLooks_23 rfl ?_
      refine zv_aload_n X dX5_noteLooks_26 0 rfl rfl rfl ?_
      refine zg_X5_1 (k := 0) X (zz_ho_o hY).1 (zz_ho_o hY).2 fl_X5_19 dX5_noteLooks_27 rfl ?_
      refine zv_iload_n X dX5_noteLooks_30 2 rfl rfl rfl ?_
      refine zv_cVi (k := 3) (ci := 1) X [.int x2] (kX1_wantedIn l hJ x2 (zz_ho_now hY) h) jl_X5_100 ⟨rfl, rfl⟩ ⟨Nat.le_of_ble_eq_true rfl, Nat.le_of_ble_eq_true rfl⟩ (zz_ho_now hY).1.1 (by decide) (zz_ho_now hY).1.2 rfl rfl rfl (Nat.le_of_ble_eq_true rfl) dX5_noteLooks_31 rfl (fun r31 s31 h => ?_)
      refine zv_aload_n X dX5_noteLooks_34 0 rfl rfl rfl ?_
      refine zg_X5_1 (k := 0) X (zz_ho_o hY).1 (zz_ho_o hY).2 fl_X5_19 dX5_noteLooks_35 rfl ?_
      refine zv_iload_n X dX5_noteLooks_38 2 rfl rfl rfl ?_
      refine zv_iconst (v := 1) X dX5_noteLooks_39 (by decide) rfl ?_
      refine zv_iadd X dX5_noteLooks_40 rfl ?_
      refine zv_cVi (k := 3) (ci := 1) X [.int (x2 + 1)] (kX1_wantedIn l hJ (x2 + 1) (zz_ho_now hY) h) jl_X5_100 ⟨rfl, rfl⟩ ⟨Nat.le_of_ble_eq_true rfl, Nat.le_of_ble_eq_true rfl⟩ (zz_ho_now hY).1.1 (by decide) (zz_ho_now hY).1.2 rfl rfl rfl (Nat.le_of_ble_eq_true rfl) dX5_noteLooks_41 rfl (fun r41 s41 h => ?_)
      refine zv_iconst (v := 1) X dX5_noteLooks_44 (by decide) rfl ?_
      refine zv_cVi (k := 37) (ci := 0) X [.ref (Y.2.1 3), .int r31, .int r41, .int 1] (kX0_burnLine l hJ r31 r41 1 (zz_ho_lone hY) (zz_ho_now hY) h) jl_X5_293 ⟨rfl, rfl⟩ ⟨Nat.le_of_ble_eq_true rfl, Nat.le_of_ble_eq_true rfl⟩ (zz_ho_lone hY).1.1 (by decide) (zz_ho_lone hY).1.2 rfl rfl rfl (Nat.le_of_ble_eq_true rfl) dX5_noteLooks_45 rfl (fun r45 s45 h => ?_)
      obtain ⟨hi48, h⟩ := h
      refine zv_iast (k := 44) X (zz_ho_looks hY).1 (zz_ho_looks hY).2 hi48 dX5_noteLooks_48 rfl ?_
      refine zv_iinc (v := (x2 + 1)) (lv2 := [(2, .int (x2 + 1)), (0, .ref (Y.2.1 0)), (1, .int x1)]) X dX5_noteLooks_49 2 rfl rfl (by decide) rfl rfl ?_
      refine zv_goto (tgt := 2) X dX5_noteLooks_52 (by decide) ?_
      refine zv_sub (lv2 := [(0, .ref (Y.2.1 0)), (1, .int x1), (2, .int (x2 + 1))]) [1, 2, 0] rfl ?_
      exact ih x1 (x2 + 1) _ h
def pX5_noteLooks (x1 : Int32) (σ : zz_T) (Q : zz_T → Prop) : Prop :=
    ∃ n2, pX5_noteLooks_2  Q n2 x1 0 σ
set_option maxHeartbeats 4000000 in
set_option maxRecDepth 100000 in
theorem kX5_noteLooks (l : Launch) {Y : zz_Y} (hJ : zz_J Y) (x1 : Int32) (hY : zz_ho Y) {σ : zz_T} {Q : zz_T → Prop} (h : pX5_noteLooks x1 σ Q) : zz_Mv l yX5_noteLooks cX5_noteLooks 3 none rmX5_noteLooks Y [.ref (Y.2.1 0), .int x1] σ Q := by
  refine zz_Mv.start (by decide) hJ (Nat.le_of_ble_eq_true rfl) (fun p e s m below meth c X hr hlk => ?_)
  have X : zz_X p m c cX5_noteLooks 3 s _ RX5 := X
  refine zv_sub (lv2 := [(0, .ref (Y.2.1 0)), (1, .int x1)]) [0, 1] rfl ?_
  unfold pX5_noteLooks at h
  refine zv_iconst (v := 0) X dX5_noteLooks_0 (by decide) rfl ?_
  refine zv_istore_n (lv2 := [(2, .int 0), (0, .ref (Y.2.1 0)), (1, .int x1)]) X dX5_noteLooks_1 rfl (by decide) rfl rfl ?_
  obtain ⟨n2, h⟩ := h
  refine zv_sub (lv2 := [(0, .ref (Y.2.1 0)), (1, .int x1), (2, .int 0)]) [1, 2, 0] rfl ?_
  exact vX5_noteLooks_2 X hr hlk hJ hY n2 x1 0 _ h
def rmX5_othersAsSeen : Room := { frames := 3, cells := 0, slots := 0, locals := 75 }
def pX5_othersAsSeen_74  (Q : Int32 → zz_T → Prop) (K2 : Int32 → Int32 → zz_T → Prop) (x1 : Int32) (x2 : Int32) (σ : zz_T) : Prop :=
    K2 x1 (x2 + 1) σ
set_option maxHeartbeats 4000000 in
set_option maxRecDepth 100000 in
theorem vX5_othersAsSeen_74 {p : Program} {l : Launch} {e : Env} {s : State} {m : MethodId} {args : Array Value} {below : List Frame} {meth : Method} {c : Code} {Y : zz_Y}  {Q : Int32 → zz_T → Prop} {K2 : Int32 → Int32 → zz_T → Prop} (X : zz_X p m c cX5_othersAsSeen 3 s args RX5) (hr : meth.sig.returnType = (some .boolean)) (hlk : meth.locks = false) (hJ : zz_J Y) (hY : zz_ho Y) (hK2 : ∀ (x1 : Int32) (x2 : Int32) (σ : zz_T), K2 x1 x2 σ → zz_V p l e rmX5_othersAsSeen s m args below meth c (MQ below (va_Qi Q (zz_E Y) (zz_A Y)) args s 0 0 (zz_A Y)) 3 Y σ 2 [(0, .ref (Y.2.1 0)), (1, .int x1), (2, .int x2)] []) : ∀ (x1 : Int32) (x2 : Int32) (σ : zz_T), pX5_othersAsSeen_74  Q K2 x1 x2 σ → zz_V p l e rmX5_othersAsSeen s m args below meth c (MQ below (va_Qi Q (zz_E Y) (zz_A Y)) args s 0 0 (zz_A Y)) 3 Y σ 74 [(0, .ref (Y.2.1 0)), (1, .int x1), (2, .int x2)] [] := by
  intro x1 x2 σ h 
  unfold pX5_othersAsSeen_74 at h
  refine zv_iinc (v := (x2 + 1)) (lv2 := [(2, .int (x2 + 1)), (0, .ref (Y.2.1 0)), (1, .int x1)]) X dX5_othersAsSeen_74 2 rfl rfl (by decide) rfl rfl ?_
  refine zv_goto (tgt := 2) X dX5_othersAsSeen_77 (by decide) ?_
  refine zv_sub (lv2 := [(0, .ref (Y.2.1 0)), (1, .int x1), (2, .int (x2 + 1))]) [1, 2, 0] rfl ?_
  exact hK2 x1 (x2 + 1) _ h
def pX5_othersAsSeen_2  (Q : Int32 → zz_T → Prop) : Nat → Int32 → Int32 → zz_T → Prop
  | 0, _, _, _ => False
  | n + 1, x1, x2, σ =>
    (((σ.1 3 4) ≤ x2 → (zz_bo 1 ∧ Q 1 σ)) ∧
    (¬ (σ.1 3 4) ≤ x2 → ((x2 = x1 → pX5_othersAsSeen_74  Q (pX5_othersAsSeen_2  Q n) x1 x2 σ) ∧
    (¬ x2 = x1 → pX2_names 7 x2 σ (fun r26 s26 =>
    ((r26 = 0 → pX5_othersAsSeen_74  Q (pX5_othersAsSeen_2  Q n) x1 x2 s26) ∧
    (¬ r26 = 0 → vp_in x2 3 ∧
    pX0_copyFrom 37 (11 + 3 * (Int32.toNatClampNeg x2)) s26 (fun s45 =>
    pX5_noteLooks 0 s45 (fun s50 =>
    pX2_agrees 7 x2 44 1271 0 s50 (fun r66 s66 =>
    ((r66 = 0 → (zz_bo 0 ∧ Q 0 s66)) ∧
    (¬ r66 = 0 → pX5_othersAsSeen_74  Q (pX5_othersAsSeen_2  Q n) x1 x2 s66))))))))))))
set_option maxHeartbeats 4000000 in
set_option maxRecDepth 100000 in
theorem vX5_othersAsSeen_2 {p : Program} {l : Launch} {e : Env} {s : State} {m : MethodId} {args : Array Value} {below : List Frame} {meth : Method} {c : Code} {Y : zz_Y}  {Q : Int32 → zz_T → Prop} (X : zz_X p m c cX5_othersAsSeen 3 s args RX5) (hr : meth.sig.returnType = (some .boolean)) (hlk : meth.locks = false) (hJ : zz_J Y) (hY : zz_ho Y)  : ∀ (n : Nat) (x1 : Int32) (x2 : Int32) (σ : zz_T), pX5_othersAsSeen_2  Q n x1 x2 σ → zz_V p l e rmX5_othersAsSeen s m args below meth c (MQ below (va_Qi Q (zz_E Y) (zz_A Y)) args s 0 0 (zz_A Y)) 3 Y σ 2 [(0, .ref (Y.2.1 0)), (1, .int x1), (2, .int x2)] [] := by
  intro n
  induction n with
  | zero => intro x1 x2 σ h; exact h.elim
  | succ n ih =>
    intro x1 x2 σ h 
    unfold pX5_othersAsSeen_2 at h
    refine zv_iload_n X dX5_othersAsSeen_2 2 rfl rfl rfl ?_
    refine zv_aload_n X dX5_othersAsSeen_3 0 rfl rfl rfl ?_
    refine zg_X5_1 (k := 0) X (zz_ho_o hY).1 (zz_ho_o hY).2 fl_X5_19 dX5_othersAsSeen_4 rfl ?_
    refine zg_X1_4 (k := 3) X (zz_ho_now hY).1.1 (zz_ho_now hY).1.2 fl_X5_84 dX5_othersAsSeen_7 rfl ?_
    refine zv_icmp_ge (tgt := 80) X dX5_othersAsSeen_10 (by decide) rfl (fun q10 => ?_) (fun q10 => ?_)
    · replace h := h.1 q10
      refine zv_iconst (v := 1) X dX5_othersAsSeen_80 (by decide) rfl ?_
      exact zv_zret X hr hlk h dX5_othersAsSeen_81
    · replace h := h.2 q10
      refine zv_iload_n X dX5_othersAsSeen_13 2 rfl rfl rfl ?_
      refine zv_iload_n X dX5_othersAsSeen_14 1 rfl rfl rfl ?_
      refine zv_icmp_eq (tgt := 74) X dX5_othersAsSeen_15 (by decide) rfl (fun q15 => ?_) (fun q15 => ?_)
      · replace h := h.1 q15
        exact vX5_othersAsSeen_74 X hr hlk hJ hY ih x1 x2 _ h
      · replace h := h.2 q15
        refine zv_aload_n X dX5_othersAsSeen_18 0 rfl rfl rfl ?_
        refine zg_X5_1 (k := 0) X (zz_ho_o hY).1 (zz_ho_o hY).2 fl_X5_19 dX5_othersAsSeen_19 rfl ?_
        refine zg_X1_3 (k := 3) X (zz_ho_now hY).1.1 (zz_ho_now hY).1.2 fl_X5_226 dX5_othersAsSeen_22 rfl ?_
        refine zv_iload_n X dX5_othersAsSeen_25 2 rfl rfl rfl ?_
        refine zv_cVi (k := 7) (ci := 2) X [.int x2] (kX2_names l hJ x2 (zz_ho_now hY).2.2.2.2.1 h) jl_X5_332 ⟨rfl, rfl⟩ ⟨Nat.le_of_ble_eq_true rfl, Nat.le_of_ble_eq_true rfl⟩ (zz_ho_now hY).2.2.2.2.1.1.1 (by decide) (zz_ho_now hY).2.2.2.2.1.1.2 rfl rfl rfl (Nat.le_of_ble_eq_true rfl) dX5_othersAsSeen_26 rfl (fun r26 s26 h => ?_)
        refine zv_if_eq (tgt := 74) X dX5_othersAsSeen_29 (by decide) rfl (fun q29 => ?_) (fun q29 => ?_)
        · replace h := h.1 q29
          exact vX5_othersAsSeen_74 X hr hlk hJ hY ih x1 x2 _ h
        · replace h := h.2 q29
          refine zv_aload_n X dX5_othersAsSeen_32 0 rfl rfl rfl ?_
          refine zg_X5_3 (k := 0) X (zz_ho_o hY).1 (zz_ho_o hY).2 fl_X5_29 dX5_othersAsSeen_33 rfl ?_
          refine zv_aload_n X dX5_othersAsSeen_36 0 rfl rfl rfl ?_
          refine zg_X5_1 (k := 0) X (zz_ho_o hY).1 (zz_ho_o hY).2 fl_X5_19 dX5_othersAsSeen_37 rfl ?_
          refine zg_X1_0 (k := 3) X (zz_ho_now hY).1.1 (zz_ho_now hY).1.2 fl_X5_108 dX5_othersAsSeen_40 rfl ?_
          refine zv_iload_n X dX5_othersAsSeen_43 2 rfl rfl rfl ?_
          obtain ⟨hi44, h⟩ := h
          refine zv_aald3 (k := 4) X (zz_ho_now hY).2.1.1 (zz_ho_now hY).2.1.2 hi44 dX5_othersAsSeen_44 rfl ?_
          refine zv_cVv (k := 37) (ci := 0) X [.ref (Y.2.1 (11 + 3 * (Int32.toNatClampNeg x2)))] (kX0_copyFrom l hJ  (zz_ho_lone hY) ((zz_ho_now hY).2.2.2.2.2 _ (zz_lt hi44)) h) jl_X5_176 ⟨rfl, rfl⟩ ⟨Nat.le_of_ble_eq_true rfl, Nat.le_of_ble_eq_true rfl⟩ (zz_ho_lone hY).1.1 (by decide) (zz_ho_lone hY).1.2 rfl rfl rfl (Nat.le_of_ble_eq_true rfl) dX5_othersAsSeen_45 rfl (fun s45 h => ?_)
          refine zv_aload_n X dX5_othersAsSeen_48 0 rfl rfl rfl ?_
          refine zv_iconst (v := 0) X dX5_othersAsSeen_49 (by decide) rfl ?_
          refine zv_cVv (k := 0) (ci := 5) X [.int 0] (kX5_noteLooks l hJ 0 hY h) jl_X5_324 ⟨rfl, rfl⟩ ⟨Nat.le_of_ble_eq_true rfl, Nat.le_of_ble_eq_true rfl⟩ (zz_ho_o hY).1 (by decide) (zz_ho_o hY).2 rfl rfl rfl (Nat.le_of_ble_eq_true rfl) dX5_othersAsSeen_50 rfl (fun s50 h => ?_)
          refine zv_aload_n X dX5_othersAsSeen_53 0 rfl rfl rfl ?_
          refine zg_X5_1 (k := 0) X (zz_ho_o hY).1 (zz_ho_o hY).2 fl_X5_19 dX5_othersAsSeen_54 rfl ?_
          refine zg_X1_3 (k := 3) X (zz_ho_now hY).1.1 (zz_ho_now hY).1.2 fl_X5_226 dX5_othersAsSeen_57 rfl ?_
          refine zv_iload_n X dX5_othersAsSeen_60 2 rfl rfl rfl ?_
          refine zv_aload_n X dX5_othersAsSeen_61 0 rfl rfl rfl ?_
          refine zg_X5_8 (k := 0) X (zz_ho_o hY).1 (zz_ho_o hY).2 fl_X5_51 dX5_othersAsSeen_62 rfl ?_
          refine zv_iconst (v := 0) X dX5_othersAsSeen_65 (by decide) rfl ?_
          refine zv_cVi (k := 7) (ci := 2) X [.int x2, .ref (Y.2.1 44), .int 0] (kX2_agrees l hJ x2 0 (zz_ho_now hY).2.2.2.2.1 (zz_ho_looks hY) h) jl_X5_328 ⟨rfl, rfl⟩ ⟨Nat.le_of_ble_eq_true rfl, Nat.le_of_ble_eq_true rfl⟩ (zz_ho_now hY).2.2.2.2.1.1.1 (by decide) (zz_ho_now hY).2.2.2.2.1.1.2 rfl rfl rfl (Nat.le_of_ble_eq_true rfl) dX5_othersAsSeen_66 rfl (fun r66 s66 h => ?_)
          refine zv_if_ne (tgt := 74) X dX5_othersAsSeen_69 (by decide) rfl (fun q69 => ?_) (fun q69 => ?_)
          · replace h := h.2 q69
            exact vX5_othersAsSeen_74 X hr hlk hJ hY ih x1 x2 _ h
          · replace h := h.1 q69
            refine zv_iconst (v := 0) X dX5_othersAsSeen_72 (by decide) rfl ?_
            exact zv_zret X hr hlk h dX5_othersAsSeen_73
def pX5_othersAsSeen (x1 : Int32) (σ : zz_T) (Q : Int32 → zz_T → Prop) : Prop :=
    ∃ n2, pX5_othersAsSeen_2  Q n2 x1 0 σ
set_option maxHeartbeats 4000000 in
set_option maxRecDepth 100000 in
theorem kX5_othersAsSeen (l : Launch) {Y : zz_Y} (hJ : zz_J Y) (x1 : Int32) (hY : zz_ho Y) {σ : zz_T} {Q : Int32 → zz_T → Prop} (h : pX5_othersAsSeen x1 σ Q) : zz_Mi l yX5_othersAsSeen cX5_othersAsSeen 3 (some .boolean) rmX5_othersAsSeen Y [.ref (Y.2.1 0), .int x1] σ Q := by
  refine zz_Mi.start (by decide) hJ (Nat.le_of_ble_eq_true rfl) (fun p e s m below meth c X hr hlk => ?_)
  have X : zz_X p m c cX5_othersAsSeen 3 s _ RX5 := X
  refine zv_sub (lv2 := [(0, .ref (Y.2.1 0)), (1, .int x1)]) [0, 1] rfl ?_
  unfold pX5_othersAsSeen at h
  refine zv_iconst (v := 0) X dX5_othersAsSeen_0 (by decide) rfl ?_
  refine zv_istore_n (lv2 := [(2, .int 0), (0, .ref (Y.2.1 0)), (1, .int x1)]) X dX5_othersAsSeen_1 rfl (by decide) rfl rfl ?_
  obtain ⟨n2, h⟩ := h
  refine zv_sub (lv2 := [(0, .ref (Y.2.1 0)), (1, .int x1), (2, .int 0)]) [1, 2, 0] rfl ?_
  exact vX5_othersAsSeen_2 X hr hlk hJ hY n2 x1 0 _ h
def rmX5_asSeenBy : Room := { frames := 4, cells := 0, slots := 0, locals := 97 }
def pX5_asSeenBy_86  (Q : Int32 → zz_T → Prop) (K15 : Int32 → Int32 → Int32 → Int32 → zz_T → Prop) (x1 : Int32) (x2 : Int32) (x3 : Int32) (x4 : Int32) (σ : zz_T) : Prop :=
    K15 x1 x2 x3 (x4 + 1) σ
set_option maxHeartbeats 4000000 in
set_option maxRecDepth 100000 in
theorem vX5_asSeenBy_86 {p : Program} {l : Launch} {e : Env} {s : State} {m : MethodId} {args : Array Value} {below : List Frame} {meth : Method} {c : Code} {Y : zz_Y}  {Q : Int32 → zz_T → Prop} {K15 : Int32 → Int32 → Int32 → Int32 → zz_T → Prop} (X : zz_X p m c cX5_asSeenBy 5 s args RX5) (hr : meth.sig.returnType = (some .int)) (hlk : meth.locks = false) (hJ : zz_J Y) (hY : zz_ho Y) (hK15 : ∀ (x1 : Int32) (x2 : Int32) (x3 : Int32) (x4 : Int32) (σ : zz_T), K15 x1 x2 x3 x4 σ → zz_V p l e rmX5_asSeenBy s m args below meth c (MQ below (va_Qi Q (zz_E Y) (zz_A Y)) args s 0 0 (zz_A Y)) 5 Y σ 15 [(0, .ref (Y.2.1 0)), (1, .int x1), (2, .int x2), (3, .int x3), (4, .int x4)] []) : ∀ (x1 : Int32) (x2 : Int32) (x3 : Int32) (x4 : Int32) (σ : zz_T), pX5_asSeenBy_86  Q K15 x1 x2 x3 x4 σ → zz_V p l e rmX5_asSeenBy s m args below meth c (MQ below (va_Qi Q (zz_E Y) (zz_A Y)) args s 0 0 (zz_A Y)) 5 Y σ 86 [(0, .ref (Y.2.1 0)), (1, .int x1), (2, .int x2), (3, .int x3), (4, .int x4)] [] := by
  intro x1 x2 x3 x4 σ h 
  unfold pX5_asSeenBy_86 at h
  refine zv_iinc (v := (x4 + 1)) (lv2 := [(4, .int (x4 + 1)), (0, .ref (Y.2.1 0)), (1, .int x1), (2, .int x2), (3, .int x3)]) X dX5_asSeenBy_86 4 rfl rfl (by decide) rfl rfl ?_
  refine zv_goto (tgt := 15) X dX5_asSeenBy_89 (by decide) ?_
  refine zv_sub (lv2 := [(0, .ref (Y.2.1 0)), (1, .int x1), (2, .int x2), (3, .int x3), (4, .int (x4 + 1))]) [1, 2, 3, 4, 0] rfl ?_
  exact hK15 x1 x2 x3 (x4 + 1) _ h
def pX5_asSeenBy_15  (Q : Int32 → zz_T → Prop) : Nat → Int32 → Int32 → Int32 → Int32 → zz_T → Prop
  | 0, _, _, _, _, _ => False
  | n + 1, x1, x2, x3, x4, σ =>
    pX5_mostOf x2 σ (fun r18 s18 =>
    ((r18 < x4 → Q x3 s18) ∧
    (¬ r18 < x4 → vp_in x1 3 ∧
    pX0_copyFrom 37 (11 + 3 * (Int32.toNatClampNeg x1)) s18 (fun s37 =>
    pX0_drive 37 x2 x4 s37 (fun s47 =>
    pX5_noteLooks x4 s47 (fun s53 =>
    pX2_agrees 7 x1 44 1271 (x4 * 41) s53 (fun r73 s73 =>
    ((r73 = 0 → pX5_asSeenBy_86  Q (pX5_asSeenBy_15  Q n) x1 x2 x3 x4 s73) ∧
    (¬ r73 = 0 → pX5_asSeenBy_86  Q (pX5_asSeenBy_15  Q n) x1 x2 (x3 ||| (1 <<< (x4 &&& (31 : Int32)))) x4 s73)))))))))
set_option maxHeartbeats 4000000 in
set_option maxRecDepth 100000 in
theorem vX5_asSeenBy_15 {p : Program} {l : Launch} {e : Env} {s : State} {m : MethodId} {args : Array Value} {below : List Frame} {meth : Method} {c : Code} {Y : zz_Y}  {Q : Int32 → zz_T → Prop} (X : zz_X p m c cX5_asSeenBy 5 s args RX5) (hr : meth.sig.returnType = (some .int)) (hlk : meth.locks = false) (hJ : zz_J Y) (hY : zz_ho Y)  : ∀ (n : Nat) (x1 : Int32) (x2 : Int32) (x3 : Int32) (x4 : Int32) (σ : zz_T), pX5_asSeenBy_15  Q n x1 x2 x3 x4 σ → zz_V p l e rmX5_asSeenBy s m args below meth c (MQ below (va_Qi Q (zz_E Y) (zz_A Y)) args s 0 0 (zz_A Y)) 5 Y σ 15 [(0, .ref (Y.2.1 0)), (1, .int x1), (2, .int x2), (3, .int x3), (4, .int x4)] [] := by
  intro n
  induction n with
  | zero => intro x1 x2 x3 x4 σ h; exact h.elim
  | succ n ih =>
    intro x1 x2 x3 x4 σ h 
    unfold pX5_asSeenBy_15 at h
    refine zv_iload X dX5_asSeenBy_15 4 rfl rfl ?_
    refine zv_iload_n X dX5_asSeenBy_17 2 rfl rfl rfl ?_
    refine zv_cSi X [.int x2] (kX5_mostOf l hJ x2  h) jl_X5_140 ⟨rfl, rfl⟩ ⟨Nat.le_of_ble_eq_true rfl, Nat.le_of_ble_eq_true rfl⟩ rfl rfl (Nat.le_of_ble_eq_true rfl) dX5_asSeenBy_18 rfl (fun r18 s18 h => ?_)
    refine zv_icmp_gt (tgt := 92) X dX5_asSeenBy_21 (by decide) rfl (fun q21 => ?_) (fun q21 => ?_)
    · replace h := h.1 q21
      refine zv_iload_n X dX5_asSeenBy_92 3 rfl rfl rfl ?_
      exact zv_iret X hr hlk h dX5_asSeenBy_93
    · replace h := h.2 q21
      refine zv_aload_n X dX5_asSeenBy_24 0 rfl rfl rfl ?_
      refine zg_X5_3 (k := 0) X (zz_ho_o hY).1 (zz_ho_o hY).2 fl_X5_29 dX5_asSeenBy_25 rfl ?_
      refine zv_aload_n X dX5_asSeenBy_28 0 rfl rfl rfl ?_
      refine zg_X5_1 (k := 0) X (zz_ho_o hY).1 (zz_ho_o hY).2 fl_X5_19 dX5_asSeenBy_29 rfl ?_
      refine zg_X1_0 (k := 3) X (zz_ho_now hY).1.1 (zz_ho_now hY).1.2 fl_X5_108 dX5_asSeenBy_32 rfl ?_
      refine zv_iload_n X dX5_asSeenBy_35 1 rfl rfl rfl ?_
      obtain ⟨hi36, h⟩ := h
      refine zv_aald3 (k := 4) X (zz_ho_now hY).2.1.1 (zz_ho_now hY).2.1.2 hi36 dX5_asSeenBy_36 rfl ?_
      refine zv_cVv (k := 37) (ci := 0) X [.ref (Y.2.1 (11 + 3 * (Int32.toNatClampNeg x1)))] (kX0_copyFrom l hJ  (zz_ho_lone hY) ((zz_ho_now hY).2.2.2.2.2 _ (zz_lt hi36)) h) jl_X5_176 ⟨rfl, rfl⟩ ⟨Nat.le_of_ble_eq_true rfl, Nat.le_of_ble_eq_true rfl⟩ (zz_ho_lone hY).1.1 (by decide) (zz_ho_lone hY).1.2 rfl rfl rfl (Nat.le_of_ble_eq_true rfl) dX5_asSeenBy_37 rfl (fun s37 h => ?_)
      refine zv_aload_n X dX5_asSeenBy_40 0 rfl rfl rfl ?_
      refine zg_X5_3 (k := 0) X (zz_ho_o hY).1 (zz_ho_o hY).2 fl_X5_29 dX5_asSeenBy_41 rfl ?_
      refine zv_iload_n X dX5_asSeenBy_44 2 rfl rfl rfl ?_
      refine zv_iload X dX5_asSeenBy_45 4 rfl rfl ?_
      refine zv_cVv (k := 37) (ci := 0) X [.int x2, .int x4] (kX0_drive l hJ x2 x4 (zz_ho_lone hY) h) jl_X5_143 ⟨rfl, rfl⟩ ⟨Nat.le_of_ble_eq_true rfl, Nat.le_of_ble_eq_true rfl⟩ (zz_ho_lone hY).1.1 (by decide) (zz_ho_lone hY).1.2 rfl rfl rfl (Nat.le_of_ble_eq_true rfl) dX5_asSeenBy_47 rfl (fun s47 h => ?_)
      refine zv_aload_n X dX5_asSeenBy_50 0 rfl rfl rfl ?_
      refine zv_iload X dX5_asSeenBy_51 4 rfl rfl ?_
      refine zv_cVv (k := 0) (ci := 5) X [.int x4] (kX5_noteLooks l hJ x4 hY h) jl_X5_324 ⟨rfl, rfl⟩ ⟨Nat.le_of_ble_eq_true rfl, Nat.le_of_ble_eq_true rfl⟩ (zz_ho_o hY).1 (by decide) (zz_ho_o hY).2 rfl rfl rfl (Nat.le_of_ble_eq_true rfl) dX5_asSeenBy_53 rfl (fun s53 h => ?_)
      refine zv_aload_n X dX5_asSeenBy_56 0 rfl rfl rfl ?_
      refine zg_X5_1 (k := 0) X (zz_ho_o hY).1 (zz_ho_o hY).2 fl_X5_19 dX5_asSeenBy_57 rfl ?_
      refine zg_X1_3 (k := 3) X (zz_ho_now hY).1.1 (zz_ho_now hY).1.2 fl_X5_226 dX5_asSeenBy_60 rfl ?_
      refine zv_iload_n X dX5_asSeenBy_63 1 rfl rfl rfl ?_
      refine zv_aload_n X dX5_asSeenBy_64 0 rfl rfl rfl ?_
      refine zg_X5_8 (k := 0) X (zz_ho_o hY).1 (zz_ho_o hY).2 fl_X5_51 dX5_asSeenBy_65 rfl ?_
      refine zv_iload X dX5_asSeenBy_68 4 rfl rfl ?_
      refine zv_bipush (v := 41) X dX5_asSeenBy_70 (by decide) rfl ?_
      refine zv_imul X dX5_asSeenBy_72 rfl ?_
      refine zv_cVi (k := 7) (ci := 2) X [.int x1, .ref (Y.2.1 44), .int (x4 * 41)] (kX2_agrees l hJ x1 (x4 * 41) (zz_ho_now hY).2.2.2.2.1 (zz_ho_looks hY) h) jl_X5_328 ⟨rfl, rfl⟩ ⟨Nat.le_of_ble_eq_true rfl, Nat.le_of_ble_eq_true rfl⟩ (zz_ho_now hY).2.2.2.2.1.1.1 (by decide) (zz_ho_now hY).2.2.2.2.1.1.2 rfl rfl rfl (Nat.le_of_ble_eq_true rfl) dX5_asSeenBy_73 rfl (fun r73 s73 h => ?_)
      refine zv_if_eq (tgt := 86) X dX5_asSeenBy_76 (by decide) rfl (fun q76 => ?_) (fun q76 => ?_)
      · replace h := h.1 q76
        exact vX5_asSeenBy_86 X hr hlk hJ hY ih x1 x2 x3 x4 _ h
      · replace h := h.2 q76
        refine zv_iload_n X dX5_asSeenBy_79 3 rfl rfl rfl ?_
        refine zv_iconst (v := 1) X dX5_asSeenBy_80 (by decide) rfl ?_
        refine zv_iload X dX5_asSeenBy_81 4 rfl rfl ?_
        refine zv_ishl X dX5_asSeenBy_83 rfl ?_
        refine zv_ior X dX5_asSeenBy_84 rfl ?_
        refine zv_istore_n (lv2 := [(3, .int (x3 ||| (1 <<< (x4 &&& (31 : Int32))))), (0, .ref (Y.2.1 0)), (1, .int x1), (2, .int x2), (4, .int x4)]) X dX5_asSeenBy_85 rfl (by decide) rfl rfl ?_
        refine zv_sub (lv2 := [(0, .ref (Y.2.1 0)), (1, .int x1), (2, .int x2), (3, .int (x3 ||| (1 <<< (x4 &&& (31 : Int32))))), (4, .int x4)]) [1, 2, 3, 0, 4] rfl ?_
        exact vX5_asSeenBy_86 X hr hlk hJ hY ih x1 x2 (x3 ||| (1 <<< (x4 &&& (31 : Int32)))) x4 _ h
def pX5_asSeenBy (x1 : Int32) (x2 : Int32) (σ : zz_T) (Q : Int32 → zz_T → Prop) : Prop :=
    pX5_othersAsSeen x1 σ (fun r2 s2 =>
    ((r2 = 0 → Q 0 s2) ∧
    (¬ r2 = 0 → ∃ n15, pX5_asSeenBy_15  Q n15 x1 x2 0 0 s2)))
set_option maxHeartbeats 4000000 in
set_option maxRecDepth 100000 in
theorem kX5_asSeenBy (l : Launch) {Y : zz_Y} (hJ : zz_J Y) (x1 : Int32) (x2 : Int32) (hY : zz_ho Y) {σ : zz_T} {Q : Int32 → zz_T → Prop} (h : pX5_asSeenBy x1 x2 σ Q) : zz_Mi l yX5_asSeenBy cX5_asSeenBy 5 (some .int) rmX5_asSeenBy Y [.ref (Y.2.1 0), .int x1, .int x2] σ Q := by
  refine zz_Mi.start (by decide) hJ (Nat.le_of_ble_eq_true rfl) (fun p e s m below meth c X hr hlk => ?_)
  have X : zz_X p m c cX5_asSeenBy 5 s _ RX5 := X
  refine zv_sub (lv2 := [(0, .ref (Y.2.1 0)), (1, .int x1), (2, .int x2)]) [0, 1, 2] rfl ?_
  unfold pX5_asSeenBy at h
  refine zv_aload_n X dX5_asSeenBy_0 0 rfl rfl rfl ?_
  refine zv_iload_n X dX5_asSeenBy_1 1 rfl rfl rfl ?_
  refine zv_cVi (k := 0) (ci := 5) X [.int x1] (kX5_othersAsSeen l hJ x1 hY h) jl_X5_321 ⟨rfl, rfl⟩ ⟨Nat.le_of_ble_eq_true rfl, Nat.le_of_ble_eq_true rfl⟩ (zz_ho_o hY).1 (by decide) (zz_ho_o hY).2 rfl rfl rfl (Nat.le_of_ble_eq_true rfl) dX5_asSeenBy_2 rfl (fun r2 s2 h => ?_)
  refine zv_if_ne (tgt := 10) X dX5_asSeenBy_5 (by decide) rfl (fun q5 => ?_) (fun q5 => ?_)
  · replace h := h.2 q5
    refine zv_iconst (v := 0) X dX5_asSeenBy_10 (by decide) rfl ?_
    refine zv_istore_n (lv2 := [(3, .int 0), (0, .ref (Y.2.1 0)), (1, .int x1), (2, .int x2)]) X dX5_asSeenBy_11 rfl (by decide) rfl rfl ?_
    refine zv_iconst (v := 0) X dX5_asSeenBy_12 (by decide) rfl ?_
    refine zv_istore (lv2 := [(4, .int 0), (3, .int 0), (0, .ref (Y.2.1 0)), (1, .int x1), (2, .int x2)]) X dX5_asSeenBy_13 (by decide) rfl rfl ?_
    obtain ⟨n15, h⟩ := h
    refine zv_sub (lv2 := [(0, .ref (Y.2.1 0)), (1, .int x1), (2, .int x2), (3, .int 0), (4, .int 0)]) [2, 3, 4, 1, 0] rfl ?_
    exact vX5_asSeenBy_15 X hr hlk hJ hY n15 x1 x2 0 0 _ h
  · replace h := h.1 q5
    refine zv_iconst (v := 0) X dX5_asSeenBy_8 (by decide) rfl ?_
    exact zv_iret X hr hlk h dX5_asSeenBy_9
def rmX5_kinds : Room := { frames := 5, cells := 0, slots := 0, locals := 121 }
def pX5_kinds (x1 : Int32) (σ : zz_T) (Q : Int32 → zz_T → Prop) : Prop :=
    pX5_noHead x1 σ (fun r2 s2 =>
    ((r2 = 0 → pX5_asSeenBy x1 0 s2 (fun r15 s15 =>
    Q r15 s15)) ∧
    (¬ r2 = 0 → Q (-1) s2)))
set_option maxHeartbeats 4000000 in
set_option maxRecDepth 100000 in
theorem kX5_kinds (l : Launch) {Y : zz_Y} (hJ : zz_J Y) (x1 : Int32) (hY : zz_ho Y) {σ : zz_T} {Q : Int32 → zz_T → Prop} (h : pX5_kinds x1 σ Q) : zz_Mi l yX5_kinds cX5_kinds 2 (some .int) rmX5_kinds Y [.ref (Y.2.1 0), .int x1] σ Q := by
  refine zz_Mi.start (by decide) hJ (Nat.le_of_ble_eq_true rfl) (fun p e s m below meth c X hr hlk => ?_)
  have X : zz_X p m c cX5_kinds 2 s _ RX5 := X
  refine zv_sub (lv2 := [(0, .ref (Y.2.1 0)), (1, .int x1)]) [0, 1] rfl ?_
  unfold pX5_kinds at h
  refine zv_aload_n X dX5_kinds_0 0 rfl rfl rfl ?_
  refine zv_iload_n X dX5_kinds_1 1 rfl rfl rfl ?_
  refine zv_cVi (k := 0) (ci := 5) X [.int x1] (kX5_noHead l hJ x1 hY h) jl_X5_104 ⟨rfl, rfl⟩ ⟨Nat.le_of_ble_eq_true rfl, Nat.le_of_ble_eq_true rfl⟩ (zz_ho_o hY).1 (by decide) (zz_ho_o hY).2 rfl rfl rfl (Nat.le_of_ble_eq_true rfl) dX5_kinds_2 rfl (fun r2 s2 h => ?_)
  refine zv_if_eq (tgt := 12) X dX5_kinds_5 (by decide) rfl (fun q5 => ?_) (fun q5 => ?_)
  · replace h := h.1 q5
    refine zv_aload_n X dX5_kinds_12 0 rfl rfl rfl ?_
    refine zv_iload_n X dX5_kinds_13 1 rfl rfl rfl ?_
    refine zv_iconst (v := 0) X dX5_kinds_14 (by decide) rfl ?_
    refine zv_cVi (k := 0) (ci := 5) X [.int x1, .int 0] (kX5_asSeenBy l hJ x1 0 hY h) jl_X5_239 ⟨rfl, rfl⟩ ⟨Nat.le_of_ble_eq_true rfl, Nat.le_of_ble_eq_true rfl⟩ (zz_ho_o hY).1 (by decide) (zz_ho_o hY).2 rfl rfl rfl (Nat.le_of_ble_eq_true rfl) dX5_kinds_15 rfl (fun r15 s15 h => ?_)
    exact zv_iret X hr hlk h dX5_kinds_18
  · replace h := h.2 q5
    refine zv_iconst (v := (-1)) X dX5_kinds_8 (by decide) rfl ?_
    refine zv_goto (tgt := 18) X dX5_kinds_9 (by decide) ?_
    exact zv_iret X hr hlk h dX5_kinds_18
def rmX5_powers : Room := { frames := 5, cells := 0, slots := 0, locals := 121 }
def pX5_powers (x1 : Int32) (σ : zz_T) (Q : Int32 → zz_T → Prop) : Prop :=
    pX5_noHead x1 σ (fun r2 s2 =>
    ((r2 = 0 → pX5_asSeenBy x1 1 s2 (fun r15 s15 =>
    Q r15 s15)) ∧
    (¬ r2 = 0 → Q (-1) s2)))
set_option maxHeartbeats 4000000 in
set_option maxRecDepth 100000 in
theorem kX5_powers (l : Launch) {Y : zz_Y} (hJ : zz_J Y) (x1 : Int32) (hY : zz_ho Y) {σ : zz_T} {Q : Int32 → zz_T → Prop} (h : pX5_powers x1 σ Q) : zz_Mi l yX5_powers cX5_powers 2 (some .int) rmX5_powers Y [.ref (Y.2.1 0), .int x1] σ Q := by
  refine zz_Mi.start (by decide) hJ (Nat.le_of_ble_eq_true rfl) (fun p e s m below meth c X hr hlk => ?_)
  have X : zz_X p m c cX5_powers 2 s _ RX5 := X
  refine zv_sub (lv2 := [(0, .ref (Y.2.1 0)), (1, .int x1)]) [0, 1] rfl ?_
  unfold pX5_powers at h
  refine zv_aload_n X dX5_powers_0 0 rfl rfl rfl ?_
  refine zv_iload_n X dX5_powers_1 1 rfl rfl rfl ?_
  refine zv_cVi (k := 0) (ci := 5) X [.int x1] (kX5_noHead l hJ x1 hY h) jl_X5_104 ⟨rfl, rfl⟩ ⟨Nat.le_of_ble_eq_true rfl, Nat.le_of_ble_eq_true rfl⟩ (zz_ho_o hY).1 (by decide) (zz_ho_o hY).2 rfl rfl rfl (Nat.le_of_ble_eq_true rfl) dX5_powers_2 rfl (fun r2 s2 h => ?_)
  refine zv_if_eq (tgt := 12) X dX5_powers_5 (by decide) rfl (fun q5 => ?_) (fun q5 => ?_)
  · replace h := h.1 q5
    refine zv_aload_n X dX5_powers_12 0 rfl rfl rfl ?_
    refine zv_iload_n X dX5_powers_13 1 rfl rfl rfl ?_
    refine zv_iconst (v := 1) X dX5_powers_14 (by decide) rfl ?_
    refine zv_cVi (k := 0) (ci := 5) X [.int x1, .int 1] (kX5_asSeenBy l hJ x1 1 hY h) jl_X5_239 ⟨rfl, rfl⟩ ⟨Nat.le_of_ble_eq_true rfl, Nat.le_of_ble_eq_true rfl⟩ (zz_ho_o hY).1 (by decide) (zz_ho_o hY).2 rfl rfl rfl (Nat.le_of_ble_eq_true rfl) dX5_powers_15 rfl (fun r15 s15 h => ?_)
    exact zv_iret X hr hlk h dX5_powers_18
  · replace h := h.2 q5
    refine zv_iconst (v := (-1)) X dX5_powers_8 (by decide) rfl ?_
    refine zv_goto (tgt := 18) X dX5_powers_9 (by decide) ?_
    exact zv_iret X hr hlk h dX5_powers_18
def rmX5_leftAtWorst : Room := { frames := 1, cells := 0, slots := 0, locals := 23 }
def pX5_leftAtWorst_67  (Q : Int32 → zz_T → Prop) (K13 : Int32 → Int32 → Int32 → Int32 → zz_T → Prop) (x1 : Int32) (x2 : Int32) (x3 : Int32) (x4 : Int32) (σ : zz_T) : Prop :=
    K13 x1 x2 x3 (x4 + 1) σ
set_option maxHeartbeats 4000000 in
set_option maxRecDepth 100000 in
theorem vX5_leftAtWorst_67 {p : Program} {l : Launch} {e : Env} {s : State} {m : MethodId} {args : Array Value} {below : List Frame} {meth : Method} {c : Code} {Y : zz_Y}  {Q : Int32 → zz_T → Prop} {K13 : Int32 → Int32 → Int32 → Int32 → zz_T → Prop} (X : zz_X p m c cX5_leftAtWorst 6 s args RX5) (hr : meth.sig.returnType = (some .int)) (hlk : meth.locks = false) (hJ : zz_J Y) (hY : zz_ho Y) (hK13 : ∀ (x1 : Int32) (x2 : Int32) (x3 : Int32) (x4 : Int32) (σ : zz_T), K13 x1 x2 x3 x4 σ → zz_V p l e rmX5_leftAtWorst s m args below meth c (MQ below (va_Qi Q (zz_E Y) (zz_A Y)) args s 0 0 (zz_A Y)) 6 Y σ 13 [(0, .ref (Y.2.1 0)), (1, .int x1), (2, .int x2), (3, .int x3), (4, .int x4)] []) : ∀ (x1 : Int32) (x2 : Int32) (x3 : Int32) (x4 : Int32) (σ : zz_T), pX5_leftAtWorst_67  Q K13 x1 x2 x3 x4 σ → zz_V p l e rmX5_leftAtWorst s m args below meth c (MQ below (va_Qi Q (zz_E Y) (zz_A Y)) args s 0 0 (zz_A Y)) 6 Y σ 67 [(0, .ref (Y.2.1 0)), (1, .int x1), (2, .int x2), (3, .int x3), (4, .int x4)] [] := by
  intro x1 x2 x3 x4 σ h 
  unfold pX5_leftAtWorst_67 at h
  refine zv_iinc (v := (x4 + 1)) (lv2 := [(4, .int (x4 + 1)), (0, .ref (Y.2.1 0)), (1, .int x1), (2, .int x2), (3, .int x3)]) X dX5_leftAtWorst_67 4 rfl rfl (by decide) rfl rfl ?_
  refine zv_goto (tgt := 13) X dX5_leftAtWorst_70 (by decide) ?_
  refine zv_sub (lv2 := [(0, .ref (Y.2.1 0)), (1, .int x1), (2, .int x2), (3, .int x3), (4, .int (x4 + 1))]) [1, 2, 3, 4, 0] rfl ?_
  exact hK13 x1 x2 x3 (x4 + 1) _ h
def pX5_leftAtWorst_13  (Q : Int32 → zz_T → Prop) : Nat → Int32 → Int32 → Int32 → Int32 → zz_T → Prop
  | 0, _, _, _, _, _ => False
  | n + 1, x1, x2, x3, x4, σ =>
    ((30 < x4 → Q x3 σ) ∧
    (¬ 30 < x4 → ((((x1 >>> (x4 &&& (31 : Int32))) &&& 1) = 1 → vp_in ((x4 * 41) + x2) 1271 ∧
    vp_in (σ.1 44 (Int32.toNatClampNeg ((x4 * 41) + x2))) 256 ∧
    vp_in (σ.1 44 (Int32.toNatClampNeg ((x4 * 41) + x2))) 256 ∧
    vp_in (σ.1 44 (Int32.toNatClampNeg ((x4 * 41) + x2))) 256 ∧
    pX5_leftAtWorst_67  Q (pX5_leftAtWorst_13  Q n) x1 x2 (if x3 < ((zz_i σ 45 (Int32.toNatClampNeg (σ.1 44 (Int32.toNatClampNeg ((x4 * 41) + x2)))) ((σ.1 45 (Int32.toNatClampNeg (σ.1 44 (Int32.toNatClampNeg ((x4 * 41) + x2))))) + 1)).1 45 (Int32.toNatClampNeg (σ.1 44 (Int32.toNatClampNeg ((x4 * 41) + x2))))) then ((zz_i σ 45 (Int32.toNatClampNeg (σ.1 44 (Int32.toNatClampNeg ((x4 * 41) + x2)))) ((σ.1 45 (Int32.toNatClampNeg (σ.1 44 (Int32.toNatClampNeg ((x4 * 41) + x2))))) + 1)).1 45 (Int32.toNatClampNeg (σ.1 44 (Int32.toNatClampNeg ((x4 * 41) + x2))))) else x3) x4 (zz_i σ 45 (Int32.toNatClampNeg (σ.1 44 (Int32.toNatClampNeg ((x4 * 41) + x2)))) ((σ.1 45 (Int32.toNatClampNeg (σ.1 44 (Int32.toNatClampNeg ((x4 * 41) + x2))))) + 1))) ∧
    (¬ ((x1 >>> (x4 &&& (31 : Int32))) &&& 1) = 1 → pX5_leftAtWorst_67  Q (pX5_leftAtWorst_13  Q n) x1 x2 x3 x4 σ))))
set_option maxHeartbeats 4000000 in
set_option maxRecDepth 100000 in
theorem vX5_leftAtWorst_13 {p : Program} {l : Launch} {e : Env} {s : State} {m : MethodId} {args : Array Value} {below : List Frame} {meth : Method} {c : Code} {Y : zz_Y}  {Q : Int32 → zz_T → Prop} (X : zz_X p m c cX5_leftAtWorst 6 s args RX5) (hr : meth.sig.returnType = (some .int)) (hlk : meth.locks = false) (hJ : zz_J Y) (hY : zz_ho Y)  : ∀ (n : Nat) (x1 : Int32) (x2 : Int32) (x3 : Int32) (x4 : Int32) (σ : zz_T), pX5_leftAtWorst_13  Q n x1 x2 x3 x4 σ → zz_V p l e rmX5_leftAtWorst s m args below meth c (MQ below (va_Qi Q (zz_E Y) (zz_A Y)) args s 0 0 (zz_A Y)) 6 Y σ 13 [(0, .ref (Y.2.1 0)), (1, .int x1), (2, .int x2), (3, .int x3), (4, .int x4)] [] := by
  intro n
  induction n with
  | zero => intro x1 x2 x3 x4 σ h; exact h.elim
  | succ n ih =>
    intro x1 x2 x3 x4 σ h 
    unfold pX5_leftAtWorst_13 at h
    refine zv_iload X dX5_leftAtWorst_13 4 rfl rfl ?_
    refine zv_bipush (v := 30) X dX5_leftAtWorst_15 (by decide) rfl ?_
    refine zv_icmp_gt (tgt := 73) X dX5_leftAtWorst_17 (by decide) rfl (fun q17 => ?_) (fun q17 => ?_)
    · replace h := h.1 q17
      refine zv_iload_n X dX5_leftAtWorst_73 3 rfl rfl rfl ?_
      exact zv_iret X hr hlk h dX5_leftAtWorst_74
    · replace h := h.2 q17
      refine zv_iload_n X dX5_leftAtWorst_20 1 rfl rfl rfl ?_
      refine zv_iload X dX5_leftAtWorst_21 4 rfl rfl ?_
      refine zv_ishr X dX5_leftAtWorst_23 rfl ?_
      refine zv_iconst (v := 1) X dX5_leftAtWorst_24 (by decide) rfl ?_
      refine zv_iand X dX5_leftAtWorst_25 rfl ?_
      refine zv_iconst (v := 1) X dX5_leftAtWorst_26 (by decide) rfl ?_
      refine zv_icmp_ne (tgt := 67) X dX5_leftAtWorst_27 (by decide) rfl (fun q27 => ?_) (fun q27 => ?_)
      · replace h := h.2 q27
        exact vX5_leftAtWorst_67 X hr hlk hJ hY ih x1 x2 x3 x4 _ h
      · replace h := h.1 q27
        refine zv_aload_n X dX5_leftAtWorst_30 0 rfl rfl rfl ?_
        refine zg_X5_8 (k := 0) X (zz_ho_o hY).1 (zz_ho_o hY).2 fl_X5_51 dX5_leftAtWorst_31 rfl ?_
        refine zv_iload X dX5_leftAtWorst_34 4 rfl rfl ?_
        refine zv_bipush (v := 41) X dX5_leftAtWorst_36 (by decide) rfl ?_
        refine zv_imul X dX5_leftAtWorst_38 rfl ?_
        refine zv_iload_n X dX5_leftAtWorst_39 2 rfl rfl rfl ?_
        refine zv_iadd X dX5_leftAtWorst_40 rfl ?_
        obtain ⟨hi41, h⟩ := h
        refine zv_iald (k := 44) X (zz_ho_looks hY).1 (zz_ho_looks hY).2 hi41 dX5_leftAtWorst_41 rfl ?_
        refine zv_istore (lv2 := [(5, .int (σ.1 44 (Int32.toNatClampNeg ((x4 * 41) + x2)))), (0, .ref (Y.2.1 0)), (1, .int x1), (2, .int x2), (3, .int x3), (4, .int x4)]) X dX5_leftAtWorst_42 (by decide) rfl rfl ?_
        refine zv_aload_n X dX5_leftAtWorst_44 1 rfl rfl rfl ?_
        refine zg_X5_9 (k := 0) X (zz_ho_o hY).1 (zz_ho_o hY).2 fl_X5_54 dX5_leftAtWorst_45 rfl ?_
        refine zv_iload X dX5_leftAtWorst_48 0 rfl rfl ?_
        refine zv_dup2_11 X dX5_leftAtWorst_50 rfl rfl rfl ?_
        obtain ⟨hi51, h⟩ := h
        refine zv_iald (k := 45) X (zz_ho_alike hY).1 (zz_ho_alike hY).2 hi51 dX5_leftAtWorst_51 rfl ?_
        refine zv_iconst (v := 1) X dX5_leftAtWorst_52 (by decide) rfl ?_
        refine zv_iadd X dX5_leftAtWorst_53 rfl ?_
        obtain ⟨hi54, h⟩ := h
        refine zv_iast (k := 45) X (zz_ho_alike hY).1 (zz_ho_alike hY).2 hi54 dX5_leftAtWorst_54 rfl ?_
        refine zv_iload_n X dX5_leftAtWorst_55 4 rfl rfl rfl ?_
        refine zv_aload_n X dX5_leftAtWorst_56 1 rfl rfl rfl ?_
        refine zg_X5_9 (k := 0) X (zz_ho_o hY).1 (zz_ho_o hY).2 fl_X5_54 dX5_leftAtWorst_57 rfl ?_
        refine zv_iload X dX5_leftAtWorst_60 0 rfl rfl ?_
        obtain ⟨hi62, h⟩ := h
        refine zv_iald (k := 45) X (zz_ho_alike hY).1 (zz_ho_alike hY).2 hi62 dX5_leftAtWorst_62 rfl ?_
        refine zv_max X ml_X5_170 (Nat.le_of_ble_eq_true rfl) (Nat.le_of_ble_eq_true rfl) dX5_leftAtWorst_63 rfl ?_
        refine zv_istore_n (lv2 := [(3, .int (if x3 < ((zz_i σ 45 (Int32.toNatClampNeg (σ.1 44 (Int32.toNatClampNeg ((x4 * 41) + x2)))) ((σ.1 45 (Int32.toNatClampNeg (σ.1 44 (Int32.toNatClampNeg ((x4 * 41) + x2))))) + 1)).1 45 (Int32.toNatClampNeg (σ.1 44 (Int32.toNatClampNeg ((x4 * 41) + x2))))) then ((zz_i σ 45 (Int32.toNatClampNeg (σ.1 44 (Int32.toNatClampNeg ((x4 * 41) + x2)))) ((σ.1 45 (Int32.toNatClampNeg (σ.1 44 (Int32.toNatClampNeg ((x4 * 41) + x2))))) + 1)).1 45 (Int32.toNatClampNeg (σ.1 44 (Int32.toNatClampNeg ((x4 * 41) + x2))))) else x3)), (5, .int (σ.1 44 (Int32.toNatClampNeg ((x4 * 41) + x2)))), (0, .ref (Y.2.1 0)), (1, .int x1), (2, .int x2), (4, .int x4)]) X dX5_leftAtWorst_66 rfl (by decide) rfl rfl ?_
        refine zv_sub (lv2 := [(0, .ref (Y.2.1 0)), (1, .int x1), (2, .int x2), (3, .int (if x3 < ((zz_i σ 45 (Int32.toNatClampNeg (σ.1 44 (Int32.toNatClampNeg ((x4 * 41) + x2)))) ((σ.1 45 (Int32.toNatClampNeg (σ.1 44 (Int32.toNatClampNeg ((x4 * 41) + x2))))) + 1)).1 45 (Int32.toNatClampNeg (σ.1 44 (Int32.toNatClampNeg ((x4 * 41) + x2))))) then ((zz_i σ 45 (Int32.toNatClampNeg (σ.1 44 (Int32.toNatClampNeg ((x4 * 41) + x2)))) ((σ.1 45 (Int32.toNatClampNeg (σ.1 44 (Int32.toNatClampNeg ((x4 * 41) + x2))))) + 1)).1 45 (Int32.toNatClampNeg (σ.1 44 (Int32.toNatClampNeg ((x4 * 41) + x2))))) else x3)), (4, .int x4)]) [2, 3, 4, 0, 5] rfl ?_
        exact vX5_leftAtWorst_67 X hr hlk hJ hY ih x1 x2 (if x3 < ((zz_i σ 45 (Int32.toNatClampNeg (σ.1 44 (Int32.toNatClampNeg ((x4 * 41) + x2)))) ((σ.1 45 (Int32.toNatClampNeg (σ.1 44 (Int32.toNatClampNeg ((x4 * 41) + x2))))) + 1)).1 45 (Int32.toNatClampNeg (σ.1 44 (Int32.toNatClampNeg ((x4 * 41) + x2))))) then ((zz_i σ 45 (Int32.toNatClampNeg (σ.1 44 (Int32.toNatClampNeg ((x4 * 41) + x2)))) ((σ.1 45 (Int32.toNatClampNeg (σ.1 44 (Int32.toNatClampNeg ((x4 * 41) + x2))))) + 1)).1 45 (Int32.toNatClampNeg (σ.1 44 (Int32.toNatClampNeg ((x4 * 41) + x2))))) else x3) x4 _ h
def pX5_leftAtWorst (x1 : Int32) (x2 : Int32) (σ : zz_T) (Q : Int32 → zz_T → Prop) : Prop :=
    pJ7_fill_53178 45 256 0 σ (fun s5 =>
    ∃ n13, pX5_leftAtWorst_13  Q n13 x1 x2 0 0 s5)
set_option maxHeartbeats 4000000 in
set_option maxRecDepth 100000 in
theorem kX5_leftAtWorst (l : Launch) {Y : zz_Y} (hJ : zz_J Y) (x1 : Int32) (x2 : Int32) (hY : zz_ho Y) {σ : zz_T} {Q : Int32 → zz_T → Prop} (h : pX5_leftAtWorst x1 x2 σ Q) : zz_Mi l yX5_leftAtWorst cX5_leftAtWorst 6 (some .int) rmX5_leftAtWorst Y [.ref (Y.2.1 0), .int x1, .int x2] σ Q := by
  refine zz_Mi.start (by decide) hJ (Nat.le_of_ble_eq_true rfl) (fun p e s m below meth c X hr hlk => ?_)
  have X : zz_X p m c cX5_leftAtWorst 6 s _ RX5 := X
  refine zv_sub (lv2 := [(0, .ref (Y.2.1 0)), (1, .int x1), (2, .int x2)]) [0, 1, 2] rfl ?_
  unfold pX5_leftAtWorst at h
  refine zv_aload_n X dX5_leftAtWorst_0 0 rfl rfl rfl ?_
  refine zg_X5_9 (k := 0) X (zz_ho_o hY).1 (zz_ho_o hY).2 fl_X5_54 dX5_leftAtWorst_1 rfl ?_
  refine zv_iconst (v := 0) X dX5_leftAtWorst_4 (by decide) rfl ?_
  refine zv_cSv X [.ref (Y.2.1 45), .int 0] (kJ7_fill_53178 l hJ 0 (zz_ho_alike hY) h) jl_X5_299 ⟨rfl, rfl⟩ ⟨Nat.le_of_ble_eq_true rfl, Nat.le_of_ble_eq_true rfl⟩ rfl rfl (Nat.le_of_ble_eq_true rfl) dX5_leftAtWorst_5 rfl (fun s5 h => ?_)
  refine zv_iconst (v := 0) X dX5_leftAtWorst_8 (by decide) rfl ?_
  refine zv_istore_n (lv2 := [(3, .int 0), (0, .ref (Y.2.1 0)), (1, .int x1), (2, .int x2)]) X dX5_leftAtWorst_9 rfl (by decide) rfl rfl ?_
  refine zv_iconst (v := 0) X dX5_leftAtWorst_10 (by decide) rfl ?_
  refine zv_istore (lv2 := [(4, .int 0), (3, .int 0), (0, .ref (Y.2.1 0)), (1, .int x1), (2, .int x2)]) X dX5_leftAtWorst_11 (by decide) rfl rfl ?_
  obtain ⟨n13, h⟩ := h
  refine zv_sub (lv2 := [(0, .ref (Y.2.1 0)), (1, .int x1), (2, .int x2), (3, .int 0), (4, .int 0)]) [2, 3, 4, 1, 0] rfl ?_
  exact vX5_leftAtWorst_13 X hr hlk hJ hY n13 x1 x2 0 0 _ h
def rmX5_ask : Room := { frames := 5, cells := 0, slots := 0, locals := 121 }
def pX5_ask_93  (Q : Int32 → zz_T → Prop) (x5 : Int32) (σ : zz_T) : Prop :=
    Q x5 σ
set_option maxHeartbeats 4000000 in
set_option maxRecDepth 100000 in
theorem vX5_ask_93 {p : Program} {l : Launch} {e : Env} {s : State} {m : MethodId} {args : Array Value} {below : List Frame} {meth : Method} {c : Code} {Y : zz_Y}  {Q : Int32 → zz_T → Prop} (X : zz_X p m c cX5_ask 8 s args RX5) (hr : meth.sig.returnType = (some .int)) (hlk : meth.locks = false) (hJ : zz_J Y) (hY : zz_ho Y)  : ∀ (x5 : Int32) (σ : zz_T), pX5_ask_93  Q x5 σ → zz_V p l e rmX5_ask s m args below meth c (MQ below (va_Qi Q (zz_E Y) (zz_A Y)) args s 0 0 (zz_A Y)) 8 Y σ 93 [(5, .int x5)] [] := by
  intro x5 σ h 
  unfold pX5_ask_93 at h
  refine zv_iload X dX5_ask_93 0 rfl rfl ?_
  refine zv_goto (tgt := 100) X dX5_ask_95 (by decide) ?_
  exact zv_iret X hr hlk h dX5_ask_100
def pX5_ask_82  (Q : Int32 → zz_T → Prop) (x2 : Int32) (x4 : Int32) (x5 : Int32) (σ : zz_T) : Prop :=
    ((x2 = 0 → pX5_ask_93  Q x5 σ) ∧
    (¬ x2 = 0 → ((x5 = (-4) → pX5_ask_93  Q x5 σ) ∧
    (¬ x5 = (-4) → Q x4 σ))))
set_option maxHeartbeats 4000000 in
set_option maxRecDepth 100000 in
theorem vX5_ask_82 {p : Program} {l : Launch} {e : Env} {s : State} {m : MethodId} {args : Array Value} {below : List Frame} {meth : Method} {c : Code} {Y : zz_Y}  {Q : Int32 → zz_T → Prop} (X : zz_X p m c cX5_ask 8 s args RX5) (hr : meth.sig.returnType = (some .int)) (hlk : meth.locks = false) (hJ : zz_J Y) (hY : zz_ho Y)  : ∀ (x2 : Int32) (x4 : Int32) (x5 : Int32) (σ : zz_T), pX5_ask_82  Q x2 x4 x5 σ → zz_V p l e rmX5_ask s m args below meth c (MQ below (va_Qi Q (zz_E Y) (zz_A Y)) args s 0 0 (zz_A Y)) 8 Y σ 82 [(2, .int x2), (4, .int x4), (5, .int x5)] [] := by
  intro x2 x4 x5 σ h 
  unfold pX5_ask_82 at h
  refine zv_iload_n X dX5_ask_82 0 rfl rfl rfl ?_
  refine zv_if_eq (tgt := 93) X dX5_ask_83 (by decide) rfl (fun q83 => ?_) (fun q83 => ?_)
  · replace h := h.1 q83
    refine zv_sub (lv2 := [(5, .int x5)]) [2] rfl ?_
    exact vX5_ask_93 X hr hlk hJ hY x5 _ h
  · replace h := h.2 q83
    refine zv_iload X dX5_ask_86 2 rfl rfl ?_
    refine zv_bipush (v := (-4)) X dX5_ask_88 (by decide) rfl ?_
    refine zv_icmp_ne (tgt := 98) X dX5_ask_90 (by decide) rfl (fun q90 => ?_) (fun q90 => ?_)
    · replace h := h.2 q90
      refine zv_iload X dX5_ask_98 1 rfl rfl ?_
      exact zv_iret X hr hlk h dX5_ask_100
    · replace h := h.1 q90
      refine zv_sub (lv2 := [(5, .int x5)]) [2] rfl ?_
      exact vX5_ask_93 X hr hlk hJ hY x5 _ h
def pX5_ask_76  (Q : Int32 → zz_T → Prop) (K45 : Int32 → Int32 → Int32 → Int32 → Int32 → zz_T → Prop) (x2 : Int32) (x3 : Int32) (x4 : Int32) (x5 : Int32) (x6 : Int32) (σ : zz_T) : Prop :=
    K45 x2 x3 x4 x5 (x6 + 1) σ
set_option maxHeartbeats 4000000 in
set_option maxRecDepth 100000 in
theorem vX5_ask_76 {p : Program} {l : Launch} {e : Env} {s : State} {m : MethodId} {args : Array Value} {below : List Frame} {meth : Method} {c : Code} {Y : zz_Y}  {Q : Int32 → zz_T → Prop} {K45 : Int32 → Int32 → Int32 → Int32 → Int32 → zz_T → Prop} (X : zz_X p m c cX5_ask 8 s args RX5) (hr : meth.sig.returnType = (some .int)) (hlk : meth.locks = false) (hJ : zz_J Y) (hY : zz_ho Y) (hK45 : ∀ (x2 : Int32) (x3 : Int32) (x4 : Int32) (x5 : Int32) (x6 : Int32) (σ : zz_T), K45 x2 x3 x4 x5 x6 σ → zz_V p l e rmX5_ask s m args below meth c (MQ below (va_Qi Q (zz_E Y) (zz_A Y)) args s 0 0 (zz_A Y)) 8 Y σ 45 [(0, .ref (Y.2.1 0)), (2, .int x2), (3, .int x3), (4, .int x4), (5, .int x5), (6, .int x6)] []) : ∀ (x2 : Int32) (x3 : Int32) (x4 : Int32) (x5 : Int32) (x6 : Int32) (σ : zz_T), pX5_ask_76  Q K45 x2 x3 x4 x5 x6 σ → zz_V p l e rmX5_ask s m args below meth c (MQ below (va_Qi Q (zz_E Y) (zz_A Y)) args s 0 0 (zz_A Y)) 8 Y σ 76 [(0, .ref (Y.2.1 0)), (2, .int x2), (3, .int x3), (4, .int x4), (5, .int x5), (6, .int x6)] [] := by
  intro x2 x3 x4 x5 x6 σ h 
  unfold pX5_ask_76 at h
  refine zv_iinc (v := (x6 + 1)) (lv2 := [(6, .int (x6 + 1)), (0, .ref (Y.2.1 0)), (2, .int x2), (3, .int x3), (4, .int x4), (5, .int x5)]) X dX5_ask_76 5 rfl rfl (by decide) rfl rfl ?_
  refine zv_goto (tgt := 45) X dX5_ask_79 (by decide) ?_
  refine zv_sub (lv2 := [(0, .ref (Y.2.1 0)), (2, .int x2), (3, .int x3), (4, .int x4), (5, .int x5), (6, .int (x6 + 1))]) [1, 2, 3, 4, 5, 0] rfl ?_
  exact hK45 x2 x3 x4 x5 (x6 + 1) _ h
def pX5_ask_45  (Q : Int32 → zz_T → Prop) : Nat → Int32 → Int32 → Int32 → Int32 → Int32 → zz_T → Prop
  | 0, _, _, _, _, _, _ => False
  | n + 1, x2, x3, x4, x5, x6, σ =>
    ((41 ≤ x6 → pX5_ask_82  Q x2 x4 x5 σ) ∧
    (¬ 41 ≤ x6 → pX5_leftAtWorst x3 x6 σ (fun r56 s56 =>
    ((x4 ≤ r56 → pX5_ask_76  Q (pX5_ask_45  Q n) x2 x3 x4 x5 x6 s56) ∧
    (¬ x4 ≤ r56 → pX5_ask_76  Q (pX5_ask_45  Q n) x2 x3 r56 x6 x6 s56)))))
set_option maxHeartbeats 4000000 in
set_option maxRecDepth 100000 in
theorem vX5_ask_45 {p : Program} {l : Launch} {e : Env} {s : State} {m : MethodId} {args : Array Value} {below : List Frame} {meth : Method} {c : Code} {Y : zz_Y}  {Q : Int32 → zz_T → Prop} (X : zz_X p m c cX5_ask 8 s args RX5) (hr : meth.sig.returnType = (some .int)) (hlk : meth.locks = false) (hJ : zz_J Y) (hY : zz_ho Y)  : ∀ (n : Nat) (x2 : Int32) (x3 : Int32) (x4 : Int32) (x5 : Int32) (x6 : Int32) (σ : zz_T), pX5_ask_45  Q n x2 x3 x4 x5 x6 σ → zz_V p l e rmX5_ask s m args below meth c (MQ below (va_Qi Q (zz_E Y) (zz_A Y)) args s 0 0 (zz_A Y)) 8 Y σ 45 [(0, .ref (Y.2.1 0)), (2, .int x2), (3, .int x3), (4, .int x4), (5, .int x5), (6, .int x6)] [] := by
  intro n
  induction n with
  | zero => intro x2 x3 x4 x5 x6 σ h; exact h.elim
  | succ n ih =>
    intro x2 x3 x4 x5 x6 σ h 
    unfold pX5_ask_45 at h
    refine zv_iload X dX5_ask_45 5 rfl rfl ?_
    refine zv_bipush (v := 41) X dX5_ask_47 (by decide) rfl ?_
    refine zv_icmp_ge (tgt := 82) X dX5_ask_49 (by decide) rfl (fun q49 => ?_) (fun q49 => ?_)
    · replace h := h.1 q49
      refine zv_sub (lv2 := [(2, .int x2), (4, .int x4), (5, .int x5)]) [1, 3, 4] rfl ?_
      exact vX5_ask_82 X hr hlk hJ hY x2 x4 x5 _ h
    · replace h := h.2 q49
      refine zv_aload_n X dX5_ask_52 0 rfl rfl rfl ?_
      refine zv_iload_n X dX5_ask_53 2 rfl rfl rfl ?_
      refine zv_iload X dX5_ask_54 5 rfl rfl ?_
      refine zv_cVi (k := 0) (ci := 5) X [.int x3, .int x6] (kX5_leftAtWorst l hJ x3 x6 hY h) jl_X5_247 ⟨rfl, rfl⟩ ⟨Nat.le_of_ble_eq_true rfl, Nat.le_of_ble_eq_true rfl⟩ (zz_ho_o hY).1 (by decide) (zz_ho_o hY).2 rfl rfl rfl (Nat.le_of_ble_eq_true rfl) dX5_ask_56 rfl (fun r56 s56 h => ?_)
      refine zv_istore (lv2 := [(7, .int r56), (0, .ref (Y.2.1 0)), (2, .int x2), (3, .int x3), (4, .int x4), (5, .int x5), (6, .int x6)]) X dX5_ask_59 (by decide) rfl rfl ?_
      refine zv_iload X dX5_ask_61 0 rfl rfl ?_
      refine zv_iload X dX5_ask_63 4 rfl rfl ?_
      refine zv_icmp_ge (tgt := 76) X dX5_ask_65 (by decide) rfl (fun q65 => ?_) (fun q65 => ?_)
      · replace h := h.1 q65
        refine zv_sub (lv2 := [(0, .ref (Y.2.1 0)), (2, .int x2), (3, .int x3), (4, .int x4), (5, .int x5), (6, .int x6)]) [1, 2, 3, 4, 5, 6] rfl ?_
        exact vX5_ask_76 X hr hlk hJ hY ih x2 x3 x4 x5 x6 _ h
      · replace h := h.2 q65
        refine zv_iload X dX5_ask_68 0 rfl rfl ?_
        refine zv_istore (lv2 := [(4, .int r56), (7, .int r56), (0, .ref (Y.2.1 0)), (2, .int x2), (3, .int x3), (5, .int x5), (6, .int x6)]) X dX5_ask_70 (by decide) rfl rfl ?_
        refine zv_iload X dX5_ask_72 6 rfl rfl ?_
        refine zv_istore (lv2 := [(5, .int x6), (4, .int r56), (7, .int r56), (0, .ref (Y.2.1 0)), (2, .int x2), (3, .int x3), (6, .int x6)]) X dX5_ask_74 (by decide) rfl rfl ?_
        refine zv_sub (lv2 := [(0, .ref (Y.2.1 0)), (2, .int x2), (3, .int x3), (4, .int r56), (5, .int x6), (6, .int x6)]) [3, 4, 5, 1, 0, 6] rfl ?_
        exact vX5_ask_76 X hr hlk hJ hY ih x2 x3 r56 x6 x6 _ h
def pX5_ask (x1 : Int32) (x2 : Int32) (σ : zz_T) (Q : Int32 → zz_T → Prop) : Prop :=
    pX5_noHead x1 σ (fun r2 s2 =>
    ((r2 = 0 → pX5_outside x2 0 1 s2 (fun r11 s11 =>
    ((r11 = 0 → pX5_asSeenBy x1 1 s11 (fun r22 s22 =>
    pJ6_bitCount_0f7a4 r22 s22 (fun r27 s27 =>
    ((r27 ≤ 1 → pX5_ask_82  Q x2 r27 (-4) s27) ∧
    (¬ r27 ≤ 1 → ∃ n45, pX5_ask_45  Q n45 x2 r22 r27 (-4) 0 s27))))) ∧
    (¬ r11 = 0 → Q (-1) s11)))) ∧
    (¬ r2 = 0 → Q (-1) s2)))
set_option maxHeartbeats 4000000 in
set_option maxRecDepth 100000 in
theorem kX5_ask (l : Launch) {Y : zz_Y} (hJ : zz_J Y) (x1 : Int32) (x2 : Int32) (hY : zz_ho Y) {σ : zz_T} {Q : Int32 → zz_T → Prop} (h : pX5_ask x1 x2 σ Q) : zz_Mi l yX5_ask cX5_ask 8 (some .int) rmX5_ask Y [.ref (Y.2.1 0), .int x1, .int x2] σ Q := by
  refine zz_Mi.start (by decide) hJ (Nat.le_of_ble_eq_true rfl) (fun p e s m below meth c X hr hlk => ?_)
  have X : zz_X p m c cX5_ask 8 s _ RX5 := X
  refine zv_sub (lv2 := [(0, .ref (Y.2.1 0)), (1, .int x1), (2, .int x2)]) [0, 1, 2] rfl ?_
  unfold pX5_ask at h
  refine zv_aload_n X dX5_ask_0 0 rfl rfl rfl ?_
  refine zv_iload_n X dX5_ask_1 1 rfl rfl rfl ?_
  refine zv_cVi (k := 0) (ci := 5) X [.int x1] (kX5_noHead l hJ x1 hY h) jl_X5_104 ⟨rfl, rfl⟩ ⟨Nat.le_of_ble_eq_true rfl, Nat.le_of_ble_eq_true rfl⟩ (zz_ho_o hY).1 (by decide) (zz_ho_o hY).2 rfl rfl rfl (Nat.le_of_ble_eq_true rfl) dX5_ask_2 rfl (fun r2 s2 h => ?_)
  refine zv_if_ne (tgt := 17) X dX5_ask_5 (by decide) rfl (fun q5 => ?_) (fun q5 => ?_)
  · replace h := h.2 q5
    refine zv_iconst (v := (-1)) X dX5_ask_17 (by decide) rfl ?_
    exact zv_iret X hr hlk h dX5_ask_18
  · replace h := h.1 q5
    refine zv_iload_n X dX5_ask_8 2 rfl rfl rfl ?_
    refine zv_iconst (v := 0) X dX5_ask_9 (by decide) rfl ?_
    refine zv_iconst (v := 1) X dX5_ask_10 (by decide) rfl ?_
    refine zv_cSi X [.int x2, .int 0, .int 1] (kX5_outside l hJ x2 0 1  h) jl_X5_58 ⟨rfl, rfl⟩ ⟨Nat.le_of_ble_eq_true rfl, Nat.le_of_ble_eq_true rfl⟩ rfl rfl (Nat.le_of_ble_eq_true rfl) dX5_ask_11 rfl (fun r11 s11 h => ?_)
    refine zv_if_eq (tgt := 19) X dX5_ask_14 (by decide) rfl (fun q14 => ?_) (fun q14 => ?_)
    · replace h := h.1 q14
      refine zv_aload_n X dX5_ask_19 0 rfl rfl rfl ?_
      refine zv_iload_n X dX5_ask_20 1 rfl rfl rfl ?_
      refine zv_iconst (v := 1) X dX5_ask_21 (by decide) rfl ?_
      refine zv_cVi (k := 0) (ci := 5) X [.int x1, .int 1] (kX5_asSeenBy l hJ x1 1 hY h) jl_X5_239 ⟨rfl, rfl⟩ ⟨Nat.le_of_ble_eq_true rfl, Nat.le_of_ble_eq_true rfl⟩ (zz_ho_o hY).1 (by decide) (zz_ho_o hY).2 rfl rfl rfl (Nat.le_of_ble_eq_true rfl) dX5_ask_22 rfl (fun r22 s22 h => ?_)
      refine zv_istore_n (lv2 := [(3, .int r22), (0, .ref (Y.2.1 0)), (1, .int x1), (2, .int x2)]) X dX5_ask_25 rfl (by decide) rfl rfl ?_
      refine zv_iload_n X dX5_ask_26 0 rfl rfl rfl ?_
      refine zv_cSi X [.int r22] (kJ6_bitCount_0f7a4 l hJ r22  h) jl_X5_242 ⟨rfl, rfl⟩ ⟨Nat.le_of_ble_eq_true rfl, Nat.le_of_ble_eq_true rfl⟩ rfl rfl (Nat.le_of_ble_eq_true rfl) dX5_ask_27 rfl (fun r27 s27 h => ?_)
      refine zv_istore (lv2 := [(4, .int r27), (3, .int r22), (0, .ref (Y.2.1 0)), (1, .int x1), (2, .int x2)]) X dX5_ask_30 (by decide) rfl rfl ?_
      refine zv_bipush (v := (-4)) X dX5_ask_32 (by decide) rfl ?_
      refine zv_istore (lv2 := [(5, .int (-4)), (4, .int r27), (3, .int r22), (0, .ref (Y.2.1 0)), (1, .int x1), (2, .int x2)]) X dX5_ask_34 (by decide) rfl rfl ?_
      refine zv_iload X dX5_ask_36 1 rfl rfl ?_
      refine zv_iconst (v := 1) X dX5_ask_38 (by decide) rfl ?_
      refine zv_icmp_le (tgt := 82) X dX5_ask_39 (by decide) rfl (fun q39 => ?_) (fun q39 => ?_)
      · replace h := h.1 q39
        refine zv_sub (lv2 := [(2, .int x2), (4, .int r27), (5, .int (-4))]) [5, 1, 0] rfl ?_
        exact vX5_ask_82 X hr hlk hJ hY x2 r27 (-4) _ h
      · replace h := h.2 q39
        refine zv_iconst (v := 0) X dX5_ask_42 (by decide) rfl ?_
        refine zv_istore (lv2 := [(6, .int 0), (5, .int (-4)), (4, .int r27), (3, .int r22), (0, .ref (Y.2.1 0)), (1, .int x1), (2, .int x2)]) X dX5_ask_43 (by decide) rfl rfl ?_
        obtain ⟨n45, h⟩ := h
        refine zv_sub (lv2 := [(0, .ref (Y.2.1 0)), (2, .int x2), (3, .int r22), (4, .int r27), (5, .int (-4)), (6, .int 0)]) [4, 6, 3, 2, 1, 0] rfl ?_
        exact vX5_ask_45 X hr hlk hJ hY n45 x2 r22 r27 (-4) 0 _ h
    · replace h := h.2 q14
      refine zv_iconst (v := (-1)) X dX5_ask_17 (by decide) rfl ?_
      exact zv_iret X hr hlk h dX5_ask_18
def rmX5_drift : Room := { frames := 3, cells := 0, slots := 0, locals := 83 }
def pX5_drift_54  (Q : Int32 → zz_T → Prop) : Nat → Int32 → Int32 → Int32 → Int32 → Int32 → zz_T → Prop
  | 0, _, _, _, _, _, _ => False
  | n + 1, x2, x3, x4, x5, x6, σ =>
    ((x2 ≤ x6 → ((x3 = 0 → Q x4 σ) ∧
    (¬ x3 = 0 → pX1_heatOfAll 20 σ (fun r123 s123 =>
    Q r123 s123)))) ∧
    (¬ x2 ≤ x6 → pX1_burnLine 20 ((((Int32.toUInt32 ((x5 * 1103515245) + 12345) >>> (Int32.toUInt32 16 &&& Int32.toUInt32 31)).toInt32 &&& 32767) / 4) - (((Int32.toUInt32 ((x5 * 1103515245) + 12345) >>> (Int32.toUInt32 16 &&& Int32.toUInt32 31)).toInt32 &&& 32767) / 4) / 256 * 256) 0 1 σ (fun r98 s98 =>
    pX5_drift_54  Q n x2 x3 (x4 + r98) ((x5 * 1103515245) + 12345) (x6 + 1) s98)))
set_option maxHeartbeats 4000000 in
set_option maxRecDepth 100000 in
theorem vX5_drift_54 {p : Program} {l : Launch} {e : Env} {s : State} {m : MethodId} {args : Array Value} {below : List Frame} {meth : Method} {c : Code} {Y : zz_Y}  {Q : Int32 → zz_T → Prop} (X : zz_X p m c cX5_drift 8 s args RX5) (hr : meth.sig.returnType = (some .int)) (hlk : meth.locks = false) (hJ : zz_J Y) (hY : zz_ho Y)  : ∀ (n : Nat) (x2 : Int32) (x3 : Int32) (x4 : Int32) (x5 : Int32) (x6 : Int32) (σ : zz_T), pX5_drift_54  Q n x2 x3 x4 x5 x6 σ → zz_V p l e rmX5_drift s m args below meth c (MQ below (va_Qi Q (zz_E Y) (zz_A Y)) args s 0 0 (zz_A Y)) 8 Y σ 54 [(0, .ref (Y.2.1 0)), (2, .int x2), (3, .int x3), (4, .int x4), (5, .int x5), (6, .int x6)] [] := by
  intro n
  induction n with
  | zero => intro x2 x3 x4 x5 x6 σ h; exact h.elim
  | succ n ih =>
    intro x2 x3 x4 x5 x6 σ h 
    unfold pX5_drift_54 at h
    refine zv_iload X dX5_drift_54 5 rfl rfl ?_
    refine zv_iload_n X dX5_drift_56 1 rfl rfl rfl ?_
    refine zv_icmp_ge (tgt := 110) X dX5_drift_57 (by decide) rfl (fun q57 => ?_) (fun q57 => ?_)
    · replace h := h.1 q57
      refine zv_iload_n X dX5_drift_110 2 rfl rfl rfl ?_
      refine zv_if_ne (tgt := 119) X dX5_drift_111 (by decide) rfl (fun q111 => ?_) (fun q111 => ?_)
      · replace h := h.2 q111
        refine zv_aload_n X dX5_drift_119 0 rfl rfl rfl ?_
        refine zg_X5_2 (k := 0) X (zz_ho_o hY).1 (zz_ho_o hY).2 fl_X5_23 dX5_drift_120 rfl ?_
        refine zv_cVi (k := 20) (ci := 1) X [] (kX1_heatOfAll l hJ  (zz_ho_trial hY) h) jl_X5_255 ⟨rfl, rfl⟩ ⟨Nat.le_of_ble_eq_true rfl, Nat.le_of_ble_eq_true rfl⟩ (zz_ho_trial hY).1.1 (by decide) (zz_ho_trial hY).1.2 rfl rfl rfl (Nat.le_of_ble_eq_true rfl) dX5_drift_123 rfl (fun r123 s123 h => ?_)
        exact zv_iret X hr hlk h dX5_drift_126
      · replace h := h.1 q111
        refine zv_iload X dX5_drift_114 3 rfl rfl ?_
        refine zv_goto (tgt := 126) X dX5_drift_116 (by decide) ?_
        exact zv_iret X hr hlk h dX5_drift_126
    · replace h := h.2 q57
      refine zv_iload X dX5_drift_60 4 rfl rfl ?_
      refine zv_ldc (v := 1103515245) X dX5_drift_62 co_X5_250 rfl ?_
      refine zv_imul X dX5_drift_64 rfl ?_
      refine zv_sipush (v := 12345) X dX5_drift_65 (by decide) rfl ?_
      refine zv_iadd X dX5_drift_68 rfl ?_
      refine zv_istore (lv2 := [(5, .int ((x5 * 1103515245) + 12345)), (0, .ref (Y.2.1 0)), (2, .int x2), (3, .int x3), (4, .int x4), (6, .int x6)]) X dX5_drift_69 (by decide) rfl rfl ?_
      refine zv_iload X dX5_drift_71 0 rfl rfl ?_
      refine zv_bipush (v := 16) X dX5_drift_73 (by decide) rfl ?_
      refine zv_iushr X dX5_drift_75 rfl ?_
      refine zv_sipush (v := 32767) X dX5_drift_76 (by decide) rfl ?_
      refine zv_iand X dX5_drift_79 rfl ?_
      refine zv_istore (lv2 := [(7, .int ((Int32.toUInt32 ((x5 * 1103515245) + 12345) >>> (Int32.toUInt32 16 &&& Int32.toUInt32 31)).toInt32 &&& 32767)), (5, .int ((x5 * 1103515245) + 12345)), (0, .ref (Y.2.1 0)), (2, .int x2), (3, .int x3), (4, .int x4), (6, .int x6)]) X dX5_drift_80 (by decide) rfl rfl ?_
      refine zv_iload X dX5_drift_82 5 rfl rfl ?_
      refine zv_aload_n X dX5_drift_84 2 rfl rfl rfl ?_
      refine zg_X5_2 (k := 0) X (zz_ho_o hY).1 (zz_ho_o hY).2 fl_X5_23 dX5_drift_85 rfl ?_
      refine zv_iload X dX5_drift_88 0 rfl rfl ?_
      refine zv_iconst (v := 4) X dX5_drift_90 (by decide) rfl ?_
      refine zv_idiv X dX5_drift_91 (by decide) rfl ?_
      refine zv_sipush (v := 256) X dX5_drift_92 (by decide) rfl ?_
      refine zv_irem X dX5_drift_95 (by decide) rfl ?_
      refine zv_iconst (v := 0) X dX5_drift_96 (by decide) rfl ?_
      refine zv_iconst (v := 1) X dX5_drift_97 (by decide) rfl ?_
      refine zv_cVi (k := 20) (ci := 1) X [.int ((((Int32.toUInt32 ((x5 * 1103515245) + 12345) >>> (Int32.toUInt32 16 &&& Int32.toUInt32 31)).toInt32 &&& 32767) / 4) - (((Int32.toUInt32 ((x5 * 1103515245) + 12345) >>> (Int32.toUInt32 16 &&& Int32.toUInt32 31)).toInt32 &&& 32767) / 4) / 256 * 256), .int 0, .int 1] (kX1_burnLine l hJ ((((Int32.toUInt32 ((x5 * 1103515245) + 12345) >>> (Int32.toUInt32 16 &&& Int32.toUInt32 31)).toInt32 &&& 32767) / 4) - (((Int32.toUInt32 ((x5 * 1103515245) + 12345) >>> (Int32.toUInt32 16 &&& Int32.toUInt32 31)).toInt32 &&& 32767) / 4) / 256 * 256) 0 1 (zz_ho_trial hY) h) jl_X5_251 ⟨rfl, rfl⟩ ⟨Nat.le_of_ble_eq_true rfl, Nat.le_of_ble_eq_true rfl⟩ (zz_ho_trial hY).1.1 (by decide) (zz_ho_trial hY).1.2 rfl rfl rfl (Nat.le_of_ble_eq_true rfl) dX5_drift_98 rfl (fun r98 s98 h => ?_)
      refine zv_iadd X dX5_drift_101 rfl ?_
      refine zv_istore (lv2 := [(4, .int (x4 + r98)), (7, .int ((Int32.toUInt32 ((x5 * 1103515245) + 12345) >>> (Int32.toUInt32 16 &&& Int32.toUInt32 31)).toInt32 &&& 32767)), (5, .int ((x5 * 1103515245) + 12345)), (0, .ref (Y.2.1 0)), (2, .int x2), (3, .int x3), (6, .int x6)]) X dX5_drift_102 (by decide) rfl rfl ?_
      refine zv_iinc (v := (x6 + 1)) (lv2 := [(6, .int (x6 + 1)), (4, .int (x4 + r98)), (7, .int ((Int32.toUInt32 ((x5 * 1103515245) + 12345) >>> (Int32.toUInt32 16 &&& Int32.toUInt32 31)).toInt32 &&& 32767)), (5, .int ((x5 * 1103515245) + 12345)), (0, .ref (Y.2.1 0)), (2, .int x2), (3, .int x3)]) X dX5_drift_104 6 rfl rfl (by decide) rfl rfl ?_
      refine zv_goto (tgt := 54) X dX5_drift_107 (by decide) ?_
      refine zv_sub (lv2 := [(0, .ref (Y.2.1 0)), (2, .int x2), (3, .int x3), (4, .int (x4 + r98)), (5, .int ((x5 * 1103515245) + 12345)), (6, .int (x6 + 1))]) [4, 5, 6, 1, 3, 0] rfl ?_
      exact ih x2 x3 (x4 + r98) ((x5 * 1103515245) + 12345) (x6 + 1) _ h
def pX5_drift (x1 : Int32) (x2 : Int32) (x3 : Int32) (σ : zz_T) (Q : Int32 → zz_T → Prop) : Prop :=
    pX5_outside x2 1 60 σ (fun r4 s4 =>
    ((r4 = 0 → pX5_outside x3 0 1 s4 (fun r13 s13 =>
    ((r13 = 0 → (((s13.1 3 4) = 0 → Q (-2) s13) ∧
    (¬ (s13.1 3 4) = 0 → pX1_copyFrom 20 3 s13 (fun s42 =>
    ∃ n54, pX5_drift_54  Q n54 x2 x3 0 x1 0 s42)))) ∧
    (¬ r13 = 0 → Q (-1) s13)))) ∧
    (¬ r4 = 0 → Q (-1) s4)))
set_option maxHeartbeats 4000000 in
set_option maxRecDepth 100000 in
theorem kX5_drift (l : Launch) {Y : zz_Y} (hJ : zz_J Y) (x1 : Int32) (x2 : Int32) (x3 : Int32) (hY : zz_ho Y) {σ : zz_T} {Q : Int32 → zz_T → Prop} (h : pX5_drift x1 x2 x3 σ Q) : zz_Mi l yX5_drift cX5_drift 8 (some .int) rmX5_drift Y [.ref (Y.2.1 0), .int x1, .int x2, .int x3] σ Q := by
  refine zz_Mi.start (by decide) hJ (Nat.le_of_ble_eq_true rfl) (fun p e s m below meth c X hr hlk => ?_)
  have X : zz_X p m c cX5_drift 8 s _ RX5 := X
  refine zv_sub (lv2 := [(0, .ref (Y.2.1 0)), (1, .int x1), (2, .int x2), (3, .int x3)]) [0, 1, 2, 3] rfl ?_
  unfold pX5_drift at h
  refine zv_iload_n X dX5_drift_0 2 rfl rfl rfl ?_
  refine zv_iconst (v := 1) X dX5_drift_1 (by decide) rfl ?_
  refine zv_bipush (v := 60) X dX5_drift_2 (by decide) rfl ?_
  refine zv_cSi X [.int x2, .int 1, .int 60] (kX5_outside l hJ x2 1 60  h) jl_X5_58 ⟨rfl, rfl⟩ ⟨Nat.le_of_ble_eq_true rfl, Nat.le_of_ble_eq_true rfl⟩ rfl rfl (Nat.le_of_ble_eq_true rfl) dX5_drift_4 rfl (fun r4 s4 h => ?_)
  refine zv_if_ne (tgt := 19) X dX5_drift_7 (by decide) rfl (fun q7 => ?_) (fun q7 => ?_)
  · replace h := h.2 q7
    refine zv_iconst (v := (-1)) X dX5_drift_19 (by decide) rfl ?_
    exact zv_iret X hr hlk h dX5_drift_20
  · replace h := h.1 q7
    refine zv_iload_n X dX5_drift_10 3 rfl rfl rfl ?_
    refine zv_iconst (v := 0) X dX5_drift_11 (by decide) rfl ?_
    refine zv_iconst (v := 1) X dX5_drift_12 (by decide) rfl ?_
    refine zv_cSi X [.int x3, .int 0, .int 1] (kX5_outside l hJ x3 0 1  h) jl_X5_58 ⟨rfl, rfl⟩ ⟨Nat.le_of_ble_eq_true rfl, Nat.le_of_ble_eq_true rfl⟩ rfl rfl (Nat.le_of_ble_eq_true rfl) dX5_drift_13 rfl (fun r13 s13 h => ?_)
    refine zv_if_eq (tgt := 21) X dX5_drift_16 (by decide) rfl (fun q16 => ?_) (fun q16 => ?_)
    · replace h := h.1 q16
      refine zv_aload_n X dX5_drift_21 0 rfl rfl rfl ?_
      refine zg_X5_1 (k := 0) X (zz_ho_o hY).1 (zz_ho_o hY).2 fl_X5_19 dX5_drift_22 rfl ?_
      refine zg_X1_4 (k := 3) X (zz_ho_now hY).1.1 (zz_ho_now hY).1.2 fl_X5_84 dX5_drift_25 rfl ?_
      refine zv_if_ne (tgt := 34) X dX5_drift_28 (by decide) rfl (fun q28 => ?_) (fun q28 => ?_)
      · replace h := h.2 q28
        refine zv_aload_n X dX5_drift_34 0 rfl rfl rfl ?_
        refine zg_X5_2 (k := 0) X (zz_ho_o hY).1 (zz_ho_o hY).2 fl_X5_23 dX5_drift_35 rfl ?_
        refine zv_aload_n X dX5_drift_38 0 rfl rfl rfl ?_
        refine zg_X5_1 (k := 0) X (zz_ho_o hY).1 (zz_ho_o hY).2 fl_X5_19 dX5_drift_39 rfl ?_
        refine zv_cVv (k := 20) (ci := 1) X [.ref (Y.2.1 3)] (kX1_copyFrom l hJ  (zz_ho_trial hY) (zz_ho_now hY) h) jl_X5_80 ⟨rfl, rfl⟩ ⟨Nat.le_of_ble_eq_true rfl, Nat.le_of_ble_eq_true rfl⟩ (zz_ho_trial hY).1.1 (by decide) (zz_ho_trial hY).1.2 rfl rfl rfl (Nat.le_of_ble_eq_true rfl) dX5_drift_42 rfl (fun s42 h => ?_)
        refine zv_iconst (v := 0) X dX5_drift_45 (by decide) rfl ?_
        refine zv_istore (lv2 := [(4, .int 0), (0, .ref (Y.2.1 0)), (1, .int x1), (2, .int x2), (3, .int x3)]) X dX5_drift_46 (by decide) rfl rfl ?_
        refine zv_iload_n X dX5_drift_48 2 rfl rfl rfl ?_
        refine zv_istore (lv2 := [(5, .int x1), (4, .int 0), (0, .ref (Y.2.1 0)), (1, .int x1), (2, .int x2), (3, .int x3)]) X dX5_drift_49 (by decide) rfl rfl ?_
        refine zv_iconst (v := 0) X dX5_drift_51 (by decide) rfl ?_
        refine zv_istore (lv2 := [(6, .int 0), (5, .int x1), (4, .int 0), (0, .ref (Y.2.1 0)), (1, .int x1), (2, .int x2), (3, .int x3)]) X dX5_drift_52 (by decide) rfl rfl ?_
        obtain ⟨n54, h⟩ := h
        refine zv_sub (lv2 := [(0, .ref (Y.2.1 0)), (2, .int x2), (3, .int x3), (4, .int 0), (5, .int x1), (6, .int 0)]) [3, 5, 6, 2, 1, 0] rfl ?_
        exact vX5_drift_54 X hr hlk hJ hY n54 x2 x3 0 x1 0 _ h
      · replace h := h.1 q28
        refine zv_bipush (v := (-2)) X dX5_drift_31 (by decide) rfl ?_
        exact zv_iret X hr hlk h dX5_drift_33
    · replace h := h.2 q16
      refine zv_iconst (v := (-1)) X dX5_drift_19 (by decide) rfl ?_
      exact zv_iret X hr hlk h dX5_drift_20
def rmX5_keep : Room := { frames := 3, cells := 0, slots := 0, locals := 83 }
def pX5_keep_25  (Q : Int32 → zz_T → Prop) (x1 : Int32) (t0 : Int32) (σ : zz_T) : Prop :=
    vp_in x1 2 ∧
    pX1_copyFrom (46 + 17 * (Int32.toNatClampNeg x1)) 3 σ (fun s36 =>
    vp_in x1 2 ∧
    Q t0 (zz_i s36 41 (Int32.toNatClampNeg x1) (vp_nar .boolean 1)))
set_option maxHeartbeats 4000000 in
set_option maxRecDepth 100000 in
theorem vX5_keep_25 {p : Program} {l : Launch} {e : Env} {s : State} {m : MethodId} {args : Array Value} {below : List Frame} {meth : Method} {c : Code} {Y : zz_Y}  {Q : Int32 → zz_T → Prop} (X : zz_X p m c cX5_keep 3 s args RX5) (hr : meth.sig.returnType = (some .int)) (hlk : meth.locks = false) (hJ : zz_J Y) (hY : zz_ho Y)  : ∀ (x1 : Int32) (t0 : Int32) (σ : zz_T), pX5_keep_25  Q x1 t0 σ → zz_V p l e rmX5_keep s m args below meth c (MQ below (va_Qi Q (zz_E Y) (zz_A Y)) args s 0 0 (zz_A Y)) 3 Y σ 25 [(0, .ref (Y.2.1 0)), (1, .int x1)] [.int t0] := by
  intro x1 t0 σ h 
  unfold pX5_keep_25 at h
  refine zv_istore_n (lv2 := [(2, .int t0), (0, .ref (Y.2.1 0)), (1, .int x1)]) X dX5_keep_25 rfl (by decide) rfl rfl ?_
  refine zv_aload_n X dX5_keep_26 1 rfl rfl rfl ?_
  refine zg_X5_4 (k := 0) X (zz_ho_o hY).1 (zz_ho_o hY).2 fl_X5_33 dX5_keep_27 rfl ?_
  refine zv_iload_n X dX5_keep_30 2 rfl rfl rfl ?_
  obtain ⟨hi31, h⟩ := h
  refine zv_aald4 (k := 40) X (zz_ho_images hY).1 (zz_ho_images hY).2 hi31 dX5_keep_31 rfl ?_
  refine zv_aload_n X dX5_keep_32 1 rfl rfl rfl ?_
  refine zg_X5_1 (k := 0) X (zz_ho_o hY).1 (zz_ho_o hY).2 fl_X5_19 dX5_keep_33 rfl ?_
  refine zv_cVv (k := (46 + 17 * (Int32.toNatClampNeg x1))) (ci := 1) X [.ref (Y.2.1 3)] (kX1_copyFrom l hJ  (zz_ho_im hY _ (zz_lt hi31)) (zz_ho_now hY) h) jl_X5_80 ⟨rfl, rfl⟩ ⟨Nat.le_of_ble_eq_true rfl, Nat.le_of_ble_eq_true rfl⟩ (zz_ho_im hY _ (zz_lt hi31)).1.1 (by decide) (zz_ho_im hY _ (zz_lt hi31)).1.2 rfl rfl rfl (Nat.le_of_ble_eq_true rfl) dX5_keep_36 rfl (fun s36 h => ?_)
  refine zv_aload_n X dX5_keep_39 1 rfl rfl rfl ?_
  refine zg_X5_5 (k := 0) X (zz_ho_o hY).1 (zz_ho_o hY).2 fl_X5_37 dX5_keep_40 rfl ?_
  refine zv_iload_n X dX5_keep_43 2 rfl rfl rfl ?_
  refine zv_iconst (v := 1) X dX5_keep_44 (by decide) rfl ?_
  obtain ⟨hi45, h⟩ := h
  refine zv_zast (k := 41) X (zz_ho_kept hY).1 (zz_ho_kept hY).2 hi45 dX5_keep_45 rfl ?_
  refine zv_iload_n X dX5_keep_46 0 rfl rfl rfl ?_
  exact zv_iret X hr hlk h dX5_keep_47
def pX5_keep (x1 : Int32) (σ : zz_T) (Q : Int32 → zz_T → Prop) : Prop :=
    pX5_outside x1 0 1 σ (fun r3 s3 =>
    ((r3 = 0 → vp_in x1 2 ∧
    (((s3.1 41 (Int32.toNatClampNeg x1)) = 0 → pX5_keep_25  Q x1 0 s3) ∧
    (¬ (s3.1 41 (Int32.toNatClampNeg x1)) = 0 → pX5_keep_25  Q x1 1 s3))) ∧
    (¬ r3 = 0 → Q (-1) s3)))
set_option maxHeartbeats 4000000 in
set_option maxRecDepth 100000 in
theorem kX5_keep (l : Launch) {Y : zz_Y} (hJ : zz_J Y) (x1 : Int32) (hY : zz_ho Y) {σ : zz_T} {Q : Int32 → zz_T → Prop} (h : pX5_keep x1 σ Q) : zz_Mi l yX5_keep cX5_keep 3 (some .int) rmX5_keep Y [.ref (Y.2.1 0), .int x1] σ Q := by
  refine zz_Mi.start (by decide) hJ (Nat.le_of_ble_eq_true rfl) (fun p e s m below meth c X hr hlk => ?_)
  have X : zz_X p m c cX5_keep 3 s _ RX5 := X
  refine zv_sub (lv2 := [(0, .ref (Y.2.1 0)), (1, .int x1)]) [0, 1] rfl ?_
  unfold pX5_keep at h
  refine zv_iload_n X dX5_keep_0 1 rfl rfl rfl ?_
  refine zv_iconst (v := 0) X dX5_keep_1 (by decide) rfl ?_
  refine zv_iconst (v := 1) X dX5_keep_2 (by decide) rfl ?_
  refine zv_cSi X [.int x1, .int 0, .int 1] (kX5_outside l hJ x1 0 1  h) jl_X5_58 ⟨rfl, rfl⟩ ⟨Nat.le_of_ble_eq_true rfl, Nat.le_of_ble_eq_true rfl⟩ rfl rfl (Nat.le_of_ble_eq_true rfl) dX5_keep_3 rfl (fun r3 s3 h => ?_)
  refine zv_if_eq (tgt := 11) X dX5_keep_6 (by decide) rfl (fun q6 => ?_) (fun q6 => ?_)
  · replace h := h.1 q6
    refine zv_aload_n X dX5_keep_11 0 rfl rfl rfl ?_
    refine zg_X5_5 (k := 0) X (zz_ho_o hY).1 (zz_ho_o hY).2 fl_X5_37 dX5_keep_12 rfl ?_
    refine zv_iload_n X dX5_keep_15 1 rfl rfl rfl ?_
    obtain ⟨hi16, h⟩ := h
    refine zv_zald (k := 41) X (zz_ho_kept hY).1 (zz_ho_kept hY).2 hi16 dX5_keep_16 rfl ?_
    refine zv_if_eq (tgt := 24) X dX5_keep_17 (by decide) rfl (fun q17 => ?_) (fun q17 => ?_)
    · replace h := h.1 q17
      refine zv_iconst (v := 0) X dX5_keep_24 (by decide) rfl ?_
      exact vX5_keep_25 X hr hlk hJ hY x1 0 _ h
    · replace h := h.2 q17
      refine zv_iconst (v := 1) X dX5_keep_20 (by decide) rfl ?_
      refine zv_goto (tgt := 25) X dX5_keep_21 (by decide) ?_
      exact vX5_keep_25 X hr hlk hJ hY x1 1 _ h
  · replace h := h.2 q6
    refine zv_iconst (v := (-1)) X dX5_keep_9 (by decide) rfl ?_
    exact zv_iret X hr hlk h dX5_keep_10
def rmX5_back : Room := { frames := 3, cells := 0, slots := 0, locals := 83 }
def pX5_back (x1 : Int32) (σ : zz_T) (Q : Int32 → zz_T → Prop) : Prop :=
    pX5_outside x1 0 1 σ (fun r3 s3 =>
    ((r3 = 0 → vp_in x1 2 ∧
    (((s3.1 41 (Int32.toNatClampNeg x1)) = 0 → Q (-2) s3) ∧
    (¬ (s3.1 41 (Int32.toNatClampNeg x1)) = 0 → vp_in x1 2 ∧
    pX1_copyFrom 3 (46 + 17 * (Int32.toNatClampNeg x1)) s3 (fun s33 =>
    Q (s33.1 3 6) s33)))) ∧
    (¬ r3 = 0 → Q (-1) s3)))
set_option maxHeartbeats 4000000 in
set_option maxRecDepth 100000 in
theorem kX5_back (l : Launch) {Y : zz_Y} (hJ : zz_J Y) (x1 : Int32) (hY : zz_ho Y) {σ : zz_T} {Q : Int32 → zz_T → Prop} (h : pX5_back x1 σ Q) : zz_Mi l yX5_back cX5_back 2 (some .int) rmX5_back Y [.ref (Y.2.1 0), .int x1] σ Q := by
  refine zz_Mi.start (by decide) hJ (Nat.le_of_ble_eq_true rfl) (fun p e s m below meth c X hr hlk => ?_)
  have X : zz_X p m c cX5_back 2 s _ RX5 := X
  refine zv_sub (lv2 := [(0, .ref (Y.2.1 0)), (1, .int x1)]) [0, 1] rfl ?_
  unfold pX5_back at h
  refine zv_iload_n X dX5_back_0 1 rfl rfl rfl ?_
  refine zv_iconst (v := 0) X dX5_back_1 (by decide) rfl ?_
  refine zv_iconst (v := 1) X dX5_back_2 (by decide) rfl ?_
  refine zv_cSi X [.int x1, .int 0, .int 1] (kX5_outside l hJ x1 0 1  h) jl_X5_58 ⟨rfl, rfl⟩ ⟨Nat.le_of_ble_eq_true rfl, Nat.le_of_ble_eq_true rfl⟩ rfl rfl (Nat.le_of_ble_eq_true rfl) dX5_back_3 rfl (fun r3 s3 h => ?_)
  refine zv_if_eq (tgt := 11) X dX5_back_6 (by decide) rfl (fun q6 => ?_) (fun q6 => ?_)
  · replace h := h.1 q6
    refine zv_aload_n X dX5_back_11 0 rfl rfl rfl ?_
    refine zg_X5_5 (k := 0) X (zz_ho_o hY).1 (zz_ho_o hY).2 fl_X5_37 dX5_back_12 rfl ?_
    refine zv_iload_n X dX5_back_15 1 rfl rfl rfl ?_
    obtain ⟨hi16, h⟩ := h
    refine zv_zald (k := 41) X (zz_ho_kept hY).1 (zz_ho_kept hY).2 hi16 dX5_back_16 rfl ?_
    refine zv_if_ne (tgt := 23) X dX5_back_17 (by decide) rfl (fun q17 => ?_) (fun q17 => ?_)
    · replace h := h.2 q17
      refine zv_aload_n X dX5_back_23 0 rfl rfl rfl ?_
      refine zg_X5_1 (k := 0) X (zz_ho_o hY).1 (zz_ho_o hY).2 fl_X5_19 dX5_back_24 rfl ?_
      refine zv_aload_n X dX5_back_27 0 rfl rfl rfl ?_
      refine zg_X5_4 (k := 0) X (zz_ho_o hY).1 (zz_ho_o hY).2 fl_X5_33 dX5_back_28 rfl ?_
      refine zv_iload_n X dX5_back_31 1 rfl rfl rfl ?_
      obtain ⟨hi32, h⟩ := h
      refine zv_aald4 (k := 40) X (zz_ho_images hY).1 (zz_ho_images hY).2 hi32 dX5_back_32 rfl ?_
      refine zv_cVv (k := 3) (ci := 1) X [.ref (Y.2.1 (46 + 17 * (Int32.toNatClampNeg x1)))] (kX1_copyFrom l hJ  (zz_ho_now hY) (zz_ho_im hY _ (zz_lt hi32)) h) jl_X5_80 ⟨rfl, rfl⟩ ⟨Nat.le_of_ble_eq_true rfl, Nat.le_of_ble_eq_true rfl⟩ (zz_ho_now hY).1.1 (by decide) (zz_ho_now hY).1.2 rfl rfl rfl (Nat.le_of_ble_eq_true rfl) dX5_back_33 rfl (fun s33 h => ?_)
      refine zv_aload_n X dX5_back_36 0 rfl rfl rfl ?_
      refine zg_X5_1 (k := 0) X (zz_ho_o hY).1 (zz_ho_o hY).2 fl_X5_19 dX5_back_37 rfl ?_
      refine zg_X1_6 (k := 3) X (zz_ho_now hY).1.1 (zz_ho_now hY).1.2 fl_X5_90 dX5_back_40 rfl ?_
      exact zv_iret X hr hlk h dX5_back_43
    · replace h := h.1 q17
      refine zv_bipush (v := (-2)) X dX5_back_20 (by decide) rfl ?_
      exact zv_iret X hr hlk h dX5_back_22
  · replace h := h.2 q6
    refine zv_iconst (v := (-1)) X dX5_back_9 (by decide) rfl ?_
    exact zv_iret X hr hlk h dX5_back_10
def rmX5_noSheet : Room := { frames := 1, cells := 0, slots := 0, locals := 22 }
def pX5_noSheet (x0 : Int32) (σ : zz_T) (Q : Int32 → zz_T → Prop) : Prop :=
    pX5_outside x0 0 3 σ (fun r3 s3 =>
    (zz_bo r3 ∧ Q r3 s3))
set_option maxHeartbeats 4000000 in
set_option maxRecDepth 100000 in
theorem kX5_noSheet (l : Launch) {Y : zz_Y} (hJ : zz_J Y) (x0 : Int32)  {σ : zz_T} {Q : Int32 → zz_T → Prop} (h : pX5_noSheet x0 σ Q) : zz_Mi l yX5_noSheet cX5_noSheet 1 (some .boolean) rmX5_noSheet Y [.int x0] σ Q := by
  refine zz_Mi.start (by decide) hJ (Nat.le_of_ble_eq_true rfl) (fun p e s m below meth c X hr hlk => ?_)
  have X : zz_X p m c cX5_noSheet 1 s _ RX5 := X
  refine zv_sub (lv2 := [(0, .int x0)]) [0] rfl ?_
  unfold pX5_noSheet at h
  refine zv_iload_n X dX5_noSheet_0 0 rfl rfl rfl ?_
  refine zv_iconst (v := 0) X dX5_noSheet_1 (by decide) rfl ?_
  refine zv_iconst (v := 3) X dX5_noSheet_2 (by decide) rfl ?_
  refine zv_cSi X [.int x0, .int 0, .int 3] (kX5_outside l hJ x0 0 3  h) jl_X5_58 ⟨rfl, rfl⟩ ⟨Nat.le_of_ble_eq_true rfl, Nat.le_of_ble_eq_true rfl⟩ rfl rfl (Nat.le_of_ble_eq_true rfl) dX5_noSheet_3 rfl (fun r3 s3 h => ?_)
  exact zv_zret X hr hlk h dX5_noSheet_6
def rmX5_sheet : Room := { frames := 2, cells := 0, slots := 0, locals := 45 }
def pX5_sheet (x1 : Int32) (x2 : Int32) (x3 : Int32) (σ : zz_T) (Q : Int32 → zz_T → Prop) : Prop :=
    pX5_noSheet x1 σ (fun r1 s1 =>
    ((r1 = 0 → pX5_outside x2 0 2 s1 (fun r10 s10 =>
    ((r10 = 0 → ((x3 ≤ 40 → ((0 ≤ x3 → vp_in x1 4 ∧
    pX3_renew (80 + 2 * (Int32.toNatClampNeg x1)) x2 x3 s10 (fun s39 =>
    Q 1 s39)) ∧
    (¬ 0 ≤ x3 → Q (-14) s10))) ∧
    (¬ x3 ≤ 40 → Q (-1) s10))) ∧
    (¬ r10 = 0 → Q (-1) s10)))) ∧
    (¬ r1 = 0 → Q (-1) s1)))
set_option maxHeartbeats 4000000 in
set_option maxRecDepth 100000 in
theorem kX5_sheet (l : Launch) {Y : zz_Y} (hJ : zz_J Y) (x1 : Int32) (x2 : Int32) (x3 : Int32) (hY : zz_ho Y) {σ : zz_T} {Q : Int32 → zz_T → Prop} (h : pX5_sheet x1 x2 x3 σ Q) : zz_Mi l yX5_sheet cX5_sheet 4 (some .int) rmX5_sheet Y [.ref (Y.2.1 0), .int x1, .int x2, .int x3] σ Q := by
  refine zz_Mi.start (by decide) hJ (Nat.le_of_ble_eq_true rfl) (fun p e s m below meth c X hr hlk => ?_)
  have X : zz_X p m c cX5_sheet 4 s _ RX5 := X
  refine zv_sub (lv2 := [(0, .ref (Y.2.1 0)), (1, .int x1), (2, .int x2), (3, .int x3)]) [0, 1, 2, 3] rfl ?_
  unfold pX5_sheet at h
  refine zv_iload_n X dX5_sheet_0 1 rfl rfl rfl ?_
  refine zv_cSi X [.int x1] (kX5_noSheet l hJ x1  h) jl_X5_258 ⟨rfl, rfl⟩ ⟨Nat.le_of_ble_eq_true rfl, Nat.le_of_ble_eq_true rfl⟩ rfl rfl (Nat.le_of_ble_eq_true rfl) dX5_sheet_1 rfl (fun r1 s1 h => ?_)
  refine zv_if_ne (tgt := 22) X dX5_sheet_4 (by decide) rfl (fun q4 => ?_) (fun q4 => ?_)
  · replace h := h.2 q4
    refine zv_iconst (v := (-1)) X dX5_sheet_22 (by decide) rfl ?_
    exact zv_iret X hr hlk h dX5_sheet_23
  · replace h := h.1 q4
    refine zv_iload_n X dX5_sheet_7 2 rfl rfl rfl ?_
    refine zv_iconst (v := 0) X dX5_sheet_8 (by decide) rfl ?_
    refine zv_iconst (v := 2) X dX5_sheet_9 (by decide) rfl ?_
    refine zv_cSi X [.int x2, .int 0, .int 2] (kX5_outside l hJ x2 0 2  h) jl_X5_58 ⟨rfl, rfl⟩ ⟨Nat.le_of_ble_eq_true rfl, Nat.le_of_ble_eq_true rfl⟩ rfl rfl (Nat.le_of_ble_eq_true rfl) dX5_sheet_10 rfl (fun r10 s10 h => ?_)
    refine zv_if_ne (tgt := 22) X dX5_sheet_13 (by decide) rfl (fun q13 => ?_) (fun q13 => ?_)
    · replace h := h.2 q13
      refine zv_iconst (v := (-1)) X dX5_sheet_22 (by decide) rfl ?_
      exact zv_iret X hr hlk h dX5_sheet_23
    · replace h := h.1 q13
      refine zv_iload_n X dX5_sheet_16 3 rfl rfl rfl ?_
      refine zv_bipush (v := 40) X dX5_sheet_17 (by decide) rfl ?_
      refine zv_icmp_le (tgt := 24) X dX5_sheet_19 (by decide) rfl (fun q19 => ?_) (fun q19 => ?_)
      · replace h := h.1 q19
        refine zv_iload_n X dX5_sheet_24 3 rfl rfl rfl ?_
        refine zv_if_ge (tgt := 31) X dX5_sheet_25 (by decide) rfl (fun q25 => ?_) (fun q25 => ?_)
        · replace h := h.1 q25
          refine zv_aload_n X dX5_sheet_31 0 rfl rfl rfl ?_
          refine zg_X5_6 (k := 0) X (zz_ho_o hY).1 (zz_ho_o hY).2 fl_X5_43 dX5_sheet_32 rfl ?_
          refine zv_iload_n X dX5_sheet_35 1 rfl rfl rfl ?_
          obtain ⟨hi36, h⟩ := h
          refine zv_aald5 (k := 42) X (zz_ho_sheets hY).1 (zz_ho_sheets hY).2 hi36 dX5_sheet_36 rfl ?_
          refine zv_iload_n X dX5_sheet_37 2 rfl rfl rfl ?_
          refine zv_iload_n X dX5_sheet_38 3 rfl rfl rfl ?_
          refine zv_cVv (k := (80 + 2 * (Int32.toNatClampNeg x1))) (ci := 3) X [.int x2, .int x3] (kX3_renew l hJ x2 x3 (zz_ho_sh hY _ (zz_lt hi36)) h) jl_X5_261 ⟨rfl, rfl⟩ ⟨Nat.le_of_ble_eq_true rfl, Nat.le_of_ble_eq_true rfl⟩ (zz_ho_sh hY _ (zz_lt hi36)).1.1 (by decide) (zz_ho_sh hY _ (zz_lt hi36)).1.2 rfl rfl rfl (Nat.le_of_ble_eq_true rfl) dX5_sheet_39 rfl (fun s39 h => ?_)
          refine zv_iconst (v := 1) X dX5_sheet_42 (by decide) rfl ?_
          exact zv_iret X hr hlk h dX5_sheet_43
        · replace h := h.2 q25
          refine zv_bipush (v := (-14)) X dX5_sheet_28 (by decide) rfl ?_
          exact zv_iret X hr hlk h dX5_sheet_30
      · replace h := h.2 q19
        refine zv_iconst (v := (-1)) X dX5_sheet_22 (by decide) rfl ?_
        exact zv_iret X hr hlk h dX5_sheet_23
def rmX5_lay : Room := { frames := 2, cells := 0, slots := 0, locals := 42 }
def pX5_lay (x1 : Int32) (x2 : Int32) (x3 : Int32) (σ : zz_T) (Q : Int32 → zz_T → Prop) : Prop :=
    pX5_noSheet x1 σ (fun r1 s1 =>
    ((r1 = 0 → vp_in x1 4 ∧
    pX3_faultOf (80 + 2 * (Int32.toNatClampNeg x1)) (s1.1 (80 + 2 * (Int32.toNatClampNeg x1)) 2) x2 s1 (fun r25 s25 =>
    ((r25 = 0 → pX3_put (80 + 2 * (Int32.toNatClampNeg x1)) x2 x3 s25 (fun s45 =>
    Q 1 s45)) ∧
    (¬ r25 = 0 → Q ((-10) - r25) s25)))) ∧
    (¬ r1 = 0 → Q (-1) s1)))
set_option maxHeartbeats 4000000 in
set_option maxRecDepth 100000 in
theorem kX5_lay (l : Launch) {Y : zz_Y} (hJ : zz_J Y) (x1 : Int32) (x2 : Int32) (x3 : Int32) (hY : zz_ho Y) {σ : zz_T} {Q : Int32 → zz_T → Prop} (h : pX5_lay x1 x2 x3 σ Q) : zz_Mi l yX5_lay cX5_lay 6 (some .int) rmX5_lay Y [.ref (Y.2.1 0), .int x1, .int x2, .int x3] σ Q := by
  refine zz_Mi.start (by decide) hJ (Nat.le_of_ble_eq_true rfl) (fun p e s m below meth c X hr hlk => ?_)
  have X : zz_X p m c cX5_lay 6 s _ RX5 := X
  refine zv_sub (lv2 := [(0, .ref (Y.2.1 0)), (1, .int x1), (2, .int x2), (3, .int x3)]) [0, 1, 2, 3] rfl ?_
  unfold pX5_lay at h
  refine zv_iload_n X dX5_lay_0 1 rfl rfl rfl ?_
  refine zv_cSi X [.int x1] (kX5_noSheet l hJ x1  h) jl_X5_258 ⟨rfl, rfl⟩ ⟨Nat.le_of_ble_eq_true rfl, Nat.le_of_ble_eq_true rfl⟩ rfl rfl (Nat.le_of_ble_eq_true rfl) dX5_lay_1 rfl (fun r1 s1 h => ?_)
  refine zv_if_eq (tgt := 9) X dX5_lay_4 (by decide) rfl (fun q4 => ?_) (fun q4 => ?_)
  · replace h := h.1 q4
    refine zv_aload_n X dX5_lay_9 0 rfl rfl rfl ?_
    refine zg_X5_6 (k := 0) X (zz_ho_o hY).1 (zz_ho_o hY).2 fl_X5_43 dX5_lay_10 rfl ?_
    refine zv_iload_n X dX5_lay_13 1 rfl rfl rfl ?_
    obtain ⟨hi14, h⟩ := h
    refine zv_aald5 (k := 42) X (zz_ho_sheets hY).1 (zz_ho_sheets hY).2 hi14 dX5_lay_14 rfl ?_
    refine zv_astore (lv2 := [(4, .ref (Y.2.1 (80 + 2 * (Int32.toNatClampNeg x1)))), (0, .ref (Y.2.1 0)), (1, .int x1), (2, .int x2), (3, .int x3)]) X dX5_lay_15 (by decide) rfl rfl ?_
    refine zv_aload X dX5_lay_17 0 rfl rfl ?_
    refine zv_aload X dX5_lay_19 0 rfl rfl ?_
    refine zg_X3_2 (k := (80 + 2 * (Int32.toNatClampNeg x1))) X (zz_ho_sh hY _ (zz_lt hi14)).1.1 (zz_ho_sh hY _ (zz_lt hi14)).1.2 fl_X5_264 dX5_lay_21 rfl ?_
    refine zv_iload_n X dX5_lay_24 3 rfl rfl rfl ?_
    refine zv_cVi (k := (80 + 2 * (Int32.toNatClampNeg x1))) (ci := 3) X [.int (s1.1 (80 + 2 * (Int32.toNatClampNeg x1)) 2), .int x2] (kX3_faultOf l hJ (s1.1 (80 + 2 * (Int32.toNatClampNeg x1)) 2) x2 (zz_ho_sh hY _ (zz_lt hi14)) h) jl_X5_267 ⟨rfl, rfl⟩ ⟨Nat.le_of_ble_eq_true rfl, Nat.le_of_ble_eq_true rfl⟩ (zz_ho_sh hY _ (zz_lt hi14)).1.1 (by decide) (zz_ho_sh hY _ (zz_lt hi14)).1.2 rfl rfl rfl (Nat.le_of_ble_eq_true rfl) dX5_lay_25 rfl (fun r25 s25 h => ?_)
    refine zv_istore (lv2 := [(5, .int r25), (4, .ref (Y.2.1 (80 + 2 * (Int32.toNatClampNeg x1)))), (0, .ref (Y.2.1 0)), (1, .int x1), (2, .int x2), (3, .int x3)]) X dX5_lay_28 (by decide) rfl rfl ?_
    refine zv_iload X dX5_lay_30 0 rfl rfl ?_
    refine zv_if_eq (tgt := 41) X dX5_lay_32 (by decide) rfl (fun q32 => ?_) (fun q32 => ?_)
    · replace h := h.1 q32
      refine zv_aload X dX5_lay_41 1 rfl rfl ?_
      refine zv_iload_n X dX5_lay_43 4 rfl rfl rfl ?_
      refine zv_iload_n X dX5_lay_44 5 rfl rfl rfl ?_
      refine zv_cVv (k := (80 + 2 * (Int32.toNatClampNeg x1))) (ci := 3) X [.int x2, .int x3] (kX3_put l hJ x2 x3 (zz_ho_sh hY _ (zz_lt hi14)) h) jl_X5_270 ⟨rfl, rfl⟩ ⟨Nat.le_of_ble_eq_true rfl, Nat.le_of_ble_eq_true rfl⟩ (zz_ho_sh hY _ (zz_lt hi14)).1.1 (by decide) (zz_ho_sh hY _ (zz_lt hi14)).1.2 rfl rfl rfl (Nat.le_of_ble_eq_true rfl) dX5_lay_45 rfl (fun s45 h => ?_)
      refine zv_iconst (v := 1) X dX5_lay_48 (by decide) rfl ?_
      exact zv_iret X hr hlk h dX5_lay_49
    · replace h := h.2 q32
      refine zv_bipush (v := (-10)) X dX5_lay_35 (by decide) rfl ?_
      refine zv_iload X dX5_lay_37 0 rfl rfl ?_
      refine zv_isub X dX5_lay_39 rfl ?_
      exact zv_iret X hr hlk h dX5_lay_40
  · replace h := h.2 q4
    refine zv_iconst (v := (-1)) X dX5_lay_7 (by decide) rfl ?_
    exact zv_iret X hr hlk h dX5_lay_8
def rmX5_read : Room := { frames := 3, cells := 0, slots := 0, locals := 65 }
def pX5_read_125  (Q : Int32 → zz_T → Prop) : Nat → Int32 → Nat → Int32 → Int32 → Int32 → zz_T → Prop
  | 0, _, _, _, _, _, _ => False
  | n + 1, x3, a5, x6, x7, x8, σ =>
    ((x7 ≤ x8 → Q x7 (zz_i σ 0 10 x6)) ∧
    (¬ x7 ≤ x8 → vp_in (x3 + (2 * x8)) 40 ∧
    vp_in ((x3 + (2 * x8)) + 1) 40 ∧
    vp_in (σ.1 (a5 + 1) (Int32.toNatClampNeg (x3 + (2 * x8)))) 12 ∧
    pX5_read_125  Q n x3 a5 x6 x7 (x8 + 1) (zz_i σ 5 (Int32.toNatClampNeg (σ.1 (a5 + 1) (Int32.toNatClampNeg (x3 + (2 * x8))))) (σ.1 (a5 + 1) (Int32.toNatClampNeg ((x3 + (2 * x8)) + 1))))))
set_option maxHeartbeats 4000000 in
set_option maxRecDepth 100000 in
theorem vX5_read_125 {p : Program} {l : Launch} {e : Env} {s : State} {m : MethodId} {args : Array Value} {below : List Frame} {meth : Method} {c : Code} {Y : zz_Y}  {Q : Int32 → zz_T → Prop} (X : zz_X p m c cX5_read 9 s args RX5) (hr : meth.sig.returnType = (some .int)) (hlk : meth.locks = false) (hJ : zz_J Y) (hY : zz_ho Y)  : ∀ (n : Nat) (x3 : Int32) (a5 : Nat) (x6 : Int32) (x7 : Int32) (x8 : Int32) (σ : zz_T), pX5_read_125  Q n x3 a5 x6 x7 x8 σ → zz_sh Y a5 → zz_V p l e rmX5_read s m args below meth c (MQ below (va_Qi Q (zz_E Y) (zz_A Y)) args s 0 0 (zz_A Y)) 9 Y σ 125 [(0, .ref (Y.2.1 0)), (3, .int x3), (5, .ref (Y.2.1 a5)), (6, .int x6), (7, .int x7), (8, .int x8)] [] := by
  intro n
  induction n with
  | zero => intro x3 a5 x6 x7 x8 σ h; exact h.elim
  | succ n ih =>
    intro x3 a5 x6 x7 x8 σ h h5a
    unfold pX5_read_125 at h
    refine zv_iload X dX5_read_125 5 rfl rfl ?_
    refine zv_iload X dX5_read_127 4 rfl rfl ?_
    refine zv_icmp_ge (tgt := 172) X dX5_read_129 (by decide) rfl (fun q129 => ?_) (fun q129 => ?_)
    · replace h := h.1 q129
      refine zv_aload_n X dX5_read_172 0 rfl rfl rfl ?_
      refine zv_iload X dX5_read_173 3 rfl rfl ?_
      refine zp_X5_10 (k := 0) X (zz_ho_o hY).1 (zz_ho_o hY).2 fl_X5_279 dX5_read_175 rfl ?_
      refine zv_iload X dX5_read_178 4 rfl rfl ?_
      exact zv_iret X hr hlk h dX5_read_180
    · replace h := h.2 q129
      refine zv_aload_n X dX5_read_132 0 rfl rfl rfl ?_
      refine zg_X5_1 (k := 0) X (zz_ho_o hY).1 (zz_ho_o hY).2 fl_X5_19 dX5_read_133 rfl ?_
      refine zg_X1_1 (k := 3) X (zz_ho_now hY).1.1 (zz_ho_now hY).1.2 fl_X5_137 dX5_read_136 rfl ?_
      refine zv_aload X dX5_read_139 2 rfl rfl ?_
      refine zg_X3_0 (k := a5) X h5a.1.1 h5a.1.2 fl_X5_276 dX5_read_141 rfl ?_
      refine zv_iload_n X dX5_read_144 1 rfl rfl rfl ?_
      refine zv_iconst (v := 2) X dX5_read_145 (by decide) rfl ?_
      refine zv_iload X dX5_read_146 5 rfl rfl ?_
      refine zv_imul X dX5_read_148 rfl ?_
      refine zv_iadd X dX5_read_149 rfl ?_
      obtain ⟨hi150, h⟩ := h
      refine zv_iald (k := (a5 + 1)) X h5a.2.1 h5a.2.2 hi150 dX5_read_150 rfl ?_
      refine zv_aload X dX5_read_151 2 rfl rfl ?_
      refine zg_X3_0 (k := a5) X h5a.1.1 h5a.1.2 fl_X5_276 dX5_read_153 rfl ?_
      refine zv_iload_n X dX5_read_156 1 rfl rfl rfl ?_
      refine zv_iconst (v := 2) X dX5_read_157 (by decide) rfl ?_
      refine zv_iload X dX5_read_158 5 rfl rfl ?_
      refine zv_imul X dX5_read_160 rfl ?_
      refine zv_iadd X dX5_read_161 rfl ?_
      refine zv_iconst (v := 1) X dX5_read_162 (by decide) rfl ?_
      refine zv_iadd X dX5_read_163 rfl ?_
      obtain ⟨hi164, h⟩ := h
      refine zv_iald (k := (a5 + 1)) X h5a.2.1 h5a.2.2 hi164 dX5_read_164 rfl ?_
      obtain ⟨hi165, h⟩ := h
      refine zv_iast (k := 5) X (zz_ho_now hY).2.2.1.1 (zz_ho_now hY).2.2.1.2 hi165 dX5_read_165 rfl ?_
      refine zv_iinc (v := (x8 + 1)) (lv2 := [(8, .int (x8 + 1)), (0, .ref (Y.2.1 0)), (3, .int x3), (5, .ref (Y.2.1 a5)), (6, .int x6), (7, .int x7)]) X dX5_read_166 5 rfl rfl (by decide) rfl rfl ?_
      refine zv_goto (tgt := 125) X dX5_read_169 (by decide) ?_
      refine zv_sub (lv2 := [(0, .ref (Y.2.1 0)), (3, .int x3), (5, .ref (Y.2.1 a5)), (6, .int x6), (7, .int x7), (8, .int (x8 + 1))]) [1, 2, 3, 4, 5, 0] rfl ?_
      exact ih x3 a5 x6 x7 (x8 + 1) _ h h5a
def pX5_read_122  (Q : Int32 → zz_T → Prop) (x3 : Int32) (a5 : Nat) (x6 : Int32) (x7 : Int32) (σ : zz_T) : Prop :=
    ∃ n125, pX5_read_125  Q n125 x3 a5 x6 x7 0 σ
set_option maxHeartbeats 4000000 in
set_option maxRecDepth 100000 in
theorem vX5_read_122 {p : Program} {l : Launch} {e : Env} {s : State} {m : MethodId} {args : Array Value} {below : List Frame} {meth : Method} {c : Code} {Y : zz_Y}  {Q : Int32 → zz_T → Prop} (X : zz_X p m c cX5_read 9 s args RX5) (hr : meth.sig.returnType = (some .int)) (hlk : meth.locks = false) (hJ : zz_J Y) (hY : zz_ho Y)  : ∀ (x3 : Int32) (a5 : Nat) (x6 : Int32) (x7 : Int32) (σ : zz_T), pX5_read_122  Q x3 a5 x6 x7 σ → zz_sh Y a5 → zz_V p l e rmX5_read s m args below meth c (MQ below (va_Qi Q (zz_E Y) (zz_A Y)) args s 0 0 (zz_A Y)) 9 Y σ 122 [(0, .ref (Y.2.1 0)), (3, .int x3), (5, .ref (Y.2.1 a5)), (6, .int x6), (7, .int x7)] [] := by
  intro x3 a5 x6 x7 σ h h5a
  unfold pX5_read_122 at h
  refine zv_iconst (v := 0) X dX5_read_122 (by decide) rfl ?_
  refine zv_istore (lv2 := [(8, .int 0), (0, .ref (Y.2.1 0)), (3, .int x3), (5, .ref (Y.2.1 a5)), (6, .int x6), (7, .int x7)]) X dX5_read_123 (by decide) rfl rfl ?_
  obtain ⟨n125, h⟩ := h
  refine zv_sub (lv2 := [(0, .ref (Y.2.1 0)), (3, .int x3), (5, .ref (Y.2.1 a5)), (6, .int x6), (7, .int x7), (8, .int 0)]) [1, 2, 3, 4, 5, 0] rfl ?_
  exact vX5_read_125 X hr hlk hJ hY n125 x3 a5 x6 x7 0 _ h h5a
def pX5_read_116  (Q : Int32 → zz_T → Prop) (K46 : Int32 → Int32 → Int32 → Nat → Int32 → Int32 → Int32 → zz_T → Prop) (x2 : Int32) (x3 : Int32) (x4 : Int32) (a5 : Nat) (x6 : Int32) (x7 : Int32) (x8 : Int32) (σ : zz_T) : Prop :=
    K46 x2 x3 x4 a5 x6 x7 (x8 + 1) σ
set_option maxHeartbeats 4000000 in
set_option maxRecDepth 100000 in
theorem vX5_read_116 {p : Program} {l : Launch} {e : Env} {s : State} {m : MethodId} {args : Array Value} {below : List Frame} {meth : Method} {c : Code} {Y : zz_Y}  {Q : Int32 → zz_T → Prop} {K46 : Int32 → Int32 → Int32 → Nat → Int32 → Int32 → Int32 → zz_T → Prop} (X : zz_X p m c cX5_read 9 s args RX5) (hr : meth.sig.returnType = (some .int)) (hlk : meth.locks = false) (hJ : zz_J Y) (hY : zz_ho Y) (hK46 : ∀ (x2 : Int32) (x3 : Int32) (x4 : Int32) (a5 : Nat) (x6 : Int32) (x7 : Int32) (x8 : Int32) (σ : zz_T), K46 x2 x3 x4 a5 x6 x7 x8 σ → zz_sh Y a5 → zz_V p l e rmX5_read s m args below meth c (MQ below (va_Qi Q (zz_E Y) (zz_A Y)) args s 0 0 (zz_A Y)) 9 Y σ 46 [(0, .ref (Y.2.1 0)), (2, .int x2), (3, .int x3), (4, .int x4), (5, .ref (Y.2.1 a5)), (6, .int x6), (7, .int x7), (8, .int x8)] []) : ∀ (x2 : Int32) (x3 : Int32) (x4 : Int32) (a5 : Nat) (x6 : Int32) (x7 : Int32) (x8 : Int32) (σ : zz_T), pX5_read_116  Q K46 x2 x3 x4 a5 x6 x7 x8 σ → zz_sh Y a5 → zz_V p l e rmX5_read s m args below meth c (MQ below (va_Qi Q (zz_E Y) (zz_A Y)) args s 0 0 (zz_A Y)) 9 Y σ 116 [(0, .ref (Y.2.1 0)), (2, .int x2), (3, .int x3), (4, .int x4), (5, .ref (Y.2.1 a5)), (6, .int x6), (7, .int x7), (8, .int x8)] [] := by
  intro x2 x3 x4 a5 x6 x7 x8 σ h h5a
  unfold pX5_read_116 at h
  refine zv_iinc (v := (x8 + 1)) (lv2 := [(8, .int (x8 + 1)), (0, .ref (Y.2.1 0)), (2, .int x2), (3, .int x3), (4, .int x4), (5, .ref (Y.2.1 a5)), (6, .int x6), (7, .int x7)]) X dX5_read_116 7 rfl rfl (by decide) rfl rfl ?_
  refine zv_goto (tgt := 46) X dX5_read_119 (by decide) ?_
  refine zv_sub (lv2 := [(0, .ref (Y.2.1 0)), (2, .int x2), (3, .int x3), (4, .int x4), (5, .ref (Y.2.1 a5)), (6, .int x6), (7, .int x7), (8, .int (x8 + 1))]) [1, 2, 3, 4, 5, 6, 7, 0] rfl ?_
  exact hK46 x2 x3 x4 a5 x6 x7 (x8 + 1) _ h h5a
def pX5_read_46  (Q : Int32 → zz_T → Prop) : Nat → Int32 → Int32 → Int32 → Nat → Int32 → Int32 → Int32 → zz_T → Prop
  | 0, _, _, _, _, _, _, _, _ => False
  | n + 1, x2, x3, x4, a5, x6, x7, x8, σ =>
    ((x4 ≤ x8 → pX5_read_122  Q x3 a5 x6 x7 σ) ∧
    (¬ x4 ≤ x8 → ((x6 = 0 → pX3_pairFault a5 x2 x3 x8 σ (fun r64 s64 =>
    ((r64 = 0 → vp_in (x3 + (2 * x8)) 40 ∧
    vp_in ((x3 + (2 * x8)) + 1) 40 ∧
    pX5_lineRefused (s64.1 (a5 + 1) (Int32.toNatClampNeg (x3 + (2 * x8)))) (s64.1 (a5 + 1) (Int32.toNatClampNeg ((x3 + (2 * x8)) + 1))) s64 (fun r101 s101 =>
    ((r101 = 0 → pX5_read_116  Q (pX5_read_46  Q n) x2 x3 x4 a5 r64 (x7 + 1) x8 s101) ∧
    (¬ r101 = 0 → Q ((-20) - x8) s101)))) ∧
    (¬ r64 = 0 → pX5_read_116  Q (pX5_read_46  Q n) x2 x3 x4 a5 r64 x7 x8 s64)))) ∧
    (¬ x6 = 0 → pX5_read_122  Q x3 a5 x6 x7 σ))))
set_option maxHeartbeats 4000000 in
set_option maxRecDepth 100000 in
theorem vX5_read_46 {p : Program} {l : Launch} {e : Env} {s : State} {m : MethodId} {args : Array Value} {below : List Frame} {meth : Method} {c : Code} {Y : zz_Y}  {Q : Int32 → zz_T → Prop} (X : zz_X p m c cX5_read 9 s args RX5) (hr : meth.sig.returnType = (some .int)) (hlk : meth.locks = false) (hJ : zz_J Y) (hY : zz_ho Y)  : ∀ (n : Nat) (x2 : Int32) (x3 : Int32) (x4 : Int32) (a5 : Nat) (x6 : Int32) (x7 : Int32) (x8 : Int32) (σ : zz_T), pX5_read_46  Q n x2 x3 x4 a5 x6 x7 x8 σ → zz_sh Y a5 → zz_V p l e rmX5_read s m args below meth c (MQ below (va_Qi Q (zz_E Y) (zz_A Y)) args s 0 0 (zz_A Y)) 9 Y σ 46 [(0, .ref (Y.2.1 0)), (2, .int x2), (3, .int x3), (4, .int x4), (5, .ref (Y.2.1 a5)), (6, .int x6), (7, .int x7), (8, .int x8)] [] := by
  intro n
  induction n with
  | zero => intro x2 x3 x4 a5 x6 x7 x8 σ h; exact h.elim
  | succ n ih =>
    intro x2 x3 x4 a5 x6 x7 x8 σ h h5a
    unfold pX5_read_46 at h
    refine zv_iload X dX5_read_46 7 rfl rfl ?_
    refine zv_iload X dX5_read_48 3 rfl rfl ?_
    refine zv_icmp_ge (tgt := 122) X dX5_read_50 (by decide) rfl (fun q50 => ?_) (fun q50 => ?_)
    · replace h := h.1 q50
      refine zv_sub (lv2 := [(0, .ref (Y.2.1 0)), (3, .int x3), (5, .ref (Y.2.1 a5)), (6, .int x6), (7, .int x7)]) [0, 2, 4, 5, 6] rfl ?_
      exact vX5_read_122 X hr hlk hJ hY x3 a5 x6 x7 _ h h5a
    · replace h := h.2 q50
      refine zv_iload X dX5_read_53 5 rfl rfl ?_
      refine zv_if_ne (tgt := 122) X dX5_read_55 (by decide) rfl (fun q55 => ?_) (fun q55 => ?_)
      · replace h := h.2 q55
        refine zv_sub (lv2 := [(0, .ref (Y.2.1 0)), (3, .int x3), (5, .ref (Y.2.1 a5)), (6, .int x6), (7, .int x7)]) [0, 2, 4, 5, 6] rfl ?_
        exact vX5_read_122 X hr hlk hJ hY x3 a5 x6 x7 _ h h5a
      · replace h := h.1 q55
        refine zv_aload X dX5_read_58 4 rfl rfl ?_
        refine zv_iload_n X dX5_read_60 1 rfl rfl rfl ?_
        refine zv_iload_n X dX5_read_61 2 rfl rfl rfl ?_
        refine zv_iload X dX5_read_62 7 rfl rfl ?_
        refine zv_cVi (k := a5) (ci := 3) X [.int x2, .int x3, .int x8] (kX3_pairFault l hJ x2 x3 x8 h5a h) jl_X5_273 ⟨rfl, rfl⟩ ⟨Nat.le_of_ble_eq_true rfl, Nat.le_of_ble_eq_true rfl⟩ h5a.1.1 (by decide) h5a.1.2 rfl rfl rfl (Nat.le_of_ble_eq_true rfl) dX5_read_64 rfl (fun r64 s64 h => ?_)
        refine zv_istore (lv2 := [(6, .int r64), (0, .ref (Y.2.1 0)), (2, .int x2), (3, .int x3), (4, .int x4), (5, .ref (Y.2.1 a5)), (7, .int x7), (8, .int x8)]) X dX5_read_67 (by decide) rfl rfl ?_
        refine zv_iload X dX5_read_69 0 rfl rfl ?_
        refine zv_if_ne (tgt := 116) X dX5_read_71 (by decide) rfl (fun q71 => ?_) (fun q71 => ?_)
        · replace h := h.2 q71
          refine zv_sub (lv2 := [(0, .ref (Y.2.1 0)), (2, .int x2), (3, .int x3), (4, .int x4), (5, .ref (Y.2.1 a5)), (6, .int r64), (7, .int x7), (8, .int x8)]) [1, 2, 3, 4, 5, 0, 6, 7] rfl ?_
          exact vX5_read_116 X hr hlk hJ hY ih x2 x3 x4 a5 r64 x7 x8 _ h h5a
        · replace h := h.1 q71
          refine zv_aload_n X dX5_read_74 1 rfl rfl rfl ?_
          refine zv_aload X dX5_read_75 5 rfl rfl ?_
          refine zg_X3_0 (k := a5) X h5a.1.1 h5a.1.2 fl_X5_276 dX5_read_77 rfl ?_
          refine zv_iload_n X dX5_read_80 3 rfl rfl rfl ?_
          refine zv_iconst (v := 2) X dX5_read_81 (by decide) rfl ?_
          refine zv_iload X dX5_read_82 7 rfl rfl ?_
          refine zv_imul X dX5_read_84 rfl ?_
          refine zv_iadd X dX5_read_85 rfl ?_
          obtain ⟨hi86, h⟩ := h
          refine zv_iald (k := (a5 + 1)) X h5a.2.1 h5a.2.2 hi86 dX5_read_86 rfl ?_
          refine zv_aload X dX5_read_87 5 rfl rfl ?_
          refine zg_X3_0 (k := a5) X h5a.1.1 h5a.1.2 fl_X5_276 dX5_read_89 rfl ?_
          refine zv_iload_n X dX5_read_92 3 rfl rfl rfl ?_
          refine zv_iconst (v := 2) X dX5_read_93 (by decide) rfl ?_
          refine zv_iload X dX5_read_94 7 rfl rfl ?_
          refine zv_imul X dX5_read_96 rfl ?_
          refine zv_iadd X dX5_read_97 rfl ?_
          refine zv_iconst (v := 1) X dX5_read_98 (by decide) rfl ?_
          refine zv_iadd X dX5_read_99 rfl ?_
          obtain ⟨hi100, h⟩ := h
          refine zv_iald (k := (a5 + 1)) X h5a.2.1 h5a.2.2 hi100 dX5_read_100 rfl ?_
          refine zv_cVi (k := 0) (ci := 5) X [.int (s64.1 (a5 + 1) (Int32.toNatClampNeg (x3 + (2 * x8)))), .int (s64.1 (a5 + 1) (Int32.toNatClampNeg ((x3 + (2 * x8)) + 1)))] (kX5_lineRefused l hJ (s64.1 (a5 + 1) (Int32.toNatClampNeg (x3 + (2 * x8)))) (s64.1 (a5 + 1) (Int32.toNatClampNeg ((x3 + (2 * x8)) + 1))) hY h) jl_X5_153 ⟨rfl, rfl⟩ ⟨Nat.le_of_ble_eq_true rfl, Nat.le_of_ble_eq_true rfl⟩ (zz_ho_o hY).1 (by decide) (zz_ho_o hY).2 rfl rfl rfl (Nat.le_of_ble_eq_true rfl) dX5_read_101 rfl (fun r101 s101 h => ?_)
          refine zv_if_eq (tgt := 113) X dX5_read_104 (by decide) rfl (fun q104 => ?_) (fun q104 => ?_)
          · replace h := h.1 q104
            refine zv_iinc (v := (x7 + 1)) (lv2 := [(7, .int (x7 + 1)), (6, .int r64), (0, .ref (Y.2.1 0)), (2, .int x2), (3, .int x3), (4, .int x4), (5, .ref (Y.2.1 a5)), (8, .int x8)]) X dX5_read_113 6 rfl rfl (by decide) rfl rfl ?_
            refine zv_sub (lv2 := [(0, .ref (Y.2.1 0)), (2, .int x2), (3, .int x3), (4, .int x4), (5, .ref (Y.2.1 a5)), (6, .int r64), (7, .int (x7 + 1)), (8, .int x8)]) [2, 3, 4, 5, 6, 1, 0, 7] rfl ?_
            exact vX5_read_116 X hr hlk hJ hY ih x2 x3 x4 a5 r64 (x7 + 1) x8 _ h h5a
          · replace h := h.2 q104
            refine zv_bipush (v := (-20)) X dX5_read_107 (by decide) rfl ?_
            refine zv_iload X dX5_read_109 7 rfl rfl ?_
            refine zv_isub X dX5_read_111 rfl ?_
            exact zv_iret X hr hlk h dX5_read_112
def pX5_read (x1 : Int32) (x2 : Int32) (x3 : Int32) (x4 : Int32) (σ : zz_T) (Q : Int32 → zz_T → Prop) : Prop :=
    pX5_noSheet x1 σ (fun r1 s1 =>
    ((r1 = 0 → pX5_outside x2 0 2 s1 (fun r10 s10 =>
    ((r10 = 0 → pX5_outside x4 0 20 s10 (fun r21 s21 =>
    ((r21 = 0 → vp_in x1 4 ∧
    ∃ n46, pX5_read_46  Q n46 x2 x3 x4 (80 + 2 * (Int32.toNatClampNeg x1)) 0 0 0 s21) ∧
    (¬ r21 = 0 → Q (-1) s21)))) ∧
    (¬ r10 = 0 → Q (-1) s10)))) ∧
    (¬ r1 = 0 → Q (-1) s1)))
set_option maxHeartbeats 4000000 in
set_option maxRecDepth 100000 in
theorem kX5_read (l : Launch) {Y : zz_Y} (hJ : zz_J Y) (x1 : Int32) (x2 : Int32) (x3 : Int32) (x4 : Int32) (hY : zz_ho Y) {σ : zz_T} {Q : Int32 → zz_T → Prop} (h : pX5_read x1 x2 x3 x4 σ Q) : zz_Mi l yX5_read cX5_read 9 (some .int) rmX5_read Y [.ref (Y.2.1 0), .int x1, .int x2, .int x3, .int x4] σ Q := by
  refine zz_Mi.start (by decide) hJ (Nat.le_of_ble_eq_true rfl) (fun p e s m below meth c X hr hlk => ?_)
  have X : zz_X p m c cX5_read 9 s _ RX5 := X
  refine zv_sub (lv2 := [(0, .ref (Y.2.1 0)), (1, .int x1), (2, .int x2), (3, .int x3), (4, .int x4)]) [0, 1, 2, 3, 4] rfl ?_
  unfold pX5_read at h
  refine zv_iload_n X dX5_read_0 1 rfl rfl rfl ?_
  refine zv_cSi X [.int x1] (kX5_noSheet l hJ x1  h) jl_X5_258 ⟨rfl, rfl⟩ ⟨Nat.le_of_ble_eq_true rfl, Nat.le_of_ble_eq_true rfl⟩ rfl rfl (Nat.le_of_ble_eq_true rfl) dX5_read_1 rfl (fun r1 s1 h => ?_)
  refine zv_if_ne (tgt := 27) X dX5_read_4 (by decide) rfl (fun q4 => ?_) (fun q4 => ?_)
  · replace h := h.2 q4
    refine zv_iconst (v := (-1)) X dX5_read_27 (by decide) rfl ?_
    exact zv_iret X hr hlk h dX5_read_28
  · replace h := h.1 q4
    refine zv_iload_n X dX5_read_7 2 rfl rfl rfl ?_
    refine zv_iconst (v := 0) X dX5_read_8 (by decide) rfl ?_
    refine zv_iconst (v := 2) X dX5_read_9 (by decide) rfl ?_
    refine zv_cSi X [.int x2, .int 0, .int 2] (kX5_outside l hJ x2 0 2  h) jl_X5_58 ⟨rfl, rfl⟩ ⟨Nat.le_of_ble_eq_true rfl, Nat.le_of_ble_eq_true rfl⟩ rfl rfl (Nat.le_of_ble_eq_true rfl) dX5_read_10 rfl (fun r10 s10 h => ?_)
    refine zv_if_ne (tgt := 27) X dX5_read_13 (by decide) rfl (fun q13 => ?_) (fun q13 => ?_)
    · replace h := h.2 q13
      refine zv_iconst (v := (-1)) X dX5_read_27 (by decide) rfl ?_
      exact zv_iret X hr hlk h dX5_read_28
    · replace h := h.1 q13
      refine zv_iload X dX5_read_16 4 rfl rfl ?_
      refine zv_iconst (v := 0) X dX5_read_18 (by decide) rfl ?_
      refine zv_bipush (v := 20) X dX5_read_19 (by decide) rfl ?_
      refine zv_cSi X [.int x4, .int 0, .int 20] (kX5_outside l hJ x4 0 20  h) jl_X5_58 ⟨rfl, rfl⟩ ⟨Nat.le_of_ble_eq_true rfl, Nat.le_of_ble_eq_true rfl⟩ rfl rfl (Nat.le_of_ble_eq_true rfl) dX5_read_21 rfl (fun r21 s21 h => ?_)
      refine zv_if_eq (tgt := 29) X dX5_read_24 (by decide) rfl (fun q24 => ?_) (fun q24 => ?_)
      · replace h := h.1 q24
        refine zv_aload_n X dX5_read_29 0 rfl rfl rfl ?_
        refine zg_X5_6 (k := 0) X (zz_ho_o hY).1 (zz_ho_o hY).2 fl_X5_43 dX5_read_30 rfl ?_
        refine zv_iload_n X dX5_read_33 1 rfl rfl rfl ?_
        obtain ⟨hi34, h⟩ := h
        refine zv_aald5 (k := 42) X (zz_ho_sheets hY).1 (zz_ho_sheets hY).2 hi34 dX5_read_34 rfl ?_
        refine zv_astore (lv2 := [(5, .ref (Y.2.1 (80 + 2 * (Int32.toNatClampNeg x1)))), (0, .ref (Y.2.1 0)), (1, .int x1), (2, .int x2), (3, .int x3), (4, .int x4)]) X dX5_read_35 (by decide) rfl rfl ?_
        refine zv_iconst (v := 0) X dX5_read_37 (by decide) rfl ?_
        refine zv_istore (lv2 := [(6, .int 0), (5, .ref (Y.2.1 (80 + 2 * (Int32.toNatClampNeg x1)))), (0, .ref (Y.2.1 0)), (1, .int x1), (2, .int x2), (3, .int x3), (4, .int x4)]) X dX5_read_38 (by decide) rfl rfl ?_
        refine zv_iconst (v := 0) X dX5_read_40 (by decide) rfl ?_
        refine zv_istore (lv2 := [(7, .int 0), (6, .int 0), (5, .ref (Y.2.1 (80 + 2 * (Int32.toNatClampNeg x1)))), (0, .ref (Y.2.1 0)), (1, .int x1), (2, .int x2), (3, .int x3), (4, .int x4)]) X dX5_read_41 (by decide) rfl rfl ?_
        refine zv_iconst (v := 0) X dX5_read_43 (by decide) rfl ?_
        refine zv_istore (lv2 := [(8, .int 0), (7, .int 0), (6, .int 0), (5, .ref (Y.2.1 (80 + 2 * (Int32.toNatClampNeg x1)))), (0, .ref (Y.2.1 0)), (1, .int x1), (2, .int x2), (3, .int x3), (4, .int x4)]) X dX5_read_44 (by decide) rfl rfl ?_
        obtain ⟨n46, h⟩ := h
        refine zv_sub (lv2 := [(0, .ref (Y.2.1 0)), (2, .int x2), (3, .int x3), (4, .int x4), (5, .ref (Y.2.1 (80 + 2 * (Int32.toNatClampNeg x1)))), (6, .int 0), (7, .int 0), (8, .int 0)]) [4, 6, 7, 8, 3, 2, 1, 0] rfl ?_
        exact vX5_read_46 X hr hlk hJ hY n46 x2 x3 x4 (80 + 2 * (Int32.toNatClampNeg x1)) 0 0 0 _ h (zz_ho_sh hY _ (zz_lt hi34))
      · replace h := h.2 q24
        refine zv_iconst (v := (-1)) X dX5_read_27 (by decide) rfl ?_
        exact zv_iret X hr hlk h dX5_read_28
def rmX5_torn : Room := { frames := 0, cells := 0, slots := 0, locals := 0 }
def pX5_torn  (σ : zz_T) (Q : Int32 → zz_T → Prop) : Prop :=
    Q (σ.1 0 10) σ
set_option maxHeartbeats 4000000 in
set_option maxRecDepth 100000 in
theorem kX5_torn (l : Launch) {Y : zz_Y} (hJ : zz_J Y)  (hY : zz_ho Y) {σ : zz_T} {Q : Int32 → zz_T → Prop} (h : pX5_torn  σ Q) : zz_Mi l yX5_torn cX5_torn 1 (some .int) rmX5_torn Y [.ref (Y.2.1 0)] σ Q := by
  refine zz_Mi.start (by decide) hJ (Nat.le_of_ble_eq_true rfl) (fun p e s m below meth c X hr hlk => ?_)
  have X : zz_X p m c cX5_torn 1 s _ RX5 := X
  refine zv_sub (lv2 := [(0, .ref (Y.2.1 0))]) [0] rfl ?_
  unfold pX5_torn at h
  refine zv_aload_n X dX5_torn_0 0 rfl rfl rfl ?_
  refine zg_X5_10 (k := 0) X (zz_ho_o hY).1 (zz_ho_o hY).2 fl_X5_279 dX5_torn_1 rfl ?_
  exact zv_iret X hr hlk h dX5_torn_4
def rmX5_count : Room := { frames := 2, cells := 0, slots := 0, locals := 42 }
def pX5_count_65  (Q : Int32 → zz_T → Prop) (t0 : Int32) (σ : zz_T) : Prop :=
    vp_in 1 2 ∧
    (((σ.1 41 (Int32.toNatClampNeg 1)) = 0 → Q (t0 + 0) σ) ∧
    (¬ (σ.1 41 (Int32.toNatClampNeg 1)) = 0 → Q (t0 + 1) σ))
set_option maxHeartbeats 4000000 in
set_option maxRecDepth 100000 in
theorem vX5_count_65 {p : Program} {l : Launch} {e : Env} {s : State} {m : MethodId} {args : Array Value} {below : List Frame} {meth : Method} {c : Code} {Y : zz_Y}  {Q : Int32 → zz_T → Prop} (X : zz_X p m c cX5_count 2 s args RX5) (hr : meth.sig.returnType = (some .int)) (hlk : meth.locks = false) (hJ : zz_J Y) (hY : zz_ho Y)  : ∀ (t0 : Int32) (σ : zz_T), pX5_count_65  Q t0 σ → zz_V p l e rmX5_count s m args below meth c (MQ below (va_Qi Q (zz_E Y) (zz_A Y)) args s 0 0 (zz_A Y)) 2 Y σ 65 [(0, .ref (Y.2.1 0))] [.int t0] := by
  intro t0 σ h 
  unfold pX5_count_65 at h
  refine zv_aload_n X dX5_count_65 0 rfl rfl rfl ?_
  refine zg_X5_5 (k := 0) X (zz_ho_o hY).1 (zz_ho_o hY).2 fl_X5_37 dX5_count_66 rfl ?_
  refine zv_iconst (v := 1) X dX5_count_69 (by decide) rfl ?_
  obtain ⟨hi70, h⟩ := h
  refine zv_zald (k := 41) X (zz_ho_kept hY).1 (zz_ho_kept hY).2 hi70 dX5_count_70 rfl ?_
  refine zv_if_eq (tgt := 78) X dX5_count_71 (by decide) rfl (fun q71 => ?_) (fun q71 => ?_)
  · replace h := h.1 q71
    refine zv_iconst (v := 0) X dX5_count_78 (by decide) rfl ?_
    refine zv_iadd X dX5_count_79 rfl ?_
    exact zv_iret X hr hlk h dX5_count_80
  · replace h := h.2 q71
    refine zv_iconst (v := 1) X dX5_count_74 (by decide) rfl ?_
    refine zv_goto (tgt := 79) X dX5_count_75 (by decide) ?_
    refine zv_iadd X dX5_count_79 rfl ?_
    exact zv_iret X hr hlk h dX5_count_80
def pX5_count (x1 : Int32) (σ : zz_T) (Q : Int32 → zz_T → Prop) : Prop :=
    ((x1 = 0 → Q (σ.1 7 3) σ) ∧
    (¬ x1 = 0 → ((x1 = 1 → vp_in 0 2 ∧
    (((σ.1 41 (Int32.toNatClampNeg 0)) = 0 → pX5_count_65  Q 0 σ) ∧
    (¬ (σ.1 41 (Int32.toNatClampNeg 0)) = 0 → pX5_count_65  Q 1 σ))) ∧
    (¬ x1 = 1 → ((x1 = 2 → Q (σ.1 1 1) σ) ∧
    (¬ x1 = 2 → ((x1 = 3 → vp_in 0 4 ∧
    (((σ.1 (80 + 2 * (Int32.toNatClampNeg 0)) 1) = 0 → Q (-4) σ) ∧
    (¬ (σ.1 (80 + 2 * (Int32.toNatClampNeg 0)) 1) = 0 → vp_in 0 4 ∧
    Q (σ.1 (80 + 2 * (Int32.toNatClampNeg 0)) 3) σ))) ∧
    (¬ x1 = 3 → ((x1 = 4 → pX1_powerOfAll 3 σ (fun r120 s120 =>
    Q r120 s120)) ∧
    (¬ x1 = 4 → ((x1 = 5 → pX1_wantedOfAll 3 σ (fun r128 s128 =>
    Q r128 s128)) ∧
    (¬ x1 = 5 → Q (-1) σ))))))))))))
set_option maxHeartbeats 4000000 in
set_option maxRecDepth 100000 in
theorem kX5_count (l : Launch) {Y : zz_Y} (hJ : zz_J Y) (x1 : Int32) (hY : zz_ho Y) {σ : zz_T} {Q : Int32 → zz_T → Prop} (h : pX5_count x1 σ Q) : zz_Mi l yX5_count cX5_count 2 (some .int) rmX5_count Y [.ref (Y.2.1 0), .int x1] σ Q := by
  refine zz_Mi.start (by decide) hJ (Nat.le_of_ble_eq_true rfl) (fun p e s m below meth c X hr hlk => ?_)
  have X : zz_X p m c cX5_count 2 s _ RX5 := X
  refine zv_sub (lv2 := [(0, .ref (Y.2.1 0)), (1, .int x1)]) [0, 1] rfl ?_
  unfold pX5_count at h
  refine zv_iload_n X dX5_count_0 1 rfl rfl rfl ?_
  by_cases e1_0 : x1 = 0
  · replace h := h.1 e1_0
    refine zv_tableIn (tgt := 40) X 0 dX5_count_1 e1_0 ⟨⟨by decide, by decide⟩, rfl⟩ (by decide) ?_
    refine zv_aload_n X dX5_count_40 0 rfl rfl rfl ?_
    refine zg_X5_1 (k := 0) X (zz_ho_o hY).1 (zz_ho_o hY).2 fl_X5_19 dX5_count_41 rfl ?_
    refine zg_X1_3 (k := 3) X (zz_ho_now hY).1.1 (zz_ho_now hY).1.2 fl_X5_226 dX5_count_44 rfl ?_
    refine zg_X2_3 (k := 7) X (zz_ho_now hY).2.2.2.2.1.1.1 (zz_ho_now hY).2.2.2.2.1.1.2 fl_X5_230 dX5_count_47 rfl ?_
    exact zv_iret X hr hlk h dX5_count_50
  · replace h := h.2 e1_0
    by_cases e1_1 : x1 = 1
    · replace h := h.1 e1_1
      refine zv_tableIn (tgt := 51) X 1 dX5_count_1 e1_1 ⟨⟨by decide, by decide⟩, rfl⟩ (by decide) ?_
      refine zv_aload_n X dX5_count_51 0 rfl rfl rfl ?_
      refine zg_X5_5 (k := 0) X (zz_ho_o hY).1 (zz_ho_o hY).2 fl_X5_37 dX5_count_52 rfl ?_
      refine zv_iconst (v := 0) X dX5_count_55 (by decide) rfl ?_
      obtain ⟨hi56, h⟩ := h
      refine zv_zald (k := 41) X (zz_ho_kept hY).1 (zz_ho_kept hY).2 hi56 dX5_count_56 rfl ?_
      refine zv_if_eq (tgt := 64) X dX5_count_57 (by decide) rfl (fun q57 => ?_) (fun q57 => ?_)
      · replace h := h.1 q57
        refine zv_iconst (v := 0) X dX5_count_64 (by decide) rfl ?_
        refine zv_sub (lv2 := [(0, .ref (Y.2.1 0))]) [0] rfl ?_
        exact vX5_count_65 X hr hlk hJ hY 0 _ h
      · replace h := h.2 q57
        refine zv_iconst (v := 1) X dX5_count_60 (by decide) rfl ?_
        refine zv_goto (tgt := 65) X dX5_count_61 (by decide) ?_
        refine zv_sub (lv2 := [(0, .ref (Y.2.1 0))]) [0] rfl ?_
        exact vX5_count_65 X hr hlk hJ hY 1 _ h
    · replace h := h.2 e1_1
      by_cases e1_2 : x1 = 2
      · replace h := h.1 e1_2
        refine zv_tableIn (tgt := 81) X 2 dX5_count_1 e1_2 ⟨⟨by decide, by decide⟩, rfl⟩ (by decide) ?_
        refine zv_aload_n X dX5_count_81 0 rfl rfl rfl ?_
        refine zg_X5_0 (k := 0) X (zz_ho_o hY).1 (zz_ho_o hY).2 fl_X5_10 dX5_count_82 rfl ?_
        refine zg_X4_1 (k := 1) X (zz_ho_tape hY).1.1 (zz_ho_tape hY).1.2 fl_X5_62 dX5_count_85 rfl ?_
        exact zv_iret X hr hlk h dX5_count_88
      · replace h := h.2 e1_2
        by_cases e1_3 : x1 = 3
        · replace h := h.1 e1_3
          refine zv_tableIn (tgt := 89) X 3 dX5_count_1 e1_3 ⟨⟨by decide, by decide⟩, rfl⟩ (by decide) ?_
          refine zv_aload_n X dX5_count_89 0 rfl rfl rfl ?_
          refine zg_X5_6 (k := 0) X (zz_ho_o hY).1 (zz_ho_o hY).2 fl_X5_43 dX5_count_90 rfl ?_
          refine zv_iconst (v := 0) X dX5_count_93 (by decide) rfl ?_
          obtain ⟨hi94, h⟩ := h
          refine zv_aald5 (k := 42) X (zz_ho_sheets hY).1 (zz_ho_sheets hY).2 hi94 dX5_count_94 rfl ?_
          refine zg_X3_1 (k := (80 + 2 * (Int32.toNatClampNeg 0))) X (zz_ho_sh hY _ (zz_lt hi94)).1.1 (zz_ho_sh hY _ (zz_lt hi94)).1.2 fl_X5_282 dX5_count_95 rfl ?_
          refine zv_if_eq (tgt := 113) X dX5_count_98 (by decide) rfl (fun q98 => ?_) (fun q98 => ?_)
          · replace h := h.1 q98
            refine zv_bipush (v := (-4)) X dX5_count_113 (by decide) rfl ?_
            exact zv_iret X hr hlk h dX5_count_115
          · replace h := h.2 q98
            refine zv_aload_n X dX5_count_101 0 rfl rfl rfl ?_
            refine zg_X5_6 (k := 0) X (zz_ho_o hY).1 (zz_ho_o hY).2 fl_X5_43 dX5_count_102 rfl ?_
            refine zv_iconst (v := 0) X dX5_count_105 (by decide) rfl ?_
            obtain ⟨hi106, h⟩ := h
            refine zv_aald5 (k := 42) X (zz_ho_sheets hY).1 (zz_ho_sheets hY).2 hi106 dX5_count_106 rfl ?_
            refine zg_X3_3 (k := (80 + 2 * (Int32.toNatClampNeg 0))) X (zz_ho_sh hY _ (zz_lt hi106)).1.1 (zz_ho_sh hY _ (zz_lt hi106)).1.2 fl_X5_286 dX5_count_107 rfl ?_
            refine zv_goto (tgt := 115) X dX5_count_110 (by decide) ?_
            exact zv_iret X hr hlk h dX5_count_115
        · replace h := h.2 e1_3
          by_cases e1_4 : x1 = 4
          · replace h := h.1 e1_4
            refine zv_tableIn (tgt := 116) X 4 dX5_count_1 e1_4 ⟨⟨by decide, by decide⟩, rfl⟩ (by decide) ?_
            refine zv_aload_n X dX5_count_116 0 rfl rfl rfl ?_
            refine zg_X5_1 (k := 0) X (zz_ho_o hY).1 (zz_ho_o hY).2 fl_X5_19 dX5_count_117 rfl ?_
            refine zv_cVi (k := 3) (ci := 1) X [] (kX1_powerOfAll l hJ  (zz_ho_now hY) h) jl_X5_287 ⟨rfl, rfl⟩ ⟨Nat.le_of_ble_eq_true rfl, Nat.le_of_ble_eq_true rfl⟩ (zz_ho_now hY).1.1 (by decide) (zz_ho_now hY).1.2 rfl rfl rfl (Nat.le_of_ble_eq_true rfl) dX5_count_120 rfl (fun r120 s120 h => ?_)
            exact zv_iret X hr hlk h dX5_count_123
          · replace h := h.2 e1_4
            by_cases e1_5 : x1 = 5
            · replace h := h.1 e1_5
              refine zv_tableIn (tgt := 124) X 5 dX5_count_1 e1_5 ⟨⟨by decide, by decide⟩, rfl⟩ (by decide) ?_
              refine zv_aload_n X dX5_count_124 0 rfl rfl rfl ?_
              refine zg_X5_1 (k := 0) X (zz_ho_o hY).1 (zz_ho_o hY).2 fl_X5_19 dX5_count_125 rfl ?_
              refine zv_cVi (k := 3) (ci := 1) X [] (kX1_wantedOfAll l hJ  (zz_ho_now hY) h) jl_X5_290 ⟨rfl, rfl⟩ ⟨Nat.le_of_ble_eq_true rfl, Nat.le_of_ble_eq_true rfl⟩ (zz_ho_now hY).1.1 (by decide) (zz_ho_now hY).1.2 rfl rfl rfl (Nat.le_of_ble_eq_true rfl) dX5_count_128 rfl (fun r128 s128 h => ?_)
              exact zv_iret X hr hlk h dX5_count_131
            · replace h := h.2 e1_5
              refine zv_tableOut (tgt := 132) X dX5_count_1 (by have := zz_nt e1_0 (z := 0) rfl; have := zz_nt e1_1 (z := 1) rfl; have := zz_nt e1_2 (z := 2) rfl; have := zz_nt e1_3 (z := 3) rfl; have := zz_nt e1_4 (z := 4) rfl; have := zz_nt e1_5 (z := 5) rfl; omega) (by decide) ?_
              refine zv_iconst (v := (-1)) X dX5_count_132 (by decide) rfl ?_
              exact zv_iret X hr hlk h dX5_count_133
