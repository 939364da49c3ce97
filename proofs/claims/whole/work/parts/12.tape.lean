def rmX4_nameOf : Room := { frames := 0, cells := 0, slots := 0, locals := 0 }
def pX4_nameOf (x0 : Int32) (σ : zz_T) (Q : Nat → zz_T → Prop) : Prop :=
    ((x0 = 0 → Q 0 σ) ∧
    (¬ x0 = 0 → ((x0 = 1 → Q 1 σ) ∧
    (¬ x0 = 1 → ((x0 = 2 → Q 2 σ) ∧
    (¬ x0 = 2 → ((x0 = 3 → Q 3 σ) ∧
    (¬ x0 = 3 → ((x0 = 4 → Q 4 σ) ∧
    (¬ x0 = 4 → ((x0 = 5 → Q 5 σ) ∧
    (¬ x0 = 5 → ((x0 = 6 → Q 6 σ) ∧
    (¬ x0 = 6 → Q 7 σ))))))))))))))
set_option maxHeartbeats 4000000 in
set_option maxRecDepth 100000 in
theorem kX4_nameOf (l : Launch) {Y : zz_Y} (hJ : zz_J Y) (x0 : Int32)  {σ : zz_T} {Q : Nat → zz_T → Prop} (h : pX4_nameOf x0 σ Q) : zz_Ms l yX4_nameOf cX4_nameOf 1 (some (.object "java/lang/String")) rmX4_nameOf Y [.int x0] σ Q := by
  refine zz_Ms.start (by decide) hJ (Nat.le_of_ble_eq_true rfl) (fun p e s m below meth c X hr hlk => ?_)
  have X : zz_X p m c cX4_nameOf 1 s _ RX4 := X
  refine zv_sub (lv2 := [(0, .int x0)]) [0] rfl ?_
  unfold pX4_nameOf at h
  refine zv_iload_n X dX4_nameOf_0 0 rfl rfl rfl ?_
  by_cases e1_0 : x0 = 0
  · replace h := h.1 e1_0
    refine zv_tableIn (tgt := 44) X 0 dX4_nameOf_1 e1_0 ⟨⟨by decide, by decide⟩, rfl⟩ (by decide) ?_
    refine zv_ldcS X 0 (by decide) dX4_nameOf_44 rfl ?_
    exact zv_sret X hr hlk (by decide) h dX4_nameOf_46
  · replace h := h.2 e1_0
    by_cases e1_1 : x0 = 1
    · replace h := h.1 e1_1
      refine zv_tableIn (tgt := 47) X 1 dX4_nameOf_1 e1_1 ⟨⟨by decide, by decide⟩, rfl⟩ (by decide) ?_
      refine zv_ldcS X 1 (by decide) dX4_nameOf_47 rfl ?_
      exact zv_sret X hr hlk (by decide) h dX4_nameOf_49
    · replace h := h.2 e1_1
      by_cases e1_2 : x0 = 2
      · replace h := h.1 e1_2
        refine zv_tableIn (tgt := 50) X 2 dX4_nameOf_1 e1_2 ⟨⟨by decide, by decide⟩, rfl⟩ (by decide) ?_
        refine zv_ldcS X 2 (by decide) dX4_nameOf_50 rfl ?_
        exact zv_sret X hr hlk (by decide) h dX4_nameOf_52
      · replace h := h.2 e1_2
        by_cases e1_3 : x0 = 3
        · replace h := h.1 e1_3
          refine zv_tableIn (tgt := 53) X 3 dX4_nameOf_1 e1_3 ⟨⟨by decide, by decide⟩, rfl⟩ (by decide) ?_
          refine zv_ldcS X 3 (by decide) dX4_nameOf_53 rfl ?_
          exact zv_sret X hr hlk (by decide) h dX4_nameOf_55
        · replace h := h.2 e1_3
          by_cases e1_4 : x0 = 4
          · replace h := h.1 e1_4
            refine zv_tableIn (tgt := 56) X 4 dX4_nameOf_1 e1_4 ⟨⟨by decide, by decide⟩, rfl⟩ (by decide) ?_
            refine zv_ldcS X 4 (by decide) dX4_nameOf_56 rfl ?_
            exact zv_sret X hr hlk (by decide) h dX4_nameOf_58
          · replace h := h.2 e1_4
            by_cases e1_5 : x0 = 5
            · replace h := h.1 e1_5
              refine zv_tableIn (tgt := 59) X 5 dX4_nameOf_1 e1_5 ⟨⟨by decide, by decide⟩, rfl⟩ (by decide) ?_
              refine zv_ldcS X 5 (by decide) dX4_nameOf_59 rfl ?_
              exact zv_sret X hr hlk (by decide) h dX4_nameOf_61
            · replace h := h.2 e1_5
              by_cases e1_6 : x0 = 6
              · replace h := h.1 e1_6
                refine zv_tableIn (tgt := 62) X 6 dX4_nameOf_1 e1_6 ⟨⟨by decide, by decide⟩, rfl⟩ (by decide) ?_
                refine zv_ldcS X 6 (by decide) dX4_nameOf_62 rfl ?_
                exact zv_sret X hr hlk (by decide) h dX4_nameOf_64
              · replace h := h.2 e1_6
                refine zv_tableOut (tgt := 65) X dX4_nameOf_1 (by have := zz_nt e1_0 (z := 0) rfl; have := zz_nt e1_1 (z := 1) rfl; have := zz_nt e1_2 (z := 2) rfl; have := zz_nt e1_3 (z := 3) rfl; have := zz_nt e1_4 (z := 4) rfl; have := zz_nt e1_5 (z := 5) rfl; have := zz_nt e1_6 (z := 6) rfl; omega) (by decide) ?_
                refine zv_ldcS X 7 (by decide) dX4_nameOf_65 rfl ?_
                exact zv_sret X hr hlk (by decide) h dX4_nameOf_67
def rmX4_isName : Room := { frames := 4, cells := 0, slots := 0, locals := 85 }
def pX4_isName_20 (k : Nat) (c1 : Nat) (Q : Int32 → zz_T → Prop) : Nat → Int32 → zz_T → Prop
  | 0, _, _ => False
  | n + 1, x2, σ =>
    pJ0_length_8abf5 c1 σ (fun r22 s22 =>
    ((r22 ≤ x2 → (zz_bo 1 ∧ Q 1 s22)) ∧
    (¬ r22 ≤ x2 → vp_in ((s22.1 k 5) + x2) 160 ∧
    pJ0_charAt_5068e c1 x2 s22 (fun r41 s41 =>
    (((s22.1 (k + 1) (Int32.toNatClampNeg ((s22.1 k 5) + x2))) = r41 → pX4_isName_20 k c1 Q n (x2 + 1) s41) ∧
    (¬ (s22.1 (k + 1) (Int32.toNatClampNeg ((s22.1 k 5) + x2))) = r41 → (zz_bo 0 ∧ Q 0 s41)))))))
set_option maxHeartbeats 4000000 in
set_option maxRecDepth 100000 in
theorem vX4_isName_20 {p : Program} {l : Launch} {e : Env} {s : State} {m : MethodId} {args : Array Value} {below : List Frame} {meth : Method} {c : Code} {Y : zz_Y} {k : Nat} {c1 : Nat} {Q : Int32 → zz_T → Prop} (X : zz_X p m c cX4_isName 3 s args RX4) (hr : meth.sig.returnType = (some .boolean)) (hlk : meth.locks = false) (hJ : zz_J Y) (hY : zz_tp Y k) (h1 : c1 < 8)  : ∀ (n : Nat) (x2 : Int32) (σ : zz_T), pX4_isName_20 k c1 Q n x2 σ → zz_V p l e rmX4_isName s m args below meth c (MQ below (va_Qi Q (zz_E Y) (zz_A Y)) args s 0 0 (zz_A Y)) 3 Y σ 20 [(0, .ref (Y.2.1 k)), (1, .ref (Y.2.2.2 (10 + c1))), (2, .int x2)] [] := by
  intro n
  induction n with
  | zero => intro x2 σ h; exact h.elim
  | succ n ih =>
    intro x2 σ h 
    unfold pX4_isName_20 at h
    refine zv_iload_n X dX4_isName_20 2 rfl rfl rfl ?_
    refine zv_aload_n X dX4_isName_21 1 rfl rfl rfl ?_
    refine zv_cTi X [] (kJ0_length_8abf5 l hJ  h1 h) jl_X4_77 ⟨rfl, rfl⟩ ⟨Nat.le_of_ble_eq_true rfl, Nat.le_of_ble_eq_true rfl⟩ h1 rfl rfl rfl (Nat.le_of_ble_eq_true rfl) dX4_isName_22 rfl (fun r22 s22 h => ?_)
    refine zv_icmp_ge (tgt := 55) X dX4_isName_25 (by decide) rfl (fun q25 => ?_) (fun q25 => ?_)
    · replace h := h.1 q25
      refine zv_iconst (v := 1) X dX4_isName_55 (by decide) rfl ?_
      exact zv_zret X hr hlk h dX4_isName_56
    · replace h := h.2 q25
      refine zv_aload_n X dX4_isName_28 0 rfl rfl rfl ?_
      refine zg_X4_0 (k := k) X hY.1.1 hY.1.2 fl_X4_11 dX4_isName_29 rfl ?_
      refine zv_aload_n X dX4_isName_32 0 rfl rfl rfl ?_
      refine zg_X4_5 (k := k) X hY.1.1 hY.1.2 fl_X4_57 dX4_isName_33 rfl ?_
      refine zv_iload_n X dX4_isName_36 2 rfl rfl rfl ?_
      refine zv_iadd X dX4_isName_37 rfl ?_
      obtain ⟨hi38, h⟩ := h
      refine zv_bald (k := (k + 1)) X hY.2.1 hY.2.2 hi38 dX4_isName_38 rfl ?_
      refine zv_aload_n X dX4_isName_39 1 rfl rfl rfl ?_
      refine zv_iload_n X dX4_isName_40 2 rfl rfl rfl ?_
      refine zv_cTi X [.int x2] (kJ0_charAt_5068e l hJ x2 h1 h) jl_X4_83 ⟨rfl, rfl⟩ ⟨Nat.le_of_ble_eq_true rfl, Nat.le_of_ble_eq_true rfl⟩ h1 rfl rfl rfl (Nat.le_of_ble_eq_true rfl) dX4_isName_41 rfl (fun r41 s41 h => ?_)
      refine zv_icmp_eq (tgt := 49) X dX4_isName_44 (by decide) rfl (fun q44 => ?_) (fun q44 => ?_)
      · replace h := h.1 q44
        refine zv_iinc (v := (x2 + 1)) (lv2 := [(2, .int (x2 + 1)), (0, .ref (Y.2.1 k)), (1, .ref (Y.2.2.2 (10 + c1)))]) X dX4_isName_49 2 rfl rfl (by decide) rfl rfl ?_
        refine zv_goto (tgt := 20) X dX4_isName_52 (by decide) ?_
        refine zv_sub (lv2 := [(0, .ref (Y.2.1 k)), (1, .ref (Y.2.2.2 (10 + c1))), (2, .int (x2 + 1))]) [1, 2, 0] rfl ?_
        exact ih (x2 + 1) _ h
      · replace h := h.2 q44
        refine zv_iconst (v := 0) X dX4_isName_47 (by decide) rfl ?_
        exact zv_zret X hr hlk h dX4_isName_48
def pX4_isName (k : Nat) (c1 : Nat) (σ : zz_T) (Q : Int32 → zz_T → Prop) : Prop :=
    pJ0_length_8abf5 c1 σ (fun r1 s1 =>
    ((r1 = ((s1.1 k 6) - (s1.1 k 5)) → ∃ n20, pX4_isName_20 k c1 Q n20 0 s1) ∧
    (¬ r1 = ((s1.1 k 6) - (s1.1 k 5)) → (zz_bo 0 ∧ Q 0 s1))))
set_option maxHeartbeats 4000000 in
set_option maxRecDepth 100000 in
theorem kX4_isName (l : Launch) {Y : zz_Y} (hJ : zz_J Y) {k : Nat} {c1 : Nat} (hY : zz_tp Y k) (h1 : c1 < 8) {σ : zz_T} {Q : Int32 → zz_T → Prop} (h : pX4_isName k c1 σ Q) : zz_Mi l yX4_isName cX4_isName 3 (some .boolean) rmX4_isName Y [.ref (Y.2.1 k), .ref (Y.2.2.2 (10 + c1))] σ Q := by
  refine zz_Mi.start (by decide) hJ (Nat.le_of_ble_eq_true rfl) (fun p e s m below meth c X hr hlk => ?_)
  have X : zz_X p m c cX4_isName 3 s _ RX4 := X
  refine zv_sub (lv2 := [(0, .ref (Y.2.1 k)), (1, .ref (Y.2.2.2 (10 + c1)))]) [0, 1] rfl ?_
  unfold pX4_isName at h
  refine zv_aload_n X dX4_isName_0 1 rfl rfl rfl ?_
  refine zv_cTi X [] (kJ0_length_8abf5 l hJ  h1 h) jl_X4_77 ⟨rfl, rfl⟩ ⟨Nat.le_of_ble_eq_true rfl, Nat.le_of_ble_eq_true rfl⟩ h1 rfl rfl rfl (Nat.le_of_ble_eq_true rfl) dX4_isName_1 rfl (fun r1 s1 h => ?_)
  refine zv_aload_n X dX4_isName_4 0 rfl rfl rfl ?_
  refine zg_X4_6 (k := k) X hY.1.1 hY.1.2 fl_X4_40 dX4_isName_5 rfl ?_
  refine zv_aload_n X dX4_isName_8 0 rfl rfl rfl ?_
  refine zg_X4_5 (k := k) X hY.1.1 hY.1.2 fl_X4_57 dX4_isName_9 rfl ?_
  refine zv_isub X dX4_isName_12 rfl ?_
  refine zv_icmp_eq (tgt := 18) X dX4_isName_13 (by decide) rfl (fun q13 => ?_) (fun q13 => ?_)
  · replace h := h.1 q13
    refine zv_iconst (v := 0) X dX4_isName_18 (by decide) rfl ?_
    refine zv_istore_n (lv2 := [(2, .int 0), (0, .ref (Y.2.1 k)), (1, .ref (Y.2.2.2 (10 + c1)))]) X dX4_isName_19 rfl (by decide) rfl rfl ?_
    obtain ⟨n20, h⟩ := h
    refine zv_sub (lv2 := [(0, .ref (Y.2.1 k)), (1, .ref (Y.2.2.2 (10 + c1))), (2, .int 0)]) [1, 2, 0] rfl ?_
    exact vX4_isName_20 X hr hlk hJ hY h1 n20 0 _ h
  · replace h := h.2 q13
    refine zv_iconst (v := 0) X dX4_isName_16 (by decide) rfl ?_
    exact zv_zret X hr hlk h dX4_isName_17
def rmX4_nameIndex : Room := { frames := 5, cells := 0, slots := 0, locals := 107 }
def pX4_nameIndex_2 (k : Nat) (Q : Int32 → zz_T → Prop) : Nat → Int32 → zz_T → Prop
  | 0, _, _ => False
  | n + 1, x1, σ =>
    ((8 ≤ x1 → Q (-4) σ) ∧
    (¬ 8 ≤ x1 → pX4_nameOf x1 σ (fun r10 s10 =>
    pX4_isName k r10 s10 (fun r13 s13 =>
    ((r13 = 0 → pX4_nameIndex_2 k Q n (x1 + 1) s13) ∧
    (¬ r13 = 0 → Q x1 s13))))))
set_option maxHeartbeats 4000000 in
set_option maxRecDepth 100000 in
theorem vX4_nameIndex_2 {p : Program} {l : Launch} {e : Env} {s : State} {m : MethodId} {args : Array Value} {below : List Frame} {meth : Method} {c : Code} {Y : zz_Y} {k : Nat} {Q : Int32 → zz_T → Prop} (X : zz_X p m c cX4_nameIndex 2 s args RX4) (hr : meth.sig.returnType = (some .int)) (hlk : meth.locks = false) (hJ : zz_J Y) (hY : zz_tp Y k)  : ∀ (n : Nat) (x1 : Int32) (σ : zz_T), pX4_nameIndex_2 k Q n x1 σ → zz_V p l e rmX4_nameIndex s m args below meth c (MQ below (va_Qi Q (zz_E Y) (zz_A Y)) args s 0 0 (zz_A Y)) 2 Y σ 2 [(0, .ref (Y.2.1 k)), (1, .int x1)] [] := by
  intro n
  induction n with
  | zero => intro x1 σ h; exact h.elim
  | succ n ih =>
    intro x1 σ h 
    unfold pX4_nameIndex_2 at h
    refine zv_iload_n X dX4_nameIndex_2 1 rfl rfl rfl ?_
    refine zv_bipush (v := 8) X dX4_nameIndex_3 (by decide) rfl ?_
    refine zv_icmp_ge (tgt := 27) X dX4_nameIndex_5 (by decide) rfl (fun q5 => ?_) (fun q5 => ?_)
    · replace h := h.1 q5
      refine zv_bipush (v := (-4)) X dX4_nameIndex_27 (by decide) rfl ?_
      exact zv_iret X hr hlk h dX4_nameIndex_29
    · replace h := h.2 q5
      refine zv_aload_n X dX4_nameIndex_8 0 rfl rfl rfl ?_
      refine zv_iload_n X dX4_nameIndex_9 1 rfl rfl rfl ?_
      refine zv_cSs X [.int x1] (kX4_nameOf l hJ x1  h) jl_X4_87 ⟨rfl, rfl⟩ ⟨Nat.le_of_ble_eq_true rfl, Nat.le_of_ble_eq_true rfl⟩ rfl rfl (Nat.le_of_ble_eq_true rfl) dX4_nameIndex_10 rfl (fun r10 s10 g10 h => ?_)
      refine zv_cVi (k := k) (ci := 4) X [.ref (Y.2.2.2 (10 + r10))] (kX4_isName l hJ  hY g10 h) jl_X4_91 ⟨rfl, rfl⟩ ⟨Nat.le_of_ble_eq_true rfl, Nat.le_of_ble_eq_true rfl⟩ hY.1.1 (by decide) hY.1.2 rfl rfl rfl (Nat.le_of_ble_eq_true rfl) dX4_nameIndex_13 rfl (fun r13 s13 h => ?_)
      refine zv_if_eq (tgt := 21) X dX4_nameIndex_16 (by decide) rfl (fun q16 => ?_) (fun q16 => ?_)
      · replace h := h.1 q16
        refine zv_iinc (v := (x1 + 1)) (lv2 := [(1, .int (x1 + 1)), (0, .ref (Y.2.1 k))]) X dX4_nameIndex_21 1 rfl rfl (by decide) rfl rfl ?_
        refine zv_goto (tgt := 2) X dX4_nameIndex_24 (by decide) ?_
        refine zv_sub (lv2 := [(0, .ref (Y.2.1 k)), (1, .int (x1 + 1))]) [1, 0] rfl ?_
        exact ih (x1 + 1) _ h
      · replace h := h.2 q16
        refine zv_iload_n X dX4_nameIndex_19 1 rfl rfl rfl ?_
        exact zv_iret X hr hlk h dX4_nameIndex_20
def pX4_nameIndex (k : Nat) (σ : zz_T) (Q : Int32 → zz_T → Prop) : Prop :=
    ∃ n2, pX4_nameIndex_2 k Q n2 0 σ
set_option maxHeartbeats 4000000 in
set_option maxRecDepth 100000 in
theorem kX4_nameIndex (l : Launch) {Y : zz_Y} (hJ : zz_J Y) {k : Nat} (hY : zz_tp Y k) {σ : zz_T} {Q : Int32 → zz_T → Prop} (h : pX4_nameIndex k σ Q) : zz_Mi l yX4_nameIndex cX4_nameIndex 2 (some .int) rmX4_nameIndex Y [.ref (Y.2.1 k)] σ Q := by
  refine zz_Mi.start (by decide) hJ (Nat.le_of_ble_eq_true rfl) (fun p e s m below meth c X hr hlk => ?_)
  have X : zz_X p m c cX4_nameIndex 2 s _ RX4 := X
  refine zv_sub (lv2 := [(0, .ref (Y.2.1 k))]) [0] rfl ?_
  unfold pX4_nameIndex at h
  refine zv_iconst (v := 0) X dX4_nameIndex_0 (by decide) rfl ?_
  refine zv_istore_n (lv2 := [(1, .int 0), (0, .ref (Y.2.1 k))]) X dX4_nameIndex_1 rfl (by decide) rfl rfl ?_
  obtain ⟨n2, h⟩ := h
  refine zv_sub (lv2 := [(0, .ref (Y.2.1 k)), (1, .int 0)]) [1, 0] rfl ?_
  exact vX4_nameIndex_2 X hr hlk hJ hY n2 0 _ h
def rmX4_refuse : Room := { frames := 0, cells := 0, slots := 0, locals := 0 }
def pX4_refuse (k : Nat) (x1 : Int32) (σ : zz_T) (Q : Int32 → zz_T → Prop) : Prop :=
    (zz_bo 0 ∧ Q 0 (zz_i (zz_i σ k 2 x1) k 3 ((zz_i σ k 2 x1).1 k 5)))
set_option maxHeartbeats 4000000 in
set_option maxRecDepth 100000 in
theorem kX4_refuse (l : Launch) {Y : zz_Y} (hJ : zz_J Y) {k : Nat} (x1 : Int32) (hY : zz_tp Y k) {σ : zz_T} {Q : Int32 → zz_T → Prop} (h : pX4_refuse k x1 σ Q) : zz_Mi l yX4_refuse cX4_refuse 2 (some .boolean) rmX4_refuse Y [.ref (Y.2.1 k), .int x1] σ Q := by
  refine zz_Mi.start (by decide) hJ (Nat.le_of_ble_eq_true rfl) (fun p e s m below meth c X hr hlk => ?_)
  have X : zz_X p m c cX4_refuse 2 s _ RX4 := X
  refine zv_sub (lv2 := [(0, .ref (Y.2.1 k)), (1, .int x1)]) [0, 1] rfl ?_
  unfold pX4_refuse at h
  refine zv_aload_n X dX4_refuse_0 0 rfl rfl rfl ?_
  refine zv_iload_n X dX4_refuse_1 1 rfl rfl rfl ?_
  refine zp_X4_2 (k := k) X hY.1.1 hY.1.2 fl_X4_36 dX4_refuse_2 rfl ?_
  refine zv_aload_n X dX4_refuse_5 0 rfl rfl rfl ?_
  refine zv_aload_n X dX4_refuse_6 0 rfl rfl rfl ?_
  refine zg_X4_5 (k := k) X hY.1.1 hY.1.2 fl_X4_57 dX4_refuse_7 rfl ?_
  refine zp_X4_3 (k := k) X hY.1.1 hY.1.2 fl_X4_60 dX4_refuse_10 rfl ?_
  refine zv_iconst (v := 0) X dX4_refuse_13 (by decide) rfl ?_
  exact zv_zret X hr hlk h dX4_refuse_14
def rmX4_sortOf : Room := { frames := 0, cells := 0, slots := 0, locals := 0 }
def pX4_sortOf_28 (k : Nat) (Q : Int32 → zz_T → Prop) (x1 : Int32) (σ : zz_T) : Prop :=
    ((x1 = 59 → Q 3 σ) ∧
    (¬ x1 = 59 → Q 4 σ))
set_option maxHeartbeats 4000000 in
set_option maxRecDepth 100000 in
theorem vX4_sortOf_28 {p : Program} {l : Launch} {e : Env} {s : State} {m : MethodId} {args : Array Value} {below : List Frame} {meth : Method} {c : Code} {Y : zz_Y} {k : Nat} {Q : Int32 → zz_T → Prop} (X : zz_X p m c cX4_sortOf 2 s args RX4) (hr : meth.sig.returnType = (some .int)) (hlk : meth.locks = false) (hJ : zz_J Y) (hY : zz_tp Y k)  : ∀ (x1 : Int32) (σ : zz_T), pX4_sortOf_28 k Q x1 σ → zz_V p l e rmX4_sortOf s m args below meth c (MQ below (va_Qi Q (zz_E Y) (zz_A Y)) args s 0 0 (zz_A Y)) 2 Y σ 28 [(1, .int x1)] [] := by
  intro x1 σ h 
  unfold pX4_sortOf_28 at h
  refine zv_iload_n X dX4_sortOf_28 0 rfl rfl rfl ?_
  refine zv_bipush (v := 59) X dX4_sortOf_29 (by decide) rfl ?_
  refine zv_icmp_ne (tgt := 38) X dX4_sortOf_31 (by decide) rfl (fun q31 => ?_) (fun q31 => ?_)
  · replace h := h.2 q31
    refine zv_iconst (v := 4) X dX4_sortOf_38 (by decide) rfl ?_
    exact zv_iret X hr hlk h dX4_sortOf_39
  · replace h := h.1 q31
    refine zv_iconst (v := 3) X dX4_sortOf_34 (by decide) rfl ?_
    refine zv_goto (tgt := 39) X dX4_sortOf_35 (by decide) ?_
    exact zv_iret X hr hlk h dX4_sortOf_39
def pX4_sortOf_14 (k : Nat) (Q : Int32 → zz_T → Prop) (x1 : Int32) (σ : zz_T) : Prop :=
    ((x1 < 48 → pX4_sortOf_28 k Q x1 σ) ∧
    (¬ x1 < 48 → ((57 < x1 → pX4_sortOf_28 k Q x1 σ) ∧
    (¬ 57 < x1 → Q 2 σ))))
set_option maxHeartbeats 4000000 in
set_option maxRecDepth 100000 in
theorem vX4_sortOf_14 {p : Program} {l : Launch} {e : Env} {s : State} {m : MethodId} {args : Array Value} {below : List Frame} {meth : Method} {c : Code} {Y : zz_Y} {k : Nat} {Q : Int32 → zz_T → Prop} (X : zz_X p m c cX4_sortOf 2 s args RX4) (hr : meth.sig.returnType = (some .int)) (hlk : meth.locks = false) (hJ : zz_J Y) (hY : zz_tp Y k)  : ∀ (x1 : Int32) (σ : zz_T), pX4_sortOf_14 k Q x1 σ → zz_V p l e rmX4_sortOf s m args below meth c (MQ below (va_Qi Q (zz_E Y) (zz_A Y)) args s 0 0 (zz_A Y)) 2 Y σ 14 [(1, .int x1)] [] := by
  intro x1 σ h 
  unfold pX4_sortOf_14 at h
  refine zv_iload_n X dX4_sortOf_14 0 rfl rfl rfl ?_
  refine zv_bipush (v := 48) X dX4_sortOf_15 (by decide) rfl ?_
  refine zv_icmp_lt (tgt := 28) X dX4_sortOf_17 (by decide) rfl (fun q17 => ?_) (fun q17 => ?_)
  · replace h := h.1 q17
    exact vX4_sortOf_28 X hr hlk hJ hY x1 _ h
  · replace h := h.2 q17
    refine zv_iload_n X dX4_sortOf_20 0 rfl rfl rfl ?_
    refine zv_bipush (v := 57) X dX4_sortOf_21 (by decide) rfl ?_
    refine zv_icmp_gt (tgt := 28) X dX4_sortOf_23 (by decide) rfl (fun q23 => ?_) (fun q23 => ?_)
    · replace h := h.1 q23
      exact vX4_sortOf_28 X hr hlk hJ hY x1 _ h
    · replace h := h.2 q23
      refine zv_iconst (v := 2) X dX4_sortOf_26 (by decide) rfl ?_
      exact zv_iret X hr hlk h dX4_sortOf_27
def pX4_sortOf (k : Nat) (x1 : Int32) (σ : zz_T) (Q : Int32 → zz_T → Prop) : Prop :=
    ((x1 < 97 → pX4_sortOf_14 k Q x1 σ) ∧
    (¬ x1 < 97 → ((122 < x1 → pX4_sortOf_14 k Q x1 σ) ∧
    (¬ 122 < x1 → Q 1 σ))))
set_option maxHeartbeats 4000000 in
set_option maxRecDepth 100000 in
theorem kX4_sortOf (l : Launch) {Y : zz_Y} (hJ : zz_J Y) {k : Nat} (x1 : Int32) (hY : zz_tp Y k) {σ : zz_T} {Q : Int32 → zz_T → Prop} (h : pX4_sortOf k x1 σ Q) : zz_Mi l yX4_sortOf cX4_sortOf 2 (some .int) rmX4_sortOf Y [.ref (Y.2.1 k), .int x1] σ Q := by
  refine zz_Mi.start (by decide) hJ (Nat.le_of_ble_eq_true rfl) (fun p e s m below meth c X hr hlk => ?_)
  have X : zz_X p m c cX4_sortOf 2 s _ RX4 := X
  refine zv_sub (lv2 := [(0, .ref (Y.2.1 k)), (1, .int x1)]) [0, 1] rfl ?_
  unfold pX4_sortOf at h
  refine zv_iload_n X dX4_sortOf_0 1 rfl rfl rfl ?_
  refine zv_bipush (v := 97) X dX4_sortOf_1 (by decide) rfl ?_
  refine zv_icmp_lt (tgt := 14) X dX4_sortOf_3 (by decide) rfl (fun q3 => ?_) (fun q3 => ?_)
  · replace h := h.1 q3
    refine zv_sub (lv2 := [(1, .int x1)]) [1] rfl ?_
    exact vX4_sortOf_14 X hr hlk hJ hY x1 _ h
  · replace h := h.2 q3
    refine zv_iload_n X dX4_sortOf_6 1 rfl rfl rfl ?_
    refine zv_bipush (v := 122) X dX4_sortOf_7 (by decide) rfl ?_
    refine zv_icmp_gt (tgt := 14) X dX4_sortOf_9 (by decide) rfl (fun q9 => ?_) (fun q9 => ?_)
    · replace h := h.1 q9
      refine zv_sub (lv2 := [(1, .int x1)]) [1] rfl ?_
      exact vX4_sortOf_14 X hr hlk hJ hY x1 _ h
    · replace h := h.2 q9
      refine zv_iconst (v := 1) X dX4_sortOf_12 (by decide) rfl ?_
      exact zv_iret X hr hlk h dX4_sortOf_13
def rmX4_step : Room := { frames := 1, cells := 0, slots := 0, locals := 21 }
def pX4_step_190 (k : Nat) (Q : Int32 → zz_T → Prop) (σ : zz_T) : Prop :=
    (zz_bo 1 ∧ Q 1 σ)
set_option maxHeartbeats 4000000 in
set_option maxRecDepth 100000 in
theorem vX4_step_190 {p : Program} {l : Launch} {e : Env} {s : State} {m : MethodId} {args : Array Value} {below : List Frame} {meth : Method} {c : Code} {Y : zz_Y} {k : Nat} {Q : Int32 → zz_T → Prop} (X : zz_X p m c cX4_step 2 s args RX4) (hr : meth.sig.returnType = (some .boolean)) (hlk : meth.locks = false) (hJ : zz_J Y) (hY : zz_tp Y k)  : ∀ (σ : zz_T), pX4_step_190 k Q σ → zz_V p l e rmX4_step s m args below meth c (MQ below (va_Qi Q (zz_E Y) (zz_A Y)) args s 0 0 (zz_A Y)) 2 Y σ 190 [] [] := by
  intro σ h 
  unfold pX4_step_190 at h
  refine zv_iconst (v := 1) X dX4_step_190 (by decide) rfl ?_
  refine zv_goto (tgt := 195) X dX4_step_191 (by decide) ?_
  exact zv_zret X hr hlk h dX4_step_195
def pX4_step_177 (k : Nat) (Q : Int32 → zz_T → Prop) (t0 : Int32) (σ : zz_T) : Prop :=
    ((t0 = 0 → pX4_refuse k 1 σ (fun r184 s184 =>
    ((r184 = 0 → (zz_bo 0 ∧ Q 0 s184)) ∧
    (¬ r184 = 0 → pX4_step_190 k Q s184)))) ∧
    (¬ t0 = 0 → pX4_step_190 k Q σ))
set_option maxHeartbeats 4000000 in
set_option maxRecDepth 100000 in
theorem vX4_step_177 {p : Program} {l : Launch} {e : Env} {s : State} {m : MethodId} {args : Array Value} {below : List Frame} {meth : Method} {c : Code} {Y : zz_Y} {k : Nat} {Q : Int32 → zz_T → Prop} (X : zz_X p m c cX4_step 2 s args RX4) (hr : meth.sig.returnType = (some .boolean)) (hlk : meth.locks = false) (hJ : zz_J Y) (hY : zz_tp Y k)  : ∀ (t0 : Int32) (σ : zz_T), pX4_step_177 k Q t0 σ → zz_V p l e rmX4_step s m args below meth c (MQ below (va_Qi Q (zz_E Y) (zz_A Y)) args s 0 0 (zz_A Y)) 2 Y σ 177 [(0, .ref (Y.2.1 k))] [.int t0] := by
  intro t0 σ h 
  unfold pX4_step_177 at h
  refine zv_istore_n (lv2 := [(1, .int t0), (0, .ref (Y.2.1 k))]) X dX4_step_177 rfl (by decide) rfl rfl ?_
  refine zv_iload_n X dX4_step_178 0 rfl rfl rfl ?_
  refine zv_if_ne (tgt := 190) X dX4_step_179 (by decide) rfl (fun q179 => ?_) (fun q179 => ?_)
  · replace h := h.2 q179
    refine zv_sub (lv2 := []) [] rfl ?_
    exact vX4_step_190 X hr hlk hJ hY _ h
  · replace h := h.1 q179
    refine zv_aload_n X dX4_step_182 1 rfl rfl rfl ?_
    refine zv_iconst (v := 1) X dX4_step_183 (by decide) rfl ?_
    refine zv_cVi (k := k) (ci := 4) X [.int 1] (kX4_refuse l hJ 1 hY h) jl_X4_70 ⟨rfl, rfl⟩ ⟨Nat.le_of_ble_eq_true rfl, Nat.le_of_ble_eq_true rfl⟩ hY.1.1 (by decide) hY.1.2 rfl rfl rfl (Nat.le_of_ble_eq_true rfl) dX4_step_184 rfl (fun r184 s184 h => ?_)
    refine zv_if_eq (tgt := 194) X dX4_step_187 (by decide) rfl (fun q187 => ?_) (fun q187 => ?_)
    · replace h := h.1 q187
      refine zv_iconst (v := 0) X dX4_step_194 (by decide) rfl ?_
      exact zv_zret X hr hlk h dX4_step_195
    · replace h := h.2 q187
      refine zv_sub (lv2 := []) [] rfl ?_
      exact vX4_step_190 X hr hlk hJ hY _ h
def pX4_step_176 (k : Nat) (Q : Int32 → zz_T → Prop) (σ : zz_T) : Prop :=
    pX4_step_177 k Q 0 σ
set_option maxHeartbeats 4000000 in
set_option maxRecDepth 100000 in
theorem vX4_step_176 {p : Program} {l : Launch} {e : Env} {s : State} {m : MethodId} {args : Array Value} {below : List Frame} {meth : Method} {c : Code} {Y : zz_Y} {k : Nat} {Q : Int32 → zz_T → Prop} (X : zz_X p m c cX4_step 2 s args RX4) (hr : meth.sig.returnType = (some .boolean)) (hlk : meth.locks = false) (hJ : zz_J Y) (hY : zz_tp Y k)  : ∀ (σ : zz_T), pX4_step_176 k Q σ → zz_V p l e rmX4_step s m args below meth c (MQ below (va_Qi Q (zz_E Y) (zz_A Y)) args s 0 0 (zz_A Y)) 2 Y σ 176 [(0, .ref (Y.2.1 k))] [] := by
  intro σ h 
  unfold pX4_step_176 at h
  refine zv_iconst (v := 0) X dX4_step_176 (by decide) rfl ?_
  exact vX4_step_177 X hr hlk hJ hY 0 _ h
def pX4_step_172 (k : Nat) (Q : Int32 → zz_T → Prop) (σ : zz_T) : Prop :=
    pX4_step_177 k Q 1 σ
set_option maxHeartbeats 4000000 in
set_option maxRecDepth 100000 in
theorem vX4_step_172 {p : Program} {l : Launch} {e : Env} {s : State} {m : MethodId} {args : Array Value} {below : List Frame} {meth : Method} {c : Code} {Y : zz_Y} {k : Nat} {Q : Int32 → zz_T → Prop} (X : zz_X p m c cX4_step 2 s args RX4) (hr : meth.sig.returnType = (some .boolean)) (hlk : meth.locks = false) (hJ : zz_J Y) (hY : zz_tp Y k)  : ∀ (σ : zz_T), pX4_step_172 k Q σ → zz_V p l e rmX4_step s m args below meth c (MQ below (va_Qi Q (zz_E Y) (zz_A Y)) args s 0 0 (zz_A Y)) 2 Y σ 172 [(0, .ref (Y.2.1 k))] [] := by
  intro σ h 
  unfold pX4_step_172 at h
  refine zv_iconst (v := 1) X dX4_step_172 (by decide) rfl ?_
  refine zv_goto (tgt := 177) X dX4_step_173 (by decide) ?_
  exact vX4_step_177 X hr hlk hJ hY 1 _ h
def pX4_step_143 (k : Nat) (Q : Int32 → zz_T → Prop) (σ : zz_T) : Prop :=
    (((σ.1 k 4) = 4 → pX4_step_176 k Q σ) ∧
    (¬ (σ.1 k 4) = 4 → (((σ.1 k 4) = 2 → ((3 < ((σ.1 k 6) - (σ.1 k 5)) → pX4_step_176 k Q σ) ∧
    (¬ 3 < ((σ.1 k 6) - (σ.1 k 5)) → pX4_step_172 k Q σ))) ∧
    (¬ (σ.1 k 4) = 2 → pX4_step_172 k Q σ))))
set_option maxHeartbeats 4000000 in
set_option maxRecDepth 100000 in
theorem vX4_step_143 {p : Program} {l : Launch} {e : Env} {s : State} {m : MethodId} {args : Array Value} {below : List Frame} {meth : Method} {c : Code} {Y : zz_Y} {k : Nat} {Q : Int32 → zz_T → Prop} (X : zz_X p m c cX4_step 2 s args RX4) (hr : meth.sig.returnType = (some .boolean)) (hlk : meth.locks = false) (hJ : zz_J Y) (hY : zz_tp Y k)  : ∀ (σ : zz_T), pX4_step_143 k Q σ → zz_V p l e rmX4_step s m args below meth c (MQ below (va_Qi Q (zz_E Y) (zz_A Y)) args s 0 0 (zz_A Y)) 2 Y σ 143 [(0, .ref (Y.2.1 k))] [] := by
  intro σ h 
  unfold pX4_step_143 at h
  refine zv_aload_n X dX4_step_143 0 rfl rfl rfl ?_
  refine zg_X4_4 (k := k) X hY.1.1 hY.1.2 fl_X4_50 dX4_step_144 rfl ?_
  refine zv_iconst (v := 4) X dX4_step_147 (by decide) rfl ?_
  refine zv_icmp_eq (tgt := 176) X dX4_step_148 (by decide) rfl (fun q148 => ?_) (fun q148 => ?_)
  · replace h := h.1 q148
    exact vX4_step_176 X hr hlk hJ hY _ h
  · replace h := h.2 q148
    refine zv_aload_n X dX4_step_151 0 rfl rfl rfl ?_
    refine zg_X4_4 (k := k) X hY.1.1 hY.1.2 fl_X4_50 dX4_step_152 rfl ?_
    refine zv_iconst (v := 2) X dX4_step_155 (by decide) rfl ?_
    refine zv_icmp_ne (tgt := 172) X dX4_step_156 (by decide) rfl (fun q156 => ?_) (fun q156 => ?_)
    · replace h := h.2 q156
      exact vX4_step_172 X hr hlk hJ hY _ h
    · replace h := h.1 q156
      refine zv_aload_n X dX4_step_159 0 rfl rfl rfl ?_
      refine zg_X4_6 (k := k) X hY.1.1 hY.1.2 fl_X4_40 dX4_step_160 rfl ?_
      refine zv_aload_n X dX4_step_163 0 rfl rfl rfl ?_
      refine zg_X4_5 (k := k) X hY.1.1 hY.1.2 fl_X4_57 dX4_step_164 rfl ?_
      refine zv_isub X dX4_step_167 rfl ?_
      refine zv_iconst (v := 3) X dX4_step_168 (by decide) rfl ?_
      refine zv_icmp_gt (tgt := 176) X dX4_step_169 (by decide) rfl (fun q169 => ?_) (fun q169 => ?_)
      · replace h := h.1 q169
        exact vX4_step_176 X hr hlk hJ hY _ h
      · replace h := h.2 q169
        exact vX4_step_172 X hr hlk hJ hY _ h
def pX4_step_91 (k : Nat) (Q : Int32 → zz_T → Prop) : Nat → zz_T → Prop
  | 0, _ => False
  | n + 1, σ =>
    (((σ.1 k 4) = 3 → pX4_step_143 k Q σ) ∧
    (¬ (σ.1 k 4) = 3 → (((σ.1 k 1) ≤ (σ.1 k 6) → pX4_step_143 k Q σ) ∧
    (¬ (σ.1 k 1) ≤ (σ.1 k 6) → vp_in (σ.1 k 6) 160 ∧
    pX4_sortOf k (σ.1 (k + 1) (Int32.toNatClampNeg (σ.1 k 6))) σ (fun r120 s120 =>
    ((r120 = (s120.1 k 4) → pX4_step_91 k Q n (zz_i s120 k 6 ((s120.1 k 6) + 1))) ∧
    (¬ r120 = (s120.1 k 4) → pX4_step_143 k Q s120)))))))
set_option maxHeartbeats 4000000 in
set_option maxRecDepth 100000 in
theorem vX4_step_91 {p : Program} {l : Launch} {e : Env} {s : State} {m : MethodId} {args : Array Value} {below : List Frame} {meth : Method} {c : Code} {Y : zz_Y} {k : Nat} {Q : Int32 → zz_T → Prop} (X : zz_X p m c cX4_step 2 s args RX4) (hr : meth.sig.returnType = (some .boolean)) (hlk : meth.locks = false) (hJ : zz_J Y) (hY : zz_tp Y k)  : ∀ (n : Nat) (σ : zz_T), pX4_step_91 k Q n σ → zz_V p l e rmX4_step s m args below meth c (MQ below (va_Qi Q (zz_E Y) (zz_A Y)) args s 0 0 (zz_A Y)) 2 Y σ 91 [(0, .ref (Y.2.1 k))] [] := by
  intro n
  induction n with
  | zero => intro σ h; exact h.elim
  | succ n ih =>
    intro σ h 
    unfold pX4_step_91 at h
    refine zv_aload_n X dX4_step_91 0 rfl rfl rfl ?_
    refine zg_X4_4 (k := k) X hY.1.1 hY.1.2 fl_X4_50 dX4_step_92 rfl ?_
    refine zv_iconst (v := 3) X dX4_step_95 (by decide) rfl ?_
    refine zv_icmp_eq (tgt := 143) X dX4_step_96 (by decide) rfl (fun q96 => ?_) (fun q96 => ?_)
    · replace h := h.1 q96
      exact vX4_step_143 X hr hlk hJ hY _ h
    · replace h := h.2 q96
      refine zv_aload_n X dX4_step_99 0 rfl rfl rfl ?_
      refine zg_X4_6 (k := k) X hY.1.1 hY.1.2 fl_X4_40 dX4_step_100 rfl ?_
      refine zv_aload_n X dX4_step_103 0 rfl rfl rfl ?_
      refine zg_X4_1 (k := k) X hY.1.1 hY.1.2 fl_X4_63 dX4_step_104 rfl ?_
      refine zv_icmp_ge (tgt := 143) X dX4_step_107 (by decide) rfl (fun q107 => ?_) (fun q107 => ?_)
      · replace h := h.1 q107
        exact vX4_step_143 X hr hlk hJ hY _ h
      · replace h := h.2 q107
        refine zv_aload_n X dX4_step_110 0 rfl rfl rfl ?_
        refine zv_aload_n X dX4_step_111 0 rfl rfl rfl ?_
        refine zg_X4_0 (k := k) X hY.1.1 hY.1.2 fl_X4_11 dX4_step_112 rfl ?_
        refine zv_aload_n X dX4_step_115 0 rfl rfl rfl ?_
        refine zg_X4_6 (k := k) X hY.1.1 hY.1.2 fl_X4_40 dX4_step_116 rfl ?_
        obtain ⟨hi119, h⟩ := h
        refine zv_bald (k := (k + 1)) X hY.2.1 hY.2.2 hi119 dX4_step_119 rfl ?_
        refine zv_cVi (k := k) (ci := 4) X [.int (σ.1 (k + 1) (Int32.toNatClampNeg (σ.1 k 6)))] (kX4_sortOf l hJ (σ.1 (k + 1) (Int32.toNatClampNeg (σ.1 k 6))) hY h) jl_X4_66 ⟨rfl, rfl⟩ ⟨Nat.le_of_ble_eq_true rfl, Nat.le_of_ble_eq_true rfl⟩ hY.1.1 (by decide) hY.1.2 rfl rfl rfl (Nat.le_of_ble_eq_true rfl) dX4_step_120 rfl (fun r120 s120 h => ?_)
        refine zv_aload_n X dX4_step_123 0 rfl rfl rfl ?_
        refine zg_X4_4 (k := k) X hY.1.1 hY.1.2 fl_X4_50 dX4_step_124 rfl ?_
        refine zv_icmp_ne (tgt := 143) X dX4_step_127 (by decide) rfl (fun q127 => ?_) (fun q127 => ?_)
        · replace h := h.2 q127
          exact vX4_step_143 X hr hlk hJ hY _ h
        · replace h := h.1 q127
          refine zv_aload_n X dX4_step_130 0 rfl rfl rfl ?_
          refine zv_dup X dX4_step_131 rfl rfl ?_
          refine zg_X4_6 (k := k) X hY.1.1 hY.1.2 fl_X4_40 dX4_step_132 rfl ?_
          refine zv_iconst (v := 1) X dX4_step_135 (by decide) rfl ?_
          refine zv_iadd X dX4_step_136 rfl ?_
          refine zp_X4_6 (k := k) X hY.1.1 hY.1.2 fl_X4_40 dX4_step_137 rfl ?_
          refine zv_goto (tgt := 91) X dX4_step_140 (by decide) ?_
          exact ih _ h
def pX4_step_38 (k : Nat) (Q : Int32 → zz_T → Prop) (σ : zz_T) : Prop :=
    ((((zz_i σ k 5 (σ.1 k 6)).1 k 6) < ((zz_i σ k 5 (σ.1 k 6)).1 k 1) → vp_in ((zz_i σ k 5 (σ.1 k 6)).1 k 6) 160 ∧
    pX4_sortOf k ((zz_i σ k 5 (σ.1 k 6)).1 (k + 1) (Int32.toNatClampNeg ((zz_i σ k 5 (σ.1 k 6)).1 k 6))) (zz_i σ k 5 (σ.1 k 6)) (fun r75 s75 =>
    ∃ n91, pX4_step_91 k Q n91 (zz_i (zz_i s75 k 4 r75) k 6 (((zz_i s75 k 4 r75).1 k 6) + 1)))) ∧
    (¬ ((zz_i σ k 5 (σ.1 k 6)).1 k 6) < ((zz_i σ k 5 (σ.1 k 6)).1 k 1) → (zz_bo 1 ∧ Q 1 (zz_i (zz_i σ k 5 (σ.1 k 6)) k 4 0))))
set_option maxHeartbeats 4000000 in
set_option maxRecDepth 100000 in
theorem vX4_step_38 {p : Program} {l : Launch} {e : Env} {s : State} {m : MethodId} {args : Array Value} {below : List Frame} {meth : Method} {c : Code} {Y : zz_Y} {k : Nat} {Q : Int32 → zz_T → Prop} (X : zz_X p m c cX4_step 2 s args RX4) (hr : meth.sig.returnType = (some .boolean)) (hlk : meth.locks = false) (hJ : zz_J Y) (hY : zz_tp Y k)  : ∀ (σ : zz_T), pX4_step_38 k Q σ → zz_V p l e rmX4_step s m args below meth c (MQ below (va_Qi Q (zz_E Y) (zz_A Y)) args s 0 0 (zz_A Y)) 2 Y σ 38 [(0, .ref (Y.2.1 k))] [] := by
  intro σ h 
  unfold pX4_step_38 at h
  refine zv_aload_n X dX4_step_38 0 rfl rfl rfl ?_
  refine zv_aload_n X dX4_step_39 0 rfl rfl rfl ?_
  refine zg_X4_6 (k := k) X hY.1.1 hY.1.2 fl_X4_40 dX4_step_40 rfl ?_
  refine zp_X4_5 (k := k) X hY.1.1 hY.1.2 fl_X4_57 dX4_step_43 rfl ?_
  refine zv_aload_n X dX4_step_46 0 rfl rfl rfl ?_
  refine zg_X4_6 (k := k) X hY.1.1 hY.1.2 fl_X4_40 dX4_step_47 rfl ?_
  refine zv_aload_n X dX4_step_50 0 rfl rfl rfl ?_
  refine zg_X4_1 (k := k) X hY.1.1 hY.1.2 fl_X4_63 dX4_step_51 rfl ?_
  refine zv_icmp_lt (tgt := 64) X dX4_step_54 (by decide) rfl (fun q54 => ?_) (fun q54 => ?_)
  · replace h := h.1 q54
    refine zv_aload_n X dX4_step_64 0 rfl rfl rfl ?_
    refine zv_aload_n X dX4_step_65 0 rfl rfl rfl ?_
    refine zv_aload_n X dX4_step_66 0 rfl rfl rfl ?_
    refine zg_X4_0 (k := k) X hY.1.1 hY.1.2 fl_X4_11 dX4_step_67 rfl ?_
    refine zv_aload_n X dX4_step_70 0 rfl rfl rfl ?_
    refine zg_X4_6 (k := k) X hY.1.1 hY.1.2 fl_X4_40 dX4_step_71 rfl ?_
    obtain ⟨hi74, h⟩ := h
    refine zv_bald (k := (k + 1)) X hY.2.1 hY.2.2 hi74 dX4_step_74 rfl ?_
    refine zv_cVi (k := k) (ci := 4) X [.int ((zz_i σ k 5 (σ.1 k 6)).1 (k + 1) (Int32.toNatClampNeg ((zz_i σ k 5 (σ.1 k 6)).1 k 6)))] (kX4_sortOf l hJ ((zz_i σ k 5 (σ.1 k 6)).1 (k + 1) (Int32.toNatClampNeg ((zz_i σ k 5 (σ.1 k 6)).1 k 6))) hY h) jl_X4_66 ⟨rfl, rfl⟩ ⟨Nat.le_of_ble_eq_true rfl, Nat.le_of_ble_eq_true rfl⟩ hY.1.1 (by decide) hY.1.2 rfl rfl rfl (Nat.le_of_ble_eq_true rfl) dX4_step_75 rfl (fun r75 s75 h => ?_)
    refine zp_X4_4 (k := k) X hY.1.1 hY.1.2 fl_X4_50 dX4_step_78 rfl ?_
    refine zv_aload_n X dX4_step_81 0 rfl rfl rfl ?_
    refine zv_dup X dX4_step_82 rfl rfl ?_
    refine zg_X4_6 (k := k) X hY.1.1 hY.1.2 fl_X4_40 dX4_step_83 rfl ?_
    refine zv_iconst (v := 1) X dX4_step_86 (by decide) rfl ?_
    refine zv_iadd X dX4_step_87 rfl ?_
    refine zp_X4_6 (k := k) X hY.1.1 hY.1.2 fl_X4_40 dX4_step_88 rfl ?_
    obtain ⟨n91, h⟩ := h
    exact vX4_step_91 X hr hlk hJ hY n91 _ h
  · replace h := h.2 q54
    refine zv_aload_n X dX4_step_57 0 rfl rfl rfl ?_
    refine zv_iconst (v := 0) X dX4_step_58 (by decide) rfl ?_
    refine zp_X4_4 (k := k) X hY.1.1 hY.1.2 fl_X4_50 dX4_step_59 rfl ?_
    refine zv_iconst (v := 1) X dX4_step_62 (by decide) rfl ?_
    exact zv_zret X hr hlk h dX4_step_63
def pX4_step_0 (k : Nat) (Q : Int32 → zz_T → Prop) : Nat → zz_T → Prop
  | 0, _ => False
  | n + 1, σ =>
    (((σ.1 k 1) ≤ (σ.1 k 6) → pX4_step_38 k Q σ) ∧
    (¬ (σ.1 k 1) ≤ (σ.1 k 6) → vp_in (σ.1 k 6) 160 ∧
    (((σ.1 (k + 1) (Int32.toNatClampNeg (σ.1 k 6))) = 32 → pX4_step_0 k Q n (zz_i σ k 6 ((σ.1 k 6) + 1))) ∧
    (¬ (σ.1 (k + 1) (Int32.toNatClampNeg (σ.1 k 6))) = 32 → pX4_step_38 k Q σ))))
set_option maxHeartbeats 4000000 in
set_option maxRecDepth 100000 in
theorem vX4_step_0 {p : Program} {l : Launch} {e : Env} {s : State} {m : MethodId} {args : Array Value} {below : List Frame} {meth : Method} {c : Code} {Y : zz_Y} {k : Nat} {Q : Int32 → zz_T → Prop} (X : zz_X p m c cX4_step 2 s args RX4) (hr : meth.sig.returnType = (some .boolean)) (hlk : meth.locks = false) (hJ : zz_J Y) (hY : zz_tp Y k)  : ∀ (n : Nat) (σ : zz_T), pX4_step_0 k Q n σ → zz_V p l e rmX4_step s m args below meth c (MQ below (va_Qi Q (zz_E Y) (zz_A Y)) args s 0 0 (zz_A Y)) 2 Y σ 0 [(0, .ref (Y.2.1 k))] [] := by
  intro n
  induction n with
  | zero => intro σ h; exact h.elim
  | succ n ih =>
    intro σ h 
    unfold pX4_step_0 at h
    refine zv_aload_n X dX4_step_0 0 rfl rfl rfl ?_
    refine zg_X4_6 (k := k) X hY.1.1 hY.1.2 fl_X4_40 dX4_step_1 rfl ?_
    refine zv_aload_n X dX4_step_4 0 rfl rfl rfl ?_
    refine zg_X4_1 (k := k) X hY.1.1 hY.1.2 fl_X4_63 dX4_step_5 rfl ?_
    refine zv_icmp_ge (tgt := 38) X dX4_step_8 (by decide) rfl (fun q8 => ?_) (fun q8 => ?_)
    · replace h := h.1 q8
      exact vX4_step_38 X hr hlk hJ hY _ h
    · replace h := h.2 q8
      refine zv_aload_n X dX4_step_11 0 rfl rfl rfl ?_
      refine zg_X4_0 (k := k) X hY.1.1 hY.1.2 fl_X4_11 dX4_step_12 rfl ?_
      refine zv_aload_n X dX4_step_15 0 rfl rfl rfl ?_
      refine zg_X4_6 (k := k) X hY.1.1 hY.1.2 fl_X4_40 dX4_step_16 rfl ?_
      obtain ⟨hi19, h⟩ := h
      refine zv_bald (k := (k + 1)) X hY.2.1 hY.2.2 hi19 dX4_step_19 rfl ?_
      refine zv_bipush (v := 32) X dX4_step_20 (by decide) rfl ?_
      refine zv_icmp_ne (tgt := 38) X dX4_step_22 (by decide) rfl (fun q22 => ?_) (fun q22 => ?_)
      · replace h := h.2 q22
        exact vX4_step_38 X hr hlk hJ hY _ h
      · replace h := h.1 q22
        refine zv_aload_n X dX4_step_25 0 rfl rfl rfl ?_
        refine zv_dup X dX4_step_26 rfl rfl ?_
        refine zg_X4_6 (k := k) X hY.1.1 hY.1.2 fl_X4_40 dX4_step_27 rfl ?_
        refine zv_iconst (v := 1) X dX4_step_30 (by decide) rfl ?_
        refine zv_iadd X dX4_step_31 rfl ?_
        refine zp_X4_6 (k := k) X hY.1.1 hY.1.2 fl_X4_40 dX4_step_32 rfl ?_
        refine zv_goto (tgt := 0) X dX4_step_35 (by decide) ?_
        exact ih _ h
def pX4_step (k : Nat) (σ : zz_T) (Q : Int32 → zz_T → Prop) : Prop :=
    ∃ n0, pX4_step_0 k Q n0 σ
set_option maxHeartbeats 4000000 in
set_option maxRecDepth 100000 in
theorem kX4_step (l : Launch) {Y : zz_Y} (hJ : zz_J Y) {k : Nat} (hY : zz_tp Y k) {σ : zz_T} {Q : Int32 → zz_T → Prop} (h : pX4_step k σ Q) : zz_Mi l yX4_step cX4_step 2 (some .boolean) rmX4_step Y [.ref (Y.2.1 k)] σ Q := by
  refine zz_Mi.start (by decide) hJ (Nat.le_of_ble_eq_true rfl) (fun p e s m below meth c X hr hlk => ?_)
  have X : zz_X p m c cX4_step 2 s _ RX4 := X
  refine zv_sub (lv2 := [(0, .ref (Y.2.1 k))]) [0] rfl ?_
  unfold pX4_step at h
  obtain ⟨n0, h⟩ := h
  exact vX4_step_0 X hr hlk hJ hY n0 _ h
def rmX4_stepTo : Room := { frames := 2, cells := 0, slots := 0, locals := 42 }
def pX4_stepTo_23 (k : Nat) (Q : Int32 → zz_T → Prop) (σ : zz_T) : Prop :=
    (zz_bo 1 ∧ Q 1 σ)
set_option maxHeartbeats 4000000 in
set_option maxRecDepth 100000 in
theorem vX4_stepTo_23 {p : Program} {l : Launch} {e : Env} {s : State} {m : MethodId} {args : Array Value} {below : List Frame} {meth : Method} {c : Code} {Y : zz_Y} {k : Nat} {Q : Int32 → zz_T → Prop} (X : zz_X p m c cX4_stepTo 2 s args RX4) (hr : meth.sig.returnType = (some .boolean)) (hlk : meth.locks = false) (hJ : zz_J Y) (hY : zz_tp Y k)  : ∀ (σ : zz_T), pX4_stepTo_23 k Q σ → zz_V p l e rmX4_stepTo s m args below meth c (MQ below (va_Qi Q (zz_E Y) (zz_A Y)) args s 0 0 (zz_A Y)) 2 Y σ 23 [] [] := by
  intro σ h 
  unfold pX4_stepTo_23 at h
  refine zv_iconst (v := 1) X dX4_stepTo_23 (by decide) rfl ?_
  refine zv_goto (tgt := 28) X dX4_stepTo_24 (by decide) ?_
  exact zv_zret X hr hlk h dX4_stepTo_28
def pX4_stepTo (k : Nat) (x1 : Int32) (σ : zz_T) (Q : Int32 → zz_T → Prop) : Prop :=
    pX4_step k σ (fun r1 s1 =>
    ((r1 = 0 → (zz_bo 0 ∧ Q 0 s1)) ∧
    (¬ r1 = 0 → (((s1.1 k 4) = x1 → pX4_stepTo_23 k Q s1) ∧
    (¬ (s1.1 k 4) = x1 → pX4_refuse k 2 s1 (fun r17 s17 =>
    ((r17 = 0 → (zz_bo 0 ∧ Q 0 s17)) ∧
    (¬ r17 = 0 → pX4_stepTo_23 k Q s17))))))))
set_option maxHeartbeats 4000000 in
set_option maxRecDepth 100000 in
theorem kX4_stepTo (l : Launch) {Y : zz_Y} (hJ : zz_J Y) {k : Nat} (x1 : Int32) (hY : zz_tp Y k) {σ : zz_T} {Q : Int32 → zz_T → Prop} (h : pX4_stepTo k x1 σ Q) : zz_Mi l yX4_stepTo cX4_stepTo 2 (some .boolean) rmX4_stepTo Y [.ref (Y.2.1 k), .int x1] σ Q := by
  refine zz_Mi.start (by decide) hJ (Nat.le_of_ble_eq_true rfl) (fun p e s m below meth c X hr hlk => ?_)
  have X : zz_X p m c cX4_stepTo 2 s _ RX4 := X
  refine zv_sub (lv2 := [(0, .ref (Y.2.1 k)), (1, .int x1)]) [0, 1] rfl ?_
  unfold pX4_stepTo at h
  refine zv_aload_n X dX4_stepTo_0 0 rfl rfl rfl ?_
  refine zv_cVi (k := k) (ci := 4) X [] (kX4_step l hJ  hY h) jl_X4_46 ⟨rfl, rfl⟩ ⟨Nat.le_of_ble_eq_true rfl, Nat.le_of_ble_eq_true rfl⟩ hY.1.1 (by decide) hY.1.2 rfl rfl rfl (Nat.le_of_ble_eq_true rfl) dX4_stepTo_1 rfl (fun r1 s1 h => ?_)
  refine zv_if_eq (tgt := 27) X dX4_stepTo_4 (by decide) rfl (fun q4 => ?_) (fun q4 => ?_)
  · replace h := h.1 q4
    refine zv_iconst (v := 0) X dX4_stepTo_27 (by decide) rfl ?_
    exact zv_zret X hr hlk h dX4_stepTo_28
  · replace h := h.2 q4
    refine zv_aload_n X dX4_stepTo_7 0 rfl rfl rfl ?_
    refine zg_X4_4 (k := k) X hY.1.1 hY.1.2 fl_X4_50 dX4_stepTo_8 rfl ?_
    refine zv_iload_n X dX4_stepTo_11 1 rfl rfl rfl ?_
    refine zv_icmp_eq (tgt := 23) X dX4_stepTo_12 (by decide) rfl (fun q12 => ?_) (fun q12 => ?_)
    · replace h := h.1 q12
      refine zv_sub (lv2 := []) [] rfl ?_
      exact vX4_stepTo_23 X hr hlk hJ hY _ h
    · replace h := h.2 q12
      refine zv_aload_n X dX4_stepTo_15 0 rfl rfl rfl ?_
      refine zv_iconst (v := 2) X dX4_stepTo_16 (by decide) rfl ?_
      refine zv_cVi (k := k) (ci := 4) X [.int 2] (kX4_refuse l hJ 2 hY h) jl_X4_70 ⟨rfl, rfl⟩ ⟨Nat.le_of_ble_eq_true rfl, Nat.le_of_ble_eq_true rfl⟩ hY.1.1 (by decide) hY.1.2 rfl rfl rfl (Nat.le_of_ble_eq_true rfl) dX4_stepTo_17 rfl (fun r17 s17 h => ?_)
      refine zv_if_eq (tgt := 27) X dX4_stepTo_20 (by decide) rfl (fun q20 => ?_) (fun q20 => ?_)
      · replace h := h.1 q20
        refine zv_iconst (v := 0) X dX4_stepTo_27 (by decide) rfl ?_
        exact zv_zret X hr hlk h dX4_stepTo_28
      · replace h := h.2 q20
        refine zv_sub (lv2 := []) [] rfl ?_
        exact vX4_stepTo_23 X hr hlk hJ hY _ h
def rmX4_takeNumber : Room := { frames := 1, cells := 0, slots := 0, locals := 21 }
def pX4_takeNumber_69 (k : Nat) (Q : Int32 → zz_T → Prop) (σ : zz_T) : Prop :=
    (zz_bo 1 ∧ Q 1 σ)
set_option maxHeartbeats 4000000 in
set_option maxRecDepth 100000 in
theorem vX4_takeNumber_69 {p : Program} {l : Launch} {e : Env} {s : State} {m : MethodId} {args : Array Value} {below : List Frame} {meth : Method} {c : Code} {Y : zz_Y} {k : Nat} {Q : Int32 → zz_T → Prop} (X : zz_X p m c cX4_takeNumber 4 s args RX4) (hr : meth.sig.returnType = (some .boolean)) (hlk : meth.locks = false) (hJ : zz_J Y) (hY : zz_tp Y k)  : ∀ (σ : zz_T), pX4_takeNumber_69 k Q σ → zz_V p l e rmX4_takeNumber s m args below meth c (MQ below (va_Qi Q (zz_E Y) (zz_A Y)) args s 0 0 (zz_A Y)) 4 Y σ 69 [] [] := by
  intro σ h 
  unfold pX4_takeNumber_69 at h
  refine zv_iconst (v := 1) X dX4_takeNumber_69 (by decide) rfl ?_
  refine zv_goto (tgt := 74) X dX4_takeNumber_70 (by decide) ?_
  exact zv_zret X hr hlk h dX4_takeNumber_74
def pX4_takeNumber_61 (k : Nat) (Q : Int32 → zz_T → Prop) (σ : zz_T) : Prop :=
    pX4_refuse k 3 σ (fun r63 s63 =>
    ((r63 = 0 → (zz_bo 0 ∧ Q 0 s63)) ∧
    (¬ r63 = 0 → pX4_takeNumber_69 k Q s63)))
set_option maxHeartbeats 4000000 in
set_option maxRecDepth 100000 in
theorem vX4_takeNumber_61 {p : Program} {l : Launch} {e : Env} {s : State} {m : MethodId} {args : Array Value} {below : List Frame} {meth : Method} {c : Code} {Y : zz_Y} {k : Nat} {Q : Int32 → zz_T → Prop} (X : zz_X p m c cX4_takeNumber 4 s args RX4) (hr : meth.sig.returnType = (some .boolean)) (hlk : meth.locks = false) (hJ : zz_J Y) (hY : zz_tp Y k)  : ∀ (σ : zz_T), pX4_takeNumber_61 k Q σ → zz_V p l e rmX4_takeNumber s m args below meth c (MQ below (va_Qi Q (zz_E Y) (zz_A Y)) args s 0 0 (zz_A Y)) 4 Y σ 61 [(0, .ref (Y.2.1 k))] [] := by
  intro σ h 
  unfold pX4_takeNumber_61 at h
  refine zv_aload_n X dX4_takeNumber_61 0 rfl rfl rfl ?_
  refine zv_iconst (v := 3) X dX4_takeNumber_62 (by decide) rfl ?_
  refine zv_cVi (k := k) (ci := 4) X [.int 3] (kX4_refuse l hJ 3 hY h) jl_X4_70 ⟨rfl, rfl⟩ ⟨Nat.le_of_ble_eq_true rfl, Nat.le_of_ble_eq_true rfl⟩ hY.1.1 (by decide) hY.1.2 rfl rfl rfl (Nat.le_of_ble_eq_true rfl) dX4_takeNumber_63 rfl (fun r63 s63 h => ?_)
  refine zv_if_eq (tgt := 73) X dX4_takeNumber_66 (by decide) rfl (fun q66 => ?_) (fun q66 => ?_)
  · replace h := h.1 q66
    refine zv_iconst (v := 0) X dX4_takeNumber_73 (by decide) rfl ?_
    exact zv_zret X hr hlk h dX4_takeNumber_74
  · replace h := h.2 q66
    refine zv_sub (lv2 := []) [] rfl ?_
    exact vX4_takeNumber_69 X hr hlk hJ hY _ h
def pX4_takeNumber_10 (k : Nat) (Q : Int32 → zz_T → Prop) : Nat → Int32 → Int32 → Int32 → zz_T → Prop
  | 0, _, _, _, _ => False
  | n + 1, x1, x2, x3, σ =>
    (((σ.1 k 6) ≤ x3 → (((σ.1 k 7) < x1 → pX4_takeNumber_61 k Q σ) ∧
    (¬ (σ.1 k 7) < x1 → (((σ.1 k 7) ≤ x2 → pX4_takeNumber_69 k Q σ) ∧
    (¬ (σ.1 k 7) ≤ x2 → pX4_takeNumber_61 k Q σ))))) ∧
    (¬ (σ.1 k 6) ≤ x3 → vp_in x3 160 ∧
    pX4_takeNumber_10 k Q n x1 x2 (x3 + 1) (zz_i σ k 7 ((((σ.1 k 7) * 10) + (σ.1 (k + 1) (Int32.toNatClampNeg x3))) - 48))))
set_option maxHeartbeats 4000000 in
set_option maxRecDepth 100000 in
theorem vX4_takeNumber_10 {p : Program} {l : Launch} {e : Env} {s : State} {m : MethodId} {args : Array Value} {below : List Frame} {meth : Method} {c : Code} {Y : zz_Y} {k : Nat} {Q : Int32 → zz_T → Prop} (X : zz_X p m c cX4_takeNumber 4 s args RX4) (hr : meth.sig.returnType = (some .boolean)) (hlk : meth.locks = false) (hJ : zz_J Y) (hY : zz_tp Y k)  : ∀ (n : Nat) (x1 : Int32) (x2 : Int32) (x3 : Int32) (σ : zz_T), pX4_takeNumber_10 k Q n x1 x2 x3 σ → zz_V p l e rmX4_takeNumber s m args below meth c (MQ below (va_Qi Q (zz_E Y) (zz_A Y)) args s 0 0 (zz_A Y)) 4 Y σ 10 [(0, .ref (Y.2.1 k)), (1, .int x1), (2, .int x2), (3, .int x3)] [] := by
  intro n
  induction n with
  | zero => intro x1 x2 x3 σ h; exact h.elim
  | succ n ih =>
    intro x1 x2 x3 σ h 
    unfold pX4_takeNumber_10 at h
    refine zv_iload_n X dX4_takeNumber_10 3 rfl rfl rfl ?_
    refine zv_aload_n X dX4_takeNumber_11 0 rfl rfl rfl ?_
    refine zg_X4_6 (k := k) X hY.1.1 hY.1.2 fl_X4_40 dX4_takeNumber_12 rfl ?_
    refine zv_icmp_ge (tgt := 45) X dX4_takeNumber_15 (by decide) rfl (fun q15 => ?_) (fun q15 => ?_)
    · replace h := h.1 q15
      refine zv_aload_n X dX4_takeNumber_45 0 rfl rfl rfl ?_
      refine zg_X4_7 (k := k) X hY.1.1 hY.1.2 fl_X4_74 dX4_takeNumber_46 rfl ?_
      refine zv_iload_n X dX4_takeNumber_49 1 rfl rfl rfl ?_
      refine zv_icmp_lt (tgt := 61) X dX4_takeNumber_50 (by decide) rfl (fun q50 => ?_) (fun q50 => ?_)
      · replace h := h.1 q50
        refine zv_sub (lv2 := [(0, .ref (Y.2.1 k))]) [0] rfl ?_
        exact vX4_takeNumber_61 X hr hlk hJ hY _ h
      · replace h := h.2 q50
        refine zv_aload_n X dX4_takeNumber_53 0 rfl rfl rfl ?_
        refine zg_X4_7 (k := k) X hY.1.1 hY.1.2 fl_X4_74 dX4_takeNumber_54 rfl ?_
        refine zv_iload_n X dX4_takeNumber_57 2 rfl rfl rfl ?_
        refine zv_icmp_le (tgt := 69) X dX4_takeNumber_58 (by decide) rfl (fun q58 => ?_) (fun q58 => ?_)
        · replace h := h.1 q58
          refine zv_sub (lv2 := []) [] rfl ?_
          exact vX4_takeNumber_69 X hr hlk hJ hY _ h
        · replace h := h.2 q58
          refine zv_sub (lv2 := [(0, .ref (Y.2.1 k))]) [0] rfl ?_
          exact vX4_takeNumber_61 X hr hlk hJ hY _ h
    · replace h := h.2 q15
      refine zv_aload_n X dX4_takeNumber_18 0 rfl rfl rfl ?_
      refine zv_aload_n X dX4_takeNumber_19 0 rfl rfl rfl ?_
      refine zg_X4_7 (k := k) X hY.1.1 hY.1.2 fl_X4_74 dX4_takeNumber_20 rfl ?_
      refine zv_bipush (v := 10) X dX4_takeNumber_23 (by decide) rfl ?_
      refine zv_imul X dX4_takeNumber_25 rfl ?_
      refine zv_aload_n X dX4_takeNumber_26 0 rfl rfl rfl ?_
      refine zg_X4_0 (k := k) X hY.1.1 hY.1.2 fl_X4_11 dX4_takeNumber_27 rfl ?_
      refine zv_iload_n X dX4_takeNumber_30 3 rfl rfl rfl ?_
      obtain ⟨hi31, h⟩ := h
      refine zv_bald (k := (k + 1)) X hY.2.1 hY.2.2 hi31 dX4_takeNumber_31 rfl ?_
      refine zv_iadd X dX4_takeNumber_32 rfl ?_
      refine zv_bipush (v := 48) X dX4_takeNumber_33 (by decide) rfl ?_
      refine zv_isub X dX4_takeNumber_35 rfl ?_
      refine zp_X4_7 (k := k) X hY.1.1 hY.1.2 fl_X4_74 dX4_takeNumber_36 rfl ?_
      refine zv_iinc (v := (x3 + 1)) (lv2 := [(3, .int (x3 + 1)), (0, .ref (Y.2.1 k)), (1, .int x1), (2, .int x2)]) X dX4_takeNumber_39 3 rfl rfl (by decide) rfl rfl ?_
      refine zv_goto (tgt := 10) X dX4_takeNumber_42 (by decide) ?_
      refine zv_sub (lv2 := [(0, .ref (Y.2.1 k)), (1, .int x1), (2, .int x2), (3, .int (x3 + 1))]) [1, 2, 3, 0] rfl ?_
      exact ih x1 x2 (x3 + 1) _ h
def pX4_takeNumber (k : Nat) (x1 : Int32) (x2 : Int32) (σ : zz_T) (Q : Int32 → zz_T → Prop) : Prop :=
    ∃ n10, pX4_takeNumber_10 k Q n10 x1 x2 ((zz_i σ k 7 0).1 k 5) (zz_i σ k 7 0)
set_option maxHeartbeats 4000000 in
set_option maxRecDepth 100000 in
theorem kX4_takeNumber (l : Launch) {Y : zz_Y} (hJ : zz_J Y) {k : Nat} (x1 : Int32) (x2 : Int32) (hY : zz_tp Y k) {σ : zz_T} {Q : Int32 → zz_T → Prop} (h : pX4_takeNumber k x1 x2 σ Q) : zz_Mi l yX4_takeNumber cX4_takeNumber 4 (some .boolean) rmX4_takeNumber Y [.ref (Y.2.1 k), .int x1, .int x2] σ Q := by
  refine zz_Mi.start (by decide) hJ (Nat.le_of_ble_eq_true rfl) (fun p e s m below meth c X hr hlk => ?_)
  have X : zz_X p m c cX4_takeNumber 4 s _ RX4 := X
  refine zv_sub (lv2 := [(0, .ref (Y.2.1 k)), (1, .int x1), (2, .int x2)]) [0, 1, 2] rfl ?_
  unfold pX4_takeNumber at h
  refine zv_aload_n X dX4_takeNumber_0 0 rfl rfl rfl ?_
  refine zv_iconst (v := 0) X dX4_takeNumber_1 (by decide) rfl ?_
  refine zp_X4_7 (k := k) X hY.1.1 hY.1.2 fl_X4_74 dX4_takeNumber_2 rfl ?_
  refine zv_aload_n X dX4_takeNumber_5 0 rfl rfl rfl ?_
  refine zg_X4_5 (k := k) X hY.1.1 hY.1.2 fl_X4_57 dX4_takeNumber_6 rfl ?_
  refine zv_istore_n (lv2 := [(3, .int ((zz_i σ k 7 0).1 k 5)), (0, .ref (Y.2.1 k)), (1, .int x1), (2, .int x2)]) X dX4_takeNumber_9 rfl (by decide) rfl rfl ?_
  obtain ⟨n10, h⟩ := h
  refine zv_sub (lv2 := [(0, .ref (Y.2.1 k)), (1, .int x1), (2, .int x2), (3, .int ((zz_i σ k 7 0).1 k 5))]) [1, 2, 3, 0] rfl ?_
  exact vX4_takeNumber_10 X hr hlk hJ hY n10 x1 x2 ((zz_i σ k 7 0).1 k 5) _ h
def rmX4_readHead : Room := { frames := 3, cells := 0, slots := 0, locals := 63 }
def pX4_readHead (k : Nat) (c1 : Nat) (x2 : Int32) (σ : zz_T) (Q : Int32 → zz_T → Prop) : Prop :=
    (((σ.1 c1 4) < 3 → pX4_stepTo k 2 σ (fun r16 s16 =>
    ((r16 = 0 → (zz_bo 0 ∧ Q 0 s16)) ∧
    (¬ r16 = 0 → pX4_takeNumber k 0 30 s16 (fun r26 s26 =>
    ((r26 = 0 → (zz_bo 0 ∧ Q 0 s26)) ∧
    (¬ r26 = 0 → vp_in (s26.1 c1 4) 3 ∧
    pX0_begin (c1 + 8 + 3 * (Int32.toNatClampNeg (s26.1 c1 4))) x2 (s26.1 k 7) s26 (fun s48 =>
    pX4_stepTo k 3 (zz_i s48 c1 4 ((s48.1 c1 4) + 1)) (fun r63 s63 =>
    (zz_bo r63 ∧ Q r63 s63)))))))))) ∧
    (¬ (σ.1 c1 4) < 3 → pX4_refuse k 5 σ (fun r10 s10 =>
    (zz_bo r10 ∧ Q r10 s10))))
set_option maxHeartbeats 4000000 in
set_option maxRecDepth 100000 in
theorem kX4_readHead (l : Launch) {Y : zz_Y} (hJ : zz_J Y) {k : Nat} {c1 : Nat} (x2 : Int32) (hY : zz_tp Y k) (h1 : zz_pr Y c1) {σ : zz_T} {Q : Int32 → zz_T → Prop} (h : pX4_readHead k c1 x2 σ Q) : zz_Mi l yX4_readHead cX4_readHead 3 (some .boolean) rmX4_readHead Y [.ref (Y.2.1 k), .ref (Y.2.1 c1), .int x2] σ Q := by
  refine zz_Mi.start (by decide) hJ (Nat.le_of_ble_eq_true rfl) (fun p e s m below meth c X hr hlk => ?_)
  have X : zz_X p m c cX4_readHead 3 s _ RX4 := X
  refine zv_sub (lv2 := [(0, .ref (Y.2.1 k)), (1, .ref (Y.2.1 c1)), (2, .int x2)]) [0, 1, 2] rfl ?_
  unfold pX4_readHead at h
  refine zv_aload_n X dX4_readHead_0 1 rfl rfl rfl ?_
  refine zg_X1_4 (k := c1) X h1.1.1 h1.1.2 fl_X4_108 dX4_readHead_1 rfl ?_
  refine zv_iconst (v := 3) X dX4_readHead_4 (by decide) rfl ?_
  refine zv_icmp_lt (tgt := 14) X dX4_readHead_5 (by decide) rfl (fun q5 => ?_) (fun q5 => ?_)
  · replace h := h.1 q5
    refine zv_aload_n X dX4_readHead_14 0 rfl rfl rfl ?_
    refine zv_iconst (v := 2) X dX4_readHead_15 (by decide) rfl ?_
    refine zv_cVi (k := k) (ci := 4) X [.int 2] (kX4_stepTo l hJ 2 hY h) jl_X4_111 ⟨rfl, rfl⟩ ⟨Nat.le_of_ble_eq_true rfl, Nat.le_of_ble_eq_true rfl⟩ hY.1.1 (by decide) hY.1.2 rfl rfl rfl (Nat.le_of_ble_eq_true rfl) dX4_readHead_16 rfl (fun r16 s16 h => ?_)
    refine zv_if_eq (tgt := 32) X dX4_readHead_19 (by decide) rfl (fun q19 => ?_) (fun q19 => ?_)
    · replace h := h.1 q19
      refine zv_iconst (v := 0) X dX4_readHead_32 (by decide) rfl ?_
      exact zv_zret X hr hlk h dX4_readHead_33
    · replace h := h.2 q19
      refine zv_aload_n X dX4_readHead_22 0 rfl rfl rfl ?_
      refine zv_iconst (v := 0) X dX4_readHead_23 (by decide) rfl ?_
      refine zv_bipush (v := 30) X dX4_readHead_24 (by decide) rfl ?_
      refine zv_cVi (k := k) (ci := 4) X [.int 0, .int 30] (kX4_takeNumber l hJ 0 30 hY h) jl_X4_114 ⟨rfl, rfl⟩ ⟨Nat.le_of_ble_eq_true rfl, Nat.le_of_ble_eq_true rfl⟩ hY.1.1 (by decide) hY.1.2 rfl rfl rfl (Nat.le_of_ble_eq_true rfl) dX4_readHead_26 rfl (fun r26 s26 h => ?_)
      refine zv_if_ne (tgt := 34) X dX4_readHead_29 (by decide) rfl (fun q29 => ?_) (fun q29 => ?_)
      · replace h := h.2 q29
        refine zv_aload_n X dX4_readHead_34 1 rfl rfl rfl ?_
        refine zg_X1_0 (k := c1) X h1.1.1 h1.1.2 fl_X4_118 dX4_readHead_35 rfl ?_
        refine zv_aload_n X dX4_readHead_38 1 rfl rfl rfl ?_
        refine zg_X1_4 (k := c1) X h1.1.1 h1.1.2 fl_X4_108 dX4_readHead_39 rfl ?_
        obtain ⟨hi42, h⟩ := h
        refine zv_aald3 (k := (c1 + 1)) X h1.2.1.1 h1.2.1.2 hi42 dX4_readHead_42 rfl ?_
        refine zv_iload_n X dX4_readHead_43 2 rfl rfl rfl ?_
        refine zv_aload_n X dX4_readHead_44 0 rfl rfl rfl ?_
        refine zg_X4_7 (k := k) X hY.1.1 hY.1.2 fl_X4_74 dX4_readHead_45 rfl ?_
        refine zv_cVv (k := (c1 + 8 + 3 * (Int32.toNatClampNeg (s26.1 c1 4)))) (ci := 0) X [.int x2, .int (s26.1 k 7)] (kX0_begin l hJ x2 (s26.1 k 7) (h1.2.2.2.2.2 _ (zz_lt hi42)) h) jl_X4_122 ⟨rfl, rfl⟩ ⟨Nat.le_of_ble_eq_true rfl, Nat.le_of_ble_eq_true rfl⟩ (h1.2.2.2.2.2 _ (zz_lt hi42)).1.1 (by decide) (h1.2.2.2.2.2 _ (zz_lt hi42)).1.2 rfl rfl rfl (Nat.le_of_ble_eq_true rfl) dX4_readHead_48 rfl (fun s48 h => ?_)
        refine zv_aload_n X dX4_readHead_51 1 rfl rfl rfl ?_
        refine zv_dup X dX4_readHead_52 rfl rfl ?_
        refine zg_X1_4 (k := c1) X h1.1.1 h1.1.2 fl_X4_108 dX4_readHead_53 rfl ?_
        refine zv_iconst (v := 1) X dX4_readHead_56 (by decide) rfl ?_
        refine zv_iadd X dX4_readHead_57 rfl ?_
        refine zp_X1_4 (k := c1) X h1.1.1 h1.1.2 fl_X4_108 dX4_readHead_58 rfl ?_
        refine zv_aload_n X dX4_readHead_61 0 rfl rfl rfl ?_
        refine zv_iconst (v := 3) X dX4_readHead_62 (by decide) rfl ?_
        refine zv_cVi (k := k) (ci := 4) X [.int 3] (kX4_stepTo l hJ 3 hY h) jl_X4_111 ⟨rfl, rfl⟩ ⟨Nat.le_of_ble_eq_true rfl, Nat.le_of_ble_eq_true rfl⟩ hY.1.1 (by decide) hY.1.2 rfl rfl rfl (Nat.le_of_ble_eq_true rfl) dX4_readHead_63 rfl (fun r63 s63 h => ?_)
        exact zv_zret X hr hlk h dX4_readHead_66
      · replace h := h.1 q29
        refine zv_iconst (v := 0) X dX4_readHead_32 (by decide) rfl ?_
        exact zv_zret X hr hlk h dX4_readHead_33
  · replace h := h.2 q5
    refine zv_aload_n X dX4_readHead_8 0 rfl rfl rfl ?_
    refine zv_iconst (v := 5) X dX4_readHead_9 (by decide) rfl ?_
    refine zv_cVi (k := k) (ci := 4) X [.int 5] (kX4_refuse l hJ 5 hY h) jl_X4_70 ⟨rfl, rfl⟩ ⟨Nat.le_of_ble_eq_true rfl, Nat.le_of_ble_eq_true rfl⟩ hY.1.1 (by decide) hY.1.2 rfl rfl rfl (Nat.le_of_ble_eq_true rfl) dX4_readHead_10 rfl (fun r10 s10 h => ?_)
    exact zv_zret X hr hlk h dX4_readHead_13
def rmX4_readLines : Room := { frames := 3, cells := 0, slots := 0, locals := 63 }
def pX4_readLines_102 (k : Nat) (c1 : Nat) (Q : Int32 → zz_T → Prop) (σ : zz_T) : Prop :=
    (zz_bo 1 ∧ Q 1 σ)
set_option maxHeartbeats 4000000 in
set_option maxRecDepth 100000 in
theorem vX4_readLines_102 {p : Program} {l : Launch} {e : Env} {s : State} {m : MethodId} {args : Array Value} {below : List Frame} {meth : Method} {c : Code} {Y : zz_Y} {k : Nat} {c1 : Nat} {Q : Int32 → zz_T → Prop} (X : zz_X p m c cX4_readLines 2 s args RX4) (hr : meth.sig.returnType = (some .boolean)) (hlk : meth.locks = false) (hJ : zz_J Y) (hY : zz_tp Y k) (h1 : zz_pr Y c1)  : ∀ (σ : zz_T), pX4_readLines_102 k c1 Q σ → zz_V p l e rmX4_readLines s m args below meth c (MQ below (va_Qi Q (zz_E Y) (zz_A Y)) args s 0 0 (zz_A Y)) 2 Y σ 102 [] [] := by
  intro σ h 
  unfold pX4_readLines_102 at h
  refine zv_iconst (v := 1) X dX4_readLines_102 (by decide) rfl ?_
  refine zv_goto (tgt := 107) X dX4_readLines_103 (by decide) ?_
  exact zv_zret X hr hlk h dX4_readLines_107
def pX4_readLines_72 (k : Nat) (c1 : Nat) (Q : Int32 → zz_T → Prop) (σ : zz_T) : Prop :=
    (((σ.1 k 4) = 2 → pX4_refuse k 5 σ (fun r82 s82 =>
    (zz_bo r82 ∧ Q r82 s82))) ∧
    (¬ (σ.1 k 4) = 2 → (((σ.1 k 4) = 3 → pX4_readLines_102 k c1 Q σ) ∧
    (¬ (σ.1 k 4) = 3 → pX4_refuse k 2 σ (fun r96 s96 =>
    ((r96 = 0 → (zz_bo 0 ∧ Q 0 s96)) ∧
    (¬ r96 = 0 → pX4_readLines_102 k c1 Q s96)))))))
set_option maxHeartbeats 4000000 in
set_option maxRecDepth 100000 in
theorem vX4_readLines_72 {p : Program} {l : Launch} {e : Env} {s : State} {m : MethodId} {args : Array Value} {below : List Frame} {meth : Method} {c : Code} {Y : zz_Y} {k : Nat} {c1 : Nat} {Q : Int32 → zz_T → Prop} (X : zz_X p m c cX4_readLines 2 s args RX4) (hr : meth.sig.returnType = (some .boolean)) (hlk : meth.locks = false) (hJ : zz_J Y) (hY : zz_tp Y k) (h1 : zz_pr Y c1)  : ∀ (σ : zz_T), pX4_readLines_72 k c1 Q σ → zz_V p l e rmX4_readLines s m args below meth c (MQ below (va_Qi Q (zz_E Y) (zz_A Y)) args s 0 0 (zz_A Y)) 2 Y σ 72 [(0, .ref (Y.2.1 k))] [] := by
  intro σ h 
  unfold pX4_readLines_72 at h
  refine zv_aload_n X dX4_readLines_72 0 rfl rfl rfl ?_
  refine zg_X4_4 (k := k) X hY.1.1 hY.1.2 fl_X4_50 dX4_readLines_73 rfl ?_
  refine zv_iconst (v := 2) X dX4_readLines_76 (by decide) rfl ?_
  refine zv_icmp_ne (tgt := 86) X dX4_readLines_77 (by decide) rfl (fun q77 => ?_) (fun q77 => ?_)
  · replace h := h.2 q77
    refine zv_aload_n X dX4_readLines_86 0 rfl rfl rfl ?_
    refine zg_X4_4 (k := k) X hY.1.1 hY.1.2 fl_X4_50 dX4_readLines_87 rfl ?_
    refine zv_iconst (v := 3) X dX4_readLines_90 (by decide) rfl ?_
    refine zv_icmp_eq (tgt := 102) X dX4_readLines_91 (by decide) rfl (fun q91 => ?_) (fun q91 => ?_)
    · replace h := h.1 q91
      refine zv_sub (lv2 := []) [] rfl ?_
      exact vX4_readLines_102 X hr hlk hJ hY h1 _ h
    · replace h := h.2 q91
      refine zv_aload_n X dX4_readLines_94 0 rfl rfl rfl ?_
      refine zv_iconst (v := 2) X dX4_readLines_95 (by decide) rfl ?_
      refine zv_cVi (k := k) (ci := 4) X [.int 2] (kX4_refuse l hJ 2 hY h) jl_X4_70 ⟨rfl, rfl⟩ ⟨Nat.le_of_ble_eq_true rfl, Nat.le_of_ble_eq_true rfl⟩ hY.1.1 (by decide) hY.1.2 rfl rfl rfl (Nat.le_of_ble_eq_true rfl) dX4_readLines_96 rfl (fun r96 s96 h => ?_)
      refine zv_if_eq (tgt := 106) X dX4_readLines_99 (by decide) rfl (fun q99 => ?_) (fun q99 => ?_)
      · replace h := h.1 q99
        refine zv_iconst (v := 0) X dX4_readLines_106 (by decide) rfl ?_
        exact zv_zret X hr hlk h dX4_readLines_107
      · replace h := h.2 q99
        refine zv_sub (lv2 := []) [] rfl ?_
        exact vX4_readLines_102 X hr hlk hJ hY h1 _ h
  · replace h := h.1 q77
    refine zv_aload_n X dX4_readLines_80 0 rfl rfl rfl ?_
    refine zv_iconst (v := 5) X dX4_readLines_81 (by decide) rfl ?_
    refine zv_cVi (k := k) (ci := 4) X [.int 5] (kX4_refuse l hJ 5 hY h) jl_X4_70 ⟨rfl, rfl⟩ ⟨Nat.le_of_ble_eq_true rfl, Nat.le_of_ble_eq_true rfl⟩ hY.1.1 (by decide) hY.1.2 rfl rfl rfl (Nat.le_of_ble_eq_true rfl) dX4_readLines_82 rfl (fun r82 s82 h => ?_)
    exact zv_zret X hr hlk h dX4_readLines_85
def pX4_readLines_10 (k : Nat) (c1 : Nat) (Q : Int32 → zz_T → Prop) : Nat → zz_T → Prop
  | 0, _ => False
  | n + 1, σ =>
    ((12 ≤ (σ.1 c1 5) → pX4_readLines_72 k c1 Q σ) ∧
    (¬ 12 ≤ (σ.1 c1 5) → (((σ.1 k 4) = 2 → pX4_takeNumber k 0 255 σ (fun r32 s32 =>
    ((r32 = 0 → (zz_bo 0 ∧ Q 0 s32)) ∧
    (¬ r32 = 0 → vp_in (s32.1 c1 5) 12 ∧
    pX4_step k (zz_i (zz_i s32 (c1 + 2) (Int32.toNatClampNeg (s32.1 c1 5)) (s32.1 k 7)) c1 5 (((zz_i s32 (c1 + 2) (Int32.toNatClampNeg (s32.1 c1 5)) (s32.1 k 7)).1 c1 5) + 1)) (fun r64 s64 =>
    ((r64 = 0 → (zz_bo 0 ∧ Q 0 s64)) ∧
    (¬ r64 = 0 → pX4_readLines_10 k c1 Q n s64))))))) ∧
    (¬ (σ.1 k 4) = 2 → pX4_readLines_72 k c1 Q σ))))
set_option maxHeartbeats 4000000 in
set_option maxRecDepth 100000 in
theorem vX4_readLines_10 {p : Program} {l : Launch} {e : Env} {s : State} {m : MethodId} {args : Array Value} {below : List Frame} {meth : Method} {c : Code} {Y : zz_Y} {k : Nat} {c1 : Nat} {Q : Int32 → zz_T → Prop} (X : zz_X p m c cX4_readLines 2 s args RX4) (hr : meth.sig.returnType = (some .boolean)) (hlk : meth.locks = false) (hJ : zz_J Y) (hY : zz_tp Y k) (h1 : zz_pr Y c1)  : ∀ (n : Nat) (σ : zz_T), pX4_readLines_10 k c1 Q n σ → zz_V p l e rmX4_readLines s m args below meth c (MQ below (va_Qi Q (zz_E Y) (zz_A Y)) args s 0 0 (zz_A Y)) 2 Y σ 10 [(0, .ref (Y.2.1 k)), (1, .ref (Y.2.1 c1))] [] := by
  intro n
  induction n with
  | zero => intro σ h; exact h.elim
  | succ n ih =>
    intro σ h 
    unfold pX4_readLines_10 at h
    refine zv_aload_n X dX4_readLines_10 1 rfl rfl rfl ?_
    refine zg_X1_5 (k := c1) X h1.1.1 h1.1.2 fl_X4_137 dX4_readLines_11 rfl ?_
    refine zv_bipush (v := 12) X dX4_readLines_14 (by decide) rfl ?_
    refine zv_icmp_ge (tgt := 72) X dX4_readLines_16 (by decide) rfl (fun q16 => ?_) (fun q16 => ?_)
    · replace h := h.1 q16
      refine zv_sub (lv2 := [(0, .ref (Y.2.1 k))]) [0] rfl ?_
      exact vX4_readLines_72 X hr hlk hJ hY h1 _ h
    · replace h := h.2 q16
      refine zv_aload_n X dX4_readLines_19 0 rfl rfl rfl ?_
      refine zg_X4_4 (k := k) X hY.1.1 hY.1.2 fl_X4_50 dX4_readLines_20 rfl ?_
      refine zv_iconst (v := 2) X dX4_readLines_23 (by decide) rfl ?_
      refine zv_icmp_ne (tgt := 72) X dX4_readLines_24 (by decide) rfl (fun q24 => ?_) (fun q24 => ?_)
      · replace h := h.2 q24
        refine zv_sub (lv2 := [(0, .ref (Y.2.1 k))]) [0] rfl ?_
        exact vX4_readLines_72 X hr hlk hJ hY h1 _ h
      · replace h := h.1 q24
        refine zv_aload_n X dX4_readLines_27 0 rfl rfl rfl ?_
        refine zv_iconst (v := 0) X dX4_readLines_28 (by decide) rfl ?_
        refine zv_sipush (v := 255) X dX4_readLines_29 (by decide) rfl ?_
        refine zv_cVi (k := k) (ci := 4) X [.int 0, .int 255] (kX4_takeNumber l hJ 0 255 hY h) jl_X4_114 ⟨rfl, rfl⟩ ⟨Nat.le_of_ble_eq_true rfl, Nat.le_of_ble_eq_true rfl⟩ hY.1.1 (by decide) hY.1.2 rfl rfl rfl (Nat.le_of_ble_eq_true rfl) dX4_readLines_32 rfl (fun r32 s32 h => ?_)
        refine zv_if_ne (tgt := 40) X dX4_readLines_35 (by decide) rfl (fun q35 => ?_) (fun q35 => ?_)
        · replace h := h.2 q35
          refine zv_aload_n X dX4_readLines_40 1 rfl rfl rfl ?_
          refine zg_X1_1 (k := c1) X h1.1.1 h1.1.2 fl_X4_140 dX4_readLines_41 rfl ?_
          refine zv_aload_n X dX4_readLines_44 1 rfl rfl rfl ?_
          refine zg_X1_5 (k := c1) X h1.1.1 h1.1.2 fl_X4_137 dX4_readLines_45 rfl ?_
          refine zv_aload_n X dX4_readLines_48 0 rfl rfl rfl ?_
          refine zg_X4_7 (k := k) X hY.1.1 hY.1.2 fl_X4_74 dX4_readLines_49 rfl ?_
          obtain ⟨hi52, h⟩ := h
          refine zv_iast (k := (c1 + 2)) X h1.2.2.1.1 h1.2.2.1.2 hi52 dX4_readLines_52 rfl ?_
          refine zv_aload_n X dX4_readLines_53 1 rfl rfl rfl ?_
          refine zv_dup X dX4_readLines_54 rfl rfl ?_
          refine zg_X1_5 (k := c1) X h1.1.1 h1.1.2 fl_X4_137 dX4_readLines_55 rfl ?_
          refine zv_iconst (v := 1) X dX4_readLines_58 (by decide) rfl ?_
          refine zv_iadd X dX4_readLines_59 rfl ?_
          refine zp_X1_5 (k := c1) X h1.1.1 h1.1.2 fl_X4_137 dX4_readLines_60 rfl ?_
          refine zv_aload_n X dX4_readLines_63 0 rfl rfl rfl ?_
          refine zv_cVi (k := k) (ci := 4) X [] (kX4_step l hJ  hY h) jl_X4_46 ⟨rfl, rfl⟩ ⟨Nat.le_of_ble_eq_true rfl, Nat.le_of_ble_eq_true rfl⟩ hY.1.1 (by decide) hY.1.2 rfl rfl rfl (Nat.le_of_ble_eq_true rfl) dX4_readLines_64 rfl (fun r64 s64 h => ?_)
          refine zv_if_ne (tgt := 10) X dX4_readLines_67 (by decide) rfl (fun q67 => ?_) (fun q67 => ?_)
          · replace h := h.2 q67
            exact ih _ h
          · replace h := h.1 q67
            refine zv_iconst (v := 0) X dX4_readLines_70 (by decide) rfl ?_
            exact zv_zret X hr hlk h dX4_readLines_71
        · replace h := h.1 q35
          refine zv_iconst (v := 0) X dX4_readLines_38 (by decide) rfl ?_
          exact zv_zret X hr hlk h dX4_readLines_39
def pX4_readLines (k : Nat) (c1 : Nat) (σ : zz_T) (Q : Int32 → zz_T → Prop) : Prop :=
    pX4_stepTo k 2 σ (fun r2 s2 =>
    ((r2 = 0 → (zz_bo 0 ∧ Q 0 s2)) ∧
    (¬ r2 = 0 → ∃ n10, pX4_readLines_10 k c1 Q n10 s2)))
set_option maxHeartbeats 4000000 in
set_option maxRecDepth 100000 in
theorem kX4_readLines (l : Launch) {Y : zz_Y} (hJ : zz_J Y) {k : Nat} {c1 : Nat} (hY : zz_tp Y k) (h1 : zz_pr Y c1) {σ : zz_T} {Q : Int32 → zz_T → Prop} (h : pX4_readLines k c1 σ Q) : zz_Mi l yX4_readLines cX4_readLines 2 (some .boolean) rmX4_readLines Y [.ref (Y.2.1 k), .ref (Y.2.1 c1)] σ Q := by
  refine zz_Mi.start (by decide) hJ (Nat.le_of_ble_eq_true rfl) (fun p e s m below meth c X hr hlk => ?_)
  have X : zz_X p m c cX4_readLines 2 s _ RX4 := X
  refine zv_sub (lv2 := [(0, .ref (Y.2.1 k)), (1, .ref (Y.2.1 c1))]) [0, 1] rfl ?_
  unfold pX4_readLines at h
  refine zv_aload_n X dX4_readLines_0 0 rfl rfl rfl ?_
  refine zv_iconst (v := 2) X dX4_readLines_1 (by decide) rfl ?_
  refine zv_cVi (k := k) (ci := 4) X [.int 2] (kX4_stepTo l hJ 2 hY h) jl_X4_111 ⟨rfl, rfl⟩ ⟨Nat.le_of_ble_eq_true rfl, Nat.le_of_ble_eq_true rfl⟩ hY.1.1 (by decide) hY.1.2 rfl rfl rfl (Nat.le_of_ble_eq_true rfl) dX4_readLines_2 rfl (fun r2 s2 h => ?_)
  refine zv_if_ne (tgt := 10) X dX4_readLines_5 (by decide) rfl (fun q5 => ?_) (fun q5 => ?_)
  · replace h := h.2 q5
    obtain ⟨n10, h⟩ := h
    exact vX4_readLines_10 X hr hlk hJ hY h1 n10 _ h
  · replace h := h.1 q5
    refine zv_iconst (v := 0) X dX4_readLines_8 (by decide) rfl ?_
    exact zv_zret X hr hlk h dX4_readLines_9
def rmX4_readRule : Room := { frames := 3, cells := 0, slots := 0, locals := 63 }
def pX4_readRule (k : Nat) (c1 : Nat) (x2 : Int32) (σ : zz_T) (Q : Int32 → zz_T → Prop) : Prop :=
    pX4_stepTo k 2 σ (fun r2 s2 =>
    ((r2 = 0 → (zz_bo 0 ∧ Q 0 s2)) ∧
    (¬ r2 = 0 → vp_in x2 3 ∧
    vp_in x2 3 ∧
    pX4_takeNumber k (zz_f 0 (Int32.toNatClampNeg x2)) (zz_f 1 (Int32.toNatClampNeg x2)) s2 (fun r19 s19 =>
    ((r19 = 0 → (zz_bo 0 ∧ Q 0 s19)) ∧
    (¬ r19 = 0 → vp_in x2 3 ∧
    pX4_stepTo k 3 (zz_i s19 (c1 + 3) (Int32.toNatClampNeg x2) (s19.1 k 7)) (fun r39 s39 =>
    (zz_bo r39 ∧ Q r39 s39))))))))
set_option maxHeartbeats 4000000 in
set_option maxRecDepth 100000 in
theorem kX4_readRule (l : Launch) {Y : zz_Y} (hJ : zz_J Y) {k : Nat} {c1 : Nat} (x2 : Int32) (hY : zz_tp Y k) (h1 : zz_pr Y c1) {σ : zz_T} {Q : Int32 → zz_T → Prop} (h : pX4_readRule k c1 x2 σ Q) : zz_Mi l yX4_readRule cX4_readRule 3 (some .boolean) rmX4_readRule Y [.ref (Y.2.1 k), .ref (Y.2.1 c1), .int x2] σ Q := by
  refine zz_Mi.start (by decide) hJ (Nat.le_of_ble_eq_true rfl) (fun p e s m below meth c X hr hlk => ?_)
  have X : zz_X p m c cX4_readRule 3 s _ RX4 := X
  refine zv_sub (lv2 := [(0, .ref (Y.2.1 k)), (1, .ref (Y.2.1 c1)), (2, .int x2)]) [0, 1, 2] rfl ?_
  unfold pX4_readRule at h
  refine zv_aload_n X dX4_readRule_0 0 rfl rfl rfl ?_
  refine zv_iconst (v := 2) X dX4_readRule_1 (by decide) rfl ?_
  refine zv_cVi (k := k) (ci := 4) X [.int 2] (kX4_stepTo l hJ 2 hY h) jl_X4_111 ⟨rfl, rfl⟩ ⟨Nat.le_of_ble_eq_true rfl, Nat.le_of_ble_eq_true rfl⟩ hY.1.1 (by decide) hY.1.2 rfl rfl rfl (Nat.le_of_ble_eq_true rfl) dX4_readRule_2 rfl (fun r2 s2 h => ?_)
  refine zv_if_eq (tgt := 25) X dX4_readRule_5 (by decide) rfl (fun q5 => ?_) (fun q5 => ?_)
  · replace h := h.1 q5
    refine zv_iconst (v := 0) X dX4_readRule_25 (by decide) rfl ?_
    exact zv_zret X hr hlk h dX4_readRule_26
  · replace h := h.2 q5
    refine zv_aload_n X dX4_readRule_8 0 rfl rfl rfl ?_
    refine zv_stN127 X dX4_readRule_9 rfl ?_
    refine zv_iload_n X dX4_readRule_12 2 rfl rfl rfl ?_
    obtain ⟨hi13, h⟩ := h
    refine zv_tald X 0 (by decide) hi13 dX4_readRule_13 rfl ?_
    refine zv_stN131 X dX4_readRule_14 rfl ?_
    refine zv_iload_n X dX4_readRule_17 2 rfl rfl rfl ?_
    obtain ⟨hi18, h⟩ := h
    refine zv_tald X 1 (by decide) hi18 dX4_readRule_18 rfl ?_
    refine zv_cVi (k := k) (ci := 4) X [.int (zz_f 0 (Int32.toNatClampNeg x2)), .int (zz_f 1 (Int32.toNatClampNeg x2))] (kX4_takeNumber l hJ (zz_f 0 (Int32.toNatClampNeg x2)) (zz_f 1 (Int32.toNatClampNeg x2)) hY h) jl_X4_114 ⟨rfl, rfl⟩ ⟨Nat.le_of_ble_eq_true rfl, Nat.le_of_ble_eq_true rfl⟩ hY.1.1 (by decide) hY.1.2 rfl rfl rfl (Nat.le_of_ble_eq_true rfl) dX4_readRule_19 rfl (fun r19 s19 h => ?_)
    refine zv_if_ne (tgt := 27) X dX4_readRule_22 (by decide) rfl (fun q22 => ?_) (fun q22 => ?_)
    · replace h := h.2 q22
      refine zv_aload_n X dX4_readRule_27 1 rfl rfl rfl ?_
      refine zg_X1_2 (k := c1) X h1.1.1 h1.1.2 fl_X4_134 dX4_readRule_28 rfl ?_
      refine zv_iload_n X dX4_readRule_31 2 rfl rfl rfl ?_
      refine zv_aload_n X dX4_readRule_32 0 rfl rfl rfl ?_
      refine zg_X4_7 (k := k) X hY.1.1 hY.1.2 fl_X4_74 dX4_readRule_33 rfl ?_
      obtain ⟨hi36, h⟩ := h
      refine zv_iast (k := (c1 + 3)) X h1.2.2.2.1.1 h1.2.2.2.1.2 hi36 dX4_readRule_36 rfl ?_
      refine zv_aload_n X dX4_readRule_37 0 rfl rfl rfl ?_
      refine zv_iconst (v := 3) X dX4_readRule_38 (by decide) rfl ?_
      refine zv_cVi (k := k) (ci := 4) X [.int 3] (kX4_stepTo l hJ 3 hY h) jl_X4_111 ⟨rfl, rfl⟩ ⟨Nat.le_of_ble_eq_true rfl, Nat.le_of_ble_eq_true rfl⟩ hY.1.1 (by decide) hY.1.2 rfl rfl rfl (Nat.le_of_ble_eq_true rfl) dX4_readRule_39 rfl (fun r39 s39 h => ?_)
      exact zv_zret X hr hlk h dX4_readRule_42
    · replace h := h.1 q22
      refine zv_iconst (v := 0) X dX4_readRule_25 (by decide) rfl ?_
      exact zv_zret X hr hlk h dX4_readRule_26
def rmX4_readLine : Room := { frames := 6, cells := 0, slots := 0, locals := 128 }
def pX4_readLine (k : Nat) (c1 : Nat) (σ : zz_T) (Q : Int32 → zz_T → Prop) : Prop :=
    pX4_nameIndex k σ (fun r1 s1 =>
    ((r1 = (-4) → pX4_refuse k 2 s1 (fun r13 s13 =>
    (zz_bo r13 ∧ Q r13 s13))) ∧
    (¬ r1 = (-4) → ((4 ≤ r1 → (((((s1.1 k 8) >>> (r1 &&& (31 : Int32))) &&& 1) = 1 → pX4_refuse k 4 s1 (fun r43 s43 =>
    (zz_bo r43 ∧ Q r43 s43))) ∧
    (¬ (((s1.1 k 8) >>> (r1 &&& (31 : Int32))) &&& 1) = 1 → ((r1 = 7 → pX4_readLines k c1 (zz_i s1 k 8 ((s1.1 k 8) ||| (1 <<< (r1 &&& (31 : Int32))))) (fun r67 s67 =>
    (zz_bo r67 ∧ Q r67 s67))) ∧
    (¬ r1 = 7 → pX4_readRule k c1 (r1 - 4) (zz_i s1 k 8 ((s1.1 k 8) ||| (1 <<< (r1 &&& (31 : Int32))))) (fun r78 s78 =>
    (zz_bo r78 ∧ Q r78 s78))))))) ∧
    (¬ 4 ≤ r1 → pX4_readHead k c1 r1 s1 (fun r25 s25 =>
    (zz_bo r25 ∧ Q r25 s25)))))))
set_option maxHeartbeats 4000000 in
set_option maxRecDepth 100000 in
theorem kX4_readLine (l : Launch) {Y : zz_Y} (hJ : zz_J Y) {k : Nat} {c1 : Nat} (hY : zz_tp Y k) (h1 : zz_pr Y c1) {σ : zz_T} {Q : Int32 → zz_T → Prop} (h : pX4_readLine k c1 σ Q) : zz_Mi l yX4_readLine cX4_readLine 3 (some .boolean) rmX4_readLine Y [.ref (Y.2.1 k), .ref (Y.2.1 c1)] σ Q := by
  refine zz_Mi.start (by decide) hJ (Nat.le_of_ble_eq_true rfl) (fun p e s m below meth c X hr hlk => ?_)
  have X : zz_X p m c cX4_readLine 3 s _ RX4 := X
  refine zv_sub (lv2 := [(0, .ref (Y.2.1 k)), (1, .ref (Y.2.1 c1))]) [0, 1] rfl ?_
  unfold pX4_readLine at h
  refine zv_aload_n X dX4_readLine_0 0 rfl rfl rfl ?_
  refine zv_cVi (k := k) (ci := 4) X [] (kX4_nameIndex l hJ  hY h) jl_X4_95 ⟨rfl, rfl⟩ ⟨Nat.le_of_ble_eq_true rfl, Nat.le_of_ble_eq_true rfl⟩ hY.1.1 (by decide) hY.1.2 rfl rfl rfl (Nat.le_of_ble_eq_true rfl) dX4_readLine_1 rfl (fun r1 s1 h => ?_)
  refine zv_istore_n (lv2 := [(2, .int r1), (0, .ref (Y.2.1 k)), (1, .ref (Y.2.1 c1))]) X dX4_readLine_4 rfl (by decide) rfl rfl ?_
  refine zv_iload_n X dX4_readLine_5 0 rfl rfl rfl ?_
  refine zv_bipush (v := (-4)) X dX4_readLine_6 (by decide) rfl ?_
  refine zv_icmp_ne (tgt := 17) X dX4_readLine_8 (by decide) rfl (fun q8 => ?_) (fun q8 => ?_)
  · replace h := h.2 q8
    refine zv_iload_n X dX4_readLine_17 0 rfl rfl rfl ?_
    refine zv_iconst (v := 4) X dX4_readLine_18 (by decide) rfl ?_
    refine zv_icmp_ge (tgt := 29) X dX4_readLine_19 (by decide) rfl (fun q19 => ?_) (fun q19 => ?_)
    · replace h := h.1 q19
      refine zv_aload_n X dX4_readLine_29 1 rfl rfl rfl ?_
      refine zg_X4_8 (k := k) X hY.1.1 hY.1.2 fl_X4_43 dX4_readLine_30 rfl ?_
      refine zv_iload_n X dX4_readLine_33 0 rfl rfl rfl ?_
      refine zv_ishr X dX4_readLine_34 rfl ?_
      refine zv_iconst (v := 1) X dX4_readLine_35 (by decide) rfl ?_
      refine zv_iand X dX4_readLine_36 rfl ?_
      refine zv_iconst (v := 1) X dX4_readLine_37 (by decide) rfl ?_
      refine zv_icmp_ne (tgt := 47) X dX4_readLine_38 (by decide) rfl (fun q38 => ?_) (fun q38 => ?_)
      · replace h := h.2 q38
        refine zv_aload_n X dX4_readLine_47 1 rfl rfl rfl ?_
        refine zv_dup X dX4_readLine_48 rfl rfl ?_
        refine zg_X4_8 (k := k) X hY.1.1 hY.1.2 fl_X4_43 dX4_readLine_49 rfl ?_
        refine zv_iconst (v := 1) X dX4_readLine_52 (by decide) rfl ?_
        refine zv_iload_n X dX4_readLine_53 0 rfl rfl rfl ?_
        refine zv_ishl X dX4_readLine_54 rfl ?_
        refine zv_ior X dX4_readLine_55 rfl ?_
        refine zp_X4_8 (k := k) X hY.1.1 hY.1.2 fl_X4_43 dX4_readLine_56 rfl ?_
        refine zv_iload_n X dX4_readLine_59 0 rfl rfl rfl ?_
        refine zv_bipush (v := 7) X dX4_readLine_60 (by decide) rfl ?_
        refine zv_icmp_ne (tgt := 73) X dX4_readLine_62 (by decide) rfl (fun q62 => ?_) (fun q62 => ?_)
        · replace h := h.2 q62
          refine zv_aload_n X dX4_readLine_73 1 rfl rfl rfl ?_
          refine zv_aload_n X dX4_readLine_74 2 rfl rfl rfl ?_
          refine zv_iload_n X dX4_readLine_75 0 rfl rfl rfl ?_
          refine zv_iconst (v := 4) X dX4_readLine_76 (by decide) rfl ?_
          refine zv_isub X dX4_readLine_77 rfl ?_
          refine zv_cVi (k := k) (ci := 4) X [.ref (Y.2.1 c1), .int (r1 - 4)] (kX4_readRule l hJ (r1 - 4) hY h1 h) jl_X4_105 ⟨rfl, rfl⟩ ⟨Nat.le_of_ble_eq_true rfl, Nat.le_of_ble_eq_true rfl⟩ hY.1.1 (by decide) hY.1.2 rfl rfl rfl (Nat.le_of_ble_eq_true rfl) dX4_readLine_78 rfl (fun r78 s78 h => ?_)
          exact zv_zret X hr hlk h dX4_readLine_81
        · replace h := h.1 q62
          refine zv_aload_n X dX4_readLine_65 1 rfl rfl rfl ?_
          refine zv_aload_n X dX4_readLine_66 2 rfl rfl rfl ?_
          refine zv_cVi (k := k) (ci := 4) X [.ref (Y.2.1 c1)] (kX4_readLines l hJ  hY h1 h) jl_X4_102 ⟨rfl, rfl⟩ ⟨Nat.le_of_ble_eq_true rfl, Nat.le_of_ble_eq_true rfl⟩ hY.1.1 (by decide) hY.1.2 rfl rfl rfl (Nat.le_of_ble_eq_true rfl) dX4_readLine_67 rfl (fun r67 s67 h => ?_)
          refine zv_goto (tgt := 81) X dX4_readLine_70 (by decide) ?_
          exact zv_zret X hr hlk h dX4_readLine_81
      · replace h := h.1 q38
        refine zv_aload_n X dX4_readLine_41 1 rfl rfl rfl ?_
        refine zv_iconst (v := 4) X dX4_readLine_42 (by decide) rfl ?_
        refine zv_cVi (k := k) (ci := 4) X [.int 4] (kX4_refuse l hJ 4 hY h) jl_X4_70 ⟨rfl, rfl⟩ ⟨Nat.le_of_ble_eq_true rfl, Nat.le_of_ble_eq_true rfl⟩ hY.1.1 (by decide) hY.1.2 rfl rfl rfl (Nat.le_of_ble_eq_true rfl) dX4_readLine_43 rfl (fun r43 s43 h => ?_)
        exact zv_zret X hr hlk h dX4_readLine_46
    · replace h := h.2 q19
      refine zv_aload_n X dX4_readLine_22 1 rfl rfl rfl ?_
      refine zv_aload_n X dX4_readLine_23 2 rfl rfl rfl ?_
      refine zv_iload_n X dX4_readLine_24 0 rfl rfl rfl ?_
      refine zv_cVi (k := k) (ci := 4) X [.ref (Y.2.1 c1), .int r1] (kX4_readHead l hJ r1 hY h1 h) jl_X4_98 ⟨rfl, rfl⟩ ⟨Nat.le_of_ble_eq_true rfl, Nat.le_of_ble_eq_true rfl⟩ hY.1.1 (by decide) hY.1.2 rfl rfl rfl (Nat.le_of_ble_eq_true rfl) dX4_readLine_25 rfl (fun r25 s25 h => ?_)
      exact zv_zret X hr hlk h dX4_readLine_28
  · replace h := h.1 q8
    refine zv_aload_n X dX4_readLine_11 1 rfl rfl rfl ?_
    refine zv_iconst (v := 2) X dX4_readLine_12 (by decide) rfl ?_
    refine zv_cVi (k := k) (ci := 4) X [.int 2] (kX4_refuse l hJ 2 hY h) jl_X4_70 ⟨rfl, rfl⟩ ⟨Nat.le_of_ble_eq_true rfl, Nat.le_of_ble_eq_true rfl⟩ hY.1.1 (by decide) hY.1.2 rfl rfl rfl (Nat.le_of_ble_eq_true rfl) dX4_readLine_13 rfl (fun r13 s13 h => ?_)
    exact zv_zret X hr hlk h dX4_readLine_16
def rmX4_readInto : Room := { frames := 7, cells := 0, slots := 0, locals := 150 }
def pX4_readInto_21 (k : Nat) (c1 : Nat) (Q : Int32 → zz_T → Prop) : Nat → Int32 → zz_T → Prop
  | 0, _, _ => False
  | n + 1, x2, σ =>
    ((160 < x2 → Q x2 σ) ∧
    (¬ 160 < x2 → pX4_step k σ (fun r29 s29 =>
    ((r29 = 0 → Q x2 s29) ∧
    (¬ r29 = 0 → (((s29.1 k 4) = 0 → Q x2 s29) ∧
    (¬ (s29.1 k 4) = 0 → pX4_readLine k c1 s29 (fun r44 s44 =>
    ((r44 = 0 → Q x2 s44) ∧
    (¬ r44 = 0 → pX4_readInto_21 k c1 Q n (x2 + 1) s44))))))))))
set_option maxHeartbeats 4000000 in
set_option maxRecDepth 100000 in
theorem vX4_readInto_21 {p : Program} {l : Launch} {e : Env} {s : State} {m : MethodId} {args : Array Value} {below : List Frame} {meth : Method} {c : Code} {Y : zz_Y} {k : Nat} {c1 : Nat} {Q : Int32 → zz_T → Prop} (X : zz_X p m c cX4_readInto 3 s args RX4) (hr : meth.sig.returnType = (some .int)) (hlk : meth.locks = false) (hJ : zz_J Y) (hY : zz_tp Y k) (h1 : zz_pr Y c1)  : ∀ (n : Nat) (x2 : Int32) (σ : zz_T), pX4_readInto_21 k c1 Q n x2 σ → zz_V p l e rmX4_readInto s m args below meth c (MQ below (va_Qi Q (zz_E Y) (zz_A Y)) args s 0 0 (zz_A Y)) 3 Y σ 21 [(0, .ref (Y.2.1 k)), (1, .ref (Y.2.1 c1)), (2, .int x2)] [] := by
  intro n
  induction n with
  | zero => intro x2 σ h; exact h.elim
  | succ n ih =>
    intro x2 σ h 
    unfold pX4_readInto_21 at h
    refine zv_iload_n X dX4_readInto_21 2 rfl rfl rfl ?_
    refine zv_sipush (v := 160) X dX4_readInto_22 (by decide) rfl ?_
    refine zv_icmp_gt (tgt := 56) X dX4_readInto_25 (by decide) rfl (fun q25 => ?_) (fun q25 => ?_)
    · replace h := h.1 q25
      refine zv_iload_n X dX4_readInto_56 2 rfl rfl rfl ?_
      exact zv_iret X hr hlk h dX4_readInto_57
    · replace h := h.2 q25
      refine zv_aload_n X dX4_readInto_28 0 rfl rfl rfl ?_
      refine zv_cVi (k := k) (ci := 4) X [] (kX4_step l hJ  hY h) jl_X4_46 ⟨rfl, rfl⟩ ⟨Nat.le_of_ble_eq_true rfl, Nat.le_of_ble_eq_true rfl⟩ hY.1.1 (by decide) hY.1.2 rfl rfl rfl (Nat.le_of_ble_eq_true rfl) dX4_readInto_29 rfl (fun r29 s29 h => ?_)
      refine zv_if_eq (tgt := 56) X dX4_readInto_32 (by decide) rfl (fun q32 => ?_) (fun q32 => ?_)
      · replace h := h.1 q32
        refine zv_iload_n X dX4_readInto_56 2 rfl rfl rfl ?_
        exact zv_iret X hr hlk h dX4_readInto_57
      · replace h := h.2 q32
        refine zv_aload_n X dX4_readInto_35 0 rfl rfl rfl ?_
        refine zg_X4_4 (k := k) X hY.1.1 hY.1.2 fl_X4_50 dX4_readInto_36 rfl ?_
        refine zv_if_eq (tgt := 56) X dX4_readInto_39 (by decide) rfl (fun q39 => ?_) (fun q39 => ?_)
        · replace h := h.1 q39
          refine zv_iload_n X dX4_readInto_56 2 rfl rfl rfl ?_
          exact zv_iret X hr hlk h dX4_readInto_57
        · replace h := h.2 q39
          refine zv_aload_n X dX4_readInto_42 0 rfl rfl rfl ?_
          refine zv_aload_n X dX4_readInto_43 1 rfl rfl rfl ?_
          refine zv_cVi (k := k) (ci := 4) X [.ref (Y.2.1 c1)] (kX4_readLine l hJ  hY h1 h) jl_X4_53 ⟨rfl, rfl⟩ ⟨Nat.le_of_ble_eq_true rfl, Nat.le_of_ble_eq_true rfl⟩ hY.1.1 (by decide) hY.1.2 rfl rfl rfl (Nat.le_of_ble_eq_true rfl) dX4_readInto_44 rfl (fun r44 s44 h => ?_)
          refine zv_if_eq (tgt := 56) X dX4_readInto_47 (by decide) rfl (fun q47 => ?_) (fun q47 => ?_)
          · replace h := h.1 q47
            refine zv_iload_n X dX4_readInto_56 2 rfl rfl rfl ?_
            exact zv_iret X hr hlk h dX4_readInto_57
          · replace h := h.2 q47
            refine zv_iinc (v := (x2 + 1)) (lv2 := [(2, .int (x2 + 1)), (0, .ref (Y.2.1 k)), (1, .ref (Y.2.1 c1))]) X dX4_readInto_50 2 rfl rfl (by decide) rfl rfl ?_
            refine zv_goto (tgt := 21) X dX4_readInto_53 (by decide) ?_
            refine zv_sub (lv2 := [(0, .ref (Y.2.1 k)), (1, .ref (Y.2.1 c1)), (2, .int (x2 + 1))]) [1, 2, 0] rfl ?_
            exact ih (x2 + 1) _ h
def pX4_readInto (k : Nat) (c1 : Nat) (σ : zz_T) (Q : Int32 → zz_T → Prop) : Prop :=
    pX1_begin c1 σ (fun s1 =>
    ∃ n21, pX4_readInto_21 k c1 Q n21 0 (zz_i (zz_i (zz_i s1 k 2 0) k 6 0) k 8 0))
set_option maxHeartbeats 4000000 in
set_option maxRecDepth 100000 in
theorem kX4_readInto (l : Launch) {Y : zz_Y} (hJ : zz_J Y) {k : Nat} {c1 : Nat} (hY : zz_tp Y k) (h1 : zz_pr Y c1) {σ : zz_T} {Q : Int32 → zz_T → Prop} (h : pX4_readInto k c1 σ Q) : zz_Mi l yX4_readInto cX4_readInto 3 (some .int) rmX4_readInto Y [.ref (Y.2.1 k), .ref (Y.2.1 c1)] σ Q := by
  refine zz_Mi.start (by decide) hJ (Nat.le_of_ble_eq_true rfl) (fun p e s m below meth c X hr hlk => ?_)
  have X : zz_X p m c cX4_readInto 3 s _ RX4 := X
  refine zv_sub (lv2 := [(0, .ref (Y.2.1 k)), (1, .ref (Y.2.1 c1))]) [0, 1] rfl ?_
  unfold pX4_readInto at h
  refine zv_aload_n X dX4_readInto_0 1 rfl rfl rfl ?_
  refine zv_cVv (k := c1) (ci := 1) X [] (kX1_begin l hJ  h1 h) jl_X4_31 ⟨rfl, rfl⟩ ⟨Nat.le_of_ble_eq_true rfl, Nat.le_of_ble_eq_true rfl⟩ h1.1.1 (by decide) h1.1.2 rfl rfl rfl (Nat.le_of_ble_eq_true rfl) dX4_readInto_1 rfl (fun s1 h => ?_)
  refine zv_aload_n X dX4_readInto_4 0 rfl rfl rfl ?_
  refine zv_iconst (v := 0) X dX4_readInto_5 (by decide) rfl ?_
  refine zp_X4_2 (k := k) X hY.1.1 hY.1.2 fl_X4_36 dX4_readInto_6 rfl ?_
  refine zv_aload_n X dX4_readInto_9 0 rfl rfl rfl ?_
  refine zv_iconst (v := 0) X dX4_readInto_10 (by decide) rfl ?_
  refine zp_X4_6 (k := k) X hY.1.1 hY.1.2 fl_X4_40 dX4_readInto_11 rfl ?_
  refine zv_aload_n X dX4_readInto_14 0 rfl rfl rfl ?_
  refine zv_iconst (v := 0) X dX4_readInto_15 (by decide) rfl ?_
  refine zp_X4_8 (k := k) X hY.1.1 hY.1.2 fl_X4_43 dX4_readInto_16 rfl ?_
  refine zv_iconst (v := 0) X dX4_readInto_19 (by decide) rfl ?_
  refine zv_istore_n (lv2 := [(2, .int 0), (0, .ref (Y.2.1 k)), (1, .ref (Y.2.1 c1))]) X dX4_readInto_20 rfl (by decide) rfl rfl ?_
  obtain ⟨n21, h⟩ := h
  refine zv_sub (lv2 := [(0, .ref (Y.2.1 k)), (1, .ref (Y.2.1 c1)), (2, .int 0)]) [1, 2, 0] rfl ?_
  exact vX4_readInto_21 X hr hlk hJ hY h1 n21 0 _ h
