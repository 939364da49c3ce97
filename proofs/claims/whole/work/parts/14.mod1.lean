def rmX6_in : Room := { frames := 0, cells := 0, slots := 0, locals := 0 }
def pX6_in (x0 : Int64) (x2 : Int64) (x4 : Int64) (σ : zz_T) (Q : Int32 → zz_T → Prop) : Prop :=
    (((lg_cmp x0 x2) < 0 → (zz_bo 0 ∧ Q 0 σ)) ∧
    (¬ (lg_cmp x0 x2) < 0 → ((0 < (lg_cmp x0 x4) → (zz_bo 0 ∧ Q 0 σ)) ∧
    (¬ 0 < (lg_cmp x0 x4) → (zz_bo 1 ∧ Q 1 σ)))))
set_option maxHeartbeats 4000000 in
set_option maxRecDepth 100000 in
theorem kX6_in (l : Launch) {Y : zz_Y} (hJ : zz_J Y) (x0 : Int64) (x2 : Int64) (x4 : Int64)  {σ : zz_T} {Q : Int32 → zz_T → Prop} (h : pX6_in x0 x2 x4 σ Q) : zz_Mi l yX6_in cX6_in 6 (some .boolean) rmX6_in Y [.long x0, .long x2, .long x4] σ Q := by
  refine zz_Mi.start (by decide) hJ (Nat.le_of_ble_eq_true rfl) (fun p e s m below meth c X hr hlk => ?_)
  have X : zz_X p m c cX6_in 6 s _ RX6 := X
  refine zv_sub (lv2 := [(0, .long x0), (2, .long x2), (4, .long x4)]) [0, 1, 2] rfl ?_
  unfold pX6_in at h
  refine zv_lload_n X dX6_in_0 0 rfl rfl rfl ?_
  refine zv_lload_n X dX6_in_1 1 rfl rfl rfl ?_
  refine zv_lcmp X dX6_in_2 rfl ?_
  refine zv_if_lt (tgt := 17) X dX6_in_3 (by decide) rfl (fun q3 => ?_) (fun q3 => ?_)
  · replace h := h.1 q3
    refine zv_iconst (v := 0) X dX6_in_17 (by decide) rfl ?_
    exact zv_zret X hr hlk h dX6_in_18
  · replace h := h.2 q3
    refine zv_lload_n X dX6_in_6 0 rfl rfl rfl ?_
    refine zv_lload X dX6_in_7 2 rfl rfl ?_
    refine zv_lcmp X dX6_in_9 rfl ?_
    refine zv_if_gt (tgt := 17) X dX6_in_10 (by decide) rfl (fun q10 => ?_) (fun q10 => ?_)
    · replace h := h.1 q10
      refine zv_iconst (v := 0) X dX6_in_17 (by decide) rfl ?_
      exact zv_zret X hr hlk h dX6_in_18
    · replace h := h.2 q10
      refine zv_iconst (v := 1) X dX6_in_13 (by decide) rfl ?_
      refine zv_goto (tgt := 18) X dX6_in_14 (by decide) ?_
      exact zv_zret X hr hlk h dX6_in_18
def rmX6_flag : Room := { frames := 0, cells := 0, slots := 0, locals := 0 }
def pX6_flag (x0 : Int32) (σ : zz_T) (Q : Int32 → zz_T → Prop) : Prop :=
    ((x0 = 0 → Q 0 σ) ∧
    (¬ x0 = 0 → Q 1 σ))
set_option maxHeartbeats 4000000 in
set_option maxRecDepth 100000 in
theorem kX6_flag (l : Launch) {Y : zz_Y} (hJ : zz_J Y) (x0 : Int32)  {σ : zz_T} {Q : Int32 → zz_T → Prop} (h : pX6_flag x0 σ Q) : zz_Mi l yX6_flag cX6_flag 1 (some .int) rmX6_flag Y [.int x0] σ Q := by
  refine zz_Mi.start (by decide) hJ (Nat.le_of_ble_eq_true rfl) (fun p e s m below meth c X hr hlk => ?_)
  have X : zz_X p m c cX6_flag 1 s _ RX6 := X
  refine zv_sub (lv2 := [(0, .int x0)]) [0] rfl ?_
  unfold pX6_flag at h
  refine zv_iload_n X dX6_flag_0 0 rfl rfl rfl ?_
  refine zv_if_eq (tgt := 8) X dX6_flag_1 (by decide) rfl (fun q1 => ?_) (fun q1 => ?_)
  · replace h := h.1 q1
    refine zv_iconst (v := 0) X dX6_flag_8 (by decide) rfl ?_
    exact zv_iret X hr hlk h dX6_flag_9
  · replace h := h.2 q1
    refine zv_iconst (v := 1) X dX6_flag_4 (by decide) rfl ?_
    refine zv_goto (tgt := 9) X dX6_flag_5 (by decide) ?_
    exact zv_iret X hr hlk h dX6_flag_9
def rmX6_within : Room := { frames := 0, cells := 0, slots := 0, locals := 0 }
def pX6_within (x0 : Int32) (x1 : Int32) (σ : zz_T) (Q : Int32 → zz_T → Prop) : Prop :=
    ((0 ≤ x0 → ((x0 ≤ x1 → Q x0 σ) ∧
    (¬ x0 ≤ x1 → Q x1 σ))) ∧
    (¬ 0 ≤ x0 → Q 0 σ))
set_option maxHeartbeats 4000000 in
set_option maxRecDepth 100000 in
theorem kX6_within (l : Launch) {Y : zz_Y} (hJ : zz_J Y) (x0 : Int32) (x1 : Int32)  {σ : zz_T} {Q : Int32 → zz_T → Prop} (h : pX6_within x0 x1 σ Q) : zz_Mi l yX6_within cX6_within 2 (some .int) rmX6_within Y [.int x0, .int x1] σ Q := by
  refine zz_Mi.start (by decide) hJ (Nat.le_of_ble_eq_true rfl) (fun p e s m below meth c X hr hlk => ?_)
  have X : zz_X p m c cX6_within 2 s _ RX6 := X
  refine zv_sub (lv2 := [(0, .int x0), (1, .int x1)]) [0, 1] rfl ?_
  unfold pX6_within at h
  refine zv_iload_n X dX6_within_0 0 rfl rfl rfl ?_
  refine zv_if_ge (tgt := 8) X dX6_within_1 (by decide) rfl (fun q1 => ?_) (fun q1 => ?_)
  · replace h := h.1 q1
    refine zv_iload_n X dX6_within_8 0 rfl rfl rfl ?_
    refine zv_iload_n X dX6_within_9 1 rfl rfl rfl ?_
    refine zv_icmp_le (tgt := 17) X dX6_within_10 (by decide) rfl (fun q10 => ?_) (fun q10 => ?_)
    · replace h := h.1 q10
      refine zv_iload_n X dX6_within_17 0 rfl rfl rfl ?_
      exact zv_iret X hr hlk h dX6_within_18
    · replace h := h.2 q10
      refine zv_iload_n X dX6_within_13 1 rfl rfl rfl ?_
      refine zv_goto (tgt := 18) X dX6_within_14 (by decide) ?_
      exact zv_iret X hr hlk h dX6_within_18
  · replace h := h.2 q1
    refine zv_iconst (v := 0) X dX6_within_4 (by decide) rfl ?_
    refine zv_goto (tgt := 18) X dX6_within_5 (by decide) ?_
    exact zv_iret X hr hlk h dX6_within_18
def rmX6_bitsOf : Room := { frames := 0, cells := 0, slots := 0, locals := 0 }
def pX6_bitsOf_4  (Q : Int32 → zz_T → Prop) : Nat → Int32 → Int32 → Int32 → zz_T → Prop
  | 0, _, _, _, _ => False
  | n + 1, x0, x1, x2, σ =>
    ((8 ≤ x2 → Q x1 σ) ∧
    (¬ 8 ≤ x2 → pX6_bitsOf_4  Q n x0 (x1 + ((x0 >>> (x2 &&& (31 : Int32))) &&& 1)) (x2 + 1) σ))
set_option maxHeartbeats 4000000 in
set_option maxRecDepth 100000 in
theorem vX6_bitsOf_4 {p : Program} {l : Launch} {e : Env} {s : State} {m : MethodId} {args : Array Value} {below : List Frame} {meth : Method} {c : Code} {Y : zz_Y}  {Q : Int32 → zz_T → Prop} (X : zz_X p m c cX6_bitsOf 3 s args RX6) (hr : meth.sig.returnType = (some .int)) (hlk : meth.locks = false) (hJ : zz_J Y)   : ∀ (n : Nat) (x0 : Int32) (x1 : Int32) (x2 : Int32) (σ : zz_T), pX6_bitsOf_4  Q n x0 x1 x2 σ → zz_V p l e rmX6_bitsOf s m args below meth c (MQ below (va_Qi Q (zz_E Y) (zz_A Y)) args s 0 0 (zz_A Y)) 3 Y σ 4 [(0, .int x0), (1, .int x1), (2, .int x2)] [] := by
  intro n
  induction n with
  | zero => intro x0 x1 x2 σ h; exact h.elim
  | succ n ih =>
    intro x0 x1 x2 σ h 
    unfold pX6_bitsOf_4 at h
    refine zv_iload_n X dX6_bitsOf_4 2 rfl rfl rfl ?_
    refine zv_bipush (v := 8) X dX6_bitsOf_5 (by decide) rfl ?_
    refine zv_icmp_ge (tgt := 24) X dX6_bitsOf_7 (by decide) rfl (fun q7 => ?_) (fun q7 => ?_)
    · replace h := h.1 q7
      refine zv_iload_n X dX6_bitsOf_24 1 rfl rfl rfl ?_
      exact zv_iret X hr hlk h dX6_bitsOf_25
    · replace h := h.2 q7
      refine zv_iload_n X dX6_bitsOf_10 1 rfl rfl rfl ?_
      refine zv_iload_n X dX6_bitsOf_11 0 rfl rfl rfl ?_
      refine zv_iload_n X dX6_bitsOf_12 2 rfl rfl rfl ?_
      refine zv_ishr X dX6_bitsOf_13 rfl ?_
      refine zv_iconst (v := 1) X dX6_bitsOf_14 (by decide) rfl ?_
      refine zv_iand X dX6_bitsOf_15 rfl ?_
      refine zv_iadd X dX6_bitsOf_16 rfl ?_
      refine zv_istore_n (lv2 := [(1, .int (x1 + ((x0 >>> (x2 &&& (31 : Int32))) &&& 1))), (0, .int x0), (2, .int x2)]) X dX6_bitsOf_17 rfl (by decide) rfl rfl ?_
      refine zv_iinc (v := (x2 + 1)) (lv2 := [(2, .int (x2 + 1)), (1, .int (x1 + ((x0 >>> (x2 &&& (31 : Int32))) &&& 1))), (0, .int x0)]) X dX6_bitsOf_18 2 rfl rfl (by decide) rfl rfl ?_
      refine zv_goto (tgt := 4) X dX6_bitsOf_21 (by decide) ?_
      refine zv_sub (lv2 := [(0, .int x0), (1, .int (x1 + ((x0 >>> (x2 &&& (31 : Int32))) &&& 1))), (2, .int (x2 + 1))]) [2, 1, 0] rfl ?_
      exact ih x0 (x1 + ((x0 >>> (x2 &&& (31 : Int32))) &&& 1)) (x2 + 1) _ h
def pX6_bitsOf (x0 : Int32) (σ : zz_T) (Q : Int32 → zz_T → Prop) : Prop :=
    ∃ n4, pX6_bitsOf_4  Q n4 x0 0 0 σ
set_option maxHeartbeats 4000000 in
set_option maxRecDepth 100000 in
theorem kX6_bitsOf (l : Launch) {Y : zz_Y} (hJ : zz_J Y) (x0 : Int32)  {σ : zz_T} {Q : Int32 → zz_T → Prop} (h : pX6_bitsOf x0 σ Q) : zz_Mi l yX6_bitsOf cX6_bitsOf 3 (some .int) rmX6_bitsOf Y [.int x0] σ Q := by
  refine zz_Mi.start (by decide) hJ (Nat.le_of_ble_eq_true rfl) (fun p e s m below meth c X hr hlk => ?_)
  have X : zz_X p m c cX6_bitsOf 3 s _ RX6 := X
  refine zv_sub (lv2 := [(0, .int x0)]) [0] rfl ?_
  unfold pX6_bitsOf at h
  refine zv_iconst (v := 0) X dX6_bitsOf_0 (by decide) rfl ?_
  refine zv_istore_n (lv2 := [(1, .int 0), (0, .int x0)]) X dX6_bitsOf_1 rfl (by decide) rfl rfl ?_
  refine zv_iconst (v := 0) X dX6_bitsOf_2 (by decide) rfl ?_
  refine zv_istore_n (lv2 := [(2, .int 0), (1, .int 0), (0, .int x0)]) X dX6_bitsOf_3 rfl (by decide) rfl rfl ?_
  obtain ⟨n4, h⟩ := h
  refine zv_sub (lv2 := [(0, .int x0), (1, .int 0), (2, .int 0)]) [2, 1, 0] rfl ?_
  exact vX6_bitsOf_4 X hr hlk hJ  n4 x0 0 0 _ h
def rmX6_firstDraft : Room := { frames := 0, cells := 0, slots := 0, locals := 0 }
def pX6_firstDraft_23  (Q : zz_T → Prop) : Nat → Int32 → zz_T → Prop
  | 0, _, _ => False
  | n + 1, x1, σ =>
    ((4 ≤ x1 → vp_in 34 70 ∧
    vp_in 35 70 ∧
    Q (zz_i (zz_i σ 4 (Int32.toNatClampNeg 34) 20) 4 (Int32.toNatClampNeg 35) 3)) ∧
    (¬ 4 ≤ x1 → vp_in x1 4 ∧
    pX6_firstDraft_23  Q n (x1 + 1) (zz_i σ 5 (Int32.toNatClampNeg x1) (vp_nar .boolean 0))))
set_option maxHeartbeats 4000000 in
set_option maxRecDepth 100000 in
theorem vX6_firstDraft_23 {p : Program} {l : Launch} {e : Env} {s : State} {m : MethodId} {args : Array Value} {below : List Frame} {meth : Method} {c : Code} {Y : zz_Y}  {Q : zz_T → Prop} (X : zz_X p m c cX6_firstDraft 2 s args RX6) (hr : meth.sig.returnType = none) (hlk : meth.locks = false) (hJ : zz_J Y) (hY : zz_mo Y)  : ∀ (n : Nat) (x1 : Int32) (σ : zz_T), pX6_firstDraft_23  Q n x1 σ → zz_V p l e rmX6_firstDraft s m args below meth c (MQ below (va_Qv Q (zz_E Y) (zz_A Y)) args s 0 0 (zz_A Y)) 2 Y σ 23 [(0, .ref (Y.2.1 0)), (1, .int x1)] [] := by
  intro n
  induction n with
  | zero => intro x1 σ h; exact h.elim
  | succ n ih =>
    intro x1 σ h 
    unfold pX6_firstDraft_23 at h
    refine zv_iload_n X dX6_firstDraft_23 1 rfl rfl rfl ?_
    refine zv_iconst (v := 4) X dX6_firstDraft_24 (by decide) rfl ?_
    refine zv_icmp_ge (tgt := 41) X dX6_firstDraft_25 (by decide) rfl (fun q25 => ?_) (fun q25 => ?_)
    · replace h := h.1 q25
      refine zv_aload_n X dX6_firstDraft_41 0 rfl rfl rfl ?_
      refine zg_X6_3 (k := 0) X (zz_mo_o hY).1 (zz_mo_o hY).2 fl_X6_20 dX6_firstDraft_42 rfl ?_
      refine zv_bipush (v := 34) X dX6_firstDraft_45 (by decide) rfl ?_
      refine zv_bipush (v := 20) X dX6_firstDraft_47 (by decide) rfl ?_
      obtain ⟨hi49, h⟩ := h
      refine zv_iast (k := 4) X (zz_mo_draft hY).1 (zz_mo_draft hY).2 hi49 dX6_firstDraft_49 rfl ?_
      refine zv_aload_n X dX6_firstDraft_50 0 rfl rfl rfl ?_
      refine zg_X6_3 (k := 0) X (zz_mo_o hY).1 (zz_mo_o hY).2 fl_X6_20 dX6_firstDraft_51 rfl ?_
      refine zv_bipush (v := 35) X dX6_firstDraft_54 (by decide) rfl ?_
      refine zv_iconst (v := 3) X dX6_firstDraft_56 (by decide) rfl ?_
      obtain ⟨hi57, h⟩ := h
      refine zv_iast (k := 4) X (zz_mo_draft hY).1 (zz_mo_draft hY).2 hi57 dX6_firstDraft_57 rfl ?_
      exact zv_vret X hr hlk h dX6_firstDraft_58
    · replace h := h.2 q25
      refine zv_aload_n X dX6_firstDraft_28 0 rfl rfl rfl ?_
      refine zg_X6_4 (k := 0) X (zz_mo_o hY).1 (zz_mo_o hY).2 fl_X6_23 dX6_firstDraft_29 rfl ?_
      refine zv_iload_n X dX6_firstDraft_32 1 rfl rfl rfl ?_
      refine zv_iconst (v := 0) X dX6_firstDraft_33 (by decide) rfl ?_
      obtain ⟨hi34, h⟩ := h
      refine zv_zast (k := 5) X (zz_mo_hasTold hY).1 (zz_mo_hasTold hY).2 hi34 dX6_firstDraft_34 rfl ?_
      refine zv_iinc (v := (x1 + 1)) (lv2 := [(1, .int (x1 + 1)), (0, .ref (Y.2.1 0))]) X dX6_firstDraft_35 1 rfl rfl (by decide) rfl rfl ?_
      refine zv_goto (tgt := 23) X dX6_firstDraft_38 (by decide) ?_
      refine zv_sub (lv2 := [(0, .ref (Y.2.1 0)), (1, .int (x1 + 1))]) [1, 0] rfl ?_
      exact ih (x1 + 1) _ h
def pX6_firstDraft_2  (Q : zz_T → Prop) : Nat → Int32 → zz_T → Prop
  | 0, _, _ => False
  | n + 1, x1, σ =>
    ((70 ≤ x1 → ∃ n23, pX6_firstDraft_23  Q n23 0 σ) ∧
    (¬ 70 ≤ x1 → vp_in x1 70 ∧
    pX6_firstDraft_2  Q n (x1 + 1) (zz_i σ 4 (Int32.toNatClampNeg x1) 0)))
set_option maxHeartbeats 4000000 in
set_option maxRecDepth 100000 in
theorem vX6_firstDraft_2 {p : Program} {l : Launch} {e : Env} {s : State} {m : MethodId} {args : Array Value} {below : List Frame} {meth : Method} {c : Code} {Y : zz_Y}  {Q : zz_T → Prop} (X : zz_X p m c cX6_firstDraft 2 s args RX6) (hr : meth.sig.returnType = none) (hlk : meth.locks = false) (hJ : zz_J Y) (hY : zz_mo Y)  : ∀ (n : Nat) (x1 : Int32) (σ : zz_T), pX6_firstDraft_2  Q n x1 σ → zz_V p l e rmX6_firstDraft s m args below meth c (MQ below (va_Qv Q (zz_E Y) (zz_A Y)) args s 0 0 (zz_A Y)) 2 Y σ 2 [(0, .ref (Y.2.1 0)), (1, .int x1)] [] := by
  intro n
  induction n with
  | zero => intro x1 σ h; exact h.elim
  | succ n ih =>
    intro x1 σ h 
    unfold pX6_firstDraft_2 at h
    refine zv_iload_n X dX6_firstDraft_2 1 rfl rfl rfl ?_
    refine zv_bipush (v := 70) X dX6_firstDraft_3 (by decide) rfl ?_
    refine zv_icmp_ge (tgt := 21) X dX6_firstDraft_5 (by decide) rfl (fun q5 => ?_) (fun q5 => ?_)
    · replace h := h.1 q5
      refine zv_iconst (v := 0) X dX6_firstDraft_21 (by decide) rfl ?_
      refine zv_istore_n (lv2 := [(1, .int 0), (0, .ref (Y.2.1 0))]) X dX6_firstDraft_22 rfl (by decide) rfl rfl ?_
      obtain ⟨n23, h⟩ := h
      refine zv_sub (lv2 := [(0, .ref (Y.2.1 0)), (1, .int 0)]) [1, 0] rfl ?_
      exact vX6_firstDraft_23 X hr hlk hJ hY n23 0 _ h
    · replace h := h.2 q5
      refine zv_aload_n X dX6_firstDraft_8 0 rfl rfl rfl ?_
      refine zg_X6_3 (k := 0) X (zz_mo_o hY).1 (zz_mo_o hY).2 fl_X6_20 dX6_firstDraft_9 rfl ?_
      refine zv_iload_n X dX6_firstDraft_12 1 rfl rfl rfl ?_
      refine zv_iconst (v := 0) X dX6_firstDraft_13 (by decide) rfl ?_
      obtain ⟨hi14, h⟩ := h
      refine zv_iast (k := 4) X (zz_mo_draft hY).1 (zz_mo_draft hY).2 hi14 dX6_firstDraft_14 rfl ?_
      refine zv_iinc (v := (x1 + 1)) (lv2 := [(1, .int (x1 + 1)), (0, .ref (Y.2.1 0))]) X dX6_firstDraft_15 1 rfl rfl (by decide) rfl rfl ?_
      refine zv_goto (tgt := 2) X dX6_firstDraft_18 (by decide) ?_
      refine zv_sub (lv2 := [(0, .ref (Y.2.1 0)), (1, .int (x1 + 1))]) [1, 0] rfl ?_
      exact ih (x1 + 1) _ h
def pX6_firstDraft  (σ : zz_T) (Q : zz_T → Prop) : Prop :=
    ∃ n2, pX6_firstDraft_2  Q n2 0 σ
set_option maxHeartbeats 4000000 in
set_option maxRecDepth 100000 in
theorem kX6_firstDraft (l : Launch) {Y : zz_Y} (hJ : zz_J Y)  (hY : zz_mo Y) {σ : zz_T} {Q : zz_T → Prop} (h : pX6_firstDraft  σ Q) : zz_Mv l yX6_firstDraft cX6_firstDraft 2 none rmX6_firstDraft Y [.ref (Y.2.1 0)] σ Q := by
  refine zz_Mv.start (by decide) hJ (Nat.le_of_ble_eq_true rfl) (fun p e s m below meth c X hr hlk => ?_)
  have X : zz_X p m c cX6_firstDraft 2 s _ RX6 := X
  refine zv_sub (lv2 := [(0, .ref (Y.2.1 0))]) [0] rfl ?_
  unfold pX6_firstDraft at h
  refine zv_iconst (v := 0) X dX6_firstDraft_0 (by decide) rfl ?_
  refine zv_istore_n (lv2 := [(1, .int 0), (0, .ref (Y.2.1 0))]) X dX6_firstDraft_1 rfl (by decide) rfl rfl ?_
  obtain ⟨n2, h⟩ := h
  refine zv_sub (lv2 := [(0, .ref (Y.2.1 0)), (1, .int 0)]) [1, 0] rfl ?_
  exact vX6_firstDraft_2 X hr hlk hJ hY n2 0 _ h
def rmX6_keepDraft : Room := { frames := 0, cells := 0, slots := 0, locals := 0 }
def pX6_keepDraft_2  (Q : zz_T → Prop) : Nat → Int32 → zz_T → Prop
  | 0, _, _ => False
  | n + 1, x1, σ =>
    ((70 ≤ x1 → vp_in 0 2 ∧
    vp_in 1 2 ∧
    Q (zz_i (zz_i σ 3 (Int32.toNatClampNeg 0) (vp_nar .boolean 0)) 3 (Int32.toNatClampNeg 1) (vp_nar .boolean 0))) ∧
    (¬ 70 ≤ x1 → vp_in x1 70 ∧
    vp_in x1 210 ∧
    pX6_keepDraft_2  Q n (x1 + 1) (zz_i σ 1 (Int32.toNatClampNeg x1) (σ.1 4 (Int32.toNatClampNeg x1)))))
set_option maxHeartbeats 4000000 in
set_option maxRecDepth 100000 in
theorem vX6_keepDraft_2 {p : Program} {l : Launch} {e : Env} {s : State} {m : MethodId} {args : Array Value} {below : List Frame} {meth : Method} {c : Code} {Y : zz_Y}  {Q : zz_T → Prop} (X : zz_X p m c cX6_keepDraft 2 s args RX6) (hr : meth.sig.returnType = none) (hlk : meth.locks = false) (hJ : zz_J Y) (hY : zz_mo Y)  : ∀ (n : Nat) (x1 : Int32) (σ : zz_T), pX6_keepDraft_2  Q n x1 σ → zz_V p l e rmX6_keepDraft s m args below meth c (MQ below (va_Qv Q (zz_E Y) (zz_A Y)) args s 0 0 (zz_A Y)) 2 Y σ 2 [(0, .ref (Y.2.1 0)), (1, .int x1)] [] := by
  intro n
  induction n with
  | zero => intro x1 σ h; exact h.elim
  | succ n ih =>
    intro x1 σ h 
    unfold pX6_keepDraft_2 at h
    refine zv_iload_n X dX6_keepDraft_2 1 rfl rfl rfl ?_
    refine zv_bipush (v := 70) X dX6_keepDraft_3 (by decide) rfl ?_
    refine zv_icmp_ge (tgt := 26) X dX6_keepDraft_5 (by decide) rfl (fun q5 => ?_) (fun q5 => ?_)
    · replace h := h.1 q5
      refine zv_aload_n X dX6_keepDraft_26 0 rfl rfl rfl ?_
      refine zg_X6_2 (k := 0) X (zz_mo_o hY).1 (zz_mo_o hY).2 fl_X6_16 dX6_keepDraft_27 rfl ?_
      refine zv_iconst (v := 0) X dX6_keepDraft_30 (by decide) rfl ?_
      refine zv_iconst (v := 0) X dX6_keepDraft_31 (by decide) rfl ?_
      obtain ⟨hi32, h⟩ := h
      refine zv_zast (k := 3) X (zz_mo_isKept hY).1 (zz_mo_isKept hY).2 hi32 dX6_keepDraft_32 rfl ?_
      refine zv_aload_n X dX6_keepDraft_33 0 rfl rfl rfl ?_
      refine zg_X6_2 (k := 0) X (zz_mo_o hY).1 (zz_mo_o hY).2 fl_X6_16 dX6_keepDraft_34 rfl ?_
      refine zv_iconst (v := 1) X dX6_keepDraft_37 (by decide) rfl ?_
      refine zv_iconst (v := 0) X dX6_keepDraft_38 (by decide) rfl ?_
      obtain ⟨hi39, h⟩ := h
      refine zv_zast (k := 3) X (zz_mo_isKept hY).1 (zz_mo_isKept hY).2 hi39 dX6_keepDraft_39 rfl ?_
      exact zv_vret X hr hlk h dX6_keepDraft_40
    · replace h := h.2 q5
      refine zv_aload_n X dX6_keepDraft_8 0 rfl rfl rfl ?_
      refine zg_X6_0 (k := 0) X (zz_mo_o hY).1 (zz_mo_o hY).2 fl_X6_7 dX6_keepDraft_9 rfl ?_
      refine zv_iload_n X dX6_keepDraft_12 1 rfl rfl rfl ?_
      refine zv_aload_n X dX6_keepDraft_13 0 rfl rfl rfl ?_
      refine zg_X6_3 (k := 0) X (zz_mo_o hY).1 (zz_mo_o hY).2 fl_X6_20 dX6_keepDraft_14 rfl ?_
      refine zv_iload_n X dX6_keepDraft_17 1 rfl rfl rfl ?_
      obtain ⟨hi18, h⟩ := h
      refine zv_iald (k := 4) X (zz_mo_draft hY).1 (zz_mo_draft hY).2 hi18 dX6_keepDraft_18 rfl ?_
      obtain ⟨hi19, h⟩ := h
      refine zv_iast (k := 1) X (zz_mo_st hY).1 (zz_mo_st hY).2 hi19 dX6_keepDraft_19 rfl ?_
      refine zv_iinc (v := (x1 + 1)) (lv2 := [(1, .int (x1 + 1)), (0, .ref (Y.2.1 0))]) X dX6_keepDraft_20 1 rfl rfl (by decide) rfl rfl ?_
      refine zv_goto (tgt := 2) X dX6_keepDraft_23 (by decide) ?_
      refine zv_sub (lv2 := [(0, .ref (Y.2.1 0)), (1, .int (x1 + 1))]) [1, 0] rfl ?_
      exact ih (x1 + 1) _ h
def pX6_keepDraft  (σ : zz_T) (Q : zz_T → Prop) : Prop :=
    ∃ n2, pX6_keepDraft_2  Q n2 0 σ
set_option maxHeartbeats 4000000 in
set_option maxRecDepth 100000 in
theorem kX6_keepDraft (l : Launch) {Y : zz_Y} (hJ : zz_J Y)  (hY : zz_mo Y) {σ : zz_T} {Q : zz_T → Prop} (h : pX6_keepDraft  σ Q) : zz_Mv l yX6_keepDraft cX6_keepDraft 2 none rmX6_keepDraft Y [.ref (Y.2.1 0)] σ Q := by
  refine zz_Mv.start (by decide) hJ (Nat.le_of_ble_eq_true rfl) (fun p e s m below meth c X hr hlk => ?_)
  have X : zz_X p m c cX6_keepDraft 2 s _ RX6 := X
  refine zv_sub (lv2 := [(0, .ref (Y.2.1 0))]) [0] rfl ?_
  unfold pX6_keepDraft at h
  refine zv_iconst (v := 0) X dX6_keepDraft_0 (by decide) rfl ?_
  refine zv_istore_n (lv2 := [(1, .int 0), (0, .ref (Y.2.1 0))]) X dX6_keepDraft_1 rfl (by decide) rfl rfl ?_
  obtain ⟨n2, h⟩ := h
  refine zv_sub (lv2 := [(0, .ref (Y.2.1 0)), (1, .int 0)]) [1, 0] rfl ?_
  exact vX6_keepDraft_2 X hr hlk hJ hY n2 0 _ h
def rmX6_feed : Room := { frames := 1, cells := 0, slots := 0, locals := 25 }
def pX6_feed (x1 : Int32) (σ : zz_T) (Q : Int32 → zz_T → Prop) : Prop :=
    pX6_in (Int32.toInt64 x1) 0 127 σ (fun r6 s6 =>
    ((r6 = 0 → Q (-1) s6) ∧
    (¬ r6 = 0 → (((s6.1 0 6) = 160 → Q (-3) s6) ∧
    (¬ (s6.1 0 6) = 160 → vp_in (s6.1 0 6) 160 ∧
    Q ((zz_i (zz_i s6 6 (Int32.toNatClampNeg (s6.1 0 6)) x1) 0 6 (((zz_i s6 6 (Int32.toNatClampNeg (s6.1 0 6)) x1).1 0 6) + 1)).1 0 6) (zz_i (zz_i s6 6 (Int32.toNatClampNeg (s6.1 0 6)) x1) 0 6 (((zz_i s6 6 (Int32.toNatClampNeg (s6.1 0 6)) x1).1 0 6) + 1)))))))
set_option maxHeartbeats 4000000 in
set_option maxRecDepth 100000 in
theorem kX6_feed (l : Launch) {Y : zz_Y} (hJ : zz_J Y) (x1 : Int32) (hY : zz_mo Y) {σ : zz_T} {Q : Int32 → zz_T → Prop} (h : pX6_feed x1 σ Q) : zz_Mi l yX6_feed cX6_feed 2 (some .int) rmX6_feed Y [.ref (Y.2.1 0), .int x1] σ Q := by
  refine zz_Mi.start (by decide) hJ (Nat.le_of_ble_eq_true rfl) (fun p e s m below meth c X hr hlk => ?_)
  have X : zz_X p m c cX6_feed 2 s _ RX6 := X
  refine zv_sub (lv2 := [(0, .ref (Y.2.1 0)), (1, .int x1)]) [0, 1] rfl ?_
  unfold pX6_feed at h
  refine zv_iload_n X dX6_feed_0 1 rfl rfl rfl ?_
  refine zv_i2l X dX6_feed_1 rfl ?_
  refine zv_lconst (v := 0) X dX6_feed_2 (by decide) rfl ?_
  refine zv_ldc2 (v := 127) X dX6_feed_3 co_X6_65 rfl ?_
  refine zv_cSi X [.long (Int32.toInt64 x1), .long 0, .long 127] (kX6_in l hJ (Int32.toInt64 x1) 0 127  h) jl_X6_67 ⟨rfl, rfl⟩ ⟨Nat.le_of_ble_eq_true rfl, Nat.le_of_ble_eq_true rfl⟩ rfl rfl (Nat.le_of_ble_eq_true rfl) dX6_feed_6 rfl (fun r6 s6 h => ?_)
  refine zv_if_ne (tgt := 14) X dX6_feed_9 (by decide) rfl (fun q9 => ?_) (fun q9 => ?_)
  · replace h := h.2 q9
    refine zv_aload_n X dX6_feed_14 0 rfl rfl rfl ?_
    refine zg_X6_6 (k := 0) X (zz_mo_o hY).1 (zz_mo_o hY).2 fl_X6_71 dX6_feed_15 rfl ?_
    refine zv_sipush (v := 160) X dX6_feed_18 (by decide) rfl ?_
    refine zv_icmp_ne (tgt := 27) X dX6_feed_21 (by decide) rfl (fun q21 => ?_) (fun q21 => ?_)
    · replace h := h.2 q21
      refine zv_aload_n X dX6_feed_27 0 rfl rfl rfl ?_
      refine zg_X6_5 (k := 0) X (zz_mo_o hY).1 (zz_mo_o hY).2 fl_X6_26 dX6_feed_28 rfl ?_
      refine zv_aload_n X dX6_feed_31 0 rfl rfl rfl ?_
      refine zg_X6_6 (k := 0) X (zz_mo_o hY).1 (zz_mo_o hY).2 fl_X6_71 dX6_feed_32 rfl ?_
      refine zv_iload_n X dX6_feed_35 1 rfl rfl rfl ?_
      obtain ⟨hi36, h⟩ := h
      refine zv_iast (k := 6) X (zz_mo_tape hY).1 (zz_mo_tape hY).2 hi36 dX6_feed_36 rfl ?_
      refine zv_aload_n X dX6_feed_37 0 rfl rfl rfl ?_
      refine zv_dup X dX6_feed_38 rfl rfl ?_
      refine zg_X6_6 (k := 0) X (zz_mo_o hY).1 (zz_mo_o hY).2 fl_X6_71 dX6_feed_39 rfl ?_
      refine zv_iconst (v := 1) X dX6_feed_42 (by decide) rfl ?_
      refine zv_iadd X dX6_feed_43 rfl ?_
      refine zp_X6_6 (k := 0) X (zz_mo_o hY).1 (zz_mo_o hY).2 fl_X6_71 dX6_feed_44 rfl ?_
      refine zv_aload_n X dX6_feed_47 0 rfl rfl rfl ?_
      refine zg_X6_6 (k := 0) X (zz_mo_o hY).1 (zz_mo_o hY).2 fl_X6_71 dX6_feed_48 rfl ?_
      exact zv_iret X hr hlk h dX6_feed_51
    · replace h := h.1 q21
      refine zv_bipush (v := (-3)) X dX6_feed_24 (by decide) rfl ?_
      exact zv_iret X hr hlk h dX6_feed_26
  · replace h := h.1 q9
    refine zv_iconst (v := (-1)) X dX6_feed_12 (by decide) rfl ?_
    exact zv_iret X hr hlk h dX6_feed_13
def rmX6_end : Room := { frames := 1, cells := 0, slots := 0, locals := 25 }
def pX6_end (x1 : Int32) (σ : zz_T) (Q : Int32 → zz_T → Prop) : Prop :=
    pX6_in (Int32.toInt64 x1) 0 (Int32.toInt64 (σ.1 0 6)) σ (fun r8 s8 =>
    ((r8 = 0 → Q (-1) s8) ∧
    (¬ r8 = 0 → Q (s8.1 0 6) (zz_i s8 0 6 x1))))
set_option maxHeartbeats 4000000 in
set_option maxRecDepth 100000 in
theorem kX6_end (l : Launch) {Y : zz_Y} (hJ : zz_J Y) (x1 : Int32) (hY : zz_mo Y) {σ : zz_T} {Q : Int32 → zz_T → Prop} (h : pX6_end x1 σ Q) : zz_Mi l yX6_end cX6_end 3 (some .int) rmX6_end Y [.ref (Y.2.1 0), .int x1] σ Q := by
  refine zz_Mi.start (by decide) hJ (Nat.le_of_ble_eq_true rfl) (fun p e s m below meth c X hr hlk => ?_)
  have X : zz_X p m c cX6_end 3 s _ RX6 := X
  refine zv_sub (lv2 := [(0, .ref (Y.2.1 0)), (1, .int x1)]) [0, 1] rfl ?_
  unfold pX6_end at h
  refine zv_iload_n X dX6_end_0 1 rfl rfl rfl ?_
  refine zv_i2l X dX6_end_1 rfl ?_
  refine zv_lconst (v := 0) X dX6_end_2 (by decide) rfl ?_
  refine zv_aload_n X dX6_end_3 0 rfl rfl rfl ?_
  refine zg_X6_6 (k := 0) X (zz_mo_o hY).1 (zz_mo_o hY).2 fl_X6_71 dX6_end_4 rfl ?_
  refine zv_i2l X dX6_end_7 rfl ?_
  refine zv_cSi X [.long (Int32.toInt64 x1), .long 0, .long (Int32.toInt64 (σ.1 0 6))] (kX6_in l hJ (Int32.toInt64 x1) 0 (Int32.toInt64 (σ.1 0 6))  h) jl_X6_67 ⟨rfl, rfl⟩ ⟨Nat.le_of_ble_eq_true rfl, Nat.le_of_ble_eq_true rfl⟩ rfl rfl (Nat.le_of_ble_eq_true rfl) dX6_end_8 rfl (fun r8 s8 h => ?_)
  refine zv_if_ne (tgt := 16) X dX6_end_11 (by decide) rfl (fun q11 => ?_) (fun q11 => ?_)
  · replace h := h.2 q11
    refine zv_aload_n X dX6_end_16 0 rfl rfl rfl ?_
    refine zg_X6_6 (k := 0) X (zz_mo_o hY).1 (zz_mo_o hY).2 fl_X6_71 dX6_end_17 rfl ?_
    refine zv_istore_n (lv2 := [(2, .int (s8.1 0 6)), (0, .ref (Y.2.1 0)), (1, .int x1)]) X dX6_end_20 rfl (by decide) rfl rfl ?_
    refine zv_aload_n X dX6_end_21 1 rfl rfl rfl ?_
    refine zv_iload_n X dX6_end_22 2 rfl rfl rfl ?_
    refine zp_X6_6 (k := 0) X (zz_mo_o hY).1 (zz_mo_o hY).2 fl_X6_71 dX6_end_23 rfl ?_
    refine zv_iload_n X dX6_end_26 0 rfl rfl rfl ?_
    exact zv_iret X hr hlk h dX6_end_27
  · replace h := h.1 q11
    refine zv_iconst (v := (-1)) X dX6_end_14 (by decide) rfl ?_
    exact zv_iret X hr hlk h dX6_end_15
def rmX6_requires : Room := { frames := 0, cells := 0, slots := 0, locals := 0 }
def pX6_requires (x1 : Int32) (x2 : Int32) (σ : zz_T) (Q : zz_T → Prop) : Prop :=
    ((x1 = 0 → (((σ.1 0 11) = 0 → Q (zz_i (zz_i σ 0 11 x2) 0 12 ((zz_i σ 0 11 x2).1 0 8))) ∧
    (¬ (σ.1 0 11) = 0 → Q σ))) ∧
    (¬ x1 = 0 → Q σ))
set_option maxHeartbeats 4000000 in
set_option maxRecDepth 100000 in
theorem kX6_requires (l : Launch) {Y : zz_Y} (hJ : zz_J Y) (x1 : Int32) (x2 : Int32) (hY : zz_mo Y) {σ : zz_T} {Q : zz_T → Prop} (h : pX6_requires x1 x2 σ Q) : zz_Mv l yX6_requires cX6_requires 3 none rmX6_requires Y [.ref (Y.2.1 0), .int x1, .int x2] σ Q := by
  refine zz_Mv.start (by decide) hJ (Nat.le_of_ble_eq_true rfl) (fun p e s m below meth c X hr hlk => ?_)
  have X : zz_X p m c cX6_requires 3 s _ RX6 := X
  refine zv_sub (lv2 := [(0, .ref (Y.2.1 0)), (1, .int x1), (2, .int x2)]) [0, 1, 2] rfl ?_
  unfold pX6_requires at h
  refine zv_iload_n X dX6_requires_0 1 rfl rfl rfl ?_
  refine zv_if_ne (tgt := 24) X dX6_requires_1 (by decide) rfl (fun q1 => ?_) (fun q1 => ?_)
  · replace h := h.2 q1
    exact zv_vret X hr hlk h dX6_requires_24
  · replace h := h.1 q1
    refine zv_aload_n X dX6_requires_4 0 rfl rfl rfl ?_
    refine zg_X6_11 (k := 0) X (zz_mo_o hY).1 (zz_mo_o hY).2 fl_X6_75 dX6_requires_5 rfl ?_
    refine zv_if_ne (tgt := 24) X dX6_requires_8 (by decide) rfl (fun q8 => ?_) (fun q8 => ?_)
    · replace h := h.2 q8
      exact zv_vret X hr hlk h dX6_requires_24
    · replace h := h.1 q8
      refine zv_aload_n X dX6_requires_11 0 rfl rfl rfl ?_
      refine zv_iload_n X dX6_requires_12 2 rfl rfl rfl ?_
      refine zp_X6_11 (k := 0) X (zz_mo_o hY).1 (zz_mo_o hY).2 fl_X6_75 dX6_requires_13 rfl ?_
      refine zv_aload_n X dX6_requires_16 0 rfl rfl rfl ?_
      refine zv_aload_n X dX6_requires_17 0 rfl rfl rfl ?_
      refine zg_X6_8 (k := 0) X (zz_mo_o hY).1 (zz_mo_o hY).2 fl_X6_78 dX6_requires_18 rfl ?_
      refine zp_X6_12 (k := 0) X (zz_mo_o hY).1 (zz_mo_o hY).2 fl_X6_81 dX6_requires_21 rfl ?_
      exact zv_vret X hr hlk h dX6_requires_24
def rmX6_byteAt : Room := { frames := 0, cells := 0, slots := 0, locals := 0 }
def pX6_byteAt (x1 : Int32) (σ : zz_T) (Q : Int32 → zz_T → Prop) : Prop :=
    (((σ.1 0 6) ≤ x1 → Q (-1) σ) ∧
    (¬ (σ.1 0 6) ≤ x1 → vp_in x1 160 ∧
    Q (σ.1 6 (Int32.toNatClampNeg x1)) σ))
set_option maxHeartbeats 4000000 in
set_option maxRecDepth 100000 in
theorem kX6_byteAt (l : Launch) {Y : zz_Y} (hJ : zz_J Y) (x1 : Int32) (hY : zz_mo Y) {σ : zz_T} {Q : Int32 → zz_T → Prop} (h : pX6_byteAt x1 σ Q) : zz_Mi l yX6_byteAt cX6_byteAt 2 (some .int) rmX6_byteAt Y [.ref (Y.2.1 0), .int x1] σ Q := by
  refine zz_Mi.start (by decide) hJ (Nat.le_of_ble_eq_true rfl) (fun p e s m below meth c X hr hlk => ?_)
  have X : zz_X p m c cX6_byteAt 2 s _ RX6 := X
  refine zv_sub (lv2 := [(0, .ref (Y.2.1 0)), (1, .int x1)]) [0, 1] rfl ?_
  unfold pX6_byteAt at h
  refine zv_iload_n X dX6_byteAt_0 1 rfl rfl rfl ?_
  refine zv_aload_n X dX6_byteAt_1 0 rfl rfl rfl ?_
  refine zg_X6_6 (k := 0) X (zz_mo_o hY).1 (zz_mo_o hY).2 fl_X6_71 dX6_byteAt_2 rfl ?_
  refine zv_icmp_ge (tgt := 17) X dX6_byteAt_5 (by decide) rfl (fun q5 => ?_) (fun q5 => ?_)
  · replace h := h.1 q5
    refine zv_iconst (v := (-1)) X dX6_byteAt_17 (by decide) rfl ?_
    exact zv_iret X hr hlk h dX6_byteAt_18
  · replace h := h.2 q5
    refine zv_aload_n X dX6_byteAt_8 0 rfl rfl rfl ?_
    refine zg_X6_5 (k := 0) X (zz_mo_o hY).1 (zz_mo_o hY).2 fl_X6_26 dX6_byteAt_9 rfl ?_
    refine zv_iload_n X dX6_byteAt_12 1 rfl rfl rfl ?_
    obtain ⟨hi13, h⟩ := h
    refine zv_iald (k := 6) X (zz_mo_tape hY).1 (zz_mo_tape hY).2 hi13 dX6_byteAt_13 rfl ?_
    refine zv_goto (tgt := 18) X dX6_byteAt_14 (by decide) ?_
    exact zv_iret X hr hlk h dX6_byteAt_18
def rmX6_is : Room := { frames := 1, cells := 0, slots := 0, locals := 21 }
def pX6_is (x1 : Int32) (x2 : Int32) (x3 : Int32) (x4 : Int32) (x5 : Int32) (σ : zz_T) (Q : Int32 → zz_T → Prop) : Prop :=
    ((((σ.1 0 7) - (σ.1 0 8)) = x1 → pX6_byteAt (σ.1 0 8) σ (fun r18 s18 =>
    ((r18 = x2 → pX6_byteAt ((s18.1 0 8) + 1) s18 (fun r32 s32 =>
    ((r32 = x3 → pX6_byteAt ((s32.1 0 8) + 2) s32 (fun r46 s46 =>
    ((r46 = x4 → pX6_byteAt ((s46.1 0 8) + 3) s46 (fun r61 s61 =>
    ((r61 = x5 → (zz_bo 1 ∧ Q 1 s61)) ∧
    (¬ r61 = x5 → (zz_bo 0 ∧ Q 0 s61))))) ∧
    (¬ r46 = x4 → (zz_bo 0 ∧ Q 0 s46))))) ∧
    (¬ r32 = x3 → (zz_bo 0 ∧ Q 0 s32))))) ∧
    (¬ r18 = x2 → (zz_bo 0 ∧ Q 0 s18))))) ∧
    (¬ ((σ.1 0 7) - (σ.1 0 8)) = x1 → (zz_bo 0 ∧ Q 0 σ)))
set_option maxHeartbeats 4000000 in
set_option maxRecDepth 100000 in
theorem kX6_is (l : Launch) {Y : zz_Y} (hJ : zz_J Y) (x1 : Int32) (x2 : Int32) (x3 : Int32) (x4 : Int32) (x5 : Int32) (hY : zz_mo Y) {σ : zz_T} {Q : Int32 → zz_T → Prop} (h : pX6_is x1 x2 x3 x4 x5 σ Q) : zz_Mi l yX6_is cX6_is 6 (some .boolean) rmX6_is Y [.ref (Y.2.1 0), .int x1, .int x2, .int x3, .int x4, .int x5] σ Q := by
  refine zz_Mi.start (by decide) hJ (Nat.le_of_ble_eq_true rfl) (fun p e s m below meth c X hr hlk => ?_)
  have X : zz_X p m c cX6_is 6 s _ RX6 := X
  refine zv_sub (lv2 := [(0, .ref (Y.2.1 0)), (1, .int x1), (2, .int x2), (3, .int x3), (4, .int x4), (5, .int x5)]) [0, 1, 2, 3, 4, 5] rfl ?_
  unfold pX6_is at h
  refine zv_aload_n X dX6_is_0 0 rfl rfl rfl ?_
  refine zg_X6_7 (k := 0) X (zz_mo_o hY).1 (zz_mo_o hY).2 fl_X6_84 dX6_is_1 rfl ?_
  refine zv_aload_n X dX6_is_4 0 rfl rfl rfl ?_
  refine zg_X6_8 (k := 0) X (zz_mo_o hY).1 (zz_mo_o hY).2 fl_X6_78 dX6_is_5 rfl ?_
  refine zv_isub X dX6_is_8 rfl ?_
  refine zv_iload_n X dX6_is_9 1 rfl rfl rfl ?_
  refine zv_icmp_ne (tgt := 73) X dX6_is_10 (by decide) rfl (fun q10 => ?_) (fun q10 => ?_)
  · replace h := h.2 q10
    refine zv_iconst (v := 0) X dX6_is_73 (by decide) rfl ?_
    exact zv_zret X hr hlk h dX6_is_74
  · replace h := h.1 q10
    refine zv_aload_n X dX6_is_13 0 rfl rfl rfl ?_
    refine zv_aload_n X dX6_is_14 0 rfl rfl rfl ?_
    refine zg_X6_8 (k := 0) X (zz_mo_o hY).1 (zz_mo_o hY).2 fl_X6_78 dX6_is_15 rfl ?_
    refine zv_cVi (k := 0) (ci := 6) X [.int (σ.1 0 8)] (kX6_byteAt l hJ (σ.1 0 8) hY h) jl_X6_87 ⟨rfl, rfl⟩ ⟨Nat.le_of_ble_eq_true rfl, Nat.le_of_ble_eq_true rfl⟩ (zz_mo_o hY).1 (by decide) (zz_mo_o hY).2 rfl rfl rfl (Nat.le_of_ble_eq_true rfl) dX6_is_18 rfl (fun r18 s18 h => ?_)
    refine zv_iload_n X dX6_is_21 2 rfl rfl rfl ?_
    refine zv_icmp_ne (tgt := 73) X dX6_is_22 (by decide) rfl (fun q22 => ?_) (fun q22 => ?_)
    · replace h := h.2 q22
      refine zv_iconst (v := 0) X dX6_is_73 (by decide) rfl ?_
      exact zv_zret X hr hlk h dX6_is_74
    · replace h := h.1 q22
      refine zv_aload_n X dX6_is_25 0 rfl rfl rfl ?_
      refine zv_aload_n X dX6_is_26 0 rfl rfl rfl ?_
      refine zg_X6_8 (k := 0) X (zz_mo_o hY).1 (zz_mo_o hY).2 fl_X6_78 dX6_is_27 rfl ?_
      refine zv_iconst (v := 1) X dX6_is_30 (by decide) rfl ?_
      refine zv_iadd X dX6_is_31 rfl ?_
      refine zv_cVi (k := 0) (ci := 6) X [.int ((s18.1 0 8) + 1)] (kX6_byteAt l hJ ((s18.1 0 8) + 1) hY h) jl_X6_87 ⟨rfl, rfl⟩ ⟨Nat.le_of_ble_eq_true rfl, Nat.le_of_ble_eq_true rfl⟩ (zz_mo_o hY).1 (by decide) (zz_mo_o hY).2 rfl rfl rfl (Nat.le_of_ble_eq_true rfl) dX6_is_32 rfl (fun r32 s32 h => ?_)
      refine zv_iload_n X dX6_is_35 3 rfl rfl rfl ?_
      refine zv_icmp_ne (tgt := 73) X dX6_is_36 (by decide) rfl (fun q36 => ?_) (fun q36 => ?_)
      · replace h := h.2 q36
        refine zv_iconst (v := 0) X dX6_is_73 (by decide) rfl ?_
        exact zv_zret X hr hlk h dX6_is_74
      · replace h := h.1 q36
        refine zv_aload_n X dX6_is_39 0 rfl rfl rfl ?_
        refine zv_aload_n X dX6_is_40 0 rfl rfl rfl ?_
        refine zg_X6_8 (k := 0) X (zz_mo_o hY).1 (zz_mo_o hY).2 fl_X6_78 dX6_is_41 rfl ?_
        refine zv_iconst (v := 2) X dX6_is_44 (by decide) rfl ?_
        refine zv_iadd X dX6_is_45 rfl ?_
        refine zv_cVi (k := 0) (ci := 6) X [.int ((s32.1 0 8) + 2)] (kX6_byteAt l hJ ((s32.1 0 8) + 2) hY h) jl_X6_87 ⟨rfl, rfl⟩ ⟨Nat.le_of_ble_eq_true rfl, Nat.le_of_ble_eq_true rfl⟩ (zz_mo_o hY).1 (by decide) (zz_mo_o hY).2 rfl rfl rfl (Nat.le_of_ble_eq_true rfl) dX6_is_46 rfl (fun r46 s46 h => ?_)
        refine zv_iload X dX6_is_49 4 rfl rfl ?_
        refine zv_icmp_ne (tgt := 73) X dX6_is_51 (by decide) rfl (fun q51 => ?_) (fun q51 => ?_)
        · replace h := h.2 q51
          refine zv_iconst (v := 0) X dX6_is_73 (by decide) rfl ?_
          exact zv_zret X hr hlk h dX6_is_74
        · replace h := h.1 q51
          refine zv_aload_n X dX6_is_54 0 rfl rfl rfl ?_
          refine zv_aload_n X dX6_is_55 0 rfl rfl rfl ?_
          refine zg_X6_8 (k := 0) X (zz_mo_o hY).1 (zz_mo_o hY).2 fl_X6_78 dX6_is_56 rfl ?_
          refine zv_iconst (v := 3) X dX6_is_59 (by decide) rfl ?_
          refine zv_iadd X dX6_is_60 rfl ?_
          refine zv_cVi (k := 0) (ci := 6) X [.int ((s46.1 0 8) + 3)] (kX6_byteAt l hJ ((s46.1 0 8) + 3) hY h) jl_X6_87 ⟨rfl, rfl⟩ ⟨Nat.le_of_ble_eq_true rfl, Nat.le_of_ble_eq_true rfl⟩ (zz_mo_o hY).1 (by decide) (zz_mo_o hY).2 rfl rfl rfl (Nat.le_of_ble_eq_true rfl) dX6_is_61 rfl (fun r61 s61 h => ?_)
          refine zv_iload X dX6_is_64 5 rfl rfl ?_
          refine zv_icmp_ne (tgt := 73) X dX6_is_66 (by decide) rfl (fun q66 => ?_) (fun q66 => ?_)
          · replace h := h.2 q66
            refine zv_iconst (v := 0) X dX6_is_73 (by decide) rfl ?_
            exact zv_zret X hr hlk h dX6_is_74
          · replace h := h.1 q66
            refine zv_iconst (v := 1) X dX6_is_69 (by decide) rfl ?_
            refine zv_goto (tgt := 74) X dX6_is_70 (by decide) ?_
            exact zv_zret X hr hlk h dX6_is_74
def rmX6_endsIn : Room := { frames := 1, cells := 0, slots := 0, locals := 21 }
def pX6_endsIn_32  (Q : Int32 → zz_T → Prop) (σ : zz_T) : Prop :=
    (zz_bo 1 ∧ Q 1 σ)
set_option maxHeartbeats 4000000 in
set_option maxRecDepth 100000 in
theorem vX6_endsIn_32 {p : Program} {l : Launch} {e : Env} {s : State} {m : MethodId} {args : Array Value} {below : List Frame} {meth : Method} {c : Code} {Y : zz_Y}  {Q : Int32 → zz_T → Prop} (X : zz_X p m c cX6_endsIn 3 s args RX6) (hr : meth.sig.returnType = (some .boolean)) (hlk : meth.locks = false) (hJ : zz_J Y) (hY : zz_mo Y)  : ∀ (σ : zz_T), pX6_endsIn_32  Q σ → zz_V p l e rmX6_endsIn s m args below meth c (MQ below (va_Qi Q (zz_E Y) (zz_A Y)) args s 0 0 (zz_A Y)) 3 Y σ 32 [] [] := by
  intro σ h 
  unfold pX6_endsIn_32 at h
  refine zv_iconst (v := 1) X dX6_endsIn_32 (by decide) rfl ?_
  refine zv_goto (tgt := 37) X dX6_endsIn_33 (by decide) ?_
  exact zv_zret X hr hlk h dX6_endsIn_37
def pX6_endsIn (x1 : Int32) (x2 : Int32) (σ : zz_T) (Q : Int32 → zz_T → Prop) : Prop :=
    pX6_byteAt ((σ.1 0 8) + 4) σ (fun r7 s7 =>
    ((r7 = x1 → ((x2 = 0 → pX6_endsIn_32  Q s7) ∧
    (¬ x2 = 0 → pX6_byteAt ((s7.1 0 8) + 5) s7 (fun r25 s25 =>
    ((r25 = x2 → pX6_endsIn_32  Q s25) ∧
    (¬ r25 = x2 → (zz_bo 0 ∧ Q 0 s25))))))) ∧
    (¬ r7 = x1 → (zz_bo 0 ∧ Q 0 s7))))
set_option maxHeartbeats 4000000 in
set_option maxRecDepth 100000 in
theorem kX6_endsIn (l : Launch) {Y : zz_Y} (hJ : zz_J Y) (x1 : Int32) (x2 : Int32) (hY : zz_mo Y) {σ : zz_T} {Q : Int32 → zz_T → Prop} (h : pX6_endsIn x1 x2 σ Q) : zz_Mi l yX6_endsIn cX6_endsIn 3 (some .boolean) rmX6_endsIn Y [.ref (Y.2.1 0), .int x1, .int x2] σ Q := by
  refine zz_Mi.start (by decide) hJ (Nat.le_of_ble_eq_true rfl) (fun p e s m below meth c X hr hlk => ?_)
  have X : zz_X p m c cX6_endsIn 3 s _ RX6 := X
  refine zv_sub (lv2 := [(0, .ref (Y.2.1 0)), (1, .int x1), (2, .int x2)]) [0, 1, 2] rfl ?_
  unfold pX6_endsIn at h
  refine zv_aload_n X dX6_endsIn_0 0 rfl rfl rfl ?_
  refine zv_aload_n X dX6_endsIn_1 0 rfl rfl rfl ?_
  refine zg_X6_8 (k := 0) X (zz_mo_o hY).1 (zz_mo_o hY).2 fl_X6_78 dX6_endsIn_2 rfl ?_
  refine zv_iconst (v := 4) X dX6_endsIn_5 (by decide) rfl ?_
  refine zv_iadd X dX6_endsIn_6 rfl ?_
  refine zv_cVi (k := 0) (ci := 6) X [.int ((σ.1 0 8) + 4)] (kX6_byteAt l hJ ((σ.1 0 8) + 4) hY h) jl_X6_87 ⟨rfl, rfl⟩ ⟨Nat.le_of_ble_eq_true rfl, Nat.le_of_ble_eq_true rfl⟩ (zz_mo_o hY).1 (by decide) (zz_mo_o hY).2 rfl rfl rfl (Nat.le_of_ble_eq_true rfl) dX6_endsIn_7 rfl (fun r7 s7 h => ?_)
  refine zv_iload_n X dX6_endsIn_10 1 rfl rfl rfl ?_
  refine zv_icmp_ne (tgt := 36) X dX6_endsIn_11 (by decide) rfl (fun q11 => ?_) (fun q11 => ?_)
  · replace h := h.2 q11
    refine zv_iconst (v := 0) X dX6_endsIn_36 (by decide) rfl ?_
    exact zv_zret X hr hlk h dX6_endsIn_37
  · replace h := h.1 q11
    refine zv_iload_n X dX6_endsIn_14 2 rfl rfl rfl ?_
    refine zv_if_eq (tgt := 32) X dX6_endsIn_15 (by decide) rfl (fun q15 => ?_) (fun q15 => ?_)
    · replace h := h.1 q15
      refine zv_sub (lv2 := []) [] rfl ?_
      exact vX6_endsIn_32 X hr hlk hJ hY _ h
    · replace h := h.2 q15
      refine zv_aload_n X dX6_endsIn_18 0 rfl rfl rfl ?_
      refine zv_aload_n X dX6_endsIn_19 0 rfl rfl rfl ?_
      refine zg_X6_8 (k := 0) X (zz_mo_o hY).1 (zz_mo_o hY).2 fl_X6_78 dX6_endsIn_20 rfl ?_
      refine zv_iconst (v := 5) X dX6_endsIn_23 (by decide) rfl ?_
      refine zv_iadd X dX6_endsIn_24 rfl ?_
      refine zv_cVi (k := 0) (ci := 6) X [.int ((s7.1 0 8) + 5)] (kX6_byteAt l hJ ((s7.1 0 8) + 5) hY h) jl_X6_87 ⟨rfl, rfl⟩ ⟨Nat.le_of_ble_eq_true rfl, Nat.le_of_ble_eq_true rfl⟩ (zz_mo_o hY).1 (by decide) (zz_mo_o hY).2 rfl rfl rfl (Nat.le_of_ble_eq_true rfl) dX6_endsIn_25 rfl (fun r25 s25 h => ?_)
      refine zv_iload_n X dX6_endsIn_28 2 rfl rfl rfl ?_
      refine zv_icmp_ne (tgt := 36) X dX6_endsIn_29 (by decide) rfl (fun q29 => ?_) (fun q29 => ?_)
      · replace h := h.2 q29
        refine zv_iconst (v := 0) X dX6_endsIn_36 (by decide) rfl ?_
        exact zv_zret X hr hlk h dX6_endsIn_37
      · replace h := h.1 q29
        refine zv_sub (lv2 := []) [] rfl ?_
        exact vX6_endsIn_32 X hr hlk hJ hY _ h
def rmX6_lineNow : Room := { frames := 2, cells := 0, slots := 0, locals := 46 }
def pX6_lineNow_169  (Q : Int32 → zz_T → Prop) (σ : zz_T) : Prop :=
    pX6_is 5 108 105 110 101 σ (fun r179 s179 =>
    ((r179 = 0 → Q (-4) s179) ∧
    (¬ r179 = 0 → pX6_endsIn 115 0 s179 (fun r189 s189 =>
    ((r189 = 0 → Q (-4) s189) ∧
    (¬ r189 = 0 → Q 7 s189))))))
set_option maxHeartbeats 4000000 in
set_option maxRecDepth 100000 in
theorem vX6_lineNow_169 {p : Program} {l : Launch} {e : Env} {s : State} {m : MethodId} {args : Array Value} {below : List Frame} {meth : Method} {c : Code} {Y : zz_Y}  {Q : Int32 → zz_T → Prop} (X : zz_X p m c cX6_lineNow 1 s args RX6) (hr : meth.sig.returnType = (some .int)) (hlk : meth.locks = false) (hJ : zz_J Y) (hY : zz_mo Y)  : ∀ (σ : zz_T), pX6_lineNow_169  Q σ → zz_V p l e rmX6_lineNow s m args below meth c (MQ below (va_Qi Q (zz_E Y) (zz_A Y)) args s 0 0 (zz_A Y)) 1 Y σ 169 [(0, .ref (Y.2.1 0))] [] := by
  intro σ h 
  unfold pX6_lineNow_169 at h
  refine zv_aload_n X dX6_lineNow_169 0 rfl rfl rfl ?_
  refine zv_iconst (v := 5) X dX6_lineNow_170 (by decide) rfl ?_
  refine zv_bipush (v := 108) X dX6_lineNow_171 (by decide) rfl ?_
  refine zv_bipush (v := 105) X dX6_lineNow_173 (by decide) rfl ?_
  refine zv_bipush (v := 110) X dX6_lineNow_175 (by decide) rfl ?_
  refine zv_bipush (v := 101) X dX6_lineNow_177 (by decide) rfl ?_
  refine zv_cVi (k := 0) (ci := 6) X [.int 5, .int 108, .int 105, .int 110, .int 101] (kX6_is l hJ 5 108 105 110 101 hY h) jl_X6_91 ⟨rfl, rfl⟩ ⟨Nat.le_of_ble_eq_true rfl, Nat.le_of_ble_eq_true rfl⟩ (zz_mo_o hY).1 (by decide) (zz_mo_o hY).2 rfl rfl rfl (Nat.le_of_ble_eq_true rfl) dX6_lineNow_179 rfl (fun r179 s179 h => ?_)
  refine zv_if_eq (tgt := 200) X dX6_lineNow_182 (by decide) rfl (fun q182 => ?_) (fun q182 => ?_)
  · replace h := h.1 q182
    refine zv_bipush (v := (-4)) X dX6_lineNow_200 (by decide) rfl ?_
    exact zv_iret X hr hlk h dX6_lineNow_202
  · replace h := h.2 q182
    refine zv_aload_n X dX6_lineNow_185 0 rfl rfl rfl ?_
    refine zv_bipush (v := 115) X dX6_lineNow_186 (by decide) rfl ?_
    refine zv_iconst (v := 0) X dX6_lineNow_188 (by decide) rfl ?_
    refine zv_cVi (k := 0) (ci := 6) X [.int 115, .int 0] (kX6_endsIn l hJ 115 0 hY h) jl_X6_95 ⟨rfl, rfl⟩ ⟨Nat.le_of_ble_eq_true rfl, Nat.le_of_ble_eq_true rfl⟩ (zz_mo_o hY).1 (by decide) (zz_mo_o hY).2 rfl rfl rfl (Nat.le_of_ble_eq_true rfl) dX6_lineNow_189 rfl (fun r189 s189 h => ?_)
    refine zv_if_eq (tgt := 200) X dX6_lineNow_192 (by decide) rfl (fun q192 => ?_) (fun q192 => ?_)
    · replace h := h.1 q192
      refine zv_bipush (v := (-4)) X dX6_lineNow_200 (by decide) rfl ?_
      exact zv_iret X hr hlk h dX6_lineNow_202
    · replace h := h.2 q192
      refine zv_bipush (v := 7) X dX6_lineNow_195 (by decide) rfl ?_
      refine zv_goto (tgt := 202) X dX6_lineNow_197 (by decide) ?_
      exact zv_iret X hr hlk h dX6_lineNow_202
def pX6_lineNow_102  (Q : Int32 → zz_T → Prop) (σ : zz_T) : Prop :=
    pX6_is 4 109 97 114 107 σ (fun r112 s112 =>
    ((r112 = 0 → pX6_is 4 99 111 111 108 s112 (fun r130 s130 =>
    ((r130 = 0 → pX6_is 6 115 112 114 101 s130 (fun r149 s149 =>
    ((r149 = 0 → pX6_lineNow_169  Q s149) ∧
    (¬ r149 = 0 → pX6_endsIn 97 100 s149 (fun r160 s160 =>
    ((r160 = 0 → pX6_lineNow_169  Q s160) ∧
    (¬ r160 = 0 → Q 6 s160))))))) ∧
    (¬ r130 = 0 → Q 5 s130)))) ∧
    (¬ r112 = 0 → Q 4 s112)))
set_option maxHeartbeats 4000000 in
set_option maxRecDepth 100000 in
theorem vX6_lineNow_102 {p : Program} {l : Launch} {e : Env} {s : State} {m : MethodId} {args : Array Value} {below : List Frame} {meth : Method} {c : Code} {Y : zz_Y}  {Q : Int32 → zz_T → Prop} (X : zz_X p m c cX6_lineNow 1 s args RX6) (hr : meth.sig.returnType = (some .int)) (hlk : meth.locks = false) (hJ : zz_J Y) (hY : zz_mo Y)  : ∀ (σ : zz_T), pX6_lineNow_102  Q σ → zz_V p l e rmX6_lineNow s m args below meth c (MQ below (va_Qi Q (zz_E Y) (zz_A Y)) args s 0 0 (zz_A Y)) 1 Y σ 102 [(0, .ref (Y.2.1 0))] [] := by
  intro σ h 
  unfold pX6_lineNow_102 at h
  refine zv_aload_n X dX6_lineNow_102 0 rfl rfl rfl ?_
  refine zv_iconst (v := 4) X dX6_lineNow_103 (by decide) rfl ?_
  refine zv_bipush (v := 109) X dX6_lineNow_104 (by decide) rfl ?_
  refine zv_bipush (v := 97) X dX6_lineNow_106 (by decide) rfl ?_
  refine zv_bipush (v := 114) X dX6_lineNow_108 (by decide) rfl ?_
  refine zv_bipush (v := 107) X dX6_lineNow_110 (by decide) rfl ?_
  refine zv_cVi (k := 0) (ci := 6) X [.int 4, .int 109, .int 97, .int 114, .int 107] (kX6_is l hJ 4 109 97 114 107 hY h) jl_X6_91 ⟨rfl, rfl⟩ ⟨Nat.le_of_ble_eq_true rfl, Nat.le_of_ble_eq_true rfl⟩ (zz_mo_o hY).1 (by decide) (zz_mo_o hY).2 rfl rfl rfl (Nat.le_of_ble_eq_true rfl) dX6_lineNow_112 rfl (fun r112 s112 h => ?_)
  refine zv_if_eq (tgt := 120) X dX6_lineNow_115 (by decide) rfl (fun q115 => ?_) (fun q115 => ?_)
  · replace h := h.1 q115
    refine zv_aload_n X dX6_lineNow_120 0 rfl rfl rfl ?_
    refine zv_iconst (v := 4) X dX6_lineNow_121 (by decide) rfl ?_
    refine zv_bipush (v := 99) X dX6_lineNow_122 (by decide) rfl ?_
    refine zv_bipush (v := 111) X dX6_lineNow_124 (by decide) rfl ?_
    refine zv_bipush (v := 111) X dX6_lineNow_126 (by decide) rfl ?_
    refine zv_bipush (v := 108) X dX6_lineNow_128 (by decide) rfl ?_
    refine zv_cVi (k := 0) (ci := 6) X [.int 4, .int 99, .int 111, .int 111, .int 108] (kX6_is l hJ 4 99 111 111 108 hY h) jl_X6_91 ⟨rfl, rfl⟩ ⟨Nat.le_of_ble_eq_true rfl, Nat.le_of_ble_eq_true rfl⟩ (zz_mo_o hY).1 (by decide) (zz_mo_o hY).2 rfl rfl rfl (Nat.le_of_ble_eq_true rfl) dX6_lineNow_130 rfl (fun r130 s130 h => ?_)
    refine zv_if_eq (tgt := 138) X dX6_lineNow_133 (by decide) rfl (fun q133 => ?_) (fun q133 => ?_)
    · replace h := h.1 q133
      refine zv_aload_n X dX6_lineNow_138 0 rfl rfl rfl ?_
      refine zv_bipush (v := 6) X dX6_lineNow_139 (by decide) rfl ?_
      refine zv_bipush (v := 115) X dX6_lineNow_141 (by decide) rfl ?_
      refine zv_bipush (v := 112) X dX6_lineNow_143 (by decide) rfl ?_
      refine zv_bipush (v := 114) X dX6_lineNow_145 (by decide) rfl ?_
      refine zv_bipush (v := 101) X dX6_lineNow_147 (by decide) rfl ?_
      refine zv_cVi (k := 0) (ci := 6) X [.int 6, .int 115, .int 112, .int 114, .int 101] (kX6_is l hJ 6 115 112 114 101 hY h) jl_X6_91 ⟨rfl, rfl⟩ ⟨Nat.le_of_ble_eq_true rfl, Nat.le_of_ble_eq_true rfl⟩ (zz_mo_o hY).1 (by decide) (zz_mo_o hY).2 rfl rfl rfl (Nat.le_of_ble_eq_true rfl) dX6_lineNow_149 rfl (fun r149 s149 h => ?_)
      refine zv_if_eq (tgt := 169) X dX6_lineNow_152 (by decide) rfl (fun q152 => ?_) (fun q152 => ?_)
      · replace h := h.1 q152
        exact vX6_lineNow_169 X hr hlk hJ hY _ h
      · replace h := h.2 q152
        refine zv_aload_n X dX6_lineNow_155 0 rfl rfl rfl ?_
        refine zv_bipush (v := 97) X dX6_lineNow_156 (by decide) rfl ?_
        refine zv_bipush (v := 100) X dX6_lineNow_158 (by decide) rfl ?_
        refine zv_cVi (k := 0) (ci := 6) X [.int 97, .int 100] (kX6_endsIn l hJ 97 100 hY h) jl_X6_95 ⟨rfl, rfl⟩ ⟨Nat.le_of_ble_eq_true rfl, Nat.le_of_ble_eq_true rfl⟩ (zz_mo_o hY).1 (by decide) (zz_mo_o hY).2 rfl rfl rfl (Nat.le_of_ble_eq_true rfl) dX6_lineNow_160 rfl (fun r160 s160 h => ?_)
        refine zv_if_eq (tgt := 169) X dX6_lineNow_163 (by decide) rfl (fun q163 => ?_) (fun q163 => ?_)
        · replace h := h.1 q163
          exact vX6_lineNow_169 X hr hlk hJ hY _ h
        · replace h := h.2 q163
          refine zv_bipush (v := 6) X dX6_lineNow_166 (by decide) rfl ?_
          exact zv_iret X hr hlk h dX6_lineNow_168
    · replace h := h.2 q133
      refine zv_iconst (v := 5) X dX6_lineNow_136 (by decide) rfl ?_
      exact zv_iret X hr hlk h dX6_lineNow_137
  · replace h := h.2 q115
    refine zv_iconst (v := 4) X dX6_lineNow_118 (by decide) rfl ?_
    exact zv_iret X hr hlk h dX6_lineNow_119
def pX6_lineNow_56  (Q : Int32 → zz_T → Prop) (σ : zz_T) : Prop :=
    pX6_is 4 119 97 114 121 σ (fun r66 s66 =>
    ((r66 = 0 → pX6_is 5 101 97 114 108 s66 (fun r84 s84 =>
    ((r84 = 0 → pX6_lineNow_102  Q s84) ∧
    (¬ r84 = 0 → pX6_endsIn 121 0 s84 (fun r94 s94 =>
    ((r94 = 0 → pX6_lineNow_102  Q s94) ∧
    (¬ r94 = 0 → Q 3 s94))))))) ∧
    (¬ r66 = 0 → Q 2 s66)))
set_option maxHeartbeats 4000000 in
set_option maxRecDepth 100000 in
theorem vX6_lineNow_56 {p : Program} {l : Launch} {e : Env} {s : State} {m : MethodId} {args : Array Value} {below : List Frame} {meth : Method} {c : Code} {Y : zz_Y}  {Q : Int32 → zz_T → Prop} (X : zz_X p m c cX6_lineNow 1 s args RX6) (hr : meth.sig.returnType = (some .int)) (hlk : meth.locks = false) (hJ : zz_J Y) (hY : zz_mo Y)  : ∀ (σ : zz_T), pX6_lineNow_56  Q σ → zz_V p l e rmX6_lineNow s m args below meth c (MQ below (va_Qi Q (zz_E Y) (zz_A Y)) args s 0 0 (zz_A Y)) 1 Y σ 56 [(0, .ref (Y.2.1 0))] [] := by
  intro σ h 
  unfold pX6_lineNow_56 at h
  refine zv_aload_n X dX6_lineNow_56 0 rfl rfl rfl ?_
  refine zv_iconst (v := 4) X dX6_lineNow_57 (by decide) rfl ?_
  refine zv_bipush (v := 119) X dX6_lineNow_58 (by decide) rfl ?_
  refine zv_bipush (v := 97) X dX6_lineNow_60 (by decide) rfl ?_
  refine zv_bipush (v := 114) X dX6_lineNow_62 (by decide) rfl ?_
  refine zv_bipush (v := 121) X dX6_lineNow_64 (by decide) rfl ?_
  refine zv_cVi (k := 0) (ci := 6) X [.int 4, .int 119, .int 97, .int 114, .int 121] (kX6_is l hJ 4 119 97 114 121 hY h) jl_X6_91 ⟨rfl, rfl⟩ ⟨Nat.le_of_ble_eq_true rfl, Nat.le_of_ble_eq_true rfl⟩ (zz_mo_o hY).1 (by decide) (zz_mo_o hY).2 rfl rfl rfl (Nat.le_of_ble_eq_true rfl) dX6_lineNow_66 rfl (fun r66 s66 h => ?_)
  refine zv_if_eq (tgt := 74) X dX6_lineNow_69 (by decide) rfl (fun q69 => ?_) (fun q69 => ?_)
  · replace h := h.1 q69
    refine zv_aload_n X dX6_lineNow_74 0 rfl rfl rfl ?_
    refine zv_iconst (v := 5) X dX6_lineNow_75 (by decide) rfl ?_
    refine zv_bipush (v := 101) X dX6_lineNow_76 (by decide) rfl ?_
    refine zv_bipush (v := 97) X dX6_lineNow_78 (by decide) rfl ?_
    refine zv_bipush (v := 114) X dX6_lineNow_80 (by decide) rfl ?_
    refine zv_bipush (v := 108) X dX6_lineNow_82 (by decide) rfl ?_
    refine zv_cVi (k := 0) (ci := 6) X [.int 5, .int 101, .int 97, .int 114, .int 108] (kX6_is l hJ 5 101 97 114 108 hY h) jl_X6_91 ⟨rfl, rfl⟩ ⟨Nat.le_of_ble_eq_true rfl, Nat.le_of_ble_eq_true rfl⟩ (zz_mo_o hY).1 (by decide) (zz_mo_o hY).2 rfl rfl rfl (Nat.le_of_ble_eq_true rfl) dX6_lineNow_84 rfl (fun r84 s84 h => ?_)
    refine zv_if_eq (tgt := 102) X dX6_lineNow_87 (by decide) rfl (fun q87 => ?_) (fun q87 => ?_)
    · replace h := h.1 q87
      exact vX6_lineNow_102 X hr hlk hJ hY _ h
    · replace h := h.2 q87
      refine zv_aload_n X dX6_lineNow_90 0 rfl rfl rfl ?_
      refine zv_bipush (v := 121) X dX6_lineNow_91 (by decide) rfl ?_
      refine zv_iconst (v := 0) X dX6_lineNow_93 (by decide) rfl ?_
      refine zv_cVi (k := 0) (ci := 6) X [.int 121, .int 0] (kX6_endsIn l hJ 121 0 hY h) jl_X6_95 ⟨rfl, rfl⟩ ⟨Nat.le_of_ble_eq_true rfl, Nat.le_of_ble_eq_true rfl⟩ (zz_mo_o hY).1 (by decide) (zz_mo_o hY).2 rfl rfl rfl (Nat.le_of_ble_eq_true rfl) dX6_lineNow_94 rfl (fun r94 s94 h => ?_)
      refine zv_if_eq (tgt := 102) X dX6_lineNow_97 (by decide) rfl (fun q97 => ?_) (fun q97 => ?_)
      · replace h := h.1 q97
        exact vX6_lineNow_102 X hr hlk hJ hY _ h
      · replace h := h.2 q97
        refine zv_iconst (v := 3) X dX6_lineNow_100 (by decide) rfl ?_
        exact zv_iret X hr hlk h dX6_lineNow_101
  · replace h := h.2 q69
    refine zv_iconst (v := 2) X dX6_lineNow_72 (by decide) rfl ?_
    exact zv_iret X hr hlk h dX6_lineNow_73
def pX6_lineNow_28  (Q : Int32 → zz_T → Prop) (σ : zz_T) : Prop :=
    pX6_is 5 115 97 118 101 σ (fun r38 s38 =>
    ((r38 = 0 → pX6_lineNow_56  Q s38) ∧
    (¬ r38 = 0 → pX6_endsIn 114 0 s38 (fun r48 s48 =>
    ((r48 = 0 → pX6_lineNow_56  Q s48) ∧
    (¬ r48 = 0 → Q 1 s48))))))
set_option maxHeartbeats 4000000 in
set_option maxRecDepth 100000 in
theorem vX6_lineNow_28 {p : Program} {l : Launch} {e : Env} {s : State} {m : MethodId} {args : Array Value} {below : List Frame} {meth : Method} {c : Code} {Y : zz_Y}  {Q : Int32 → zz_T → Prop} (X : zz_X p m c cX6_lineNow 1 s args RX6) (hr : meth.sig.returnType = (some .int)) (hlk : meth.locks = false) (hJ : zz_J Y) (hY : zz_mo Y)  : ∀ (σ : zz_T), pX6_lineNow_28  Q σ → zz_V p l e rmX6_lineNow s m args below meth c (MQ below (va_Qi Q (zz_E Y) (zz_A Y)) args s 0 0 (zz_A Y)) 1 Y σ 28 [(0, .ref (Y.2.1 0))] [] := by
  intro σ h 
  unfold pX6_lineNow_28 at h
  refine zv_aload_n X dX6_lineNow_28 0 rfl rfl rfl ?_
  refine zv_iconst (v := 5) X dX6_lineNow_29 (by decide) rfl ?_
  refine zv_bipush (v := 115) X dX6_lineNow_30 (by decide) rfl ?_
  refine zv_bipush (v := 97) X dX6_lineNow_32 (by decide) rfl ?_
  refine zv_bipush (v := 118) X dX6_lineNow_34 (by decide) rfl ?_
  refine zv_bipush (v := 101) X dX6_lineNow_36 (by decide) rfl ?_
  refine zv_cVi (k := 0) (ci := 6) X [.int 5, .int 115, .int 97, .int 118, .int 101] (kX6_is l hJ 5 115 97 118 101 hY h) jl_X6_91 ⟨rfl, rfl⟩ ⟨Nat.le_of_ble_eq_true rfl, Nat.le_of_ble_eq_true rfl⟩ (zz_mo_o hY).1 (by decide) (zz_mo_o hY).2 rfl rfl rfl (Nat.le_of_ble_eq_true rfl) dX6_lineNow_38 rfl (fun r38 s38 h => ?_)
  refine zv_if_eq (tgt := 56) X dX6_lineNow_41 (by decide) rfl (fun q41 => ?_) (fun q41 => ?_)
  · replace h := h.1 q41
    exact vX6_lineNow_56 X hr hlk hJ hY _ h
  · replace h := h.2 q41
    refine zv_aload_n X dX6_lineNow_44 0 rfl rfl rfl ?_
    refine zv_bipush (v := 114) X dX6_lineNow_45 (by decide) rfl ?_
    refine zv_iconst (v := 0) X dX6_lineNow_47 (by decide) rfl ?_
    refine zv_cVi (k := 0) (ci := 6) X [.int 114, .int 0] (kX6_endsIn l hJ 114 0 hY h) jl_X6_95 ⟨rfl, rfl⟩ ⟨Nat.le_of_ble_eq_true rfl, Nat.le_of_ble_eq_true rfl⟩ (zz_mo_o hY).1 (by decide) (zz_mo_o hY).2 rfl rfl rfl (Nat.le_of_ble_eq_true rfl) dX6_lineNow_48 rfl (fun r48 s48 h => ?_)
    refine zv_if_eq (tgt := 56) X dX6_lineNow_51 (by decide) rfl (fun q51 => ?_) (fun q51 => ?_)
    · replace h := h.1 q51
      exact vX6_lineNow_56 X hr hlk hJ hY _ h
    · replace h := h.2 q51
      refine zv_iconst (v := 1) X dX6_lineNow_54 (by decide) rfl ?_
      exact zv_iret X hr hlk h dX6_lineNow_55
def pX6_lineNow  (σ : zz_T) (Q : Int32 → zz_T → Prop) : Prop :=
    pX6_is 5 112 108 97 105 σ (fun r10 s10 =>
    ((r10 = 0 → pX6_lineNow_28  Q s10) ∧
    (¬ r10 = 0 → pX6_endsIn 110 0 s10 (fun r20 s20 =>
    ((r20 = 0 → pX6_lineNow_28  Q s20) ∧
    (¬ r20 = 0 → Q 0 s20))))))
set_option maxHeartbeats 4000000 in
set_option maxRecDepth 100000 in
theorem kX6_lineNow (l : Launch) {Y : zz_Y} (hJ : zz_J Y)  (hY : zz_mo Y) {σ : zz_T} {Q : Int32 → zz_T → Prop} (h : pX6_lineNow  σ Q) : zz_Mi l yX6_lineNow cX6_lineNow 1 (some .int) rmX6_lineNow Y [.ref (Y.2.1 0)] σ Q := by
  refine zz_Mi.start (by decide) hJ (Nat.le_of_ble_eq_true rfl) (fun p e s m below meth c X hr hlk => ?_)
  have X : zz_X p m c cX6_lineNow 1 s _ RX6 := X
  refine zv_sub (lv2 := [(0, .ref (Y.2.1 0))]) [0] rfl ?_
  unfold pX6_lineNow at h
  refine zv_aload_n X dX6_lineNow_0 0 rfl rfl rfl ?_
  refine zv_iconst (v := 5) X dX6_lineNow_1 (by decide) rfl ?_
  refine zv_bipush (v := 112) X dX6_lineNow_2 (by decide) rfl ?_
  refine zv_bipush (v := 108) X dX6_lineNow_4 (by decide) rfl ?_
  refine zv_bipush (v := 97) X dX6_lineNow_6 (by decide) rfl ?_
  refine zv_bipush (v := 105) X dX6_lineNow_8 (by decide) rfl ?_
  refine zv_cVi (k := 0) (ci := 6) X [.int 5, .int 112, .int 108, .int 97, .int 105] (kX6_is l hJ 5 112 108 97 105 hY h) jl_X6_91 ⟨rfl, rfl⟩ ⟨Nat.le_of_ble_eq_true rfl, Nat.le_of_ble_eq_true rfl⟩ (zz_mo_o hY).1 (by decide) (zz_mo_o hY).2 rfl rfl rfl (Nat.le_of_ble_eq_true rfl) dX6_lineNow_10 rfl (fun r10 s10 h => ?_)
  refine zv_if_eq (tgt := 28) X dX6_lineNow_13 (by decide) rfl (fun q13 => ?_) (fun q13 => ?_)
  · replace h := h.1 q13
    exact vX6_lineNow_28 X hr hlk hJ hY _ h
  · replace h := h.2 q13
    refine zv_aload_n X dX6_lineNow_16 0 rfl rfl rfl ?_
    refine zv_bipush (v := 110) X dX6_lineNow_17 (by decide) rfl ?_
    refine zv_iconst (v := 0) X dX6_lineNow_19 (by decide) rfl ?_
    refine zv_cVi (k := 0) (ci := 6) X [.int 110, .int 0] (kX6_endsIn l hJ 110 0 hY h) jl_X6_95 ⟨rfl, rfl⟩ ⟨Nat.le_of_ble_eq_true rfl, Nat.le_of_ble_eq_true rfl⟩ (zz_mo_o hY).1 (by decide) (zz_mo_o hY).2 rfl rfl rfl (Nat.le_of_ble_eq_true rfl) dX6_lineNow_20 rfl (fun r20 s20 h => ?_)
    refine zv_if_eq (tgt := 28) X dX6_lineNow_23 (by decide) rfl (fun q23 => ?_) (fun q23 => ?_)
    · replace h := h.1 q23
      exact vX6_lineNow_28 X hr hlk hJ hY _ h
    · replace h := h.2 q23
      refine zv_iconst (v := 0) X dX6_lineNow_26 (by decide) rfl ?_
      exact zv_iret X hr hlk h dX6_lineNow_27
def rmX6_reads : Room := { frames := 1, cells := 0, slots := 0, locals := 25 }
def pX6_reads_260  (Q : zz_T → Prop) (t1 : Int32) (σ : zz_T) : Prop :=
    pX6_requires t1 1 σ (fun s261 =>
    Q (zz_i s261 0 7 ((s261.1 0 7) + 1)))
set_option maxHeartbeats 4000000 in
set_option maxRecDepth 100000 in
theorem vX6_reads_260 {p : Program} {l : Launch} {e : Env} {s : State} {m : MethodId} {args : Array Value} {below : List Frame} {meth : Method} {c : Code} {Y : zz_Y}  {Q : zz_T → Prop} (X : zz_X p m c cX6_reads 2 s args RX6) (hr : meth.sig.returnType = none) (hlk : meth.locks = false) (hJ : zz_J Y) (hY : zz_mo Y)  : ∀ (t1 : Int32) (σ : zz_T), pX6_reads_260  Q t1 σ → zz_V p l e rmX6_reads s m args below meth c (MQ below (va_Qv Q (zz_E Y) (zz_A Y)) args s 0 0 (zz_A Y)) 2 Y σ 260 [(0, .ref (Y.2.1 0))] [.int t1, .ref (Y.2.1 0)] := by
  intro t1 σ h 
  unfold pX6_reads_260 at h
  refine zv_iconst (v := 1) X dX6_reads_260 (by decide) rfl ?_
  refine zv_cVv (k := 0) (ci := 6) X [.int t1, .int 1] (kX6_requires l hJ t1 1 hY h) jl_X6_113 ⟨rfl, rfl⟩ ⟨Nat.le_of_ble_eq_true rfl, Nat.le_of_ble_eq_true rfl⟩ (zz_mo_o hY).1 (by decide) (zz_mo_o hY).2 rfl rfl rfl (Nat.le_of_ble_eq_true rfl) dX6_reads_261 rfl (fun s261 h => ?_)
  refine zv_aload_n X dX6_reads_264 0 rfl rfl rfl ?_
  refine zv_dup X dX6_reads_265 rfl rfl ?_
  refine zg_X6_7 (k := 0) X (zz_mo_o hY).1 (zz_mo_o hY).2 fl_X6_84 dX6_reads_266 rfl ?_
  refine zv_iconst (v := 1) X dX6_reads_269 (by decide) rfl ?_
  refine zv_iadd X dX6_reads_270 rfl ?_
  refine zp_X6_7 (k := 0) X (zz_mo_o hY).1 (zz_mo_o hY).2 fl_X6_84 dX6_reads_271 rfl ?_
  exact zv_vret X hr hlk h dX6_reads_274
def pX6_reads_236  (Q : zz_T → Prop) (t1 : Int32) (σ : zz_T) : Prop :=
    pX6_requires t1 1 σ (fun s237 =>
    Q s237)
set_option maxHeartbeats 4000000 in
set_option maxRecDepth 100000 in
theorem vX6_reads_236 {p : Program} {l : Launch} {e : Env} {s : State} {m : MethodId} {args : Array Value} {below : List Frame} {meth : Method} {c : Code} {Y : zz_Y}  {Q : zz_T → Prop} (X : zz_X p m c cX6_reads 2 s args RX6) (hr : meth.sig.returnType = none) (hlk : meth.locks = false) (hJ : zz_J Y) (hY : zz_mo Y)  : ∀ (t1 : Int32) (σ : zz_T), pX6_reads_236  Q t1 σ → zz_V p l e rmX6_reads s m args below meth c (MQ below (va_Qv Q (zz_E Y) (zz_A Y)) args s 0 0 (zz_A Y)) 2 Y σ 236 [] [.int t1, .ref (Y.2.1 0)] := by
  intro t1 σ h 
  unfold pX6_reads_236 at h
  refine zv_iconst (v := 1) X dX6_reads_236 (by decide) rfl ?_
  refine zv_cVv (k := 0) (ci := 6) X [.int t1, .int 1] (kX6_requires l hJ t1 1 hY h) jl_X6_113 ⟨rfl, rfl⟩ ⟨Nat.le_of_ble_eq_true rfl, Nat.le_of_ble_eq_true rfl⟩ (zz_mo_o hY).1 (by decide) (zz_mo_o hY).2 rfl rfl rfl (Nat.le_of_ble_eq_true rfl) dX6_reads_237 rfl (fun s237 h => ?_)
  refine zv_goto (tgt := 274) X dX6_reads_240 (by decide) ?_
  exact zv_vret X hr hlk h dX6_reads_274
def pX6_reads_201  (Q : zz_T → Prop) (K140 : zz_T → Prop) (t1 : Int32) (σ : zz_T) : Prop :=
    K140 (zz_i (zz_i σ 0 10 t1) 0 7 (((zz_i σ 0 10 t1).1 0 7) + 1))
set_option maxHeartbeats 4000000 in
set_option maxRecDepth 100000 in
theorem vX6_reads_201 {p : Program} {l : Launch} {e : Env} {s : State} {m : MethodId} {args : Array Value} {below : List Frame} {meth : Method} {c : Code} {Y : zz_Y}  {Q : zz_T → Prop} {K140 : zz_T → Prop} (X : zz_X p m c cX6_reads 2 s args RX6) (hr : meth.sig.returnType = none) (hlk : meth.locks = false) (hJ : zz_J Y) (hY : zz_mo Y) (hK140 : ∀ (σ : zz_T), K140 σ → zz_V p l e rmX6_reads s m args below meth c (MQ below (va_Qv Q (zz_E Y) (zz_A Y)) args s 0 0 (zz_A Y)) 2 Y σ 140 [(0, .ref (Y.2.1 0))] []) : ∀ (t1 : Int32) (σ : zz_T), pX6_reads_201  Q K140 t1 σ → zz_V p l e rmX6_reads s m args below meth c (MQ below (va_Qv Q (zz_E Y) (zz_A Y)) args s 0 0 (zz_A Y)) 2 Y σ 201 [(0, .ref (Y.2.1 0))] [.int t1, .ref (Y.2.1 0)] := by
  intro t1 σ h 
  unfold pX6_reads_201 at h
  refine zp_X6_10 (k := 0) X (zz_mo_o hY).1 (zz_mo_o hY).2 fl_X6_110 dX6_reads_201 rfl ?_
  refine zv_aload_n X dX6_reads_204 0 rfl rfl rfl ?_
  refine zv_dup X dX6_reads_205 rfl rfl ?_
  refine zg_X6_7 (k := 0) X (zz_mo_o hY).1 (zz_mo_o hY).2 fl_X6_84 dX6_reads_206 rfl ?_
  refine zv_iconst (v := 1) X dX6_reads_209 (by decide) rfl ?_
  refine zv_iadd X dX6_reads_210 rfl ?_
  refine zp_X6_7 (k := 0) X (zz_mo_o hY).1 (zz_mo_o hY).2 fl_X6_84 dX6_reads_211 rfl ?_
  refine zv_goto (tgt := 140) X dX6_reads_214 (by decide) ?_
  exact hK140 _ h
def pX6_reads_140  (Q : zz_T → Prop) : Nat → zz_T → Prop
  | 0, _ => False
  | n + 1, σ =>
    pX6_byteAt (σ.1 0 7) σ (fun r145 s145 =>
    pX6_in (Int32.toInt64 r145) 48 57 s145 (fun r155 s155 =>
    ((r155 = 0 → ((3 < ((s155.1 0 7) - (s155.1 0 8)) → pX6_reads_236  Q 0 s155) ∧
    (¬ 3 < ((s155.1 0 7) - (s155.1 0 8)) → pX6_reads_236  Q 1 s155))) ∧
    (¬ r155 = 0 → ((3 ≤ ((s155.1 0 7) - (s155.1 0 8)) → pX6_reads_201  Q (pX6_reads_140  Q n) (s155.1 0 10) s155) ∧
    (¬ 3 ≤ ((s155.1 0 7) - (s155.1 0 8)) → pX6_byteAt (s155.1 0 7) s155 (fun r187 s187 =>
    pX6_reads_201  Q (pX6_reads_140  Q n) (((10 * (s155.1 0 10)) + r187) - 48) s187)))))))
set_option maxHeartbeats 4000000 in
set_option maxRecDepth 100000 in
theorem vX6_reads_140 {p : Program} {l : Launch} {e : Env} {s : State} {m : MethodId} {args : Array Value} {below : List Frame} {meth : Method} {c : Code} {Y : zz_Y}  {Q : zz_T → Prop} (X : zz_X p m c cX6_reads 2 s args RX6) (hr : meth.sig.returnType = none) (hlk : meth.locks = false) (hJ : zz_J Y) (hY : zz_mo Y)  : ∀ (n : Nat) (σ : zz_T), pX6_reads_140  Q n σ → zz_V p l e rmX6_reads s m args below meth c (MQ below (va_Qv Q (zz_E Y) (zz_A Y)) args s 0 0 (zz_A Y)) 2 Y σ 140 [(0, .ref (Y.2.1 0))] [] := by
  intro n
  induction n with
  | zero => intro σ h; exact h.elim
  | succ n ih =>
    intro σ h 
    unfold pX6_reads_140 at h
    refine zv_aload_n X dX6_reads_140 0 rfl rfl rfl ?_
    refine zv_aload_n X dX6_reads_141 0 rfl rfl rfl ?_
    refine zg_X6_7 (k := 0) X (zz_mo_o hY).1 (zz_mo_o hY).2 fl_X6_84 dX6_reads_142 rfl ?_
    refine zv_cVi (k := 0) (ci := 6) X [.int (σ.1 0 7)] (kX6_byteAt l hJ (σ.1 0 7) hY h) jl_X6_87 ⟨rfl, rfl⟩ ⟨Nat.le_of_ble_eq_true rfl, Nat.le_of_ble_eq_true rfl⟩ (zz_mo_o hY).1 (by decide) (zz_mo_o hY).2 rfl rfl rfl (Nat.le_of_ble_eq_true rfl) dX6_reads_145 rfl (fun r145 s145 h => ?_)
    refine zv_i2l X dX6_reads_148 rfl ?_
    refine zv_ldc2 (v := 48) X dX6_reads_149 co_X6_106 rfl ?_
    refine zv_ldc2 (v := 57) X dX6_reads_152 co_X6_108 rfl ?_
    refine zv_cSi X [.long (Int32.toInt64 r145), .long 48, .long 57] (kX6_in l hJ (Int32.toInt64 r145) 48 57  h) jl_X6_67 ⟨rfl, rfl⟩ ⟨Nat.le_of_ble_eq_true rfl, Nat.le_of_ble_eq_true rfl⟩ rfl rfl (Nat.le_of_ble_eq_true rfl) dX6_reads_155 rfl (fun r155 s155 h => ?_)
    refine zv_if_eq (tgt := 217) X dX6_reads_158 (by decide) rfl (fun q158 => ?_) (fun q158 => ?_)
    · replace h := h.1 q158
      refine zv_aload_n X dX6_reads_217 0 rfl rfl rfl ?_
      refine zv_aload_n X dX6_reads_218 0 rfl rfl rfl ?_
      refine zg_X6_7 (k := 0) X (zz_mo_o hY).1 (zz_mo_o hY).2 fl_X6_84 dX6_reads_219 rfl ?_
      refine zv_aload_n X dX6_reads_222 0 rfl rfl rfl ?_
      refine zg_X6_8 (k := 0) X (zz_mo_o hY).1 (zz_mo_o hY).2 fl_X6_78 dX6_reads_223 rfl ?_
      refine zv_isub X dX6_reads_226 rfl ?_
      refine zv_iconst (v := 3) X dX6_reads_227 (by decide) rfl ?_
      refine zv_icmp_gt (tgt := 235) X dX6_reads_228 (by decide) rfl (fun q228 => ?_) (fun q228 => ?_)
      · replace h := h.1 q228
        refine zv_iconst (v := 0) X dX6_reads_235 (by decide) rfl ?_
        refine zv_sub (lv2 := []) [] rfl ?_
        exact vX6_reads_236 X hr hlk hJ hY 0 _ h
      · replace h := h.2 q228
        refine zv_iconst (v := 1) X dX6_reads_231 (by decide) rfl ?_
        refine zv_goto (tgt := 236) X dX6_reads_232 (by decide) ?_
        refine zv_sub (lv2 := []) [] rfl ?_
        exact vX6_reads_236 X hr hlk hJ hY 1 _ h
    · replace h := h.2 q158
      refine zv_aload_n X dX6_reads_161 0 rfl rfl rfl ?_
      refine zv_aload_n X dX6_reads_162 0 rfl rfl rfl ?_
      refine zg_X6_7 (k := 0) X (zz_mo_o hY).1 (zz_mo_o hY).2 fl_X6_84 dX6_reads_163 rfl ?_
      refine zv_aload_n X dX6_reads_166 0 rfl rfl rfl ?_
      refine zg_X6_8 (k := 0) X (zz_mo_o hY).1 (zz_mo_o hY).2 fl_X6_78 dX6_reads_167 rfl ?_
      refine zv_isub X dX6_reads_170 rfl ?_
      refine zv_iconst (v := 3) X dX6_reads_171 (by decide) rfl ?_
      refine zv_icmp_ge (tgt := 197) X dX6_reads_172 (by decide) rfl (fun q172 => ?_) (fun q172 => ?_)
      · replace h := h.1 q172
        refine zv_aload_n X dX6_reads_197 0 rfl rfl rfl ?_
        refine zg_X6_10 (k := 0) X (zz_mo_o hY).1 (zz_mo_o hY).2 fl_X6_110 dX6_reads_198 rfl ?_
        exact vX6_reads_201 X hr hlk hJ hY ih (s155.1 0 10) _ h
      · replace h := h.2 q172
        refine zv_bipush (v := 10) X dX6_reads_175 (by decide) rfl ?_
        refine zv_aload_n X dX6_reads_177 0 rfl rfl rfl ?_
        refine zg_X6_10 (k := 0) X (zz_mo_o hY).1 (zz_mo_o hY).2 fl_X6_110 dX6_reads_178 rfl ?_
        refine zv_imul X dX6_reads_181 rfl ?_
        refine zv_aload_n X dX6_reads_182 0 rfl rfl rfl ?_
        refine zv_aload_n X dX6_reads_183 0 rfl rfl rfl ?_
        refine zg_X6_7 (k := 0) X (zz_mo_o hY).1 (zz_mo_o hY).2 fl_X6_84 dX6_reads_184 rfl ?_
        refine zv_cVi (k := 0) (ci := 6) X [.int (s155.1 0 7)] (kX6_byteAt l hJ (s155.1 0 7) hY h) jl_X6_87 ⟨rfl, rfl⟩ ⟨Nat.le_of_ble_eq_true rfl, Nat.le_of_ble_eq_true rfl⟩ (zz_mo_o hY).1 (by decide) (zz_mo_o hY).2 rfl rfl rfl (Nat.le_of_ble_eq_true rfl) dX6_reads_187 rfl (fun r187 s187 h => ?_)
        refine zv_iadd X dX6_reads_190 rfl ?_
        refine zv_bipush (v := 48) X dX6_reads_191 (by decide) rfl ?_
        refine zv_isub X dX6_reads_193 rfl ?_
        refine zv_goto (tgt := 201) X dX6_reads_194 (by decide) ?_
        exact vX6_reads_201 X hr hlk hJ hY ih (((10 * (s155.1 0 10)) + r187) - 48) _ h
def pX6_reads_82  (Q : zz_T → Prop) : Nat → zz_T → Prop
  | 0, _ => False
  | n + 1, σ =>
    pX6_byteAt (σ.1 0 7) σ (fun r87 s87 =>
    pX6_in (Int32.toInt64 r87) 97 122 s87 (fun r97 s97 =>
    ((r97 = 0 → Q s97) ∧
    (¬ r97 = 0 → pX6_reads_82  Q n (zz_i s97 0 7 ((s97.1 0 7) + 1))))))
set_option maxHeartbeats 4000000 in
set_option maxRecDepth 100000 in
theorem vX6_reads_82 {p : Program} {l : Launch} {e : Env} {s : State} {m : MethodId} {args : Array Value} {below : List Frame} {meth : Method} {c : Code} {Y : zz_Y}  {Q : zz_T → Prop} (X : zz_X p m c cX6_reads 2 s args RX6) (hr : meth.sig.returnType = none) (hlk : meth.locks = false) (hJ : zz_J Y) (hY : zz_mo Y)  : ∀ (n : Nat) (σ : zz_T), pX6_reads_82  Q n σ → zz_V p l e rmX6_reads s m args below meth c (MQ below (va_Qv Q (zz_E Y) (zz_A Y)) args s 0 0 (zz_A Y)) 2 Y σ 82 [(0, .ref (Y.2.1 0))] [] := by
  intro n
  induction n with
  | zero => intro σ h; exact h.elim
  | succ n ih =>
    intro σ h 
    unfold pX6_reads_82 at h
    refine zv_aload_n X dX6_reads_82 0 rfl rfl rfl ?_
    refine zv_aload_n X dX6_reads_83 0 rfl rfl rfl ?_
    refine zg_X6_7 (k := 0) X (zz_mo_o hY).1 (zz_mo_o hY).2 fl_X6_84 dX6_reads_84 rfl ?_
    refine zv_cVi (k := 0) (ci := 6) X [.int (σ.1 0 7)] (kX6_byteAt l hJ (σ.1 0 7) hY h) jl_X6_87 ⟨rfl, rfl⟩ ⟨Nat.le_of_ble_eq_true rfl, Nat.le_of_ble_eq_true rfl⟩ (zz_mo_o hY).1 (by decide) (zz_mo_o hY).2 rfl rfl rfl (Nat.le_of_ble_eq_true rfl) dX6_reads_87 rfl (fun r87 s87 h => ?_)
    refine zv_i2l X dX6_reads_90 rfl ?_
    refine zv_ldc2 (v := 97) X dX6_reads_91 co_X6_102 rfl ?_
    refine zv_ldc2 (v := 122) X dX6_reads_94 co_X6_104 rfl ?_
    refine zv_cSi X [.long (Int32.toInt64 r87), .long 97, .long 122] (kX6_in l hJ (Int32.toInt64 r87) 97 122  h) jl_X6_67 ⟨rfl, rfl⟩ ⟨Nat.le_of_ble_eq_true rfl, Nat.le_of_ble_eq_true rfl⟩ rfl rfl (Nat.le_of_ble_eq_true rfl) dX6_reads_97 rfl (fun r97 s97 h => ?_)
    refine zv_if_eq (tgt := 274) X dX6_reads_100 (by decide) rfl (fun q100 => ?_) (fun q100 => ?_)
    · replace h := h.1 q100
      exact zv_vret X hr hlk h dX6_reads_274
    · replace h := h.2 q100
      refine zv_aload_n X dX6_reads_103 0 rfl rfl rfl ?_
      refine zv_dup X dX6_reads_104 rfl rfl ?_
      refine zg_X6_7 (k := 0) X (zz_mo_o hY).1 (zz_mo_o hY).2 fl_X6_84 dX6_reads_105 rfl ?_
      refine zv_iconst (v := 1) X dX6_reads_108 (by decide) rfl ?_
      refine zv_iadd X dX6_reads_109 rfl ?_
      refine zp_X6_7 (k := 0) X (zz_mo_o hY).1 (zz_mo_o hY).2 fl_X6_84 dX6_reads_110 rfl ?_
      refine zv_goto (tgt := 82) X dX6_reads_113 (by decide) ?_
      exact ih _ h
def pX6_reads_8  (Q : zz_T → Prop) : Nat → zz_T → Prop
  | 0, _ => False
  | n + 1, σ =>
    pX6_byteAt (σ.1 0 7) σ (fun r13 s13 =>
    ((r13 = 32 → pX6_reads_8  Q n (zz_i s13 0 7 ((s13.1 0 7) + 1))) ∧
    (¬ r13 = 32 → pX6_byteAt ((zz_i s13 0 8 (s13.1 0 7)).1 0 7) (zz_i s13 0 8 (s13.1 0 7)) (fun r47 s47 =>
    ((0 ≤ r47 → pX6_in (Int32.toInt64 r47) 97 122 s47 (fun r71 s71 =>
    ((r71 = 0 → pX6_in (Int32.toInt64 r47) 48 57 s71 (fun r124 s124 =>
    ((r124 = 0 → ((r47 = 59 → pX6_reads_260  Q 1 (zz_i s124 0 9 3)) ∧
    (¬ r47 = 59 → pX6_reads_260  Q 0 (zz_i s124 0 9 3)))) ∧
    (¬ r124 = 0 → ∃ n140, pX6_reads_140  Q n140 (zz_i (zz_i s124 0 9 2) 0 10 0))))) ∧
    (¬ r71 = 0 → ∃ n82, pX6_reads_82  Q n82 (zz_i s71 0 9 1))))) ∧
    (¬ 0 ≤ r47 → Q (zz_i s47 0 9 0)))))))
set_option maxHeartbeats 4000000 in
set_option maxRecDepth 100000 in
theorem vX6_reads_8 {p : Program} {l : Launch} {e : Env} {s : State} {m : MethodId} {args : Array Value} {below : List Frame} {meth : Method} {c : Code} {Y : zz_Y}  {Q : zz_T → Prop} (X : zz_X p m c cX6_reads 2 s args RX6) (hr : meth.sig.returnType = none) (hlk : meth.locks = false) (hJ : zz_J Y) (hY : zz_mo Y)  : ∀ (n : Nat) (σ : zz_T), pX6_reads_8  Q n σ → zz_V p l e rmX6_reads s m args below meth c (MQ below (va_Qv Q (zz_E Y) (zz_A Y)) args s 0 0 (zz_A Y)) 2 Y σ 8 [(0, .ref (Y.2.1 0))] [] := by
  intro n
  induction n with
  | zero => intro σ h; exact h.elim
  | succ n ih =>
    intro σ h 
    unfold pX6_reads_8 at h
    refine zv_aload_n X dX6_reads_8 0 rfl rfl rfl ?_
    refine zv_aload_n X dX6_reads_9 0 rfl rfl rfl ?_
    refine zg_X6_7 (k := 0) X (zz_mo_o hY).1 (zz_mo_o hY).2 fl_X6_84 dX6_reads_10 rfl ?_
    refine zv_cVi (k := 0) (ci := 6) X [.int (σ.1 0 7)] (kX6_byteAt l hJ (σ.1 0 7) hY h) jl_X6_87 ⟨rfl, rfl⟩ ⟨Nat.le_of_ble_eq_true rfl, Nat.le_of_ble_eq_true rfl⟩ (zz_mo_o hY).1 (by decide) (zz_mo_o hY).2 rfl rfl rfl (Nat.le_of_ble_eq_true rfl) dX6_reads_13 rfl (fun r13 s13 h => ?_)
    refine zv_bipush (v := 32) X dX6_reads_16 (by decide) rfl ?_
    refine zv_icmp_ne (tgt := 34) X dX6_reads_18 (by decide) rfl (fun q18 => ?_) (fun q18 => ?_)
    · replace h := h.2 q18
      refine zv_aload_n X dX6_reads_34 0 rfl rfl rfl ?_
      refine zv_aload_n X dX6_reads_35 0 rfl rfl rfl ?_
      refine zg_X6_7 (k := 0) X (zz_mo_o hY).1 (zz_mo_o hY).2 fl_X6_84 dX6_reads_36 rfl ?_
      refine zp_X6_8 (k := 0) X (zz_mo_o hY).1 (zz_mo_o hY).2 fl_X6_78 dX6_reads_39 rfl ?_
      refine zv_aload_n X dX6_reads_42 0 rfl rfl rfl ?_
      refine zv_aload_n X dX6_reads_43 0 rfl rfl rfl ?_
      refine zg_X6_7 (k := 0) X (zz_mo_o hY).1 (zz_mo_o hY).2 fl_X6_84 dX6_reads_44 rfl ?_
      refine zv_cVi (k := 0) (ci := 6) X [.int ((zz_i s13 0 8 (s13.1 0 7)).1 0 7)] (kX6_byteAt l hJ ((zz_i s13 0 8 (s13.1 0 7)).1 0 7) hY h) jl_X6_87 ⟨rfl, rfl⟩ ⟨Nat.le_of_ble_eq_true rfl, Nat.le_of_ble_eq_true rfl⟩ (zz_mo_o hY).1 (by decide) (zz_mo_o hY).2 rfl rfl rfl (Nat.le_of_ble_eq_true rfl) dX6_reads_47 rfl (fun r47 s47 h => ?_)
      refine zv_istore_n (lv2 := [(1, .int r47), (0, .ref (Y.2.1 0))]) X dX6_reads_50 rfl (by decide) rfl rfl ?_
      refine zv_iload_n X dX6_reads_51 0 rfl rfl rfl ?_
      refine zv_if_ge (tgt := 63) X dX6_reads_52 (by decide) rfl (fun q52 => ?_) (fun q52 => ?_)
      · replace h := h.1 q52
        refine zv_iload_n X dX6_reads_63 0 rfl rfl rfl ?_
        refine zv_i2l X dX6_reads_64 rfl ?_
        refine zv_ldc2 (v := 97) X dX6_reads_65 co_X6_102 rfl ?_
        refine zv_ldc2 (v := 122) X dX6_reads_68 co_X6_104 rfl ?_
        refine zv_cSi X [.long (Int32.toInt64 r47), .long 97, .long 122] (kX6_in l hJ (Int32.toInt64 r47) 97 122  h) jl_X6_67 ⟨rfl, rfl⟩ ⟨Nat.le_of_ble_eq_true rfl, Nat.le_of_ble_eq_true rfl⟩ rfl rfl (Nat.le_of_ble_eq_true rfl) dX6_reads_71 rfl (fun r71 s71 h => ?_)
        refine zv_if_eq (tgt := 116) X dX6_reads_74 (by decide) rfl (fun q74 => ?_) (fun q74 => ?_)
        · replace h := h.1 q74
          refine zv_iload_n X dX6_reads_116 0 rfl rfl rfl ?_
          refine zv_i2l X dX6_reads_117 rfl ?_
          refine zv_ldc2 (v := 48) X dX6_reads_118 co_X6_106 rfl ?_
          refine zv_ldc2 (v := 57) X dX6_reads_121 co_X6_108 rfl ?_
          refine zv_cSi X [.long (Int32.toInt64 r47), .long 48, .long 57] (kX6_in l hJ (Int32.toInt64 r47) 48 57  h) jl_X6_67 ⟨rfl, rfl⟩ ⟨Nat.le_of_ble_eq_true rfl, Nat.le_of_ble_eq_true rfl⟩ rfl rfl (Nat.le_of_ble_eq_true rfl) dX6_reads_124 rfl (fun r124 s124 h => ?_)
          refine zv_if_eq (tgt := 243) X dX6_reads_127 (by decide) rfl (fun q127 => ?_) (fun q127 => ?_)
          · replace h := h.1 q127
            refine zv_aload_n X dX6_reads_243 1 rfl rfl rfl ?_
            refine zv_iconst (v := 3) X dX6_reads_244 (by decide) rfl ?_
            refine zp_X6_9 (k := 0) X (zz_mo_o hY).1 (zz_mo_o hY).2 fl_X6_99 dX6_reads_245 rfl ?_
            refine zv_aload_n X dX6_reads_248 1 rfl rfl rfl ?_
            refine zv_iload_n X dX6_reads_249 0 rfl rfl rfl ?_
            refine zv_bipush (v := 59) X dX6_reads_250 (by decide) rfl ?_
            refine zv_icmp_ne (tgt := 259) X dX6_reads_252 (by decide) rfl (fun q252 => ?_) (fun q252 => ?_)
            · replace h := h.2 q252
              refine zv_iconst (v := 0) X dX6_reads_259 (by decide) rfl ?_
              refine zv_sub (lv2 := [(0, .ref (Y.2.1 0))]) [1] rfl ?_
              exact vX6_reads_260 X hr hlk hJ hY 0 _ h
            · replace h := h.1 q252
              refine zv_iconst (v := 1) X dX6_reads_255 (by decide) rfl ?_
              refine zv_goto (tgt := 260) X dX6_reads_256 (by decide) ?_
              refine zv_sub (lv2 := [(0, .ref (Y.2.1 0))]) [1] rfl ?_
              exact vX6_reads_260 X hr hlk hJ hY 1 _ h
          · replace h := h.2 q127
            refine zv_aload_n X dX6_reads_130 1 rfl rfl rfl ?_
            refine zv_iconst (v := 2) X dX6_reads_131 (by decide) rfl ?_
            refine zp_X6_9 (k := 0) X (zz_mo_o hY).1 (zz_mo_o hY).2 fl_X6_99 dX6_reads_132 rfl ?_
            refine zv_aload_n X dX6_reads_135 1 rfl rfl rfl ?_
            refine zv_iconst (v := 0) X dX6_reads_136 (by decide) rfl ?_
            refine zp_X6_10 (k := 0) X (zz_mo_o hY).1 (zz_mo_o hY).2 fl_X6_110 dX6_reads_137 rfl ?_
            obtain ⟨n140, h⟩ := h
            refine zv_sub (lv2 := [(0, .ref (Y.2.1 0))]) [1] rfl ?_
            exact vX6_reads_140 X hr hlk hJ hY n140 _ h
        · replace h := h.2 q74
          refine zv_aload_n X dX6_reads_77 1 rfl rfl rfl ?_
          refine zv_iconst (v := 1) X dX6_reads_78 (by decide) rfl ?_
          refine zp_X6_9 (k := 0) X (zz_mo_o hY).1 (zz_mo_o hY).2 fl_X6_99 dX6_reads_79 rfl ?_
          obtain ⟨n82, h⟩ := h
          refine zv_sub (lv2 := [(0, .ref (Y.2.1 0))]) [1] rfl ?_
          exact vX6_reads_82 X hr hlk hJ hY n82 _ h
      · replace h := h.2 q52
        refine zv_aload_n X dX6_reads_55 1 rfl rfl rfl ?_
        refine zv_iconst (v := 0) X dX6_reads_56 (by decide) rfl ?_
        refine zp_X6_9 (k := 0) X (zz_mo_o hY).1 (zz_mo_o hY).2 fl_X6_99 dX6_reads_57 rfl ?_
        refine zv_goto (tgt := 274) X dX6_reads_60 (by decide) ?_
        exact zv_vret X hr hlk h dX6_reads_274
    · replace h := h.1 q18
      refine zv_aload_n X dX6_reads_21 0 rfl rfl rfl ?_
      refine zv_dup X dX6_reads_22 rfl rfl ?_
      refine zg_X6_7 (k := 0) X (zz_mo_o hY).1 (zz_mo_o hY).2 fl_X6_84 dX6_reads_23 rfl ?_
      refine zv_iconst (v := 1) X dX6_reads_26 (by decide) rfl ?_
      refine zv_iadd X dX6_reads_27 rfl ?_
      refine zp_X6_7 (k := 0) X (zz_mo_o hY).1 (zz_mo_o hY).2 fl_X6_84 dX6_reads_28 rfl ?_
      refine zv_goto (tgt := 8) X dX6_reads_31 (by decide) ?_
      exact ih _ h
def pX6_reads  (σ : zz_T) (Q : zz_T → Prop) : Prop :=
    (((σ.1 0 11) ≤ 0 → ∃ n8, pX6_reads_8  Q n8 σ) ∧
    (¬ (σ.1 0 11) ≤ 0 → Q σ))
set_option maxHeartbeats 4000000 in
set_option maxRecDepth 100000 in
theorem kX6_reads (l : Launch) {Y : zz_Y} (hJ : zz_J Y)  (hY : zz_mo Y) {σ : zz_T} {Q : zz_T → Prop} (h : pX6_reads  σ Q) : zz_Mv l yX6_reads cX6_reads 2 none rmX6_reads Y [.ref (Y.2.1 0)] σ Q := by
  refine zz_Mv.start (by decide) hJ (Nat.le_of_ble_eq_true rfl) (fun p e s m below meth c X hr hlk => ?_)
  have X : zz_X p m c cX6_reads 2 s _ RX6 := X
  refine zv_sub (lv2 := [(0, .ref (Y.2.1 0))]) [0] rfl ?_
  unfold pX6_reads at h
  refine zv_aload_n X dX6_reads_0 0 rfl rfl rfl ?_
  refine zg_X6_11 (k := 0) X (zz_mo_o hY).1 (zz_mo_o hY).2 fl_X6_75 dX6_reads_1 rfl ?_
  refine zv_if_le (tgt := 8) X dX6_reads_4 (by decide) rfl (fun q4 => ?_) (fun q4 => ?_)
  · replace h := h.1 q4
    obtain ⟨n8, h⟩ := h
    exact vX6_reads_8 X hr hlk hJ hY n8 _ h
  · replace h := h.2 q4
    exact zv_vret X hr hlk h dX6_reads_7
def rmX6_readNumber : Room := { frames := 2, cells := 0, slots := 0, locals := 46 }
def pX6_readNumber_64  (Q : Int32 → zz_T → Prop) (t0 : Int32) (σ : zz_T) : Prop :=
    pX6_reads σ (fun s66 =>
    Q t0 s66)
set_option maxHeartbeats 4000000 in
set_option maxRecDepth 100000 in
theorem vX6_readNumber_64 {p : Program} {l : Launch} {e : Env} {s : State} {m : MethodId} {args : Array Value} {below : List Frame} {meth : Method} {c : Code} {Y : zz_Y}  {Q : Int32 → zz_T → Prop} (X : zz_X p m c cX6_readNumber 4 s args RX6) (hr : meth.sig.returnType = (some .int)) (hlk : meth.locks = false) (hJ : zz_J Y) (hY : zz_mo Y)  : ∀ (t0 : Int32) (σ : zz_T), pX6_readNumber_64  Q t0 σ → zz_V p l e rmX6_readNumber s m args below meth c (MQ below (va_Qi Q (zz_E Y) (zz_A Y)) args s 0 0 (zz_A Y)) 4 Y σ 64 [(0, .ref (Y.2.1 0))] [.int t0] := by
  intro t0 σ h 
  unfold pX6_readNumber_64 at h
  refine zv_istore_n (lv2 := [(3, .int t0), (0, .ref (Y.2.1 0))]) X dX6_readNumber_64 rfl (by decide) rfl rfl ?_
  refine zv_aload_n X dX6_readNumber_65 1 rfl rfl rfl ?_
  refine zv_cVv (k := 0) (ci := 6) X [] (kX6_reads l hJ  hY h) jl_X6_117 ⟨rfl, rfl⟩ ⟨Nat.le_of_ble_eq_true rfl, Nat.le_of_ble_eq_true rfl⟩ (zz_mo_o hY).1 (by decide) (zz_mo_o hY).2 rfl rfl rfl (Nat.le_of_ble_eq_true rfl) dX6_readNumber_66 rfl (fun s66 h => ?_)
  refine zv_iload_n X dX6_readNumber_69 0 rfl rfl rfl ?_
  exact zv_iret X hr hlk h dX6_readNumber_70
def pX6_readNumber_49  (Q : Int32 → zz_T → Prop) (σ : zz_T) : Prop :=
    (((σ.1 0 11) = 0 → pX6_readNumber_64  Q (σ.1 0 10) σ) ∧
    (¬ (σ.1 0 11) = 0 → pX6_readNumber_64  Q 0 σ))
set_option maxHeartbeats 4000000 in
set_option maxRecDepth 100000 in
theorem vX6_readNumber_49 {p : Program} {l : Launch} {e : Env} {s : State} {m : MethodId} {args : Array Value} {below : List Frame} {meth : Method} {c : Code} {Y : zz_Y}  {Q : Int32 → zz_T → Prop} (X : zz_X p m c cX6_readNumber 4 s args RX6) (hr : meth.sig.returnType = (some .int)) (hlk : meth.locks = false) (hJ : zz_J Y) (hY : zz_mo Y)  : ∀ (σ : zz_T), pX6_readNumber_49  Q σ → zz_V p l e rmX6_readNumber s m args below meth c (MQ below (va_Qi Q (zz_E Y) (zz_A Y)) args s 0 0 (zz_A Y)) 4 Y σ 49 [(0, .ref (Y.2.1 0))] [] := by
  intro σ h 
  unfold pX6_readNumber_49 at h
  refine zv_aload_n X dX6_readNumber_49 0 rfl rfl rfl ?_
  refine zg_X6_11 (k := 0) X (zz_mo_o hY).1 (zz_mo_o hY).2 fl_X6_75 dX6_readNumber_50 rfl ?_
  refine zv_if_ne (tgt := 63) X dX6_readNumber_53 (by decide) rfl (fun q53 => ?_) (fun q53 => ?_)
  · replace h := h.2 q53
    refine zv_iconst (v := 0) X dX6_readNumber_63 (by decide) rfl ?_
    exact vX6_readNumber_64 X hr hlk hJ hY 0 _ h
  · replace h := h.1 q53
    refine zv_aload_n X dX6_readNumber_56 0 rfl rfl rfl ?_
    refine zg_X6_10 (k := 0) X (zz_mo_o hY).1 (zz_mo_o hY).2 fl_X6_110 dX6_readNumber_57 rfl ?_
    refine zv_goto (tgt := 64) X dX6_readNumber_60 (by decide) ?_
    exact vX6_readNumber_64 X hr hlk hJ hY (σ.1 0 10) _ h
def pX6_readNumber_25  (Q : Int32 → zz_T → Prop) (x1 : Int32) (x2 : Int32) (σ : zz_T) : Prop :=
    (((σ.1 0 11) = 0 → pX6_in (Int32.toInt64 (σ.1 0 10)) (Int32.toInt64 x1) (Int32.toInt64 x2) σ (fun r42 s42 =>
    pX6_requires r42 3 s42 (fun s46 =>
    pX6_readNumber_49  Q s46))) ∧
    (¬ (σ.1 0 11) = 0 → pX6_readNumber_49  Q σ))
set_option maxHeartbeats 4000000 in
set_option maxRecDepth 100000 in
theorem vX6_readNumber_25 {p : Program} {l : Launch} {e : Env} {s : State} {m : MethodId} {args : Array Value} {below : List Frame} {meth : Method} {c : Code} {Y : zz_Y}  {Q : Int32 → zz_T → Prop} (X : zz_X p m c cX6_readNumber 4 s args RX6) (hr : meth.sig.returnType = (some .int)) (hlk : meth.locks = false) (hJ : zz_J Y) (hY : zz_mo Y)  : ∀ (x1 : Int32) (x2 : Int32) (σ : zz_T), pX6_readNumber_25  Q x1 x2 σ → zz_V p l e rmX6_readNumber s m args below meth c (MQ below (va_Qi Q (zz_E Y) (zz_A Y)) args s 0 0 (zz_A Y)) 4 Y σ 25 [(0, .ref (Y.2.1 0)), (1, .int x1), (2, .int x2)] [] := by
  intro x1 x2 σ h 
  unfold pX6_readNumber_25 at h
  refine zv_aload_n X dX6_readNumber_25 0 rfl rfl rfl ?_
  refine zg_X6_11 (k := 0) X (zz_mo_o hY).1 (zz_mo_o hY).2 fl_X6_75 dX6_readNumber_26 rfl ?_
  refine zv_if_ne (tgt := 49) X dX6_readNumber_29 (by decide) rfl (fun q29 => ?_) (fun q29 => ?_)
  · replace h := h.2 q29
    refine zv_sub (lv2 := [(0, .ref (Y.2.1 0))]) [0] rfl ?_
    exact vX6_readNumber_49 X hr hlk hJ hY _ h
  · replace h := h.1 q29
    refine zv_aload_n X dX6_readNumber_32 0 rfl rfl rfl ?_
    refine zv_aload_n X dX6_readNumber_33 0 rfl rfl rfl ?_
    refine zg_X6_10 (k := 0) X (zz_mo_o hY).1 (zz_mo_o hY).2 fl_X6_110 dX6_readNumber_34 rfl ?_
    refine zv_i2l X dX6_readNumber_37 rfl ?_
    refine zv_iload_n X dX6_readNumber_38 1 rfl rfl rfl ?_
    refine zv_i2l X dX6_readNumber_39 rfl ?_
    refine zv_iload_n X dX6_readNumber_40 2 rfl rfl rfl ?_
    refine zv_i2l X dX6_readNumber_41 rfl ?_
    refine zv_cSi X [.long (Int32.toInt64 (σ.1 0 10)), .long (Int32.toInt64 x1), .long (Int32.toInt64 x2)] (kX6_in l hJ (Int32.toInt64 (σ.1 0 10)) (Int32.toInt64 x1) (Int32.toInt64 x2)  h) jl_X6_67 ⟨rfl, rfl⟩ ⟨Nat.le_of_ble_eq_true rfl, Nat.le_of_ble_eq_true rfl⟩ rfl rfl (Nat.le_of_ble_eq_true rfl) dX6_readNumber_42 rfl (fun r42 s42 h => ?_)
    refine zv_iconst (v := 3) X dX6_readNumber_45 (by decide) rfl ?_
    refine zv_cVv (k := 0) (ci := 6) X [.int r42, .int 3] (kX6_requires l hJ r42 3 hY h) jl_X6_113 ⟨rfl, rfl⟩ ⟨Nat.le_of_ble_eq_true rfl, Nat.le_of_ble_eq_true rfl⟩ (zz_mo_o hY).1 (by decide) (zz_mo_o hY).2 rfl rfl rfl (Nat.le_of_ble_eq_true rfl) dX6_readNumber_46 rfl (fun s46 h => ?_)
    refine zv_sub (lv2 := [(0, .ref (Y.2.1 0))]) [0] rfl ?_
    exact vX6_readNumber_49 X hr hlk hJ hY _ h
def pX6_readNumber_21  (Q : Int32 → zz_T → Prop) (x1 : Int32) (x2 : Int32) (t1 : Int32) (σ : zz_T) : Prop :=
    pX6_requires t1 2 σ (fun s22 =>
    pX6_readNumber_25  Q x1 x2 s22)
set_option maxHeartbeats 4000000 in
set_option maxRecDepth 100000 in
theorem vX6_readNumber_21 {p : Program} {l : Launch} {e : Env} {s : State} {m : MethodId} {args : Array Value} {below : List Frame} {meth : Method} {c : Code} {Y : zz_Y}  {Q : Int32 → zz_T → Prop} (X : zz_X p m c cX6_readNumber 4 s args RX6) (hr : meth.sig.returnType = (some .int)) (hlk : meth.locks = false) (hJ : zz_J Y) (hY : zz_mo Y)  : ∀ (x1 : Int32) (x2 : Int32) (t1 : Int32) (σ : zz_T), pX6_readNumber_21  Q x1 x2 t1 σ → zz_V p l e rmX6_readNumber s m args below meth c (MQ below (va_Qi Q (zz_E Y) (zz_A Y)) args s 0 0 (zz_A Y)) 4 Y σ 21 [(0, .ref (Y.2.1 0)), (1, .int x1), (2, .int x2)] [.int t1, .ref (Y.2.1 0)] := by
  intro x1 x2 t1 σ h 
  unfold pX6_readNumber_21 at h
  refine zv_iconst (v := 2) X dX6_readNumber_21 (by decide) rfl ?_
  refine zv_cVv (k := 0) (ci := 6) X [.int t1, .int 2] (kX6_requires l hJ t1 2 hY h) jl_X6_113 ⟨rfl, rfl⟩ ⟨Nat.le_of_ble_eq_true rfl, Nat.le_of_ble_eq_true rfl⟩ (zz_mo_o hY).1 (by decide) (zz_mo_o hY).2 rfl rfl rfl (Nat.le_of_ble_eq_true rfl) dX6_readNumber_22 rfl (fun s22 h => ?_)
  exact vX6_readNumber_25 X hr hlk hJ hY x1 x2 _ h
def pX6_readNumber (x1 : Int32) (x2 : Int32) (σ : zz_T) (Q : Int32 → zz_T → Prop) : Prop :=
    (((σ.1 0 11) = 0 → (((σ.1 0 9) = 2 → pX6_readNumber_21  Q x1 x2 1 σ) ∧
    (¬ (σ.1 0 9) = 2 → pX6_readNumber_21  Q x1 x2 0 σ))) ∧
    (¬ (σ.1 0 11) = 0 → pX6_readNumber_25  Q x1 x2 σ))
set_option maxHeartbeats 4000000 in
set_option maxRecDepth 100000 in
theorem kX6_readNumber (l : Launch) {Y : zz_Y} (hJ : zz_J Y) (x1 : Int32) (x2 : Int32) (hY : zz_mo Y) {σ : zz_T} {Q : Int32 → zz_T → Prop} (h : pX6_readNumber x1 x2 σ Q) : zz_Mi l yX6_readNumber cX6_readNumber 4 (some .int) rmX6_readNumber Y [.ref (Y.2.1 0), .int x1, .int x2] σ Q := by
  refine zz_Mi.start (by decide) hJ (Nat.le_of_ble_eq_true rfl) (fun p e s m below meth c X hr hlk => ?_)
  have X : zz_X p m c cX6_readNumber 4 s _ RX6 := X
  refine zv_sub (lv2 := [(0, .ref (Y.2.1 0)), (1, .int x1), (2, .int x2)]) [0, 1, 2] rfl ?_
  unfold pX6_readNumber at h
  refine zv_aload_n X dX6_readNumber_0 0 rfl rfl rfl ?_
  refine zg_X6_11 (k := 0) X (zz_mo_o hY).1 (zz_mo_o hY).2 fl_X6_75 dX6_readNumber_1 rfl ?_
  refine zv_if_ne (tgt := 25) X dX6_readNumber_4 (by decide) rfl (fun q4 => ?_) (fun q4 => ?_)
  · replace h := h.2 q4
    exact vX6_readNumber_25 X hr hlk hJ hY x1 x2 _ h
  · replace h := h.1 q4
    refine zv_aload_n X dX6_readNumber_7 0 rfl rfl rfl ?_
    refine zv_aload_n X dX6_readNumber_8 0 rfl rfl rfl ?_
    refine zg_X6_9 (k := 0) X (zz_mo_o hY).1 (zz_mo_o hY).2 fl_X6_99 dX6_readNumber_9 rfl ?_
    refine zv_iconst (v := 2) X dX6_readNumber_12 (by decide) rfl ?_
    refine zv_icmp_ne (tgt := 20) X dX6_readNumber_13 (by decide) rfl (fun q13 => ?_) (fun q13 => ?_)
    · replace h := h.2 q13
      refine zv_iconst (v := 0) X dX6_readNumber_20 (by decide) rfl ?_
      exact vX6_readNumber_21 X hr hlk hJ hY x1 x2 0 _ h
    · replace h := h.1 q13
      refine zv_iconst (v := 1) X dX6_readNumber_16 (by decide) rfl ?_
      refine zv_goto (tgt := 21) X dX6_readNumber_17 (by decide) ?_
      exact vX6_readNumber_21 X hr hlk hJ hY x1 x2 1 _ h
def rmX6_readLines : Room := { frames := 3, cells := 0, slots := 0, locals := 69 }
def pX6_readLines_56  (Q : zz_T → Prop) (K23 : zz_T → Prop) (t1 : Int32) (σ : zz_T) : Prop :=
    pX6_requires t1 5 σ (fun s57 =>
    (((s57.1 0 11) = 0 → vp_in 49 70 ∧
    pX6_readNumber 0 255 s57 (fun r86 s86 =>
    vp_in (37 + (s57.1 4 (Int32.toNatClampNeg 49))) 70 ∧
    vp_in 49 70 ∧
    vp_in 49 70 ∧
    K23 (zz_i (zz_i s86 4 (Int32.toNatClampNeg (37 + (s57.1 4 (Int32.toNatClampNeg 49)))) r86) 4 (Int32.toNatClampNeg 49) (((zz_i s86 4 (Int32.toNatClampNeg (37 + (s57.1 4 (Int32.toNatClampNeg 49)))) r86).1 4 (Int32.toNatClampNeg 49)) + 1)))) ∧
    (¬ (s57.1 0 11) = 0 → K23 s57)))
set_option maxHeartbeats 4000000 in
set_option maxRecDepth 100000 in
theorem vX6_readLines_56 {p : Program} {l : Launch} {e : Env} {s : State} {m : MethodId} {args : Array Value} {below : List Frame} {meth : Method} {c : Code} {Y : zz_Y}  {Q : zz_T → Prop} {K23 : zz_T → Prop} (X : zz_X p m c cX6_readLines 1 s args RX6) (hr : meth.sig.returnType = none) (hlk : meth.locks = false) (hJ : zz_J Y) (hY : zz_mo Y) (hK23 : ∀ (σ : zz_T), K23 σ → zz_V p l e rmX6_readLines s m args below meth c (MQ below (va_Qv Q (zz_E Y) (zz_A Y)) args s 0 0 (zz_A Y)) 1 Y σ 23 [(0, .ref (Y.2.1 0))] []) : ∀ (t1 : Int32) (σ : zz_T), pX6_readLines_56  Q K23 t1 σ → zz_V p l e rmX6_readLines s m args below meth c (MQ below (va_Qv Q (zz_E Y) (zz_A Y)) args s 0 0 (zz_A Y)) 1 Y σ 56 [(0, .ref (Y.2.1 0))] [.int t1, .ref (Y.2.1 0)] := by
  intro t1 σ h 
  unfold pX6_readLines_56 at h
  refine zv_iconst (v := 5) X dX6_readLines_56 (by decide) rfl ?_
  refine zv_cVv (k := 0) (ci := 6) X [.int t1, .int 5] (kX6_requires l hJ t1 5 hY h) jl_X6_113 ⟨rfl, rfl⟩ ⟨Nat.le_of_ble_eq_true rfl, Nat.le_of_ble_eq_true rfl⟩ (zz_mo_o hY).1 (by decide) (zz_mo_o hY).2 rfl rfl rfl (Nat.le_of_ble_eq_true rfl) dX6_readLines_57 rfl (fun s57 h => ?_)
  refine zv_aload_n X dX6_readLines_60 0 rfl rfl rfl ?_
  refine zg_X6_11 (k := 0) X (zz_mo_o hY).1 (zz_mo_o hY).2 fl_X6_75 dX6_readLines_61 rfl ?_
  refine zv_if_ne (tgt := 23) X dX6_readLines_64 (by decide) rfl (fun q64 => ?_) (fun q64 => ?_)
  · replace h := h.2 q64
    exact hK23 _ h
  · replace h := h.1 q64
    refine zv_aload_n X dX6_readLines_67 0 rfl rfl rfl ?_
    refine zg_X6_3 (k := 0) X (zz_mo_o hY).1 (zz_mo_o hY).2 fl_X6_20 dX6_readLines_68 rfl ?_
    refine zv_bipush (v := 37) X dX6_readLines_71 (by decide) rfl ?_
    refine zv_aload_n X dX6_readLines_73 0 rfl rfl rfl ?_
    refine zg_X6_3 (k := 0) X (zz_mo_o hY).1 (zz_mo_o hY).2 fl_X6_20 dX6_readLines_74 rfl ?_
    refine zv_bipush (v := 49) X dX6_readLines_77 (by decide) rfl ?_
    obtain ⟨hi79, h⟩ := h
    refine zv_iald (k := 4) X (zz_mo_draft hY).1 (zz_mo_draft hY).2 hi79 dX6_readLines_79 rfl ?_
    refine zv_iadd X dX6_readLines_80 rfl ?_
    refine zv_aload_n X dX6_readLines_81 0 rfl rfl rfl ?_
    refine zv_iconst (v := 0) X dX6_readLines_82 (by decide) rfl ?_
    refine zv_sipush (v := 255) X dX6_readLines_83 (by decide) rfl ?_
    refine zv_cVi (k := 0) (ci := 6) X [.int 0, .int 255] (kX6_readNumber l hJ 0 255 hY h) jl_X6_120 ⟨rfl, rfl⟩ ⟨Nat.le_of_ble_eq_true rfl, Nat.le_of_ble_eq_true rfl⟩ (zz_mo_o hY).1 (by decide) (zz_mo_o hY).2 rfl rfl rfl (Nat.le_of_ble_eq_true rfl) dX6_readLines_86 rfl (fun r86 s86 h => ?_)
    obtain ⟨hi89, h⟩ := h
    refine zv_iast (k := 4) X (zz_mo_draft hY).1 (zz_mo_draft hY).2 hi89 dX6_readLines_89 rfl ?_
    refine zv_aload_n X dX6_readLines_90 0 rfl rfl rfl ?_
    refine zg_X6_3 (k := 0) X (zz_mo_o hY).1 (zz_mo_o hY).2 fl_X6_20 dX6_readLines_91 rfl ?_
    refine zv_bipush (v := 49) X dX6_readLines_94 (by decide) rfl ?_
    refine zv_dup2_11 X dX6_readLines_96 rfl rfl rfl ?_
    obtain ⟨hi97, h⟩ := h
    refine zv_iald (k := 4) X (zz_mo_draft hY).1 (zz_mo_draft hY).2 hi97 dX6_readLines_97 rfl ?_
    refine zv_iconst (v := 1) X dX6_readLines_98 (by decide) rfl ?_
    refine zv_iadd X dX6_readLines_99 rfl ?_
    obtain ⟨hi100, h⟩ := h
    refine zv_iast (k := 4) X (zz_mo_draft hY).1 (zz_mo_draft hY).2 hi100 dX6_readLines_100 rfl ?_
    refine zv_goto (tgt := 23) X dX6_readLines_101 (by decide) ?_
    exact hK23 _ h
def pX6_readLines_23  (Q : zz_T → Prop) : Nat → zz_T → Prop
  | 0, _ => False
  | n + 1, σ =>
    (((σ.1 0 11) = 0 → (((σ.1 0 9) = 2 → vp_in 49 70 ∧
    ((12 ≤ (σ.1 4 (Int32.toNatClampNeg 49)) → pX6_readLines_56  Q (pX6_readLines_23  Q n) 0 σ) ∧
    (¬ 12 ≤ (σ.1 4 (Int32.toNatClampNeg 49)) → pX6_readLines_56  Q (pX6_readLines_23  Q n) 1 σ))) ∧
    (¬ (σ.1 0 9) = 2 → Q σ))) ∧
    (¬ (σ.1 0 11) = 0 → Q σ))
set_option maxHeartbeats 4000000 in
set_option maxRecDepth 100000 in
theorem vX6_readLines_23 {p : Program} {l : Launch} {e : Env} {s : State} {m : MethodId} {args : Array Value} {below : List Frame} {meth : Method} {c : Code} {Y : zz_Y}  {Q : zz_T → Prop} (X : zz_X p m c cX6_readLines 1 s args RX6) (hr : meth.sig.returnType = none) (hlk : meth.locks = false) (hJ : zz_J Y) (hY : zz_mo Y)  : ∀ (n : Nat) (σ : zz_T), pX6_readLines_23  Q n σ → zz_V p l e rmX6_readLines s m args below meth c (MQ below (va_Qv Q (zz_E Y) (zz_A Y)) args s 0 0 (zz_A Y)) 1 Y σ 23 [(0, .ref (Y.2.1 0))] [] := by
  intro n
  induction n with
  | zero => intro σ h; exact h.elim
  | succ n ih =>
    intro σ h 
    unfold pX6_readLines_23 at h
    refine zv_aload_n X dX6_readLines_23 0 rfl rfl rfl ?_
    refine zg_X6_11 (k := 0) X (zz_mo_o hY).1 (zz_mo_o hY).2 fl_X6_75 dX6_readLines_24 rfl ?_
    refine zv_if_ne (tgt := 104) X dX6_readLines_27 (by decide) rfl (fun q27 => ?_) (fun q27 => ?_)
    · replace h := h.2 q27
      exact zv_vret X hr hlk h dX6_readLines_104
    · replace h := h.1 q27
      refine zv_aload_n X dX6_readLines_30 0 rfl rfl rfl ?_
      refine zg_X6_9 (k := 0) X (zz_mo_o hY).1 (zz_mo_o hY).2 fl_X6_99 dX6_readLines_31 rfl ?_
      refine zv_iconst (v := 2) X dX6_readLines_34 (by decide) rfl ?_
      refine zv_icmp_ne (tgt := 104) X dX6_readLines_35 (by decide) rfl (fun q35 => ?_) (fun q35 => ?_)
      · replace h := h.2 q35
        exact zv_vret X hr hlk h dX6_readLines_104
      · replace h := h.1 q35
        refine zv_aload_n X dX6_readLines_38 0 rfl rfl rfl ?_
        refine zv_aload_n X dX6_readLines_39 0 rfl rfl rfl ?_
        refine zg_X6_3 (k := 0) X (zz_mo_o hY).1 (zz_mo_o hY).2 fl_X6_20 dX6_readLines_40 rfl ?_
        refine zv_bipush (v := 49) X dX6_readLines_43 (by decide) rfl ?_
        obtain ⟨hi45, h⟩ := h
        refine zv_iald (k := 4) X (zz_mo_draft hY).1 (zz_mo_draft hY).2 hi45 dX6_readLines_45 rfl ?_
        refine zv_bipush (v := 12) X dX6_readLines_46 (by decide) rfl ?_
        refine zv_icmp_ge (tgt := 55) X dX6_readLines_48 (by decide) rfl (fun q48 => ?_) (fun q48 => ?_)
        · replace h := h.1 q48
          refine zv_iconst (v := 0) X dX6_readLines_55 (by decide) rfl ?_
          exact vX6_readLines_56 X hr hlk hJ hY ih 0 _ h
        · replace h := h.2 q48
          refine zv_iconst (v := 1) X dX6_readLines_51 (by decide) rfl ?_
          refine zv_goto (tgt := 56) X dX6_readLines_52 (by decide) ?_
          exact vX6_readLines_56 X hr hlk hJ hY ih 1 _ h
def pX6_readLines  (σ : zz_T) (Q : zz_T → Prop) : Prop :=
    pX6_readNumber 0 255 σ (fun r11 s11 =>
    vp_in 37 70 ∧
    vp_in 49 70 ∧
    ∃ n23, pX6_readLines_23  Q n23 (zz_i (zz_i s11 4 (Int32.toNatClampNeg 37) r11) 4 (Int32.toNatClampNeg 49) 1))
set_option maxHeartbeats 4000000 in
set_option maxRecDepth 100000 in
theorem kX6_readLines (l : Launch) {Y : zz_Y} (hJ : zz_J Y)  (hY : zz_mo Y) {σ : zz_T} {Q : zz_T → Prop} (h : pX6_readLines  σ Q) : zz_Mv l yX6_readLines cX6_readLines 1 none rmX6_readLines Y [.ref (Y.2.1 0)] σ Q := by
  refine zz_Mv.start (by decide) hJ (Nat.le_of_ble_eq_true rfl) (fun p e s m below meth c X hr hlk => ?_)
  have X : zz_X p m c cX6_readLines 1 s _ RX6 := X
  refine zv_sub (lv2 := [(0, .ref (Y.2.1 0))]) [0] rfl ?_
  unfold pX6_readLines at h
  refine zv_aload_n X dX6_readLines_0 0 rfl rfl rfl ?_
  refine zg_X6_3 (k := 0) X (zz_mo_o hY).1 (zz_mo_o hY).2 fl_X6_20 dX6_readLines_1 rfl ?_
  refine zv_bipush (v := 37) X dX6_readLines_4 (by decide) rfl ?_
  refine zv_aload_n X dX6_readLines_6 0 rfl rfl rfl ?_
  refine zv_iconst (v := 0) X dX6_readLines_7 (by decide) rfl ?_
  refine zv_sipush (v := 255) X dX6_readLines_8 (by decide) rfl ?_
  refine zv_cVi (k := 0) (ci := 6) X [.int 0, .int 255] (kX6_readNumber l hJ 0 255 hY h) jl_X6_120 ⟨rfl, rfl⟩ ⟨Nat.le_of_ble_eq_true rfl, Nat.le_of_ble_eq_true rfl⟩ (zz_mo_o hY).1 (by decide) (zz_mo_o hY).2 rfl rfl rfl (Nat.le_of_ble_eq_true rfl) dX6_readLines_11 rfl (fun r11 s11 h => ?_)
  obtain ⟨hi14, h⟩ := h
  refine zv_iast (k := 4) X (zz_mo_draft hY).1 (zz_mo_draft hY).2 hi14 dX6_readLines_14 rfl ?_
  refine zv_aload_n X dX6_readLines_15 0 rfl rfl rfl ?_
  refine zg_X6_3 (k := 0) X (zz_mo_o hY).1 (zz_mo_o hY).2 fl_X6_20 dX6_readLines_16 rfl ?_
  refine zv_bipush (v := 49) X dX6_readLines_19 (by decide) rfl ?_
  refine zv_iconst (v := 1) X dX6_readLines_21 (by decide) rfl ?_
  obtain ⟨hi22, h⟩ := h
  refine zv_iast (k := 4) X (zz_mo_draft hY).1 (zz_mo_draft hY).2 hi22 dX6_readLines_22 rfl ?_
  obtain ⟨n23, h⟩ := h
  exact vX6_readLines_23 X hr hlk hJ hY n23 _ h
def rmX6_mostOf : Room := { frames := 0, cells := 0, slots := 0, locals := 0 }
def pX6_mostOf (x0 : Int32) (σ : zz_T) (Q : Int32 → zz_T → Prop) : Prop :=
    ((x0 = 0 → Q 60 σ) ∧
    (¬ x0 = 0 → ((x0 = 1 → Q 9 σ) ∧
    (¬ x0 = 1 → Q 3 σ))))
set_option maxHeartbeats 4000000 in
set_option maxRecDepth 100000 in
theorem kX6_mostOf (l : Launch) {Y : zz_Y} (hJ : zz_J Y) (x0 : Int32)  {σ : zz_T} {Q : Int32 → zz_T → Prop} (h : pX6_mostOf x0 σ Q) : zz_Mi l yX6_mostOf cX6_mostOf 1 (some .int) rmX6_mostOf Y [.int x0] σ Q := by
  refine zz_Mi.start (by decide) hJ (Nat.le_of_ble_eq_true rfl) (fun p e s m below meth c X hr hlk => ?_)
  have X : zz_X p m c cX6_mostOf 1 s _ RX6 := X
  refine zv_sub (lv2 := [(0, .int x0)]) [0] rfl ?_
  unfold pX6_mostOf at h
  refine zv_iload_n X dX6_mostOf_0 0 rfl rfl rfl ?_
  refine zv_if_ne (tgt := 9) X dX6_mostOf_1 (by decide) rfl (fun q1 => ?_) (fun q1 => ?_)
  · replace h := h.2 q1
    refine zv_iload_n X dX6_mostOf_9 0 rfl rfl rfl ?_
    refine zv_iconst (v := 1) X dX6_mostOf_10 (by decide) rfl ?_
    refine zv_icmp_ne (tgt := 19) X dX6_mostOf_11 (by decide) rfl (fun q11 => ?_) (fun q11 => ?_)
    · replace h := h.2 q11
      refine zv_iconst (v := 3) X dX6_mostOf_19 (by decide) rfl ?_
      exact zv_iret X hr hlk h dX6_mostOf_20
    · replace h := h.1 q11
      refine zv_bipush (v := 9) X dX6_mostOf_14 (by decide) rfl ?_
      refine zv_goto (tgt := 20) X dX6_mostOf_16 (by decide) ?_
      exact zv_iret X hr hlk h dX6_mostOf_20
  · replace h := h.1 q1
    refine zv_bipush (v := 60) X dX6_mostOf_4 (by decide) rfl ?_
    refine zv_goto (tgt := 20) X dX6_mostOf_6 (by decide) ?_
    exact zv_iret X hr hlk h dX6_mostOf_20
def rmX6_lowOf : Room := { frames := 0, cells := 0, slots := 0, locals := 0 }
def pX6_lowOf (x0 : Int32) (σ : zz_T) (Q : Int32 → zz_T → Prop) : Prop :=
    ((x0 = 0 → Q 1 σ) ∧
    (¬ x0 = 0 → Q 0 σ))
set_option maxHeartbeats 4000000 in
set_option maxRecDepth 100000 in
theorem kX6_lowOf (l : Launch) {Y : zz_Y} (hJ : zz_J Y) (x0 : Int32)  {σ : zz_T} {Q : Int32 → zz_T → Prop} (h : pX6_lowOf x0 σ Q) : zz_Mi l yX6_lowOf cX6_lowOf 1 (some .int) rmX6_lowOf Y [.int x0] σ Q := by
  refine zz_Mi.start (by decide) hJ (Nat.le_of_ble_eq_true rfl) (fun p e s m below meth c X hr hlk => ?_)
  have X : zz_X p m c cX6_lowOf 1 s _ RX6 := X
  refine zv_sub (lv2 := [(0, .int x0)]) [0] rfl ?_
  unfold pX6_lowOf at h
  refine zv_iload_n X dX6_lowOf_0 0 rfl rfl rfl ?_
  refine zv_if_ne (tgt := 8) X dX6_lowOf_1 (by decide) rfl (fun q1 => ?_) (fun q1 => ?_)
  · replace h := h.2 q1
    refine zv_iconst (v := 0) X dX6_lowOf_8 (by decide) rfl ?_
    exact zv_iret X hr hlk h dX6_lowOf_9
  · replace h := h.1 q1
    refine zv_iconst (v := 1) X dX6_lowOf_4 (by decide) rfl ?_
    refine zv_goto (tgt := 9) X dX6_lowOf_5 (by decide) ?_
    exact zv_iret X hr hlk h dX6_lowOf_9
def rmX6_readLineOf : Room := { frames := 4, cells := 0, slots := 0, locals := 89 }
def pX6_readLineOf (x1 : Int32) (σ : zz_T) (Q : zz_T → Prop) : Prop :=
    ((x1 = 7 → pX6_readLines σ (fun s7 =>
    Q s7)) ∧
    (¬ x1 = 7 → ((x1 < 4 → vp_in 33 70 ∧
    vp_in ((11 * (σ.1 4 (Int32.toNatClampNeg 33))) + 0) 70 ∧
    vp_in 33 70 ∧
    pX6_readNumber 0 30 (zz_i σ 4 (Int32.toNatClampNeg ((11 * (σ.1 4 (Int32.toNatClampNeg 33))) + 0)) x1) (fun r86 s86 =>
    vp_in ((11 * ((zz_i σ 4 (Int32.toNatClampNeg ((11 * (σ.1 4 (Int32.toNatClampNeg 33))) + 0)) x1).1 4 (Int32.toNatClampNeg 33))) + 1) 70 ∧
    vp_in 33 70 ∧
    vp_in 33 70 ∧
    Q (zz_i (zz_i s86 4 (Int32.toNatClampNeg ((11 * ((zz_i σ 4 (Int32.toNatClampNeg ((11 * (σ.1 4 (Int32.toNatClampNeg 33))) + 0)) x1).1 4 (Int32.toNatClampNeg 33))) + 1)) r86) 4 (Int32.toNatClampNeg 33) (((zz_i s86 4 (Int32.toNatClampNeg ((11 * ((zz_i σ 4 (Int32.toNatClampNeg ((11 * (σ.1 4 (Int32.toNatClampNeg 33))) + 0)) x1).1 4 (Int32.toNatClampNeg 33))) + 1)) r86).1 4 (Int32.toNatClampNeg 33)) + 1)))) ∧
    (¬ x1 < 4 → pX6_lowOf (x1 - 4) σ (fun r32 s32 =>
    pX6_mostOf (x1 - 4) s32 (fun r38 s38 =>
    pX6_readNumber r32 r38 s38 (fun r41 s41 =>
    vp_in ((34 + x1) - 4) 70 ∧
    Q (zz_i s41 4 (Int32.toNatClampNeg ((34 + x1) - 4)) r41))))))))
set_option maxHeartbeats 4000000 in
set_option maxRecDepth 100000 in
theorem kX6_readLineOf (l : Launch) {Y : zz_Y} (hJ : zz_J Y) (x1 : Int32) (hY : zz_mo Y) {σ : zz_T} {Q : zz_T → Prop} (h : pX6_readLineOf x1 σ Q) : zz_Mv l yX6_readLineOf cX6_readLineOf 2 none rmX6_readLineOf Y [.ref (Y.2.1 0), .int x1] σ Q := by
  refine zz_Mv.start (by decide) hJ (Nat.le_of_ble_eq_true rfl) (fun p e s m below meth c X hr hlk => ?_)
  have X : zz_X p m c cX6_readLineOf 2 s _ RX6 := X
  refine zv_sub (lv2 := [(0, .ref (Y.2.1 0)), (1, .int x1)]) [0, 1] rfl ?_
  unfold pX6_readLineOf at h
  refine zv_iload_n X dX6_readLineOf_0 1 rfl rfl rfl ?_
  refine zv_bipush (v := 7) X dX6_readLineOf_1 (by decide) rfl ?_
  refine zv_icmp_ne (tgt := 13) X dX6_readLineOf_3 (by decide) rfl (fun q3 => ?_) (fun q3 => ?_)
  · replace h := h.2 q3
    refine zv_iload_n X dX6_readLineOf_13 1 rfl rfl rfl ?_
    refine zv_iconst (v := 4) X dX6_readLineOf_14 (by decide) rfl ?_
    refine zv_icmp_lt (tgt := 48) X dX6_readLineOf_15 (by decide) rfl (fun q15 => ?_) (fun q15 => ?_)
    · replace h := h.1 q15
      refine zv_aload_n X dX6_readLineOf_48 0 rfl rfl rfl ?_
      refine zg_X6_3 (k := 0) X (zz_mo_o hY).1 (zz_mo_o hY).2 fl_X6_20 dX6_readLineOf_49 rfl ?_
      refine zv_bipush (v := 11) X dX6_readLineOf_52 (by decide) rfl ?_
      refine zv_aload_n X dX6_readLineOf_54 0 rfl rfl rfl ?_
      refine zg_X6_3 (k := 0) X (zz_mo_o hY).1 (zz_mo_o hY).2 fl_X6_20 dX6_readLineOf_55 rfl ?_
      refine zv_bipush (v := 33) X dX6_readLineOf_58 (by decide) rfl ?_
      obtain ⟨hi60, h⟩ := h
      refine zv_iald (k := 4) X (zz_mo_draft hY).1 (zz_mo_draft hY).2 hi60 dX6_readLineOf_60 rfl ?_
      refine zv_imul X dX6_readLineOf_61 rfl ?_
      refine zv_iconst (v := 0) X dX6_readLineOf_62 (by decide) rfl ?_
      refine zv_iadd X dX6_readLineOf_63 rfl ?_
      refine zv_iload_n X dX6_readLineOf_64 1 rfl rfl rfl ?_
      obtain ⟨hi65, h⟩ := h
      refine zv_iast (k := 4) X (zz_mo_draft hY).1 (zz_mo_draft hY).2 hi65 dX6_readLineOf_65 rfl ?_
      refine zv_aload_n X dX6_readLineOf_66 0 rfl rfl rfl ?_
      refine zg_X6_3 (k := 0) X (zz_mo_o hY).1 (zz_mo_o hY).2 fl_X6_20 dX6_readLineOf_67 rfl ?_
      refine zv_bipush (v := 11) X dX6_readLineOf_70 (by decide) rfl ?_
      refine zv_aload_n X dX6_readLineOf_72 0 rfl rfl rfl ?_
      refine zg_X6_3 (k := 0) X (zz_mo_o hY).1 (zz_mo_o hY).2 fl_X6_20 dX6_readLineOf_73 rfl ?_
      refine zv_bipush (v := 33) X dX6_readLineOf_76 (by decide) rfl ?_
      obtain ⟨hi78, h⟩ := h
      refine zv_iald (k := 4) X (zz_mo_draft hY).1 (zz_mo_draft hY).2 hi78 dX6_readLineOf_78 rfl ?_
      refine zv_imul X dX6_readLineOf_79 rfl ?_
      refine zv_iconst (v := 1) X dX6_readLineOf_80 (by decide) rfl ?_
      refine zv_iadd X dX6_readLineOf_81 rfl ?_
      refine zv_aload_n X dX6_readLineOf_82 0 rfl rfl rfl ?_
      refine zv_iconst (v := 0) X dX6_readLineOf_83 (by decide) rfl ?_
      refine zv_bipush (v := 30) X dX6_readLineOf_84 (by decide) rfl ?_
      refine zv_cVi (k := 0) (ci := 6) X [.int 0, .int 30] (kX6_readNumber l hJ 0 30 hY h) jl_X6_120 ⟨rfl, rfl⟩ ⟨Nat.le_of_ble_eq_true rfl, Nat.le_of_ble_eq_true rfl⟩ (zz_mo_o hY).1 (by decide) (zz_mo_o hY).2 rfl rfl rfl (Nat.le_of_ble_eq_true rfl) dX6_readLineOf_86 rfl (fun r86 s86 h => ?_)
      obtain ⟨hi89, h⟩ := h
      refine zv_iast (k := 4) X (zz_mo_draft hY).1 (zz_mo_draft hY).2 hi89 dX6_readLineOf_89 rfl ?_
      refine zv_aload_n X dX6_readLineOf_90 0 rfl rfl rfl ?_
      refine zg_X6_3 (k := 0) X (zz_mo_o hY).1 (zz_mo_o hY).2 fl_X6_20 dX6_readLineOf_91 rfl ?_
      refine zv_bipush (v := 33) X dX6_readLineOf_94 (by decide) rfl ?_
      refine zv_dup2_11 X dX6_readLineOf_96 rfl rfl rfl ?_
      obtain ⟨hi97, h⟩ := h
      refine zv_iald (k := 4) X (zz_mo_draft hY).1 (zz_mo_draft hY).2 hi97 dX6_readLineOf_97 rfl ?_
      refine zv_iconst (v := 1) X dX6_readLineOf_98 (by decide) rfl ?_
      refine zv_iadd X dX6_readLineOf_99 rfl ?_
      obtain ⟨hi100, h⟩ := h
      refine zv_iast (k := 4) X (zz_mo_draft hY).1 (zz_mo_draft hY).2 hi100 dX6_readLineOf_100 rfl ?_
      exact zv_vret X hr hlk h dX6_readLineOf_101
    · replace h := h.2 q15
      refine zv_aload_n X dX6_readLineOf_18 0 rfl rfl rfl ?_
      refine zg_X6_3 (k := 0) X (zz_mo_o hY).1 (zz_mo_o hY).2 fl_X6_20 dX6_readLineOf_19 rfl ?_
      refine zv_bipush (v := 34) X dX6_readLineOf_22 (by decide) rfl ?_
      refine zv_iload_n X dX6_readLineOf_24 1 rfl rfl rfl ?_
      refine zv_iadd X dX6_readLineOf_25 rfl ?_
      refine zv_iconst (v := 4) X dX6_readLineOf_26 (by decide) rfl ?_
      refine zv_isub X dX6_readLineOf_27 rfl ?_
      refine zv_aload_n X dX6_readLineOf_28 0 rfl rfl rfl ?_
      refine zv_iload_n X dX6_readLineOf_29 1 rfl rfl rfl ?_
      refine zv_iconst (v := 4) X dX6_readLineOf_30 (by decide) rfl ?_
      refine zv_isub X dX6_readLineOf_31 rfl ?_
      refine zv_cSi X [.int (x1 - 4)] (kX6_lowOf l hJ (x1 - 4)  h) jl_X6_127 ⟨rfl, rfl⟩ ⟨Nat.le_of_ble_eq_true rfl, Nat.le_of_ble_eq_true rfl⟩ rfl rfl (Nat.le_of_ble_eq_true rfl) dX6_readLineOf_32 rfl (fun r32 s32 h => ?_)
      refine zv_iload_n X dX6_readLineOf_35 1 rfl rfl rfl ?_
      refine zv_iconst (v := 4) X dX6_readLineOf_36 (by decide) rfl ?_
      refine zv_isub X dX6_readLineOf_37 rfl ?_
      refine zv_cSi X [.int (x1 - 4)] (kX6_mostOf l hJ (x1 - 4)  h) jl_X6_130 ⟨rfl, rfl⟩ ⟨Nat.le_of_ble_eq_true rfl, Nat.le_of_ble_eq_true rfl⟩ rfl rfl (Nat.le_of_ble_eq_true rfl) dX6_readLineOf_38 rfl (fun r38 s38 h => ?_)
      refine zv_cVi (k := 0) (ci := 6) X [.int r32, .int r38] (kX6_readNumber l hJ r32 r38 hY h) jl_X6_120 ⟨rfl, rfl⟩ ⟨Nat.le_of_ble_eq_true rfl, Nat.le_of_ble_eq_true rfl⟩ (zz_mo_o hY).1 (by decide) (zz_mo_o hY).2 rfl rfl rfl (Nat.le_of_ble_eq_true rfl) dX6_readLineOf_41 rfl (fun r41 s41 h => ?_)
      obtain ⟨hi44, h⟩ := h
      refine zv_iast (k := 4) X (zz_mo_draft hY).1 (zz_mo_draft hY).2 hi44 dX6_readLineOf_44 rfl ?_
      refine zv_goto (tgt := 101) X dX6_readLineOf_45 (by decide) ?_
      exact zv_vret X hr hlk h dX6_readLineOf_101
  · replace h := h.1 q3
    refine zv_aload_n X dX6_readLineOf_6 0 rfl rfl rfl ?_
    refine zv_cVv (k := 0) (ci := 6) X [] (kX6_readLines l hJ  hY h) jl_X6_124 ⟨rfl, rfl⟩ ⟨Nat.le_of_ble_eq_true rfl, Nat.le_of_ble_eq_true rfl⟩ (zz_mo_o hY).1 (by decide) (zz_mo_o hY).2 rfl rfl rfl (Nat.le_of_ble_eq_true rfl) dX6_readLineOf_7 rfl (fun s7 h => ?_)
    refine zv_goto (tgt := 101) X dX6_readLineOf_10 (by decide) ?_
    exact zv_vret X hr hlk h dX6_readLineOf_101
def rmX6_readLine : Room := { frames := 5, cells := 0, slots := 0, locals := 110 }
def pX6_readLine_137  (Q : zz_T → Prop) (σ : zz_T) : Prop :=
    pX6_reads σ (fun s138 =>
    Q s138)
set_option maxHeartbeats 4000000 in
set_option maxRecDepth 100000 in
theorem vX6_readLine_137 {p : Program} {l : Launch} {e : Env} {s : State} {m : MethodId} {args : Array Value} {below : List Frame} {meth : Method} {c : Code} {Y : zz_Y}  {Q : zz_T → Prop} (X : zz_X p m c cX6_readLine 2 s args RX6) (hr : meth.sig.returnType = none) (hlk : meth.locks = false) (hJ : zz_J Y) (hY : zz_mo Y)  : ∀ (σ : zz_T), pX6_readLine_137  Q σ → zz_V p l e rmX6_readLine s m args below meth c (MQ below (va_Qv Q (zz_E Y) (zz_A Y)) args s 0 0 (zz_A Y)) 2 Y σ 137 [(0, .ref (Y.2.1 0))] [] := by
  intro σ h 
  unfold pX6_readLine_137 at h
  refine zv_aload_n X dX6_readLine_137 0 rfl rfl rfl ?_
  refine zv_cVv (k := 0) (ci := 6) X [] (kX6_reads l hJ  hY h) jl_X6_117 ⟨rfl, rfl⟩ ⟨Nat.le_of_ble_eq_true rfl, Nat.le_of_ble_eq_true rfl⟩ (zz_mo_o hY).1 (by decide) (zz_mo_o hY).2 rfl rfl rfl (Nat.le_of_ble_eq_true rfl) dX6_readLine_138 rfl (fun s138 h => ?_)
  exact zv_vret X hr hlk h dX6_readLine_141
def pX6_readLine_133  (Q : zz_T → Prop) (t1 : Int32) (σ : zz_T) : Prop :=
    pX6_requires t1 2 σ (fun s134 =>
    pX6_readLine_137  Q s134)
set_option maxHeartbeats 4000000 in
set_option maxRecDepth 100000 in
theorem vX6_readLine_133 {p : Program} {l : Launch} {e : Env} {s : State} {m : MethodId} {args : Array Value} {below : List Frame} {meth : Method} {c : Code} {Y : zz_Y}  {Q : zz_T → Prop} (X : zz_X p m c cX6_readLine 2 s args RX6) (hr : meth.sig.returnType = none) (hlk : meth.locks = false) (hJ : zz_J Y) (hY : zz_mo Y)  : ∀ (t1 : Int32) (σ : zz_T), pX6_readLine_133  Q t1 σ → zz_V p l e rmX6_readLine s m args below meth c (MQ below (va_Qv Q (zz_E Y) (zz_A Y)) args s 0 0 (zz_A Y)) 2 Y σ 133 [(0, .ref (Y.2.1 0))] [.int t1, .ref (Y.2.1 0)] := by
  intro t1 σ h 
  unfold pX6_readLine_133 at h
  refine zv_iconst (v := 2) X dX6_readLine_133 (by decide) rfl ?_
  refine zv_cVv (k := 0) (ci := 6) X [.int t1, .int 2] (kX6_requires l hJ t1 2 hY h) jl_X6_113 ⟨rfl, rfl⟩ ⟨Nat.le_of_ble_eq_true rfl, Nat.le_of_ble_eq_true rfl⟩ (zz_mo_o hY).1 (by decide) (zz_mo_o hY).2 rfl rfl rfl (Nat.le_of_ble_eq_true rfl) dX6_readLine_134 rfl (fun s134 h => ?_)
  exact vX6_readLine_137 X hr hlk hJ hY _ h
def pX6_readLine_95  (Q : zz_T → Prop) (x1 : Int32) (σ : zz_T) : Prop :=
    pX6_reads σ (fun s96 =>
    (((s96.1 0 11) ≤ 0 → pX6_readLineOf x1 s96 (fun s109 =>
    (((s109.1 0 11) = 0 → (((s109.1 0 9) = 3 → pX6_readLine_133  Q 1 s109) ∧
    (¬ (s109.1 0 9) = 3 → pX6_readLine_133  Q 0 s109))) ∧
    (¬ (s109.1 0 11) = 0 → pX6_readLine_137  Q s109)))) ∧
    (¬ (s96.1 0 11) ≤ 0 → Q s96)))
set_option maxHeartbeats 4000000 in
set_option maxRecDepth 100000 in
theorem vX6_readLine_95 {p : Program} {l : Launch} {e : Env} {s : State} {m : MethodId} {args : Array Value} {below : List Frame} {meth : Method} {c : Code} {Y : zz_Y}  {Q : zz_T → Prop} (X : zz_X p m c cX6_readLine 2 s args RX6) (hr : meth.sig.returnType = none) (hlk : meth.locks = false) (hJ : zz_J Y) (hY : zz_mo Y)  : ∀ (x1 : Int32) (σ : zz_T), pX6_readLine_95  Q x1 σ → zz_V p l e rmX6_readLine s m args below meth c (MQ below (va_Qv Q (zz_E Y) (zz_A Y)) args s 0 0 (zz_A Y)) 2 Y σ 95 [(0, .ref (Y.2.1 0)), (1, .int x1)] [] := by
  intro x1 σ h 
  unfold pX6_readLine_95 at h
  refine zv_aload_n X dX6_readLine_95 0 rfl rfl rfl ?_
  refine zv_cVv (k := 0) (ci := 6) X [] (kX6_reads l hJ  hY h) jl_X6_117 ⟨rfl, rfl⟩ ⟨Nat.le_of_ble_eq_true rfl, Nat.le_of_ble_eq_true rfl⟩ (zz_mo_o hY).1 (by decide) (zz_mo_o hY).2 rfl rfl rfl (Nat.le_of_ble_eq_true rfl) dX6_readLine_96 rfl (fun s96 h => ?_)
  refine zv_aload_n X dX6_readLine_99 0 rfl rfl rfl ?_
  refine zg_X6_11 (k := 0) X (zz_mo_o hY).1 (zz_mo_o hY).2 fl_X6_75 dX6_readLine_100 rfl ?_
  refine zv_if_le (tgt := 107) X dX6_readLine_103 (by decide) rfl (fun q103 => ?_) (fun q103 => ?_)
  · replace h := h.1 q103
    refine zv_aload_n X dX6_readLine_107 0 rfl rfl rfl ?_
    refine zv_iload_n X dX6_readLine_108 1 rfl rfl rfl ?_
    refine zv_cVv (k := 0) (ci := 6) X [.int x1] (kX6_readLineOf l hJ x1 hY h) jl_X6_137 ⟨rfl, rfl⟩ ⟨Nat.le_of_ble_eq_true rfl, Nat.le_of_ble_eq_true rfl⟩ (zz_mo_o hY).1 (by decide) (zz_mo_o hY).2 rfl rfl rfl (Nat.le_of_ble_eq_true rfl) dX6_readLine_109 rfl (fun s109 h => ?_)
    refine zv_aload_n X dX6_readLine_112 0 rfl rfl rfl ?_
    refine zg_X6_11 (k := 0) X (zz_mo_o hY).1 (zz_mo_o hY).2 fl_X6_75 dX6_readLine_113 rfl ?_
    refine zv_if_ne (tgt := 137) X dX6_readLine_116 (by decide) rfl (fun q116 => ?_) (fun q116 => ?_)
    · replace h := h.2 q116
      refine zv_sub (lv2 := [(0, .ref (Y.2.1 0))]) [0] rfl ?_
      exact vX6_readLine_137 X hr hlk hJ hY _ h
    · replace h := h.1 q116
      refine zv_aload_n X dX6_readLine_119 0 rfl rfl rfl ?_
      refine zv_aload_n X dX6_readLine_120 0 rfl rfl rfl ?_
      refine zg_X6_9 (k := 0) X (zz_mo_o hY).1 (zz_mo_o hY).2 fl_X6_99 dX6_readLine_121 rfl ?_
      refine zv_iconst (v := 3) X dX6_readLine_124 (by decide) rfl ?_
      refine zv_icmp_ne (tgt := 132) X dX6_readLine_125 (by decide) rfl (fun q125 => ?_) (fun q125 => ?_)
      · replace h := h.2 q125
        refine zv_iconst (v := 0) X dX6_readLine_132 (by decide) rfl ?_
        refine zv_sub (lv2 := [(0, .ref (Y.2.1 0))]) [0] rfl ?_
        exact vX6_readLine_133 X hr hlk hJ hY 0 _ h
      · replace h := h.1 q125
        refine zv_iconst (v := 1) X dX6_readLine_128 (by decide) rfl ?_
        refine zv_goto (tgt := 133) X dX6_readLine_129 (by decide) ?_
        refine zv_sub (lv2 := [(0, .ref (Y.2.1 0))]) [0] rfl ?_
        exact vX6_readLine_133 X hr hlk hJ hY 1 _ h
  · replace h := h.2 q103
    exact zv_vret X hr hlk h dX6_readLine_106
def pX6_readLine_82  (Q : zz_T → Prop) (x1 : Int32) (t1 : Int32) (σ : zz_T) : Prop :=
    pX6_requires t1 4 σ (fun s83 =>
    vp_in (x1 - 4) 4 ∧
    pX6_readLine_95  Q x1 (zz_i s83 5 (Int32.toNatClampNeg (x1 - 4)) (vp_nar .boolean 1)))
set_option maxHeartbeats 4000000 in
set_option maxRecDepth 100000 in
theorem vX6_readLine_82 {p : Program} {l : Launch} {e : Env} {s : State} {m : MethodId} {args : Array Value} {below : List Frame} {meth : Method} {c : Code} {Y : zz_Y}  {Q : zz_T → Prop} (X : zz_X p m c cX6_readLine 2 s args RX6) (hr : meth.sig.returnType = none) (hlk : meth.locks = false) (hJ : zz_J Y) (hY : zz_mo Y)  : ∀ (x1 : Int32) (t1 : Int32) (σ : zz_T), pX6_readLine_82  Q x1 t1 σ → zz_V p l e rmX6_readLine s m args below meth c (MQ below (va_Qv Q (zz_E Y) (zz_A Y)) args s 0 0 (zz_A Y)) 2 Y σ 82 [(0, .ref (Y.2.1 0)), (1, .int x1)] [.int t1, .ref (Y.2.1 0)] := by
  intro x1 t1 σ h 
  unfold pX6_readLine_82 at h
  refine zv_iconst (v := 4) X dX6_readLine_82 (by decide) rfl ?_
  refine zv_cVv (k := 0) (ci := 6) X [.int t1, .int 4] (kX6_requires l hJ t1 4 hY h) jl_X6_113 ⟨rfl, rfl⟩ ⟨Nat.le_of_ble_eq_true rfl, Nat.le_of_ble_eq_true rfl⟩ (zz_mo_o hY).1 (by decide) (zz_mo_o hY).2 rfl rfl rfl (Nat.le_of_ble_eq_true rfl) dX6_readLine_83 rfl (fun s83 h => ?_)
  refine zv_aload_n X dX6_readLine_86 0 rfl rfl rfl ?_
  refine zg_X6_4 (k := 0) X (zz_mo_o hY).1 (zz_mo_o hY).2 fl_X6_23 dX6_readLine_87 rfl ?_
  refine zv_iload_n X dX6_readLine_90 1 rfl rfl rfl ?_
  refine zv_iconst (v := 4) X dX6_readLine_91 (by decide) rfl ?_
  refine zv_isub X dX6_readLine_92 rfl ?_
  refine zv_iconst (v := 1) X dX6_readLine_93 (by decide) rfl ?_
  obtain ⟨hi94, h⟩ := h
  refine zv_zast (k := 5) X (zz_mo_hasTold hY).1 (zz_mo_hasTold hY).2 hi94 dX6_readLine_94 rfl ?_
  exact vX6_readLine_95 X hr hlk hJ hY x1 _ h
def pX6_readLine_56  (Q : zz_T → Prop) (x1 : Int32) (t1 : Int32) (σ : zz_T) : Prop :=
    pX6_requires t1 5 σ (fun s57 =>
    ((x1 < 4 → pX6_readLine_95  Q x1 s57) ∧
    (¬ x1 < 4 → vp_in (x1 - 4) 4 ∧
    (((s57.1 5 (Int32.toNatClampNeg (x1 - 4))) = 0 → pX6_readLine_82  Q x1 1 s57) ∧
    (¬ (s57.1 5 (Int32.toNatClampNeg (x1 - 4))) = 0 → pX6_readLine_82  Q x1 0 s57)))))
set_option maxHeartbeats 4000000 in
set_option maxRecDepth 100000 in
theorem vX6_readLine_56 {p : Program} {l : Launch} {e : Env} {s : State} {m : MethodId} {args : Array Value} {below : List Frame} {meth : Method} {c : Code} {Y : zz_Y}  {Q : zz_T → Prop} (X : zz_X p m c cX6_readLine 2 s args RX6) (hr : meth.sig.returnType = none) (hlk : meth.locks = false) (hJ : zz_J Y) (hY : zz_mo Y)  : ∀ (x1 : Int32) (t1 : Int32) (σ : zz_T), pX6_readLine_56  Q x1 t1 σ → zz_V p l e rmX6_readLine s m args below meth c (MQ below (va_Qv Q (zz_E Y) (zz_A Y)) args s 0 0 (zz_A Y)) 2 Y σ 56 [(0, .ref (Y.2.1 0)), (1, .int x1)] [.int t1, .ref (Y.2.1 0)] := by
  intro x1 t1 σ h 
  unfold pX6_readLine_56 at h
  refine zv_iconst (v := 5) X dX6_readLine_56 (by decide) rfl ?_
  refine zv_cVv (k := 0) (ci := 6) X [.int t1, .int 5] (kX6_requires l hJ t1 5 hY h) jl_X6_113 ⟨rfl, rfl⟩ ⟨Nat.le_of_ble_eq_true rfl, Nat.le_of_ble_eq_true rfl⟩ (zz_mo_o hY).1 (by decide) (zz_mo_o hY).2 rfl rfl rfl (Nat.le_of_ble_eq_true rfl) dX6_readLine_57 rfl (fun s57 h => ?_)
  refine zv_iload_n X dX6_readLine_60 1 rfl rfl rfl ?_
  refine zv_iconst (v := 4) X dX6_readLine_61 (by decide) rfl ?_
  refine zv_icmp_lt (tgt := 95) X dX6_readLine_62 (by decide) rfl (fun q62 => ?_) (fun q62 => ?_)
  · replace h := h.1 q62
    exact vX6_readLine_95 X hr hlk hJ hY x1 _ h
  · replace h := h.2 q62
    refine zv_aload_n X dX6_readLine_65 0 rfl rfl rfl ?_
    refine zv_aload_n X dX6_readLine_66 0 rfl rfl rfl ?_
    refine zg_X6_4 (k := 0) X (zz_mo_o hY).1 (zz_mo_o hY).2 fl_X6_23 dX6_readLine_67 rfl ?_
    refine zv_iload_n X dX6_readLine_70 1 rfl rfl rfl ?_
    refine zv_iconst (v := 4) X dX6_readLine_71 (by decide) rfl ?_
    refine zv_isub X dX6_readLine_72 rfl ?_
    obtain ⟨hi73, h⟩ := h
    refine zv_zald (k := 5) X (zz_mo_hasTold hY).1 (zz_mo_hasTold hY).2 hi73 dX6_readLine_73 rfl ?_
    refine zv_if_ne (tgt := 81) X dX6_readLine_74 (by decide) rfl (fun q74 => ?_) (fun q74 => ?_)
    · replace h := h.2 q74
      refine zv_iconst (v := 0) X dX6_readLine_81 (by decide) rfl ?_
      exact vX6_readLine_82 X hr hlk hJ hY x1 0 _ h
    · replace h := h.1 q74
      refine zv_iconst (v := 1) X dX6_readLine_77 (by decide) rfl ?_
      refine zv_goto (tgt := 82) X dX6_readLine_78 (by decide) ?_
      exact vX6_readLine_82 X hr hlk hJ hY x1 1 _ h
def pX6_readLine_51  (Q : zz_T → Prop) (x1 : Int32) (σ : zz_T) : Prop :=
    pX6_readLine_56  Q x1 1 σ
set_option maxHeartbeats 4000000 in
set_option maxRecDepth 100000 in
theorem vX6_readLine_51 {p : Program} {l : Launch} {e : Env} {s : State} {m : MethodId} {args : Array Value} {below : List Frame} {meth : Method} {c : Code} {Y : zz_Y}  {Q : zz_T → Prop} (X : zz_X p m c cX6_readLine 2 s args RX6) (hr : meth.sig.returnType = none) (hlk : meth.locks = false) (hJ : zz_J Y) (hY : zz_mo Y)  : ∀ (x1 : Int32) (σ : zz_T), pX6_readLine_51  Q x1 σ → zz_V p l e rmX6_readLine s m args below meth c (MQ below (va_Qv Q (zz_E Y) (zz_A Y)) args s 0 0 (zz_A Y)) 2 Y σ 51 [(0, .ref (Y.2.1 0)), (1, .int x1)] [.ref (Y.2.1 0)] := by
  intro x1 σ h 
  unfold pX6_readLine_51 at h
  refine zv_iconst (v := 1) X dX6_readLine_51 (by decide) rfl ?_
  refine zv_goto (tgt := 56) X dX6_readLine_52 (by decide) ?_
  exact vX6_readLine_56 X hr hlk hJ hY x1 1 _ h
def pX6_readLine_30  (Q : zz_T → Prop) (x1 : Int32) (t1 : Int32) (σ : zz_T) : Prop :=
    pX6_requires t1 2 σ (fun s31 =>
    ((4 ≤ x1 → pX6_readLine_51  Q x1 s31) ∧
    (¬ 4 ≤ x1 → vp_in 33 70 ∧
    ((3 ≤ (s31.1 4 (Int32.toNatClampNeg 33)) → pX6_readLine_56  Q x1 0 s31) ∧
    (¬ 3 ≤ (s31.1 4 (Int32.toNatClampNeg 33)) → pX6_readLine_51  Q x1 s31)))))
set_option maxHeartbeats 4000000 in
set_option maxRecDepth 100000 in
theorem vX6_readLine_30 {p : Program} {l : Launch} {e : Env} {s : State} {m : MethodId} {args : Array Value} {below : List Frame} {meth : Method} {c : Code} {Y : zz_Y}  {Q : zz_T → Prop} (X : zz_X p m c cX6_readLine 2 s args RX6) (hr : meth.sig.returnType = none) (hlk : meth.locks = false) (hJ : zz_J Y) (hY : zz_mo Y)  : ∀ (x1 : Int32) (t1 : Int32) (σ : zz_T), pX6_readLine_30  Q x1 t1 σ → zz_V p l e rmX6_readLine s m args below meth c (MQ below (va_Qv Q (zz_E Y) (zz_A Y)) args s 0 0 (zz_A Y)) 2 Y σ 30 [(0, .ref (Y.2.1 0)), (1, .int x1)] [.int t1, .ref (Y.2.1 0)] := by
  intro x1 t1 σ h 
  unfold pX6_readLine_30 at h
  refine zv_iconst (v := 2) X dX6_readLine_30 (by decide) rfl ?_
  refine zv_cVv (k := 0) (ci := 6) X [.int t1, .int 2] (kX6_requires l hJ t1 2 hY h) jl_X6_113 ⟨rfl, rfl⟩ ⟨Nat.le_of_ble_eq_true rfl, Nat.le_of_ble_eq_true rfl⟩ (zz_mo_o hY).1 (by decide) (zz_mo_o hY).2 rfl rfl rfl (Nat.le_of_ble_eq_true rfl) dX6_readLine_31 rfl (fun s31 h => ?_)
  refine zv_aload_n X dX6_readLine_34 0 rfl rfl rfl ?_
  refine zv_iload_n X dX6_readLine_35 1 rfl rfl rfl ?_
  refine zv_iconst (v := 4) X dX6_readLine_36 (by decide) rfl ?_
  refine zv_icmp_ge (tgt := 51) X dX6_readLine_37 (by decide) rfl (fun q37 => ?_) (fun q37 => ?_)
  · replace h := h.1 q37
    exact vX6_readLine_51 X hr hlk hJ hY x1 _ h
  · replace h := h.2 q37
    refine zv_aload_n X dX6_readLine_40 0 rfl rfl rfl ?_
    refine zg_X6_3 (k := 0) X (zz_mo_o hY).1 (zz_mo_o hY).2 fl_X6_20 dX6_readLine_41 rfl ?_
    refine zv_bipush (v := 33) X dX6_readLine_44 (by decide) rfl ?_
    obtain ⟨hi46, h⟩ := h
    refine zv_iald (k := 4) X (zz_mo_draft hY).1 (zz_mo_draft hY).2 hi46 dX6_readLine_46 rfl ?_
    refine zv_iconst (v := 3) X dX6_readLine_47 (by decide) rfl ?_
    refine zv_icmp_ge (tgt := 55) X dX6_readLine_48 (by decide) rfl (fun q48 => ?_) (fun q48 => ?_)
    · replace h := h.1 q48
      refine zv_iconst (v := 0) X dX6_readLine_55 (by decide) rfl ?_
      exact vX6_readLine_56 X hr hlk hJ hY x1 0 _ h
    · replace h := h.2 q48
      exact vX6_readLine_51 X hr hlk hJ hY x1 _ h
def pX6_readLine_17  (Q : zz_T → Prop) (t0 : Int32) (σ : zz_T) : Prop :=
    ((t0 = (-4) → pX6_readLine_30  Q t0 0 σ) ∧
    (¬ t0 = (-4) → pX6_readLine_30  Q t0 1 σ))
set_option maxHeartbeats 4000000 in
set_option maxRecDepth 100000 in
theorem vX6_readLine_17 {p : Program} {l : Launch} {e : Env} {s : State} {m : MethodId} {args : Array Value} {below : List Frame} {meth : Method} {c : Code} {Y : zz_Y}  {Q : zz_T → Prop} (X : zz_X p m c cX6_readLine 2 s args RX6) (hr : meth.sig.returnType = none) (hlk : meth.locks = false) (hJ : zz_J Y) (hY : zz_mo Y)  : ∀ (t0 : Int32) (σ : zz_T), pX6_readLine_17  Q t0 σ → zz_V p l e rmX6_readLine s m args below meth c (MQ below (va_Qv Q (zz_E Y) (zz_A Y)) args s 0 0 (zz_A Y)) 2 Y σ 17 [(0, .ref (Y.2.1 0))] [.int t0] := by
  intro t0 σ h 
  unfold pX6_readLine_17 at h
  refine zv_istore_n (lv2 := [(1, .int t0), (0, .ref (Y.2.1 0))]) X dX6_readLine_17 rfl (by decide) rfl rfl ?_
  refine zv_aload_n X dX6_readLine_18 1 rfl rfl rfl ?_
  refine zv_iload_n X dX6_readLine_19 0 rfl rfl rfl ?_
  refine zv_bipush (v := (-4)) X dX6_readLine_20 (by decide) rfl ?_
  refine zv_icmp_eq (tgt := 29) X dX6_readLine_22 (by decide) rfl (fun q22 => ?_) (fun q22 => ?_)
  · replace h := h.1 q22
    refine zv_iconst (v := 0) X dX6_readLine_29 (by decide) rfl ?_
    refine zv_sub (lv2 := [(0, .ref (Y.2.1 0)), (1, .int t0)]) [1, 0] rfl ?_
    exact vX6_readLine_30 X hr hlk hJ hY t0 0 _ h
  · replace h := h.2 q22
    refine zv_iconst (v := 1) X dX6_readLine_25 (by decide) rfl ?_
    refine zv_goto (tgt := 30) X dX6_readLine_26 (by decide) ?_
    refine zv_sub (lv2 := [(0, .ref (Y.2.1 0)), (1, .int t0)]) [1, 0] rfl ?_
    exact vX6_readLine_30 X hr hlk hJ hY t0 1 _ h
def pX6_readLine  (σ : zz_T) (Q : zz_T → Prop) : Prop :=
    (((σ.1 0 9) = 1 → pX6_lineNow σ (fun r9 s9 =>
    pX6_readLine_17  Q r9 s9)) ∧
    (¬ (σ.1 0 9) = 1 → pX6_readLine_17  Q (-4) σ))
set_option maxHeartbeats 4000000 in
set_option maxRecDepth 100000 in
theorem kX6_readLine (l : Launch) {Y : zz_Y} (hJ : zz_J Y)  (hY : zz_mo Y) {σ : zz_T} {Q : zz_T → Prop} (h : pX6_readLine  σ Q) : zz_Mv l yX6_readLine cX6_readLine 2 none rmX6_readLine Y [.ref (Y.2.1 0)] σ Q := by
  refine zz_Mv.start (by decide) hJ (Nat.le_of_ble_eq_true rfl) (fun p e s m below meth c X hr hlk => ?_)
  have X : zz_X p m c cX6_readLine 2 s _ RX6 := X
  refine zv_sub (lv2 := [(0, .ref (Y.2.1 0))]) [0] rfl ?_
  unfold pX6_readLine at h
  refine zv_aload_n X dX6_readLine_0 0 rfl rfl rfl ?_
  refine zg_X6_9 (k := 0) X (zz_mo_o hY).1 (zz_mo_o hY).2 fl_X6_99 dX6_readLine_1 rfl ?_
  refine zv_iconst (v := 1) X dX6_readLine_4 (by decide) rfl ?_
  refine zv_icmp_ne (tgt := 15) X dX6_readLine_5 (by decide) rfl (fun q5 => ?_) (fun q5 => ?_)
  · replace h := h.2 q5
    refine zv_bipush (v := (-4)) X dX6_readLine_15 (by decide) rfl ?_
    exact vX6_readLine_17 X hr hlk hJ hY (-4) _ h
  · replace h := h.1 q5
    refine zv_aload_n X dX6_readLine_8 0 rfl rfl rfl ?_
    refine zv_cVi (k := 0) (ci := 6) X [] (kX6_lineNow l hJ  hY h) jl_X6_133 ⟨rfl, rfl⟩ ⟨Nat.le_of_ble_eq_true rfl, Nat.le_of_ble_eq_true rfl⟩ (zz_mo_o hY).1 (by decide) (zz_mo_o hY).2 rfl rfl rfl (Nat.le_of_ble_eq_true rfl) dX6_readLine_9 rfl (fun r9 s9 h => ?_)
    refine zv_goto (tgt := 17) X dX6_readLine_12 (by decide) ?_
    exact vX6_readLine_17 X hr hlk hJ hY r9 _ h
def rmX6_text : Room := { frames := 6, cells := 0, slots := 0, locals := 131 }
def pX6_text_44  (Q : Int32 → zz_T → Prop) (x1 : Int32) (σ : zz_T) : Prop :=
    ((((zz_i σ 0 6 0).1 0 11) ≤ 0 → pX6_keepDraft (zz_i σ 0 6 0) (fun s65 =>
    Q x1 s65)) ∧
    (¬ ((zz_i σ 0 6 0).1 0 11) ≤ 0 → Q ((-10) - ((zz_i σ 0 6 0).1 0 12)) (zz_i σ 0 6 0)))
set_option maxHeartbeats 4000000 in
set_option maxRecDepth 100000 in
theorem vX6_text_44 {p : Program} {l : Launch} {e : Env} {s : State} {m : MethodId} {args : Array Value} {below : List Frame} {meth : Method} {c : Code} {Y : zz_Y}  {Q : Int32 → zz_T → Prop} (X : zz_X p m c cX6_text 2 s args RX6) (hr : meth.sig.returnType = (some .int)) (hlk : meth.locks = false) (hJ : zz_J Y) (hY : zz_mo Y)  : ∀ (x1 : Int32) (σ : zz_T), pX6_text_44  Q x1 σ → zz_V p l e rmX6_text s m args below meth c (MQ below (va_Qi Q (zz_E Y) (zz_A Y)) args s 0 0 (zz_A Y)) 2 Y σ 44 [(0, .ref (Y.2.1 0)), (1, .int x1)] [] := by
  intro x1 σ h 
  unfold pX6_text_44 at h
  refine zv_aload_n X dX6_text_44 0 rfl rfl rfl ?_
  refine zv_iconst (v := 0) X dX6_text_45 (by decide) rfl ?_
  refine zp_X6_6 (k := 0) X (zz_mo_o hY).1 (zz_mo_o hY).2 fl_X6_71 dX6_text_46 rfl ?_
  refine zv_aload_n X dX6_text_49 0 rfl rfl rfl ?_
  refine zg_X6_11 (k := 0) X (zz_mo_o hY).1 (zz_mo_o hY).2 fl_X6_75 dX6_text_50 rfl ?_
  refine zv_if_le (tgt := 64) X dX6_text_53 (by decide) rfl (fun q53 => ?_) (fun q53 => ?_)
  · replace h := h.1 q53
    refine zv_aload_n X dX6_text_64 0 rfl rfl rfl ?_
    refine zv_cVv (k := 0) (ci := 6) X [] (kX6_keepDraft l hJ  hY h) jl_X6_62 ⟨rfl, rfl⟩ ⟨Nat.le_of_ble_eq_true rfl, Nat.le_of_ble_eq_true rfl⟩ (zz_mo_o hY).1 (by decide) (zz_mo_o hY).2 rfl rfl rfl (Nat.le_of_ble_eq_true rfl) dX6_text_65 rfl (fun s65 h => ?_)
    refine zv_iload_n X dX6_text_68 1 rfl rfl rfl ?_
    exact zv_iret X hr hlk h dX6_text_69
  · replace h := h.2 q53
    refine zv_bipush (v := (-10)) X dX6_text_56 (by decide) rfl ?_
    refine zv_aload_n X dX6_text_58 0 rfl rfl rfl ?_
    refine zg_X6_12 (k := 0) X (zz_mo_o hY).1 (zz_mo_o hY).2 fl_X6_81 dX6_text_59 rfl ?_
    refine zv_isub X dX6_text_62 rfl ?_
    exact zv_iret X hr hlk h dX6_text_63
def pX6_text_20  (Q : Int32 → zz_T → Prop) : Nat → Int32 → zz_T → Prop
  | 0, _, _ => False
  | n + 1, x1, σ =>
    (((σ.1 0 11) = 0 → (((σ.1 0 9) = 0 → pX6_text_44  Q x1 σ) ∧
    (¬ (σ.1 0 9) = 0 → pX6_readLine σ (fun s35 =>
    pX6_text_20  Q n (x1 + 1) s35)))) ∧
    (¬ (σ.1 0 11) = 0 → pX6_text_44  Q x1 σ))
set_option maxHeartbeats 4000000 in
set_option maxRecDepth 100000 in
theorem vX6_text_20 {p : Program} {l : Launch} {e : Env} {s : State} {m : MethodId} {args : Array Value} {below : List Frame} {meth : Method} {c : Code} {Y : zz_Y}  {Q : Int32 → zz_T → Prop} (X : zz_X p m c cX6_text 2 s args RX6) (hr : meth.sig.returnType = (some .int)) (hlk : meth.locks = false) (hJ : zz_J Y) (hY : zz_mo Y)  : ∀ (n : Nat) (x1 : Int32) (σ : zz_T), pX6_text_20  Q n x1 σ → zz_V p l e rmX6_text s m args below meth c (MQ below (va_Qi Q (zz_E Y) (zz_A Y)) args s 0 0 (zz_A Y)) 2 Y σ 20 [(0, .ref (Y.2.1 0)), (1, .int x1)] [] := by
  intro n
  induction n with
  | zero => intro x1 σ h; exact h.elim
  | succ n ih =>
    intro x1 σ h 
    unfold pX6_text_20 at h
    refine zv_aload_n X dX6_text_20 0 rfl rfl rfl ?_
    refine zg_X6_11 (k := 0) X (zz_mo_o hY).1 (zz_mo_o hY).2 fl_X6_75 dX6_text_21 rfl ?_
    refine zv_if_ne (tgt := 44) X dX6_text_24 (by decide) rfl (fun q24 => ?_) (fun q24 => ?_)
    · replace h := h.2 q24
      exact vX6_text_44 X hr hlk hJ hY x1 _ h
    · replace h := h.1 q24
      refine zv_aload_n X dX6_text_27 0 rfl rfl rfl ?_
      refine zg_X6_9 (k := 0) X (zz_mo_o hY).1 (zz_mo_o hY).2 fl_X6_99 dX6_text_28 rfl ?_
      refine zv_if_eq (tgt := 44) X dX6_text_31 (by decide) rfl (fun q31 => ?_) (fun q31 => ?_)
      · replace h := h.1 q31
        exact vX6_text_44 X hr hlk hJ hY x1 _ h
      · replace h := h.2 q31
        refine zv_aload_n X dX6_text_34 0 rfl rfl rfl ?_
        refine zv_cVv (k := 0) (ci := 6) X [] (kX6_readLine l hJ  hY h) jl_X6_141 ⟨rfl, rfl⟩ ⟨Nat.le_of_ble_eq_true rfl, Nat.le_of_ble_eq_true rfl⟩ (zz_mo_o hY).1 (by decide) (zz_mo_o hY).2 rfl rfl rfl (Nat.le_of_ble_eq_true rfl) dX6_text_35 rfl (fun s35 h => ?_)
        refine zv_iinc (v := (x1 + 1)) (lv2 := [(1, .int (x1 + 1)), (0, .ref (Y.2.1 0))]) X dX6_text_38 1 rfl rfl (by decide) rfl rfl ?_
        refine zv_goto (tgt := 20) X dX6_text_41 (by decide) ?_
        refine zv_sub (lv2 := [(0, .ref (Y.2.1 0)), (1, .int (x1 + 1))]) [1, 0] rfl ?_
        exact ih (x1 + 1) _ h
def pX6_text  (σ : zz_T) (Q : Int32 → zz_T → Prop) : Prop :=
    pX6_firstDraft (zz_i (zz_i σ 0 11 0) 0 7 0) (fun s13 =>
    pX6_reads s13 (fun s17 =>
    ∃ n20, pX6_text_20  Q n20 0 s17))
set_option maxHeartbeats 4000000 in
set_option maxRecDepth 100000 in
theorem kX6_text (l : Launch) {Y : zz_Y} (hJ : zz_J Y)  (hY : zz_mo Y) {σ : zz_T} {Q : Int32 → zz_T → Prop} (h : pX6_text  σ Q) : zz_Mi l yX6_text cX6_text 2 (some .int) rmX6_text Y [.ref (Y.2.1 0)] σ Q := by
  refine zz_Mi.start (by decide) hJ (Nat.le_of_ble_eq_true rfl) (fun p e s m below meth c X hr hlk => ?_)
  have X : zz_X p m c cX6_text 2 s _ RX6 := X
  refine zv_sub (lv2 := [(0, .ref (Y.2.1 0))]) [0] rfl ?_
  unfold pX6_text at h
  refine zv_iconst (v := 0) X dX6_text_0 (by decide) rfl ?_
  refine zv_istore_n (lv2 := [(1, .int 0), (0, .ref (Y.2.1 0))]) X dX6_text_1 rfl (by decide) rfl rfl ?_
  refine zv_aload_n X dX6_text_2 1 rfl rfl rfl ?_
  refine zv_iconst (v := 0) X dX6_text_3 (by decide) rfl ?_
  refine zp_X6_11 (k := 0) X (zz_mo_o hY).1 (zz_mo_o hY).2 fl_X6_75 dX6_text_4 rfl ?_
  refine zv_aload_n X dX6_text_7 1 rfl rfl rfl ?_
  refine zv_iconst (v := 0) X dX6_text_8 (by decide) rfl ?_
  refine zp_X6_7 (k := 0) X (zz_mo_o hY).1 (zz_mo_o hY).2 fl_X6_84 dX6_text_9 rfl ?_
  refine zv_aload_n X dX6_text_12 1 rfl rfl rfl ?_
  refine zv_cVv (k := 0) (ci := 6) X [] (kX6_firstDraft l hJ  hY h) jl_X6_59 ⟨rfl, rfl⟩ ⟨Nat.le_of_ble_eq_true rfl, Nat.le_of_ble_eq_true rfl⟩ (zz_mo_o hY).1 (by decide) (zz_mo_o hY).2 rfl rfl rfl (Nat.le_of_ble_eq_true rfl) dX6_text_13 rfl (fun s13 h => ?_)
  refine zv_aload_n X dX6_text_16 1 rfl rfl rfl ?_
  refine zv_cVv (k := 0) (ci := 6) X [] (kX6_reads l hJ  hY h) jl_X6_117 ⟨rfl, rfl⟩ ⟨Nat.le_of_ble_eq_true rfl, Nat.le_of_ble_eq_true rfl⟩ (zz_mo_o hY).1 (by decide) (zz_mo_o hY).2 rfl rfl rfl (Nat.le_of_ble_eq_true rfl) dX6_text_17 rfl (fun s17 h => ?_)
  obtain ⟨n20, h⟩ := h
  refine zv_sub (lv2 := [(0, .ref (Y.2.1 0)), (1, .int 0)]) [1, 0] rfl ?_
  exact vX6_text_20 X hr hlk hJ hY n20 0 _ h
def rmX6_fault : Room := { frames := 0, cells := 0, slots := 0, locals := 0 }
def pX6_fault  (σ : zz_T) (Q : Int32 → zz_T → Prop) : Prop :=
    Q (σ.1 0 11) σ
set_option maxHeartbeats 4000000 in
set_option maxRecDepth 100000 in
theorem kX6_fault (l : Launch) {Y : zz_Y} (hJ : zz_J Y)  (hY : zz_mo Y) {σ : zz_T} {Q : Int32 → zz_T → Prop} (h : pX6_fault  σ Q) : zz_Mi l yX6_fault cX6_fault 1 (some .int) rmX6_fault Y [.ref (Y.2.1 0)] σ Q := by
  refine zz_Mi.start (by decide) hJ (Nat.le_of_ble_eq_true rfl) (fun p e s m below meth c X hr hlk => ?_)
  have X : zz_X p m c cX6_fault 1 s _ RX6 := X
  refine zv_sub (lv2 := [(0, .ref (Y.2.1 0))]) [0] rfl ?_
  unfold pX6_fault at h
  refine zv_aload_n X dX6_fault_0 0 rfl rfl rfl ?_
  refine zg_X6_11 (k := 0) X (zz_mo_o hY).1 (zz_mo_o hY).2 fl_X6_75 dX6_fault_1 rfl ?_
  exact zv_iret X hr hlk h dX6_fault_4
def rmX6_isHead : Room := { frames := 1, cells := 0, slots := 0, locals := 25 }
def pX6_isHead (x1 : Int32) (σ : zz_T) (Q : Int32 → zz_T → Prop) : Prop :=
    vp_in 33 210 ∧
    pX6_in (Int32.toInt64 x1) 0 (Int32.toInt64 ((σ.1 1 (Int32.toNatClampNeg 33)) - 1)) σ (fun r13 s13 =>
    (zz_bo r13 ∧ Q r13 s13))
set_option maxHeartbeats 4000000 in
set_option maxRecDepth 100000 in
theorem kX6_isHead (l : Launch) {Y : zz_Y} (hJ : zz_J Y) (x1 : Int32) (hY : zz_mo Y) {σ : zz_T} {Q : Int32 → zz_T → Prop} (h : pX6_isHead x1 σ Q) : zz_Mi l yX6_isHead cX6_isHead 2 (some .boolean) rmX6_isHead Y [.ref (Y.2.1 0), .int x1] σ Q := by
  refine zz_Mi.start (by decide) hJ (Nat.le_of_ble_eq_true rfl) (fun p e s m below meth c X hr hlk => ?_)
  have X : zz_X p m c cX6_isHead 2 s _ RX6 := X
  refine zv_sub (lv2 := [(0, .ref (Y.2.1 0)), (1, .int x1)]) [0, 1] rfl ?_
  unfold pX6_isHead at h
  refine zv_iload_n X dX6_isHead_0 1 rfl rfl rfl ?_
  refine zv_i2l X dX6_isHead_1 rfl ?_
  refine zv_lconst (v := 0) X dX6_isHead_2 (by decide) rfl ?_
  refine zv_aload_n X dX6_isHead_3 0 rfl rfl rfl ?_
  refine zg_X6_0 (k := 0) X (zz_mo_o hY).1 (zz_mo_o hY).2 fl_X6_7 dX6_isHead_4 rfl ?_
  refine zv_bipush (v := 33) X dX6_isHead_7 (by decide) rfl ?_
  obtain ⟨hi9, h⟩ := h
  refine zv_iald (k := 1) X (zz_mo_st hY).1 (zz_mo_st hY).2 hi9 dX6_isHead_9 rfl ?_
  refine zv_iconst (v := 1) X dX6_isHead_10 (by decide) rfl ?_
  refine zv_isub X dX6_isHead_11 rfl ?_
  refine zv_i2l X dX6_isHead_12 rfl ?_
  refine zv_cSi X [.long (Int32.toInt64 x1), .long 0, .long (Int32.toInt64 ((σ.1 1 (Int32.toNatClampNeg 33)) - 1))] (kX6_in l hJ (Int32.toInt64 x1) 0 (Int32.toInt64 ((σ.1 1 (Int32.toNatClampNeg 33)) - 1))  h) jl_X6_67 ⟨rfl, rfl⟩ ⟨Nat.le_of_ble_eq_true rfl, Nat.le_of_ble_eq_true rfl⟩ rfl rfl (Nat.le_of_ble_eq_true rfl) dX6_isHead_13 rfl (fun r13 s13 h => ?_)
  exact zv_zret X hr hlk h dX6_isHead_16
def rmX6_isDot : Room := { frames := 1, cells := 0, slots := 0, locals := 25 }
def pX6_isDot (x0 : Int32) (σ : zz_T) (Q : Int32 → zz_T → Prop) : Prop :=
    pX6_in (Int32.toInt64 x0) 0 7 σ (fun r6 s6 =>
    (zz_bo r6 ∧ Q r6 s6))
set_option maxHeartbeats 4000000 in
set_option maxRecDepth 100000 in
theorem kX6_isDot (l : Launch) {Y : zz_Y} (hJ : zz_J Y) (x0 : Int32)  {σ : zz_T} {Q : Int32 → zz_T → Prop} (h : pX6_isDot x0 σ Q) : zz_Mi l yX6_isDot cX6_isDot 1 (some .boolean) rmX6_isDot Y [.int x0] σ Q := by
  refine zz_Mi.start (by decide) hJ (Nat.le_of_ble_eq_true rfl) (fun p e s m below meth c X hr hlk => ?_)
  have X : zz_X p m c cX6_isDot 1 s _ RX6 := X
  refine zv_sub (lv2 := [(0, .int x0)]) [0] rfl ?_
  unfold pX6_isDot at h
  refine zv_iload_n X dX6_isDot_0 0 rfl rfl rfl ?_
  refine zv_i2l X dX6_isDot_1 rfl ?_
  refine zv_lconst (v := 0) X dX6_isDot_2 (by decide) rfl ?_
  refine zv_ldc2 (v := 7) X dX6_isDot_3 co_X6_144 rfl ?_
  refine zv_cSi X [.long (Int32.toInt64 x0), .long 0, .long 7] (kX6_in l hJ (Int32.toInt64 x0) 0 7  h) jl_X6_67 ⟨rfl, rfl⟩ ⟨Nat.le_of_ble_eq_true rfl, Nat.le_of_ble_eq_true rfl⟩ rfl rfl (Nat.le_of_ble_eq_true rfl) dX6_isDot_6 rfl (fun r6 s6 h => ?_)
  exact zv_zret X hr hlk h dX6_isDot_9
def rmX6_isLine : Room := { frames := 1, cells := 0, slots := 0, locals := 25 }
def pX6_isLine (x1 : Int32) (σ : zz_T) (Q : Int32 → zz_T → Prop) : Prop :=
    vp_in 49 210 ∧
    pX6_in (Int32.toInt64 x1) 0 (Int32.toInt64 ((σ.1 1 (Int32.toNatClampNeg 49)) - 1)) σ (fun r13 s13 =>
    (zz_bo r13 ∧ Q r13 s13))
set_option maxHeartbeats 4000000 in
set_option maxRecDepth 100000 in
theorem kX6_isLine (l : Launch) {Y : zz_Y} (hJ : zz_J Y) (x1 : Int32) (hY : zz_mo Y) {σ : zz_T} {Q : Int32 → zz_T → Prop} (h : pX6_isLine x1 σ Q) : zz_Mi l yX6_isLine cX6_isLine 2 (some .boolean) rmX6_isLine Y [.ref (Y.2.1 0), .int x1] σ Q := by
  refine zz_Mi.start (by decide) hJ (Nat.le_of_ble_eq_true rfl) (fun p e s m below meth c X hr hlk => ?_)
  have X : zz_X p m c cX6_isLine 2 s _ RX6 := X
  refine zv_sub (lv2 := [(0, .ref (Y.2.1 0)), (1, .int x1)]) [0, 1] rfl ?_
  unfold pX6_isLine at h
  refine zv_iload_n X dX6_isLine_0 1 rfl rfl rfl ?_
  refine zv_i2l X dX6_isLine_1 rfl ?_
  refine zv_lconst (v := 0) X dX6_isLine_2 (by decide) rfl ?_
  refine zv_aload_n X dX6_isLine_3 0 rfl rfl rfl ?_
  refine zg_X6_0 (k := 0) X (zz_mo_o hY).1 (zz_mo_o hY).2 fl_X6_7 dX6_isLine_4 rfl ?_
  refine zv_bipush (v := 49) X dX6_isLine_7 (by decide) rfl ?_
  obtain ⟨hi9, h⟩ := h
  refine zv_iald (k := 1) X (zz_mo_st hY).1 (zz_mo_st hY).2 hi9 dX6_isLine_9 rfl ?_
  refine zv_iconst (v := 1) X dX6_isLine_10 (by decide) rfl ?_
  refine zv_isub X dX6_isLine_11 rfl ?_
  refine zv_i2l X dX6_isLine_12 rfl ?_
  refine zv_cSi X [.long (Int32.toInt64 x1), .long 0, .long (Int32.toInt64 ((σ.1 1 (Int32.toNatClampNeg 49)) - 1))] (kX6_in l hJ (Int32.toInt64 x1) 0 (Int32.toInt64 ((σ.1 1 (Int32.toNatClampNeg 49)) - 1))  h) jl_X6_67 ⟨rfl, rfl⟩ ⟨Nat.le_of_ble_eq_true rfl, Nat.le_of_ble_eq_true rfl⟩ rfl rfl (Nat.le_of_ble_eq_true rfl) dX6_isLine_13 rfl (fun r13 s13 h => ?_)
  exact zv_zret X hr hlk h dX6_isLine_16
def rmX6_isPart : Room := { frames := 1, cells := 0, slots := 0, locals := 25 }
def pX6_isPart (x0 : Int32) (σ : zz_T) (Q : Int32 → zz_T → Prop) : Prop :=
    pX6_in (Int32.toInt64 x0) 0 1 σ (fun r4 s4 =>
    (zz_bo r4 ∧ Q r4 s4))
set_option maxHeartbeats 4000000 in
set_option maxRecDepth 100000 in
theorem kX6_isPart (l : Launch) {Y : zz_Y} (hJ : zz_J Y) (x0 : Int32)  {σ : zz_T} {Q : Int32 → zz_T → Prop} (h : pX6_isPart x0 σ Q) : zz_Mi l yX6_isPart cX6_isPart 1 (some .boolean) rmX6_isPart Y [.int x0] σ Q := by
  refine zz_Mi.start (by decide) hJ (Nat.le_of_ble_eq_true rfl) (fun p e s m below meth c X hr hlk => ?_)
  have X : zz_X p m c cX6_isPart 1 s _ RX6 := X
  refine zv_sub (lv2 := [(0, .int x0)]) [0] rfl ?_
  unfold pX6_isPart at h
  refine zv_iload_n X dX6_isPart_0 0 rfl rfl rfl ?_
  refine zv_i2l X dX6_isPart_1 rfl ?_
  refine zv_lconst (v := 0) X dX6_isPart_2 (by decide) rfl ?_
  refine zv_lconst (v := 1) X dX6_isPart_3 (by decide) rfl ?_
  refine zv_cSi X [.long (Int32.toInt64 x0), .long 0, .long 1] (kX6_in l hJ (Int32.toInt64 x0) 0 1  h) jl_X6_67 ⟨rfl, rfl⟩ ⟨Nat.le_of_ble_eq_true rfl, Nat.le_of_ble_eq_true rfl⟩ rfl rfl (Nat.le_of_ble_eq_true rfl) dX6_isPart_4 rfl (fun r4 s4 h => ?_)
  exact zv_zret X hr hlk h dX6_isPart_7
def rmX6_starts : Room := { frames := 0, cells := 0, slots := 0, locals := 0 }
def pX6_starts_28  (Q : zz_T → Prop) : Nat → Int32 → zz_T → Prop
  | 0, _, _ => False
  | n + 1, x1, σ =>
    ((3 ≤ x1 → Q (zz_i (zz_i (zz_i (zz_i (zz_i σ 0 13 (-4)) 0 14 0) 0 15 0) 0 16 0) 0 17 0)) ∧
    (¬ 3 ≤ x1 → vp_in x1 3 ∧
    pX6_starts_28  Q n (x1 + 1) (zz_i σ 7 (Int32.toNatClampNeg x1) 0)))
set_option maxHeartbeats 4000000 in
set_option maxRecDepth 100000 in
theorem vX6_starts_28 {p : Program} {l : Launch} {e : Env} {s : State} {m : MethodId} {args : Array Value} {below : List Frame} {meth : Method} {c : Code} {Y : zz_Y}  {Q : zz_T → Prop} (X : zz_X p m c cX6_starts 2 s args RX6) (hr : meth.sig.returnType = none) (hlk : meth.locks = false) (hJ : zz_J Y) (hY : zz_mo Y)  : ∀ (n : Nat) (x1 : Int32) (σ : zz_T), pX6_starts_28  Q n x1 σ → zz_V p l e rmX6_starts s m args below meth c (MQ below (va_Qv Q (zz_E Y) (zz_A Y)) args s 0 0 (zz_A Y)) 2 Y σ 28 [(0, .ref (Y.2.1 0)), (1, .int x1)] [] := by
  intro n
  induction n with
  | zero => intro x1 σ h; exact h.elim
  | succ n ih =>
    intro x1 σ h 
    unfold pX6_starts_28 at h
    refine zv_iload_n X dX6_starts_28 1 rfl rfl rfl ?_
    refine zv_iconst (v := 3) X dX6_starts_29 (by decide) rfl ?_
    refine zv_icmp_ge (tgt := 46) X dX6_starts_30 (by decide) rfl (fun q30 => ?_) (fun q30 => ?_)
    · replace h := h.1 q30
      refine zv_aload_n X dX6_starts_46 0 rfl rfl rfl ?_
      refine zv_bipush (v := (-4)) X dX6_starts_47 (by decide) rfl ?_
      refine zp_X6_13 (k := 0) X (zz_mo_o hY).1 (zz_mo_o hY).2 fl_X6_146 dX6_starts_49 rfl ?_
      refine zv_aload_n X dX6_starts_52 0 rfl rfl rfl ?_
      refine zv_iconst (v := 0) X dX6_starts_53 (by decide) rfl ?_
      refine zp_X6_14 (k := 0) X (zz_mo_o hY).1 (zz_mo_o hY).2 fl_X6_149 dX6_starts_54 rfl ?_
      refine zv_aload_n X dX6_starts_57 0 rfl rfl rfl ?_
      refine zv_iconst (v := 0) X dX6_starts_58 (by decide) rfl ?_
      refine zp_X6_15 (k := 0) X (zz_mo_o hY).1 (zz_mo_o hY).2 fl_X6_152 dX6_starts_59 rfl ?_
      refine zv_aload_n X dX6_starts_62 0 rfl rfl rfl ?_
      refine zv_iconst (v := 0) X dX6_starts_63 (by decide) rfl ?_
      refine zp_X6_16 (k := 0) X (zz_mo_o hY).1 (zz_mo_o hY).2 fl_X6_155 dX6_starts_64 rfl ?_
      refine zv_aload_n X dX6_starts_67 0 rfl rfl rfl ?_
      refine zv_iconst (v := 0) X dX6_starts_68 (by decide) rfl ?_
      refine zp_X6_17 (k := 0) X (zz_mo_o hY).1 (zz_mo_o hY).2 fl_X6_158 dX6_starts_69 rfl ?_
      exact zv_vret X hr hlk h dX6_starts_72
    · replace h := h.2 q30
      refine zv_aload_n X dX6_starts_33 0 rfl rfl rfl ?_
      refine zg_X6_18 (k := 0) X (zz_mo_o hY).1 (zz_mo_o hY).2 fl_X6_29 dX6_starts_34 rfl ?_
      refine zv_iload_n X dX6_starts_37 1 rfl rfl rfl ?_
      refine zv_iconst (v := 0) X dX6_starts_38 (by decide) rfl ?_
      obtain ⟨hi39, h⟩ := h
      refine zv_iast (k := 7) X (zz_mo_wrongBy hY).1 (zz_mo_wrongBy hY).2 hi39 dX6_starts_39 rfl ?_
      refine zv_iinc (v := (x1 + 1)) (lv2 := [(1, .int (x1 + 1)), (0, .ref (Y.2.1 0))]) X dX6_starts_40 1 rfl rfl (by decide) rfl rfl ?_
      refine zv_goto (tgt := 28) X dX6_starts_43 (by decide) ?_
      refine zv_sub (lv2 := [(0, .ref (Y.2.1 0)), (1, .int (x1 + 1))]) [1, 0] rfl ?_
      exact ih (x1 + 1) _ h
def pX6_starts_2  (Q : zz_T → Prop) : Nat → Int32 → zz_T → Prop
  | 0, _, _ => False
  | n + 1, x1, σ =>
    ((70 ≤ x1 → ∃ n28, pX6_starts_28  Q n28 0 σ) ∧
    (¬ 70 ≤ x1 → vp_in x1 210 ∧
    vp_in x1 70 ∧
    pX6_starts_2  Q n (x1 + 1) (zz_i σ 2 (Int32.toNatClampNeg x1) (σ.1 1 (Int32.toNatClampNeg x1)))))
set_option maxHeartbeats 4000000 in
set_option maxRecDepth 100000 in
theorem vX6_starts_2 {p : Program} {l : Launch} {e : Env} {s : State} {m : MethodId} {args : Array Value} {below : List Frame} {meth : Method} {c : Code} {Y : zz_Y}  {Q : zz_T → Prop} (X : zz_X p m c cX6_starts 2 s args RX6) (hr : meth.sig.returnType = none) (hlk : meth.locks = false) (hJ : zz_J Y) (hY : zz_mo Y)  : ∀ (n : Nat) (x1 : Int32) (σ : zz_T), pX6_starts_2  Q n x1 σ → zz_V p l e rmX6_starts s m args below meth c (MQ below (va_Qv Q (zz_E Y) (zz_A Y)) args s 0 0 (zz_A Y)) 2 Y σ 2 [(0, .ref (Y.2.1 0)), (1, .int x1)] [] := by
  intro n
  induction n with
  | zero => intro x1 σ h; exact h.elim
  | succ n ih =>
    intro x1 σ h 
    unfold pX6_starts_2 at h
    refine zv_iload_n X dX6_starts_2 1 rfl rfl rfl ?_
    refine zv_bipush (v := 70) X dX6_starts_3 (by decide) rfl ?_
    refine zv_icmp_ge (tgt := 26) X dX6_starts_5 (by decide) rfl (fun q5 => ?_) (fun q5 => ?_)
    · replace h := h.1 q5
      refine zv_iconst (v := 0) X dX6_starts_26 (by decide) rfl ?_
      refine zv_istore_n (lv2 := [(1, .int 0), (0, .ref (Y.2.1 0))]) X dX6_starts_27 rfl (by decide) rfl rfl ?_
      obtain ⟨n28, h⟩ := h
      refine zv_sub (lv2 := [(0, .ref (Y.2.1 0)), (1, .int 0)]) [1, 0] rfl ?_
      exact vX6_starts_28 X hr hlk hJ hY n28 0 _ h
    · replace h := h.2 q5
      refine zv_aload_n X dX6_starts_8 0 rfl rfl rfl ?_
      refine zg_X6_1 (k := 0) X (zz_mo_o hY).1 (zz_mo_o hY).2 fl_X6_13 dX6_starts_9 rfl ?_
      refine zv_iload_n X dX6_starts_12 1 rfl rfl rfl ?_
      refine zv_aload_n X dX6_starts_13 0 rfl rfl rfl ?_
      refine zg_X6_0 (k := 0) X (zz_mo_o hY).1 (zz_mo_o hY).2 fl_X6_7 dX6_starts_14 rfl ?_
      refine zv_iload_n X dX6_starts_17 1 rfl rfl rfl ?_
      obtain ⟨hi18, h⟩ := h
      refine zv_iald (k := 1) X (zz_mo_st hY).1 (zz_mo_st hY).2 hi18 dX6_starts_18 rfl ?_
      obtain ⟨hi19, h⟩ := h
      refine zv_iast (k := 2) X (zz_mo_now hY).1 (zz_mo_now hY).2 hi19 dX6_starts_19 rfl ?_
      refine zv_iinc (v := (x1 + 1)) (lv2 := [(1, .int (x1 + 1)), (0, .ref (Y.2.1 0))]) X dX6_starts_20 1 rfl rfl (by decide) rfl rfl ?_
      refine zv_goto (tgt := 2) X dX6_starts_23 (by decide) ?_
      refine zv_sub (lv2 := [(0, .ref (Y.2.1 0)), (1, .int (x1 + 1))]) [1, 0] rfl ?_
      exact ih (x1 + 1) _ h
def pX6_starts  (σ : zz_T) (Q : zz_T → Prop) : Prop :=
    ∃ n2, pX6_starts_2  Q n2 0 σ
set_option maxHeartbeats 4000000 in
set_option maxRecDepth 100000 in
theorem kX6_starts (l : Launch) {Y : zz_Y} (hJ : zz_J Y)  (hY : zz_mo Y) {σ : zz_T} {Q : zz_T → Prop} (h : pX6_starts  σ Q) : zz_Mv l yX6_starts cX6_starts 2 none rmX6_starts Y [.ref (Y.2.1 0)] σ Q := by
  refine zz_Mv.start (by decide) hJ (Nat.le_of_ble_eq_true rfl) (fun p e s m below meth c X hr hlk => ?_)
  have X : zz_X p m c cX6_starts 2 s _ RX6 := X
  refine zv_sub (lv2 := [(0, .ref (Y.2.1 0))]) [0] rfl ?_
  unfold pX6_starts at h
  refine zv_iconst (v := 0) X dX6_starts_0 (by decide) rfl ?_
  refine zv_istore_n (lv2 := [(1, .int 0), (0, .ref (Y.2.1 0))]) X dX6_starts_1 rfl (by decide) rfl rfl ?_
  obtain ⟨n2, h⟩ := h
  refine zv_sub (lv2 := [(0, .ref (Y.2.1 0)), (1, .int 0)]) [1, 0] rfl ?_
  exact vX6_starts_2 X hr hlk hJ hY n2 0 _ h
