def rmX6_which : Room := { frames := 6, cells := 0, slots := 0, locals := 149 }
def pX6_which_16  (Q : Int32 → zz_T → Prop) : Nat → Int32 → Int32 → Int32 → Int32 → Int32 → zz_T → Prop
  | 0, _, _, _, _, _, _ => False
  | n + 1, x1, x2, x3, x4, x5, σ =>
    ((x3 < x5 → Q x4 σ) ∧
    (¬ x3 < x5 → pX6_isSoWith ((11 * x1) + x2) x5 σ (fun r33 s33 =>
    pX6_flag r33 s33 (fun r36 s36 =>
    pX6_which_16  Q n x1 x2 x3 (x4 ||| (r36 <<< (x5 &&& (31 : Int32)))) (x5 + 1) s36))))
set_option maxHeartbeats 4000000 in
set_option maxRecDepth 100000 in
theorem vX6_which_16 {p : Program} {l : Launch} {e : Env} {s : State} {m : MethodId} {args : Array Value} {below : List Frame} {meth : Method} {c : Code} {Y : zz_Y}  {Q : Int32 → zz_T → Prop} (X : zz_X p m c cX6_which 6 s args RX6) (hr : meth.sig.returnType = (some .int)) (hlk : meth.locks = false) (hJ : zz_J Y) (hY : zz_mo Y)  : ∀ (n : Nat) (x1 : Int32) (x2 : Int32) (x3 : Int32) (x4 : Int32) (x5 : Int32) (σ : zz_T), pX6_which_16  Q n x1 x2 x3 x4 x5 σ → zz_V p l e rmX6_which s m args below meth c (MQ below (va_Qi Q (zz_E Y) (zz_A Y)) args s 0 0 (zz_A Y)) 6 Y σ 16 [(0, .ref (Y.2.1 0)), (1, .int x1), (2, .int x2), (3, .int x3), (4, .int x4), (5, .int x5)] [] := by
  intro n
  induction n with
  | zero => intro x1 x2 x3 x4 x5 σ h; exact h.elim
  | succ n ih =>
    intro x1 x2 x3 x4 x5 σ h 
    unfold pX6_which_16 at h
    refine zv_iload X dX6_which_16 5 rfl rfl ?_
    refine zv_iload_n X dX6_which_18 3 rfl rfl rfl ?_
    refine zv_icmp_gt (tgt := 51) X dX6_which_19 (by decide) rfl (fun q19 => ?_) (fun q19 => ?_)
    · replace h := h.1 q19
      refine zv_iload X dX6_which_51 4 rfl rfl ?_
      exact zv_iret X hr hlk h dX6_which_53
    · replace h := h.2 q19
      refine zv_iload X dX6_which_22 4 rfl rfl ?_
      refine zv_aload_n X dX6_which_24 0 rfl rfl rfl ?_
      refine zv_bipush (v := 11) X dX6_which_25 (by decide) rfl ?_
      refine zv_iload_n X dX6_which_27 1 rfl rfl rfl ?_
      refine zv_imul X dX6_which_28 rfl ?_
      refine zv_iload_n X dX6_which_29 2 rfl rfl rfl ?_
      refine zv_iadd X dX6_which_30 rfl ?_
      refine zv_iload X dX6_which_31 5 rfl rfl ?_
      refine zv_cVi (k := 0) (ci := 6) X [.int ((11 * x1) + x2), .int x5] (kX6_isSoWith l hJ ((11 * x1) + x2) x5 hY h) jl_X6_304 ⟨rfl, rfl⟩ ⟨Nat.le_of_ble_eq_true rfl, Nat.le_of_ble_eq_true rfl⟩ (zz_mo_o hY).1 (by decide) (zz_mo_o hY).2 rfl rfl rfl (Nat.le_of_ble_eq_true rfl) dX6_which_33 rfl (fun r33 s33 h => ?_)
      refine zv_cSi X [.int r33] (kX6_flag l hJ r33  h) jl_X6_174 ⟨rfl, rfl⟩ ⟨Nat.le_of_ble_eq_true rfl, Nat.le_of_ble_eq_true rfl⟩ rfl rfl (Nat.le_of_ble_eq_true rfl) dX6_which_36 rfl (fun r36 s36 h => ?_)
      refine zv_iload X dX6_which_39 5 rfl rfl ?_
      refine zv_ishl X dX6_which_41 rfl ?_
      refine zv_ior X dX6_which_42 rfl ?_
      refine zv_istore (lv2 := [(4, .int (x4 ||| (r36 <<< (x5 &&& (31 : Int32))))), (0, .ref (Y.2.1 0)), (1, .int x1), (2, .int x2), (3, .int x3), (5, .int x5)]) X dX6_which_43 (by decide) rfl rfl ?_
      refine zv_iinc (v := (x5 + 1)) (lv2 := [(5, .int (x5 + 1)), (4, .int (x4 ||| (r36 <<< (x5 &&& (31 : Int32))))), (0, .ref (Y.2.1 0)), (1, .int x1), (2, .int x2), (3, .int x3)]) X dX6_which_45 5 rfl rfl (by decide) rfl rfl ?_
      refine zv_goto (tgt := 16) X dX6_which_48 (by decide) ?_
      refine zv_sub (lv2 := [(0, .ref (Y.2.1 0)), (1, .int x1), (2, .int x2), (3, .int x3), (4, .int (x4 ||| (r36 <<< (x5 &&& (31 : Int32))))), (5, .int (x5 + 1))]) [2, 3, 4, 5, 1, 0] rfl ?_
      exact ih x1 x2 x3 (x4 ||| (r36 <<< (x5 &&& (31 : Int32)))) (x5 + 1) _ h
def pX6_which (x1 : Int32) (x2 : Int32) (x3 : Int32) (σ : zz_T) (Q : Int32 → zz_T → Prop) : Prop :=
    pX6_isHead x1 σ (fun r2 s2 =>
    ((r2 = 0 → Q (-1) s2) ∧
    (¬ r2 = 0 → ∃ n16, pX6_which_16  Q n16 x1 x2 x3 0 0 s2)))
set_option maxHeartbeats 4000000 in
set_option maxRecDepth 100000 in
theorem kX6_which (l : Launch) {Y : zz_Y} (hJ : zz_J Y) (x1 : Int32) (x2 : Int32) (x3 : Int32) (hY : zz_mo Y) {σ : zz_T} {Q : Int32 → zz_T → Prop} (h : pX6_which x1 x2 x3 σ Q) : zz_Mi l yX6_which cX6_which 6 (some .int) rmX6_which Y [.ref (Y.2.1 0), .int x1, .int x2, .int x3] σ Q := by
  refine zz_Mi.start (by decide) hJ (Nat.le_of_ble_eq_true rfl) (fun p e s m below meth c X hr hlk => ?_)
  have X : zz_X p m c cX6_which 6 s _ RX6 := X
  refine zv_sub (lv2 := [(0, .ref (Y.2.1 0)), (1, .int x1), (2, .int x2), (3, .int x3)]) [0, 1, 2, 3] rfl ?_
  unfold pX6_which at h
  refine zv_aload_n X dX6_which_0 0 rfl rfl rfl ?_
  refine zv_iload_n X dX6_which_1 1 rfl rfl rfl ?_
  refine zv_cVi (k := 0) (ci := 6) X [.int x1] (kX6_isHead l hJ x1 hY h) jl_X6_215 ⟨rfl, rfl⟩ ⟨Nat.le_of_ble_eq_true rfl, Nat.le_of_ble_eq_true rfl⟩ (zz_mo_o hY).1 (by decide) (zz_mo_o hY).2 rfl rfl rfl (Nat.le_of_ble_eq_true rfl) dX6_which_2 rfl (fun r2 s2 h => ?_)
  refine zv_if_ne (tgt := 10) X dX6_which_5 (by decide) rfl (fun q5 => ?_) (fun q5 => ?_)
  · replace h := h.2 q5
    refine zv_iconst (v := 0) X dX6_which_10 (by decide) rfl ?_
    refine zv_istore (lv2 := [(4, .int 0), (0, .ref (Y.2.1 0)), (1, .int x1), (2, .int x2), (3, .int x3)]) X dX6_which_11 (by decide) rfl rfl ?_
    refine zv_iconst (v := 0) X dX6_which_13 (by decide) rfl ?_
    refine zv_istore (lv2 := [(5, .int 0), (4, .int 0), (0, .ref (Y.2.1 0)), (1, .int x1), (2, .int x2), (3, .int x3)]) X dX6_which_14 (by decide) rfl rfl ?_
    obtain ⟨n16, h⟩ := h
    refine zv_sub (lv2 := [(0, .ref (Y.2.1 0)), (1, .int x1), (2, .int x2), (3, .int x3), (4, .int 0), (5, .int 0)]) [2, 3, 4, 5, 1, 0] rfl ?_
    exact vX6_which_16 X hr hlk hJ hY n16 x1 x2 x3 0 0 _ h
  · replace h := h.1 q5
    refine zv_iconst (v := (-1)) X dX6_which_8 (by decide) rfl ?_
    exact zv_iret X hr hlk h dX6_which_9
def rmX6_kinds : Room := { frames := 7, cells := 0, slots := 0, locals := 174 }
def pX6_kinds (x1 : Int32) (σ : zz_T) (Q : Int32 → zz_T → Prop) : Prop :=
    pX6_which x1 0 3 σ (fun r4 s4 =>
    Q r4 s4)
set_option maxHeartbeats 4000000 in
set_option maxRecDepth 100000 in
theorem kX6_kinds (l : Launch) {Y : zz_Y} (hJ : zz_J Y) (x1 : Int32) (hY : zz_mo Y) {σ : zz_T} {Q : Int32 → zz_T → Prop} (h : pX6_kinds x1 σ Q) : zz_Mi l yX6_kinds cX6_kinds 2 (some .int) rmX6_kinds Y [.ref (Y.2.1 0), .int x1] σ Q := by
  refine zz_Mi.start (by decide) hJ (Nat.le_of_ble_eq_true rfl) (fun p e s m below meth c X hr hlk => ?_)
  have X : zz_X p m c cX6_kinds 2 s _ RX6 := X
  refine zv_sub (lv2 := [(0, .ref (Y.2.1 0)), (1, .int x1)]) [0, 1] rfl ?_
  unfold pX6_kinds at h
  refine zv_aload_n X dX6_kinds_0 0 rfl rfl rfl ?_
  refine zv_iload_n X dX6_kinds_1 1 rfl rfl rfl ?_
  refine zv_iconst (v := 0) X dX6_kinds_2 (by decide) rfl ?_
  refine zv_iconst (v := 3) X dX6_kinds_3 (by decide) rfl ?_
  refine zv_cVi (k := 0) (ci := 6) X [.int x1, .int 0, .int 3] (kX6_which l hJ x1 0 3 hY h) jl_X6_307 ⟨rfl, rfl⟩ ⟨Nat.le_of_ble_eq_true rfl, Nat.le_of_ble_eq_true rfl⟩ (zz_mo_o hY).1 (by decide) (zz_mo_o hY).2 rfl rfl rfl (Nat.le_of_ble_eq_true rfl) dX6_kinds_4 rfl (fun r4 s4 h => ?_)
  exact zv_iret X hr hlk h dX6_kinds_7
def rmX6_powers : Room := { frames := 7, cells := 0, slots := 0, locals := 174 }
def pX6_powers (x1 : Int32) (σ : zz_T) (Q : Int32 → zz_T → Prop) : Prop :=
    pX6_which x1 1 30 σ (fun r5 s5 =>
    Q r5 s5)
set_option maxHeartbeats 4000000 in
set_option maxRecDepth 100000 in
theorem kX6_powers (l : Launch) {Y : zz_Y} (hJ : zz_J Y) (x1 : Int32) (hY : zz_mo Y) {σ : zz_T} {Q : Int32 → zz_T → Prop} (h : pX6_powers x1 σ Q) : zz_Mi l yX6_powers cX6_powers 2 (some .int) rmX6_powers Y [.ref (Y.2.1 0), .int x1] σ Q := by
  refine zz_Mi.start (by decide) hJ (Nat.le_of_ble_eq_true rfl) (fun p e s m below meth c X hr hlk => ?_)
  have X : zz_X p m c cX6_powers 2 s _ RX6 := X
  refine zv_sub (lv2 := [(0, .ref (Y.2.1 0)), (1, .int x1)]) [0, 1] rfl ?_
  unfold pX6_powers at h
  refine zv_aload_n X dX6_powers_0 0 rfl rfl rfl ?_
  refine zv_iload_n X dX6_powers_1 1 rfl rfl rfl ?_
  refine zv_iconst (v := 1) X dX6_powers_2 (by decide) rfl ?_
  refine zv_bipush (v := 30) X dX6_powers_3 (by decide) rfl ?_
  refine zv_cVi (k := 0) (ci := 6) X [.int x1, .int 1, .int 30] (kX6_which l hJ x1 1 30 hY h) jl_X6_307 ⟨rfl, rfl⟩ ⟨Nat.le_of_ble_eq_true rfl, Nat.le_of_ble_eq_true rfl⟩ (zz_mo_o hY).1 (by decide) (zz_mo_o hY).2 rfl rfl rfl (Nat.le_of_ble_eq_true rfl) dX6_powers_5 rfl (fun r5 s5 h => ?_)
  exact zv_iret X hr hlk h dX6_powers_8
def rmX6_ask : Room := { frames := 6, cells := 0, slots := 0, locals := 149 }
def pX6_ask_193  (Q : Int32 → zz_T → Prop) (K100 : Int32 → Int32 → Int32 → zz_T → Prop) (K113 : Int32 → Int32 → Int32 → Int32 → Int32 → zz_T → Prop) (x2 : Int32) (x3 : Int32) (x4 : Int32) (x6 : Int32) (t0 : Int32) (σ : zz_T) : Prop :=
    K113 x2 x3 x4 t0 (x6 + 1) σ
set_option maxHeartbeats 4000000 in
set_option maxRecDepth 100000 in
theorem vX6_ask_193 {p : Program} {l : Launch} {e : Env} {s : State} {m : MethodId} {args : Array Value} {below : List Frame} {meth : Method} {c : Code} {Y : zz_Y}  {Q : Int32 → zz_T → Prop} {K100 : Int32 → Int32 → Int32 → zz_T → Prop} {K113 : Int32 → Int32 → Int32 → Int32 → Int32 → zz_T → Prop} (X : zz_X p m c cX6_ask 9 s args RX6) (hr : meth.sig.returnType = (some .int)) (hlk : meth.locks = false) (hJ : zz_J Y) (hY : zz_mo Y) (hK100 : ∀ (x2 : Int32) (x3 : Int32) (x4 : Int32) (σ : zz_T), K100 x2 x3 x4 σ → zz_V p l e rmX6_ask s m args below meth c (MQ below (va_Qi Q (zz_E Y) (zz_A Y)) args s 0 0 (zz_A Y)) 9 Y σ 100 [(0, .ref (Y.2.1 0)), (2, .int x2), (3, .int x3), (4, .int x4)] []) (hK113 : ∀ (x2 : Int32) (x3 : Int32) (x4 : Int32) (x5 : Int32) (x6 : Int32) (σ : zz_T), K113 x2 x3 x4 x5 x6 σ → zz_V p l e rmX6_ask s m args below meth c (MQ below (va_Qi Q (zz_E Y) (zz_A Y)) args s 0 0 (zz_A Y)) 9 Y σ 113 [(0, .ref (Y.2.1 0)), (2, .int x2), (3, .int x3), (4, .int x4), (5, .int x5), (6, .int x6)] []) : ∀ (x2 : Int32) (x3 : Int32) (x4 : Int32) (x6 : Int32) (t0 : Int32) (σ : zz_T), pX6_ask_193  Q K100 K113 x2 x3 x4 x6 t0 σ → zz_V p l e rmX6_ask s m args below meth c (MQ below (va_Qi Q (zz_E Y) (zz_A Y)) args s 0 0 (zz_A Y)) 9 Y σ 193 [(0, .ref (Y.2.1 0)), (2, .int x2), (3, .int x3), (4, .int x4), (6, .int x6)] [.int t0] := by
  intro x2 x3 x4 x6 t0 σ h 
  unfold pX6_ask_193 at h
  refine zv_istore (lv2 := [(5, .int t0), (0, .ref (Y.2.1 0)), (2, .int x2), (3, .int x3), (4, .int x4), (6, .int x6)]) X dX6_ask_193 (by decide) rfl rfl ?_
  refine zv_iinc (v := (x6 + 1)) (lv2 := [(6, .int (x6 + 1)), (5, .int t0), (0, .ref (Y.2.1 0)), (2, .int x2), (3, .int x3), (4, .int x4)]) X dX6_ask_195 5 rfl rfl (by decide) rfl rfl ?_
  refine zv_goto (tgt := 113) X dX6_ask_198 (by decide) ?_
  refine zv_sub (lv2 := [(0, .ref (Y.2.1 0)), (2, .int x2), (3, .int x3), (4, .int x4), (5, .int t0), (6, .int (x6 + 1))]) [2, 3, 4, 5, 1, 0] rfl ?_
  exact hK113 x2 x3 x4 t0 (x6 + 1) _ h
def pX6_ask_167  (Q : Int32 → zz_T → Prop) (K100 : Int32 → Int32 → Int32 → zz_T → Prop) (K113 : Int32 → Int32 → Int32 → Int32 → Int32 → zz_T → Prop) (K125 : Int32 → Int32 → Int32 → Int32 → Int32 → Int32 → Int32 → zz_T → Prop) (x2 : Int32) (x3 : Int32) (x4 : Int32) (x5 : Int32) (x6 : Int32) (x8 : Int32) (t0 : Int32) (t1 : Int32) (σ : zz_T) : Prop :=
    pX6_flag t1 σ (fun r167 s167 =>
    K125 x2 x3 x4 x5 x6 (t0 + r167) (x8 + 1) s167)
set_option maxHeartbeats 4000000 in
set_option maxRecDepth 100000 in
theorem vX6_ask_167 {p : Program} {l : Launch} {e : Env} {s : State} {m : MethodId} {args : Array Value} {below : List Frame} {meth : Method} {c : Code} {Y : zz_Y}  {Q : Int32 → zz_T → Prop} {K100 : Int32 → Int32 → Int32 → zz_T → Prop} {K113 : Int32 → Int32 → Int32 → Int32 → Int32 → zz_T → Prop} {K125 : Int32 → Int32 → Int32 → Int32 → Int32 → Int32 → Int32 → zz_T → Prop} (X : zz_X p m c cX6_ask 9 s args RX6) (hr : meth.sig.returnType = (some .int)) (hlk : meth.locks = false) (hJ : zz_J Y) (hY : zz_mo Y) (hK100 : ∀ (x2 : Int32) (x3 : Int32) (x4 : Int32) (σ : zz_T), K100 x2 x3 x4 σ → zz_V p l e rmX6_ask s m args below meth c (MQ below (va_Qi Q (zz_E Y) (zz_A Y)) args s 0 0 (zz_A Y)) 9 Y σ 100 [(0, .ref (Y.2.1 0)), (2, .int x2), (3, .int x3), (4, .int x4)] []) (hK113 : ∀ (x2 : Int32) (x3 : Int32) (x4 : Int32) (x5 : Int32) (x6 : Int32) (σ : zz_T), K113 x2 x3 x4 x5 x6 σ → zz_V p l e rmX6_ask s m args below meth c (MQ below (va_Qi Q (zz_E Y) (zz_A Y)) args s 0 0 (zz_A Y)) 9 Y σ 113 [(0, .ref (Y.2.1 0)), (2, .int x2), (3, .int x3), (4, .int x4), (5, .int x5), (6, .int x6)] []) (hK125 : ∀ (x2 : Int32) (x3 : Int32) (x4 : Int32) (x5 : Int32) (x6 : Int32) (x7 : Int32) (x8 : Int32) (σ : zz_T), K125 x2 x3 x4 x5 x6 x7 x8 σ → zz_V p l e rmX6_ask s m args below meth c (MQ below (va_Qi Q (zz_E Y) (zz_A Y)) args s 0 0 (zz_A Y)) 9 Y σ 125 [(0, .ref (Y.2.1 0)), (2, .int x2), (3, .int x3), (4, .int x4), (5, .int x5), (6, .int x6), (7, .int x7), (8, .int x8)] []) : ∀ (x2 : Int32) (x3 : Int32) (x4 : Int32) (x5 : Int32) (x6 : Int32) (x8 : Int32) (t0 : Int32) (t1 : Int32) (σ : zz_T), pX6_ask_167  Q K100 K113 K125 x2 x3 x4 x5 x6 x8 t0 t1 σ → zz_V p l e rmX6_ask s m args below meth c (MQ below (va_Qi Q (zz_E Y) (zz_A Y)) args s 0 0 (zz_A Y)) 9 Y σ 167 [(0, .ref (Y.2.1 0)), (2, .int x2), (3, .int x3), (4, .int x4), (5, .int x5), (6, .int x6), (8, .int x8)] [.int t1, .int t0] := by
  intro x2 x3 x4 x5 x6 x8 t0 t1 σ h 
  unfold pX6_ask_167 at h
  refine zv_cSi X [.int t1] (kX6_flag l hJ t1  h) jl_X6_174 ⟨rfl, rfl⟩ ⟨Nat.le_of_ble_eq_true rfl, Nat.le_of_ble_eq_true rfl⟩ rfl rfl (Nat.le_of_ble_eq_true rfl) dX6_ask_167 rfl (fun r167 s167 h => ?_)
  refine zv_iadd X dX6_ask_170 rfl ?_
  refine zv_istore (lv2 := [(7, .int (t0 + r167)), (0, .ref (Y.2.1 0)), (2, .int x2), (3, .int x3), (4, .int x4), (5, .int x5), (6, .int x6), (8, .int x8)]) X dX6_ask_171 (by decide) rfl rfl ?_
  refine zv_iinc (v := (x8 + 1)) (lv2 := [(8, .int (x8 + 1)), (7, .int (t0 + r167)), (0, .ref (Y.2.1 0)), (2, .int x2), (3, .int x3), (4, .int x4), (5, .int x5), (6, .int x6)]) X dX6_ask_173 7 rfl rfl (by decide) rfl rfl ?_
  refine zv_goto (tgt := 125) X dX6_ask_176 (by decide) ?_
  refine zv_sub (lv2 := [(0, .ref (Y.2.1 0)), (2, .int x2), (3, .int x3), (4, .int x4), (5, .int x5), (6, .int x6), (7, .int (t0 + r167)), (8, .int (x8 + 1))]) [2, 3, 4, 5, 6, 7, 1, 0] rfl ?_
  exact hK125 x2 x3 x4 x5 x6 (t0 + r167) (x8 + 1) _ h
def pX6_ask_125  (Q : Int32 → zz_T → Prop) (K100 : Int32 → Int32 → Int32 → zz_T → Prop) (K113 : Int32 → Int32 → Int32 → Int32 → Int32 → zz_T → Prop) : Nat → Int32 → Int32 → Int32 → Int32 → Int32 → Int32 → Int32 → zz_T → Prop
  | 0, _, _, _, _, _, _, _, _ => False
  | n + 1, x2, x3, x4, x5, x6, x7, x8, σ =>
    ((x3 ≤ x8 → ((x7 ≤ x5 → pX6_ask_193  Q K100 K113 x2 x3 x4 x6 x5 σ) ∧
    (¬ x7 ≤ x5 → pX6_ask_193  Q K100 K113 x2 x3 x4 x6 x7 σ))) ∧
    (¬ x3 ≤ x8 → vp_in ((41 * x6) + x4) 1271 ∧
    vp_in ((41 * x8) + x4) 1271 ∧
    (((σ.1 12 (Int32.toNatClampNeg ((41 * x6) + x4))) = (σ.1 12 (Int32.toNatClampNeg ((41 * x8) + x4))) → pX6_ask_167  Q K100 K113 (pX6_ask_125  Q K100 K113 n) x2 x3 x4 x5 x6 x8 x7 1 σ) ∧
    (¬ (σ.1 12 (Int32.toNatClampNeg ((41 * x6) + x4))) = (σ.1 12 (Int32.toNatClampNeg ((41 * x8) + x4))) → pX6_ask_167  Q K100 K113 (pX6_ask_125  Q K100 K113 n) x2 x3 x4 x5 x6 x8 x7 0 σ))))
set_option maxHeartbeats 4000000 in
set_option maxRecDepth 100000 in
theorem vX6_ask_125 {p : Program} {l : Launch} {e : Env} {s : State} {m : MethodId} {args : Array Value} {below : List Frame} {meth : Method} {c : Code} {Y : zz_Y}  {Q : Int32 → zz_T → Prop} {K100 : Int32 → Int32 → Int32 → zz_T → Prop} {K113 : Int32 → Int32 → Int32 → Int32 → Int32 → zz_T → Prop} (X : zz_X p m c cX6_ask 9 s args RX6) (hr : meth.sig.returnType = (some .int)) (hlk : meth.locks = false) (hJ : zz_J Y) (hY : zz_mo Y) (hK100 : ∀ (x2 : Int32) (x3 : Int32) (x4 : Int32) (σ : zz_T), K100 x2 x3 x4 σ → zz_V p l e rmX6_ask s m args below meth c (MQ below (va_Qi Q (zz_E Y) (zz_A Y)) args s 0 0 (zz_A Y)) 9 Y σ 100 [(0, .ref (Y.2.1 0)), (2, .int x2), (3, .int x3), (4, .int x4)] []) (hK113 : ∀ (x2 : Int32) (x3 : Int32) (x4 : Int32) (x5 : Int32) (x6 : Int32) (σ : zz_T), K113 x2 x3 x4 x5 x6 σ → zz_V p l e rmX6_ask s m args below meth c (MQ below (va_Qi Q (zz_E Y) (zz_A Y)) args s 0 0 (zz_A Y)) 9 Y σ 113 [(0, .ref (Y.2.1 0)), (2, .int x2), (3, .int x3), (4, .int x4), (5, .int x5), (6, .int x6)] []) : ∀ (n : Nat) (x2 : Int32) (x3 : Int32) (x4 : Int32) (x5 : Int32) (x6 : Int32) (x7 : Int32) (x8 : Int32) (σ : zz_T), pX6_ask_125  Q K100 K113 n x2 x3 x4 x5 x6 x7 x8 σ → zz_V p l e rmX6_ask s m args below meth c (MQ below (va_Qi Q (zz_E Y) (zz_A Y)) args s 0 0 (zz_A Y)) 9 Y σ 125 [(0, .ref (Y.2.1 0)), (2, .int x2), (3, .int x3), (4, .int x4), (5, .int x5), (6, .int x6), (7, .int x7), (8, .int x8)] [] := by
  intro n
  induction n with
  | zero => intro x2 x3 x4 x5 x6 x7 x8 σ h; exact h.elim
  | succ n ih =>
    intro x2 x3 x4 x5 x6 x7 x8 σ h 
    unfold pX6_ask_125 at h
    refine zv_iload X dX6_ask_125 7 rfl rfl ?_
    refine zv_iload_n X dX6_ask_127 2 rfl rfl rfl ?_
    refine zv_icmp_ge (tgt := 179) X dX6_ask_128 (by decide) rfl (fun q128 => ?_) (fun q128 => ?_)
    · replace h := h.1 q128
      refine zv_iload X dX6_ask_179 6 rfl rfl ?_
      refine zv_iload X dX6_ask_181 4 rfl rfl ?_
      refine zv_icmp_le (tgt := 191) X dX6_ask_183 (by decide) rfl (fun q183 => ?_) (fun q183 => ?_)
      · replace h := h.1 q183
        refine zv_iload X dX6_ask_191 4 rfl rfl ?_
        refine zv_sub (lv2 := [(0, .ref (Y.2.1 0)), (2, .int x2), (3, .int x3), (4, .int x4), (6, .int x6)]) [0, 1, 2, 3, 5] rfl ?_
        exact vX6_ask_193 X hr hlk hJ hY hK100 hK113 x2 x3 x4 x6 x5 _ h
      · replace h := h.2 q183
        refine zv_iload X dX6_ask_186 6 rfl rfl ?_
        refine zv_goto (tgt := 193) X dX6_ask_188 (by decide) ?_
        refine zv_sub (lv2 := [(0, .ref (Y.2.1 0)), (2, .int x2), (3, .int x3), (4, .int x4), (6, .int x6)]) [0, 1, 2, 3, 5] rfl ?_
        exact vX6_ask_193 X hr hlk hJ hY hK100 hK113 x2 x3 x4 x6 x7 _ h
    · replace h := h.2 q128
      refine zv_iload X dX6_ask_131 6 rfl rfl ?_
      refine zv_aload_n X dX6_ask_133 0 rfl rfl rfl ?_
      refine zg_X6_28 (k := 0) X (zz_mo_o hY).1 (zz_mo_o hY).2 fl_X6_44 dX6_ask_134 rfl ?_
      refine zv_bipush (v := 41) X dX6_ask_137 (by decide) rfl ?_
      refine zv_iload X dX6_ask_139 5 rfl rfl ?_
      refine zv_imul X dX6_ask_141 rfl ?_
      refine zv_iload X dX6_ask_142 3 rfl rfl ?_
      refine zv_iadd X dX6_ask_144 rfl ?_
      obtain ⟨hi145, h⟩ := h
      refine zv_iald (k := 12) X (zz_mo_byPower hY).1 (zz_mo_byPower hY).2 hi145 dX6_ask_145 rfl ?_
      refine zv_aload_n X dX6_ask_146 0 rfl rfl rfl ?_
      refine zg_X6_28 (k := 0) X (zz_mo_o hY).1 (zz_mo_o hY).2 fl_X6_44 dX6_ask_147 rfl ?_
      refine zv_bipush (v := 41) X dX6_ask_150 (by decide) rfl ?_
      refine zv_iload X dX6_ask_152 7 rfl rfl ?_
      refine zv_imul X dX6_ask_154 rfl ?_
      refine zv_iload X dX6_ask_155 3 rfl rfl ?_
      refine zv_iadd X dX6_ask_157 rfl ?_
      obtain ⟨hi158, h⟩ := h
      refine zv_iald (k := 12) X (zz_mo_byPower hY).1 (zz_mo_byPower hY).2 hi158 dX6_ask_158 rfl ?_
      refine zv_icmp_ne (tgt := 166) X dX6_ask_159 (by decide) rfl (fun q159 => ?_) (fun q159 => ?_)
      · replace h := h.2 q159
        refine zv_iconst (v := 0) X dX6_ask_166 (by decide) rfl ?_
        refine zv_sub (lv2 := [(0, .ref (Y.2.1 0)), (2, .int x2), (3, .int x3), (4, .int x4), (5, .int x5), (6, .int x6), (8, .int x8)]) [0, 1, 2, 3, 4, 5, 7] rfl ?_
        exact vX6_ask_167 X hr hlk hJ hY hK100 hK113 ih x2 x3 x4 x5 x6 x8 x7 0 _ h
      · replace h := h.1 q159
        refine zv_iconst (v := 1) X dX6_ask_162 (by decide) rfl ?_
        refine zv_goto (tgt := 167) X dX6_ask_163 (by decide) ?_
        refine zv_sub (lv2 := [(0, .ref (Y.2.1 0)), (2, .int x2), (3, .int x3), (4, .int x4), (5, .int x5), (6, .int x6), (8, .int x8)]) [0, 1, 2, 3, 4, 5, 7] rfl ?_
        exact vX6_ask_167 X hr hlk hJ hY hK100 hK113 ih x2 x3 x4 x5 x6 x8 x7 1 _ h
def pX6_ask_113  (Q : Int32 → zz_T → Prop) (K100 : Int32 → Int32 → Int32 → zz_T → Prop) : Nat → Int32 → Int32 → Int32 → Int32 → Int32 → zz_T → Prop
  | 0, _, _, _, _, _, _ => False
  | n + 1, x2, x3, x4, x5, x6, σ =>
    ((x3 ≤ x6 → pX6_judges x4 x5 σ (fun s206 =>
    K100 x2 x3 (x4 + 1) s206)) ∧
    (¬ x3 ≤ x6 → ∃ n125, pX6_ask_125  Q K100 (pX6_ask_113  Q K100 n) n125 x2 x3 x4 x5 x6 0 0 σ))
set_option maxHeartbeats 4000000 in
set_option maxRecDepth 100000 in
theorem vX6_ask_113 {p : Program} {l : Launch} {e : Env} {s : State} {m : MethodId} {args : Array Value} {below : List Frame} {meth : Method} {c : Code} {Y : zz_Y}  {Q : Int32 → zz_T → Prop} {K100 : Int32 → Int32 → Int32 → zz_T → Prop} (X : zz_X p m c cX6_ask 9 s args RX6) (hr : meth.sig.returnType = (some .int)) (hlk : meth.locks = false) (hJ : zz_J Y) (hY : zz_mo Y) (hK100 : ∀ (x2 : Int32) (x3 : Int32) (x4 : Int32) (σ : zz_T), K100 x2 x3 x4 σ → zz_V p l e rmX6_ask s m args below meth c (MQ below (va_Qi Q (zz_E Y) (zz_A Y)) args s 0 0 (zz_A Y)) 9 Y σ 100 [(0, .ref (Y.2.1 0)), (2, .int x2), (3, .int x3), (4, .int x4)] []) : ∀ (n : Nat) (x2 : Int32) (x3 : Int32) (x4 : Int32) (x5 : Int32) (x6 : Int32) (σ : zz_T), pX6_ask_113  Q K100 n x2 x3 x4 x5 x6 σ → zz_V p l e rmX6_ask s m args below meth c (MQ below (va_Qi Q (zz_E Y) (zz_A Y)) args s 0 0 (zz_A Y)) 9 Y σ 113 [(0, .ref (Y.2.1 0)), (2, .int x2), (3, .int x3), (4, .int x4), (5, .int x5), (6, .int x6)] [] := by
  intro n
  induction n with
  | zero => intro x2 x3 x4 x5 x6 σ h; exact h.elim
  | succ n ih =>
    intro x2 x3 x4 x5 x6 σ h 
    unfold pX6_ask_113 at h
    refine zv_iload X dX6_ask_113 5 rfl rfl ?_
    refine zv_iload_n X dX6_ask_115 2 rfl rfl rfl ?_
    refine zv_icmp_ge (tgt := 201) X dX6_ask_116 (by decide) rfl (fun q116 => ?_) (fun q116 => ?_)
    · replace h := h.1 q116
      refine zv_aload_n X dX6_ask_201 0 rfl rfl rfl ?_
      refine zv_iload X dX6_ask_202 3 rfl rfl ?_
      refine zv_iload X dX6_ask_204 4 rfl rfl ?_
      refine zv_cVv (k := 0) (ci := 6) X [.int x4, .int x5] (kX6_judges l hJ x4 x5 hY h) jl_X6_261 ⟨rfl, rfl⟩ ⟨Nat.le_of_ble_eq_true rfl, Nat.le_of_ble_eq_true rfl⟩ (zz_mo_o hY).1 (by decide) (zz_mo_o hY).2 rfl rfl rfl (Nat.le_of_ble_eq_true rfl) dX6_ask_206 rfl (fun s206 h => ?_)
      refine zv_iinc (v := (x4 + 1)) (lv2 := [(4, .int (x4 + 1)), (0, .ref (Y.2.1 0)), (2, .int x2), (3, .int x3), (5, .int x5), (6, .int x6)]) X dX6_ask_209 3 rfl rfl (by decide) rfl rfl ?_
      refine zv_goto (tgt := 100) X dX6_ask_212 (by decide) ?_
      refine zv_sub (lv2 := [(0, .ref (Y.2.1 0)), (2, .int x2), (3, .int x3), (4, .int (x4 + 1))]) [1, 2, 3, 0] rfl ?_
      exact hK100 x2 x3 (x4 + 1) _ h
    · replace h := h.2 q116
      refine zv_iconst (v := 0) X dX6_ask_119 (by decide) rfl ?_
      refine zv_istore (lv2 := [(7, .int 0), (0, .ref (Y.2.1 0)), (2, .int x2), (3, .int x3), (4, .int x4), (5, .int x5), (6, .int x6)]) X dX6_ask_120 (by decide) rfl rfl ?_
      refine zv_iconst (v := 0) X dX6_ask_122 (by decide) rfl ?_
      refine zv_istore (lv2 := [(8, .int 0), (7, .int 0), (0, .ref (Y.2.1 0)), (2, .int x2), (3, .int x3), (4, .int x4), (5, .int x5), (6, .int x6)]) X dX6_ask_123 (by decide) rfl rfl ?_
      obtain ⟨n125, h⟩ := h
      refine zv_sub (lv2 := [(0, .ref (Y.2.1 0)), (2, .int x2), (3, .int x3), (4, .int x4), (5, .int x5), (6, .int x6), (7, .int 0), (8, .int 0)]) [2, 3, 4, 5, 6, 7, 1, 0] rfl ?_
      exact vX6_ask_125 X hr hlk hJ hY hK100 ih n125 x2 x3 x4 x5 x6 0 0 _ h
def pX6_ask_100  (Q : Int32 → zz_T → Prop) : Nat → Int32 → Int32 → Int32 → zz_T → Prop
  | 0, _, _, _, _ => False
  | n + 1, x2, x3, x4, σ =>
    ((40 < x4 → pX6_judged x2 σ (fun r217 s217 =>
    Q r217 s217)) ∧
    (¬ 40 < x4 → ∃ n113, pX6_ask_113  Q (pX6_ask_100  Q n) n113 x2 x3 x4 0 0 σ))
set_option maxHeartbeats 4000000 in
set_option maxRecDepth 100000 in
theorem vX6_ask_100 {p : Program} {l : Launch} {e : Env} {s : State} {m : MethodId} {args : Array Value} {below : List Frame} {meth : Method} {c : Code} {Y : zz_Y}  {Q : Int32 → zz_T → Prop} (X : zz_X p m c cX6_ask 9 s args RX6) (hr : meth.sig.returnType = (some .int)) (hlk : meth.locks = false) (hJ : zz_J Y) (hY : zz_mo Y)  : ∀ (n : Nat) (x2 : Int32) (x3 : Int32) (x4 : Int32) (σ : zz_T), pX6_ask_100  Q n x2 x3 x4 σ → zz_V p l e rmX6_ask s m args below meth c (MQ below (va_Qi Q (zz_E Y) (zz_A Y)) args s 0 0 (zz_A Y)) 9 Y σ 100 [(0, .ref (Y.2.1 0)), (2, .int x2), (3, .int x3), (4, .int x4)] [] := by
  intro n
  induction n with
  | zero => intro x2 x3 x4 σ h; exact h.elim
  | succ n ih =>
    intro x2 x3 x4 σ h 
    unfold pX6_ask_100 at h
    refine zv_iload X dX6_ask_100 3 rfl rfl ?_
    refine zv_bipush (v := 40) X dX6_ask_102 (by decide) rfl ?_
    refine zv_icmp_gt (tgt := 215) X dX6_ask_104 (by decide) rfl (fun q104 => ?_) (fun q104 => ?_)
    · replace h := h.1 q104
      refine zv_aload_n X dX6_ask_215 0 rfl rfl rfl ?_
      refine zv_iload_n X dX6_ask_216 1 rfl rfl rfl ?_
      refine zv_cVi (k := 0) (ci := 6) X [.int x2] (kX6_judged l hJ x2 hY h) jl_X6_265 ⟨rfl, rfl⟩ ⟨Nat.le_of_ble_eq_true rfl, Nat.le_of_ble_eq_true rfl⟩ (zz_mo_o hY).1 (by decide) (zz_mo_o hY).2 rfl rfl rfl (Nat.le_of_ble_eq_true rfl) dX6_ask_217 rfl (fun r217 s217 h => ?_)
      exact zv_iret X hr hlk h dX6_ask_220
    · replace h := h.2 q104
      refine zv_iconst (v := 0) X dX6_ask_107 (by decide) rfl ?_
      refine zv_istore (lv2 := [(5, .int 0), (0, .ref (Y.2.1 0)), (2, .int x2), (3, .int x3), (4, .int x4)]) X dX6_ask_108 (by decide) rfl rfl ?_
      refine zv_iconst (v := 0) X dX6_ask_110 (by decide) rfl ?_
      refine zv_istore (lv2 := [(6, .int 0), (5, .int 0), (0, .ref (Y.2.1 0)), (2, .int x2), (3, .int x3), (4, .int x4)]) X dX6_ask_111 (by decide) rfl rfl ?_
      obtain ⟨n113, h⟩ := h
      refine zv_sub (lv2 := [(0, .ref (Y.2.1 0)), (2, .int x2), (3, .int x3), (4, .int x4), (5, .int 0), (6, .int 0)]) [2, 3, 4, 5, 1, 0] rfl ?_
      exact vX6_ask_113 X hr hlk hJ hY ih n113 x2 x3 x4 0 0 _ h
def pX6_ask_86  (Q : Int32 → zz_T → Prop) (K22 : Int32 → Int32 → Int32 → Int32 → zz_T → Prop) (x1 : Int32) (x2 : Int32) (x3 : Int32) (x4 : Int32) (σ : zz_T) : Prop :=
    K22 x1 x2 x3 (x4 + 1) σ
set_option maxHeartbeats 4000000 in
set_option maxRecDepth 100000 in
theorem vX6_ask_86 {p : Program} {l : Launch} {e : Env} {s : State} {m : MethodId} {args : Array Value} {below : List Frame} {meth : Method} {c : Code} {Y : zz_Y}  {Q : Int32 → zz_T → Prop} {K22 : Int32 → Int32 → Int32 → Int32 → zz_T → Prop} (X : zz_X p m c cX6_ask 9 s args RX6) (hr : meth.sig.returnType = (some .int)) (hlk : meth.locks = false) (hJ : zz_J Y) (hY : zz_mo Y) (hK22 : ∀ (x1 : Int32) (x2 : Int32) (x3 : Int32) (x4 : Int32) (σ : zz_T), K22 x1 x2 x3 x4 σ → zz_V p l e rmX6_ask s m args below meth c (MQ below (va_Qi Q (zz_E Y) (zz_A Y)) args s 0 0 (zz_A Y)) 9 Y σ 22 [(0, .ref (Y.2.1 0)), (1, .int x1), (2, .int x2), (3, .int x3), (4, .int x4)] []) : ∀ (x1 : Int32) (x2 : Int32) (x3 : Int32) (x4 : Int32) (σ : zz_T), pX6_ask_86  Q K22 x1 x2 x3 x4 σ → zz_V p l e rmX6_ask s m args below meth c (MQ below (va_Qi Q (zz_E Y) (zz_A Y)) args s 0 0 (zz_A Y)) 9 Y σ 86 [(0, .ref (Y.2.1 0)), (1, .int x1), (2, .int x2), (3, .int x3), (4, .int x4)] [] := by
  intro x1 x2 x3 x4 σ h 
  unfold pX6_ask_86 at h
  refine zv_iinc (v := (x4 + 1)) (lv2 := [(4, .int (x4 + 1)), (0, .ref (Y.2.1 0)), (1, .int x1), (2, .int x2), (3, .int x3)]) X dX6_ask_86 4 rfl rfl (by decide) rfl rfl ?_
  refine zv_goto (tgt := 22) X dX6_ask_89 (by decide) ?_
  refine zv_sub (lv2 := [(0, .ref (Y.2.1 0)), (1, .int x1), (2, .int x2), (3, .int x3), (4, .int (x4 + 1))]) [1, 2, 3, 4, 0] rfl ?_
  exact hK22 x1 x2 x3 (x4 + 1) _ h
def pX6_ask_47  (Q : Int32 → zz_T → Prop) (K22 : Int32 → Int32 → Int32 → Int32 → zz_T → Prop) : Nat → Int32 → Int32 → Int32 → Int32 → Int32 → zz_T → Prop
  | 0, _, _, _, _, _, _ => False
  | n + 1, x1, x2, x3, x4, x5, σ =>
    ((40 < x5 → pX6_ask_86  Q K22 x1 x2 (x3 + 1) x4 σ) ∧
    (¬ 40 < x5 → vp_in ((3 * x5) + x1) 123 ∧
    vp_in ((41 * x3) + x5) 1271 ∧
    pX6_ask_47  Q K22 n x1 x2 x3 x4 (x5 + 1) (zz_i σ 12 (Int32.toNatClampNeg ((41 * x3) + x5)) (σ.1 11 (Int32.toNatClampNeg ((3 * x5) + x1))))))
set_option maxHeartbeats 4000000 in
set_option maxRecDepth 100000 in
theorem vX6_ask_47 {p : Program} {l : Launch} {e : Env} {s : State} {m : MethodId} {args : Array Value} {below : List Frame} {meth : Method} {c : Code} {Y : zz_Y}  {Q : Int32 → zz_T → Prop} {K22 : Int32 → Int32 → Int32 → Int32 → zz_T → Prop} (X : zz_X p m c cX6_ask 9 s args RX6) (hr : meth.sig.returnType = (some .int)) (hlk : meth.locks = false) (hJ : zz_J Y) (hY : zz_mo Y) (hK22 : ∀ (x1 : Int32) (x2 : Int32) (x3 : Int32) (x4 : Int32) (σ : zz_T), K22 x1 x2 x3 x4 σ → zz_V p l e rmX6_ask s m args below meth c (MQ below (va_Qi Q (zz_E Y) (zz_A Y)) args s 0 0 (zz_A Y)) 9 Y σ 22 [(0, .ref (Y.2.1 0)), (1, .int x1), (2, .int x2), (3, .int x3), (4, .int x4)] []) : ∀ (n : Nat) (x1 : Int32) (x2 : Int32) (x3 : Int32) (x4 : Int32) (x5 : Int32) (σ : zz_T), pX6_ask_47  Q K22 n x1 x2 x3 x4 x5 σ → zz_V p l e rmX6_ask s m args below meth c (MQ below (va_Qi Q (zz_E Y) (zz_A Y)) args s 0 0 (zz_A Y)) 9 Y σ 47 [(0, .ref (Y.2.1 0)), (1, .int x1), (2, .int x2), (3, .int x3), (4, .int x4), (5, .int x5)] [] := by
  intro n
  induction n with
  | zero => intro x1 x2 x3 x4 x5 σ h; exact h.elim
  | succ n ih =>
    intro x1 x2 x3 x4 x5 σ h 
    unfold pX6_ask_47 at h
    refine zv_iload X dX6_ask_47 5 rfl rfl ?_
    refine zv_bipush (v := 40) X dX6_ask_49 (by decide) rfl ?_
    refine zv_icmp_gt (tgt := 83) X dX6_ask_51 (by decide) rfl (fun q51 => ?_) (fun q51 => ?_)
    · replace h := h.1 q51
      refine zv_iinc (v := (x3 + 1)) (lv2 := [(3, .int (x3 + 1)), (0, .ref (Y.2.1 0)), (1, .int x1), (2, .int x2), (4, .int x4), (5, .int x5)]) X dX6_ask_83 3 rfl rfl (by decide) rfl rfl ?_
      refine zv_sub (lv2 := [(0, .ref (Y.2.1 0)), (1, .int x1), (2, .int x2), (3, .int (x3 + 1)), (4, .int x4)]) [1, 2, 3, 0, 4] rfl ?_
      exact vX6_ask_86 X hr hlk hJ hY hK22 x1 x2 (x3 + 1) x4 _ h
    · replace h := h.2 q51
      refine zv_aload_n X dX6_ask_54 0 rfl rfl rfl ?_
      refine zg_X6_28 (k := 0) X (zz_mo_o hY).1 (zz_mo_o hY).2 fl_X6_44 dX6_ask_55 rfl ?_
      refine zv_bipush (v := 41) X dX6_ask_58 (by decide) rfl ?_
      refine zv_iload_n X dX6_ask_60 3 rfl rfl rfl ?_
      refine zv_imul X dX6_ask_61 rfl ?_
      refine zv_iload X dX6_ask_62 5 rfl rfl ?_
      refine zv_iadd X dX6_ask_64 rfl ?_
      refine zv_aload_n X dX6_ask_65 0 rfl rfl rfl ?_
      refine zg_X6_27 (k := 0) X (zz_mo_o hY).1 (zz_mo_o hY).2 fl_X6_41 dX6_ask_66 rfl ?_
      refine zv_iconst (v := 3) X dX6_ask_69 (by decide) rfl ?_
      refine zv_iload X dX6_ask_70 5 rfl rfl ?_
      refine zv_imul X dX6_ask_72 rfl ?_
      refine zv_iload_n X dX6_ask_73 1 rfl rfl rfl ?_
      refine zv_iadd X dX6_ask_74 rfl ?_
      obtain ⟨hi75, h⟩ := h
      refine zv_iald (k := 11) X (zz_mo_blacks hY).1 (zz_mo_blacks hY).2 hi75 dX6_ask_75 rfl ?_
      obtain ⟨hi76, h⟩ := h
      refine zv_iast (k := 12) X (zz_mo_byPower hY).1 (zz_mo_byPower hY).2 hi76 dX6_ask_76 rfl ?_
      refine zv_iinc (v := (x5 + 1)) (lv2 := [(5, .int (x5 + 1)), (0, .ref (Y.2.1 0)), (1, .int x1), (2, .int x2), (3, .int x3), (4, .int x4)]) X dX6_ask_77 5 rfl rfl (by decide) rfl rfl ?_
      refine zv_goto (tgt := 47) X dX6_ask_80 (by decide) ?_
      refine zv_sub (lv2 := [(0, .ref (Y.2.1 0)), (1, .int x1), (2, .int x2), (3, .int x3), (4, .int x4), (5, .int (x5 + 1))]) [1, 2, 3, 4, 5, 0] rfl ?_
      exact ih x1 x2 x3 x4 (x5 + 1) _ h
def pX6_ask_22  (Q : Int32 → zz_T → Prop) : Nat → Int32 → Int32 → Int32 → Int32 → zz_T → Prop
  | 0, _, _, _, _, _ => False
  | n + 1, x1, x2, x3, x4, σ =>
    ((30 < x4 → pX6_startsJudging x3 σ (fun s94 =>
    ∃ n100, pX6_ask_100  Q n100 x2 x3 0 s94)) ∧
    (¬ 30 < x4 → pX6_isSoWith ((11 * x1) + 1) x4 σ (fun r38 s38 =>
    ((r38 = 0 → pX6_ask_86  Q (pX6_ask_22  Q n) x1 x2 x3 x4 s38) ∧
    (¬ r38 = 0 → ∃ n47, pX6_ask_47  Q (pX6_ask_22  Q n) n47 x1 x2 x3 x4 0 s38)))))
set_option maxHeartbeats 4000000 in
set_option maxRecDepth 100000 in
theorem vX6_ask_22 {p : Program} {l : Launch} {e : Env} {s : State} {m : MethodId} {args : Array Value} {below : List Frame} {meth : Method} {c : Code} {Y : zz_Y}  {Q : Int32 → zz_T → Prop} (X : zz_X p m c cX6_ask 9 s args RX6) (hr : meth.sig.returnType = (some .int)) (hlk : meth.locks = false) (hJ : zz_J Y) (hY : zz_mo Y)  : ∀ (n : Nat) (x1 : Int32) (x2 : Int32) (x3 : Int32) (x4 : Int32) (σ : zz_T), pX6_ask_22  Q n x1 x2 x3 x4 σ → zz_V p l e rmX6_ask s m args below meth c (MQ below (va_Qi Q (zz_E Y) (zz_A Y)) args s 0 0 (zz_A Y)) 9 Y σ 22 [(0, .ref (Y.2.1 0)), (1, .int x1), (2, .int x2), (3, .int x3), (4, .int x4)] [] := by
  intro n
  induction n with
  | zero => intro x1 x2 x3 x4 σ h; exact h.elim
  | succ n ih =>
    intro x1 x2 x3 x4 σ h 
    unfold pX6_ask_22 at h
    refine zv_iload X dX6_ask_22 4 rfl rfl ?_
    refine zv_bipush (v := 30) X dX6_ask_24 (by decide) rfl ?_
    refine zv_icmp_gt (tgt := 92) X dX6_ask_26 (by decide) rfl (fun q26 => ?_) (fun q26 => ?_)
    · replace h := h.1 q26
      refine zv_aload_n X dX6_ask_92 0 rfl rfl rfl ?_
      refine zv_iload_n X dX6_ask_93 3 rfl rfl rfl ?_
      refine zv_cVv (k := 0) (ci := 6) X [.int x3] (kX6_startsJudging l hJ x3 hY h) jl_X6_258 ⟨rfl, rfl⟩ ⟨Nat.le_of_ble_eq_true rfl, Nat.le_of_ble_eq_true rfl⟩ (zz_mo_o hY).1 (by decide) (zz_mo_o hY).2 rfl rfl rfl (Nat.le_of_ble_eq_true rfl) dX6_ask_94 rfl (fun s94 h => ?_)
      refine zv_iconst (v := 0) X dX6_ask_97 (by decide) rfl ?_
      refine zv_istore (lv2 := [(4, .int 0), (0, .ref (Y.2.1 0)), (1, .int x1), (2, .int x2), (3, .int x3)]) X dX6_ask_98 (by decide) rfl rfl ?_
      obtain ⟨n100, h⟩ := h
      refine zv_sub (lv2 := [(0, .ref (Y.2.1 0)), (2, .int x2), (3, .int x3), (4, .int 0)]) [1, 3, 4, 0] rfl ?_
      exact vX6_ask_100 X hr hlk hJ hY n100 x2 x3 0 _ h
    · replace h := h.2 q26
      refine zv_aload_n X dX6_ask_29 0 rfl rfl rfl ?_
      refine zv_bipush (v := 11) X dX6_ask_30 (by decide) rfl ?_
      refine zv_iload_n X dX6_ask_32 1 rfl rfl rfl ?_
      refine zv_imul X dX6_ask_33 rfl ?_
      refine zv_iconst (v := 1) X dX6_ask_34 (by decide) rfl ?_
      refine zv_iadd X dX6_ask_35 rfl ?_
      refine zv_iload X dX6_ask_36 4 rfl rfl ?_
      refine zv_cVi (k := 0) (ci := 6) X [.int ((11 * x1) + 1), .int x4] (kX6_isSoWith l hJ ((11 * x1) + 1) x4 hY h) jl_X6_304 ⟨rfl, rfl⟩ ⟨Nat.le_of_ble_eq_true rfl, Nat.le_of_ble_eq_true rfl⟩ (zz_mo_o hY).1 (by decide) (zz_mo_o hY).2 rfl rfl rfl (Nat.le_of_ble_eq_true rfl) dX6_ask_38 rfl (fun r38 s38 h => ?_)
      refine zv_if_eq (tgt := 86) X dX6_ask_41 (by decide) rfl (fun q41 => ?_) (fun q41 => ?_)
      · replace h := h.1 q41
        exact vX6_ask_86 X hr hlk hJ hY ih x1 x2 x3 x4 _ h
      · replace h := h.2 q41
        refine zv_iconst (v := 0) X dX6_ask_44 (by decide) rfl ?_
        refine zv_istore (lv2 := [(5, .int 0), (0, .ref (Y.2.1 0)), (1, .int x1), (2, .int x2), (3, .int x3), (4, .int x4)]) X dX6_ask_45 (by decide) rfl rfl ?_
        obtain ⟨n47, h⟩ := h
        refine zv_sub (lv2 := [(0, .ref (Y.2.1 0)), (1, .int x1), (2, .int x2), (3, .int x3), (4, .int x4), (5, .int 0)]) [1, 2, 3, 4, 5, 0] rfl ?_
        exact vX6_ask_47 X hr hlk hJ hY ih n47 x1 x2 x3 x4 0 _ h
def pX6_ask (x1 : Int32) (x2 : Int32) (σ : zz_T) (Q : Int32 → zz_T → Prop) : Prop :=
    pX6_isHead x1 σ (fun r2 s2 =>
    ((r2 = 0 → Q (-1) s2) ∧
    (¬ r2 = 0 → pX6_isPart x2 s2 (fun r9 s9 =>
    ((r9 = 0 → Q (-1) s9) ∧
    (¬ r9 = 0 → ∃ n22, pX6_ask_22  Q n22 x1 x2 0 0 s9))))))
set_option maxHeartbeats 4000000 in
set_option maxRecDepth 100000 in
theorem kX6_ask (l : Launch) {Y : zz_Y} (hJ : zz_J Y) (x1 : Int32) (x2 : Int32) (hY : zz_mo Y) {σ : zz_T} {Q : Int32 → zz_T → Prop} (h : pX6_ask x1 x2 σ Q) : zz_Mi l yX6_ask cX6_ask 9 (some .int) rmX6_ask Y [.ref (Y.2.1 0), .int x1, .int x2] σ Q := by
  refine zz_Mi.start (by decide) hJ (Nat.le_of_ble_eq_true rfl) (fun p e s m below meth c X hr hlk => ?_)
  have X : zz_X p m c cX6_ask 9 s _ RX6 := X
  refine zv_sub (lv2 := [(0, .ref (Y.2.1 0)), (1, .int x1), (2, .int x2)]) [0, 1, 2] rfl ?_
  unfold pX6_ask at h
  refine zv_aload_n X dX6_ask_0 0 rfl rfl rfl ?_
  refine zv_iload_n X dX6_ask_1 1 rfl rfl rfl ?_
  refine zv_cVi (k := 0) (ci := 6) X [.int x1] (kX6_isHead l hJ x1 hY h) jl_X6_215 ⟨rfl, rfl⟩ ⟨Nat.le_of_ble_eq_true rfl, Nat.le_of_ble_eq_true rfl⟩ (zz_mo_o hY).1 (by decide) (zz_mo_o hY).2 rfl rfl rfl (Nat.le_of_ble_eq_true rfl) dX6_ask_2 rfl (fun r2 s2 h => ?_)
  refine zv_if_eq (tgt := 15) X dX6_ask_5 (by decide) rfl (fun q5 => ?_) (fun q5 => ?_)
  · replace h := h.1 q5
    refine zv_iconst (v := (-1)) X dX6_ask_15 (by decide) rfl ?_
    exact zv_iret X hr hlk h dX6_ask_16
  · replace h := h.2 q5
    refine zv_iload_n X dX6_ask_8 2 rfl rfl rfl ?_
    refine zv_cSi X [.int x2] (kX6_isPart l hJ x2  h) jl_X6_227 ⟨rfl, rfl⟩ ⟨Nat.le_of_ble_eq_true rfl, Nat.le_of_ble_eq_true rfl⟩ rfl rfl (Nat.le_of_ble_eq_true rfl) dX6_ask_9 rfl (fun r9 s9 h => ?_)
    refine zv_if_ne (tgt := 17) X dX6_ask_12 (by decide) rfl (fun q12 => ?_) (fun q12 => ?_)
    · replace h := h.2 q12
      refine zv_iconst (v := 0) X dX6_ask_17 (by decide) rfl ?_
      refine zv_istore_n (lv2 := [(3, .int 0), (0, .ref (Y.2.1 0)), (1, .int x1), (2, .int x2)]) X dX6_ask_18 rfl (by decide) rfl rfl ?_
      refine zv_iconst (v := 0) X dX6_ask_19 (by decide) rfl ?_
      refine zv_istore (lv2 := [(4, .int 0), (3, .int 0), (0, .ref (Y.2.1 0)), (1, .int x1), (2, .int x2)]) X dX6_ask_20 (by decide) rfl rfl ?_
      obtain ⟨n22, h⟩ := h
      refine zv_sub (lv2 := [(0, .ref (Y.2.1 0)), (1, .int x1), (2, .int x2), (3, .int 0), (4, .int 0)]) [2, 3, 4, 1, 0] rfl ?_
      exact vX6_ask_22 X hr hlk hJ hY n22 x1 x2 0 0 _ h
    · replace h := h.1 q12
      refine zv_iconst (v := (-1)) X dX6_ask_15 (by decide) rfl ?_
      exact zv_iret X hr hlk h dX6_ask_16
def rmX6_drift : Room := { frames := 4, cells := 0, slots := 0, locals := 102 }
def pX6_drift_99  (Q : Int32 → zz_T → Prop) : Nat → Int32 → Int32 → Int32 → zz_T → Prop
  | 0, _, _, _, _ => False
  | n + 1, x3, x5, x6, σ =>
    vp_in 33 210 ∧
    (((σ.1 1 (Int32.toNatClampNeg 33)) ≤ x6 → ((x3 = 0 → Q (σ.1 0 14) σ) ∧
    (¬ x3 = 0 → Q x5 σ))) ∧
    (¬ (σ.1 1 (Int32.toNatClampNeg 33)) ≤ x6 → pX6_heatsOf x6 σ (fun r116 s116 =>
    pX6_drift_99  Q n x3 (x5 + r116) (x6 + 1) s116)))
set_option maxHeartbeats 4000000 in
set_option maxRecDepth 100000 in
theorem vX6_drift_99 {p : Program} {l : Launch} {e : Env} {s : State} {m : MethodId} {args : Array Value} {below : List Frame} {meth : Method} {c : Code} {Y : zz_Y}  {Q : Int32 → zz_T → Prop} (X : zz_X p m c cX6_drift 8 s args RX6) (hr : meth.sig.returnType = (some .int)) (hlk : meth.locks = false) (hJ : zz_J Y) (hY : zz_mo Y)  : ∀ (n : Nat) (x3 : Int32) (x5 : Int32) (x6 : Int32) (σ : zz_T), pX6_drift_99  Q n x3 x5 x6 σ → zz_V p l e rmX6_drift s m args below meth c (MQ below (va_Qi Q (zz_E Y) (zz_A Y)) args s 0 0 (zz_A Y)) 8 Y σ 99 [(0, .ref (Y.2.1 0)), (3, .int x3), (5, .int x5), (6, .int x6)] [] := by
  intro n
  induction n with
  | zero => intro x3 x5 x6 σ h; exact h.elim
  | succ n ih =>
    intro x3 x5 x6 σ h 
    unfold pX6_drift_99 at h
    refine zv_iload X dX6_drift_99 3 rfl rfl ?_
    refine zv_aload_n X dX6_drift_101 0 rfl rfl rfl ?_
    refine zg_X6_0 (k := 0) X (zz_mo_o hY).1 (zz_mo_o hY).2 fl_X6_7 dX6_drift_102 rfl ?_
    refine zv_bipush (v := 33) X dX6_drift_105 (by decide) rfl ?_
    obtain ⟨hi107, h⟩ := h
    refine zv_iald (k := 1) X (zz_mo_st hY).1 (zz_mo_st hY).2 hi107 dX6_drift_107 rfl ?_
    refine zv_icmp_ge (tgt := 128) X dX6_drift_108 (by decide) rfl (fun q108 => ?_) (fun q108 => ?_)
    · replace h := h.1 q108
      refine zv_iload_n X dX6_drift_128 1 rfl rfl rfl ?_
      refine zv_if_ne (tgt := 139) X dX6_drift_129 (by decide) rfl (fun q129 => ?_) (fun q129 => ?_)
      · replace h := h.2 q129
        refine zv_iload X dX6_drift_139 2 rfl rfl ?_
        exact zv_iret X hr hlk h dX6_drift_141
      · replace h := h.1 q129
        refine zv_aload_n X dX6_drift_132 0 rfl rfl rfl ?_
        refine zg_X6_14 (k := 0) X (zz_mo_o hY).1 (zz_mo_o hY).2 fl_X6_149 dX6_drift_133 rfl ?_
        refine zv_goto (tgt := 141) X dX6_drift_136 (by decide) ?_
        exact zv_iret X hr hlk h dX6_drift_141
    · replace h := h.2 q108
      refine zv_iload X dX6_drift_111 2 rfl rfl ?_
      refine zv_aload_n X dX6_drift_113 0 rfl rfl rfl ?_
      refine zv_iload X dX6_drift_114 3 rfl rfl ?_
      refine zv_cVi (k := 0) (ci := 6) X [.int x6] (kX6_heatsOf l hJ x6 hY h) jl_X6_221 ⟨rfl, rfl⟩ ⟨Nat.le_of_ble_eq_true rfl, Nat.le_of_ble_eq_true rfl⟩ (zz_mo_o hY).1 (by decide) (zz_mo_o hY).2 rfl rfl rfl (Nat.le_of_ble_eq_true rfl) dX6_drift_116 rfl (fun r116 s116 h => ?_)
      refine zv_iadd X dX6_drift_119 rfl ?_
      refine zv_istore (lv2 := [(5, .int (x5 + r116)), (0, .ref (Y.2.1 0)), (3, .int x3), (6, .int x6)]) X dX6_drift_120 (by decide) rfl rfl ?_
      refine zv_iinc (v := (x6 + 1)) (lv2 := [(6, .int (x6 + 1)), (5, .int (x5 + r116)), (0, .ref (Y.2.1 0)), (3, .int x3)]) X dX6_drift_122 3 rfl rfl (by decide) rfl rfl ?_
      refine zv_goto (tgt := 99) X dX6_drift_125 (by decide) ?_
      refine zv_sub (lv2 := [(0, .ref (Y.2.1 0)), (3, .int x3), (5, .int (x5 + r116)), (6, .int (x6 + 1))]) [2, 3, 1, 0] rfl ?_
      exact ih x3 (x5 + r116) (x6 + 1) _ h
def pX6_drift_47  (Q : Int32 → zz_T → Prop) : Nat → Int32 → Int32 → Int32 → Int32 → Int32 → zz_T → Prop
  | 0, _, _, _, _, _, _ => False
  | n + 1, x2, x3, x4, x5, x6, σ =>
    ((x2 ≤ x6 → ∃ n99, pX6_drift_99  Q n99 x3 x5 0 σ) ∧
    (¬ x2 ≤ x6 → pX6_rowGoes ((((((x4 * 1103515245) + 12345) >>> (16 &&& (31 : Int32))) &&& 32767) / 4) - (((((x4 * 1103515245) + 12345) >>> (16 &&& (31 : Int32))) &&& 32767) / 4) / 256 * 256) 0 0 σ (fun s87 =>
    pX6_drift_47  Q n x2 x3 ((x4 * 1103515245) + 12345) x5 (x6 + 1) s87)))
set_option maxHeartbeats 4000000 in
set_option maxRecDepth 100000 in
theorem vX6_drift_47 {p : Program} {l : Launch} {e : Env} {s : State} {m : MethodId} {args : Array Value} {below : List Frame} {meth : Method} {c : Code} {Y : zz_Y}  {Q : Int32 → zz_T → Prop} (X : zz_X p m c cX6_drift 8 s args RX6) (hr : meth.sig.returnType = (some .int)) (hlk : meth.locks = false) (hJ : zz_J Y) (hY : zz_mo Y)  : ∀ (n : Nat) (x2 : Int32) (x3 : Int32) (x4 : Int32) (x5 : Int32) (x6 : Int32) (σ : zz_T), pX6_drift_47  Q n x2 x3 x4 x5 x6 σ → zz_V p l e rmX6_drift s m args below meth c (MQ below (va_Qi Q (zz_E Y) (zz_A Y)) args s 0 0 (zz_A Y)) 8 Y σ 47 [(0, .ref (Y.2.1 0)), (2, .int x2), (3, .int x3), (4, .int x4), (5, .int x5), (6, .int x6)] [] := by
  intro n
  induction n with
  | zero => intro x2 x3 x4 x5 x6 σ h; exact h.elim
  | succ n ih =>
    intro x2 x3 x4 x5 x6 σ h 
    unfold pX6_drift_47 at h
    refine zv_iload X dX6_drift_47 5 rfl rfl ?_
    refine zv_iload_n X dX6_drift_49 1 rfl rfl rfl ?_
    refine zv_icmp_ge (tgt := 96) X dX6_drift_50 (by decide) rfl (fun q50 => ?_) (fun q50 => ?_)
    · replace h := h.1 q50
      refine zv_iconst (v := 0) X dX6_drift_96 (by decide) rfl ?_
      refine zv_istore (lv2 := [(6, .int 0), (0, .ref (Y.2.1 0)), (2, .int x2), (3, .int x3), (4, .int x4), (5, .int x5)]) X dX6_drift_97 (by decide) rfl rfl ?_
      obtain ⟨n99, h⟩ := h
      refine zv_sub (lv2 := [(0, .ref (Y.2.1 0)), (3, .int x3), (5, .int x5), (6, .int 0)]) [1, 3, 5, 0] rfl ?_
      exact vX6_drift_99 X hr hlk hJ hY n99 x3 x5 0 _ h
    · replace h := h.2 q50
      refine zv_iload X dX6_drift_53 3 rfl rfl ?_
      refine zv_ldcw (v := 1103515245) X dX6_drift_55 co_X6_311 rfl ?_
      refine zv_imul X dX6_drift_58 rfl ?_
      refine zv_sipush (v := 12345) X dX6_drift_59 (by decide) rfl ?_
      refine zv_iadd X dX6_drift_62 rfl ?_
      refine zv_istore (lv2 := [(4, .int ((x4 * 1103515245) + 12345)), (0, .ref (Y.2.1 0)), (2, .int x2), (3, .int x3), (5, .int x5), (6, .int x6)]) X dX6_drift_63 (by decide) rfl rfl ?_
      refine zv_iload X dX6_drift_65 0 rfl rfl ?_
      refine zv_bipush (v := 16) X dX6_drift_67 (by decide) rfl ?_
      refine zv_ishr X dX6_drift_69 rfl ?_
      refine zv_sipush (v := 32767) X dX6_drift_70 (by decide) rfl ?_
      refine zv_iand X dX6_drift_73 rfl ?_
      refine zv_istore (lv2 := [(7, .int ((((x4 * 1103515245) + 12345) >>> (16 &&& (31 : Int32))) &&& 32767)), (4, .int ((x4 * 1103515245) + 12345)), (0, .ref (Y.2.1 0)), (2, .int x2), (3, .int x3), (5, .int x5), (6, .int x6)]) X dX6_drift_74 (by decide) rfl rfl ?_
      refine zv_aload_n X dX6_drift_76 2 rfl rfl rfl ?_
      refine zv_iload X dX6_drift_77 0 rfl rfl ?_
      refine zv_iconst (v := 4) X dX6_drift_79 (by decide) rfl ?_
      refine zv_idiv X dX6_drift_80 (by decide) rfl ?_
      refine zv_sipush (v := 256) X dX6_drift_81 (by decide) rfl ?_
      refine zv_irem X dX6_drift_84 (by decide) rfl ?_
      refine zv_iconst (v := 0) X dX6_drift_85 (by decide) rfl ?_
      refine zv_iconst (v := 0) X dX6_drift_86 (by decide) rfl ?_
      refine zv_cVv (k := 0) (ci := 6) X [.int ((((((x4 * 1103515245) + 12345) >>> (16 &&& (31 : Int32))) &&& 32767) / 4) - (((((x4 * 1103515245) + 12345) >>> (16 &&& (31 : Int32))) &&& 32767) / 4) / 256 * 256), .int 0, .int 0] (kX6_rowGoes l hJ ((((((x4 * 1103515245) + 12345) >>> (16 &&& (31 : Int32))) &&& 32767) / 4) - (((((x4 * 1103515245) + 12345) >>> (16 &&& (31 : Int32))) &&& 32767) / 4) / 256 * 256) 0 0 hY h) jl_X6_202 ⟨rfl, rfl⟩ ⟨Nat.le_of_ble_eq_true rfl, Nat.le_of_ble_eq_true rfl⟩ (zz_mo_o hY).1 (by decide) (zz_mo_o hY).2 rfl rfl rfl (Nat.le_of_ble_eq_true rfl) dX6_drift_87 rfl (fun s87 h => ?_)
      refine zv_iinc (v := (x6 + 1)) (lv2 := [(6, .int (x6 + 1)), (7, .int ((((x4 * 1103515245) + 12345) >>> (16 &&& (31 : Int32))) &&& 32767)), (4, .int ((x4 * 1103515245) + 12345)), (0, .ref (Y.2.1 0)), (2, .int x2), (3, .int x3), (5, .int x5)]) X dX6_drift_90 6 rfl rfl (by decide) rfl rfl ?_
      refine zv_goto (tgt := 47) X dX6_drift_93 (by decide) ?_
      refine zv_sub (lv2 := [(0, .ref (Y.2.1 0)), (2, .int x2), (3, .int x3), (4, .int ((x4 * 1103515245) + 12345)), (5, .int x5), (6, .int (x6 + 1))]) [3, 4, 5, 2, 6, 0] rfl ?_
      exact ih x2 x3 ((x4 * 1103515245) + 12345) x5 (x6 + 1) _ h
def pX6_drift (x1 : Int32) (x2 : Int32) (x3 : Int32) (σ : zz_T) (Q : Int32 → zz_T → Prop) : Prop :=
    pX6_in (Int32.toInt64 x2) 1 60 σ (fun r6 s6 =>
    ((r6 = 0 → Q (-1) s6) ∧
    (¬ r6 = 0 → pX6_isPart x3 s6 (fun r13 s13 =>
    ((r13 = 0 → Q (-1) s13) ∧
    (¬ r13 = 0 → vp_in 33 210 ∧
    (((s13.1 1 (Int32.toNatClampNeg 33)) = 0 → Q (-2) s13) ∧
    (¬ (s13.1 1 (Int32.toNatClampNeg 33)) = 0 → pX6_starts s13 (fun s41 =>
    ∃ n47, pX6_drift_47  Q n47 x2 x3 x1 0 0 s41)))))))))
set_option maxHeartbeats 4000000 in
set_option maxRecDepth 100000 in
theorem kX6_drift (l : Launch) {Y : zz_Y} (hJ : zz_J Y) (x1 : Int32) (x2 : Int32) (x3 : Int32) (hY : zz_mo Y) {σ : zz_T} {Q : Int32 → zz_T → Prop} (h : pX6_drift x1 x2 x3 σ Q) : zz_Mi l yX6_drift cX6_drift 8 (some .int) rmX6_drift Y [.ref (Y.2.1 0), .int x1, .int x2, .int x3] σ Q := by
  refine zz_Mi.start (by decide) hJ (Nat.le_of_ble_eq_true rfl) (fun p e s m below meth c X hr hlk => ?_)
  have X : zz_X p m c cX6_drift 8 s _ RX6 := X
  refine zv_sub (lv2 := [(0, .ref (Y.2.1 0)), (1, .int x1), (2, .int x2), (3, .int x3)]) [0, 1, 2, 3] rfl ?_
  unfold pX6_drift at h
  refine zv_iload_n X dX6_drift_0 2 rfl rfl rfl ?_
  refine zv_i2l X dX6_drift_1 rfl ?_
  refine zv_lconst (v := 1) X dX6_drift_2 (by decide) rfl ?_
  refine zv_ldc2 (v := 60) X dX6_drift_3 co_X6_244 rfl ?_
  refine zv_cSi X [.long (Int32.toInt64 x2), .long 1, .long 60] (kX6_in l hJ (Int32.toInt64 x2) 1 60  h) jl_X6_67 ⟨rfl, rfl⟩ ⟨Nat.le_of_ble_eq_true rfl, Nat.le_of_ble_eq_true rfl⟩ rfl rfl (Nat.le_of_ble_eq_true rfl) dX6_drift_6 rfl (fun r6 s6 h => ?_)
  refine zv_if_eq (tgt := 19) X dX6_drift_9 (by decide) rfl (fun q9 => ?_) (fun q9 => ?_)
  · replace h := h.1 q9
    refine zv_iconst (v := (-1)) X dX6_drift_19 (by decide) rfl ?_
    exact zv_iret X hr hlk h dX6_drift_20
  · replace h := h.2 q9
    refine zv_iload_n X dX6_drift_12 3 rfl rfl rfl ?_
    refine zv_cSi X [.int x3] (kX6_isPart l hJ x3  h) jl_X6_227 ⟨rfl, rfl⟩ ⟨Nat.le_of_ble_eq_true rfl, Nat.le_of_ble_eq_true rfl⟩ rfl rfl (Nat.le_of_ble_eq_true rfl) dX6_drift_13 rfl (fun r13 s13 h => ?_)
    refine zv_if_ne (tgt := 21) X dX6_drift_16 (by decide) rfl (fun q16 => ?_) (fun q16 => ?_)
    · replace h := h.2 q16
      refine zv_aload_n X dX6_drift_21 0 rfl rfl rfl ?_
      refine zg_X6_0 (k := 0) X (zz_mo_o hY).1 (zz_mo_o hY).2 fl_X6_7 dX6_drift_22 rfl ?_
      refine zv_bipush (v := 33) X dX6_drift_25 (by decide) rfl ?_
      obtain ⟨hi27, h⟩ := h
      refine zv_iald (k := 1) X (zz_mo_st hY).1 (zz_mo_st hY).2 hi27 dX6_drift_27 rfl ?_
      refine zv_if_ne (tgt := 34) X dX6_drift_28 (by decide) rfl (fun q28 => ?_) (fun q28 => ?_)
      · replace h := h.2 q28
        refine zv_iload_n X dX6_drift_34 1 rfl rfl rfl ?_
        refine zv_istore (lv2 := [(4, .int x1), (0, .ref (Y.2.1 0)), (1, .int x1), (2, .int x2), (3, .int x3)]) X dX6_drift_35 (by decide) rfl rfl ?_
        refine zv_iconst (v := 0) X dX6_drift_37 (by decide) rfl ?_
        refine zv_istore (lv2 := [(5, .int 0), (4, .int x1), (0, .ref (Y.2.1 0)), (1, .int x1), (2, .int x2), (3, .int x3)]) X dX6_drift_38 (by decide) rfl rfl ?_
        refine zv_aload_n X dX6_drift_40 2 rfl rfl rfl ?_
        refine zv_cVv (k := 0) (ci := 6) X [] (kX6_starts l hJ  hY h) jl_X6_209 ⟨rfl, rfl⟩ ⟨Nat.le_of_ble_eq_true rfl, Nat.le_of_ble_eq_true rfl⟩ (zz_mo_o hY).1 (by decide) (zz_mo_o hY).2 rfl rfl rfl (Nat.le_of_ble_eq_true rfl) dX6_drift_41 rfl (fun s41 h => ?_)
        refine zv_iconst (v := 0) X dX6_drift_44 (by decide) rfl ?_
        refine zv_istore (lv2 := [(6, .int 0), (5, .int 0), (4, .int x1), (0, .ref (Y.2.1 0)), (1, .int x1), (2, .int x2), (3, .int x3)]) X dX6_drift_45 (by decide) rfl rfl ?_
        obtain ⟨n47, h⟩ := h
        refine zv_sub (lv2 := [(0, .ref (Y.2.1 0)), (2, .int x2), (3, .int x3), (4, .int x1), (5, .int 0), (6, .int 0)]) [3, 5, 6, 2, 1, 0] rfl ?_
        exact vX6_drift_47 X hr hlk hJ hY n47 x2 x3 x1 0 0 _ h
      · replace h := h.1 q28
        refine zv_bipush (v := (-2)) X dX6_drift_31 (by decide) rfl ?_
        exact zv_iret X hr hlk h dX6_drift_33
    · replace h := h.1 q16
      refine zv_iconst (v := (-1)) X dX6_drift_19 (by decide) rfl ?_
      exact zv_iret X hr hlk h dX6_drift_20
def rmX6_copies : Room := { frames := 0, cells := 0, slots := 0, locals := 0 }
def pX6_copies_2  (Q : zz_T → Prop) : Nat → Int32 → Int32 → Int32 → zz_T → Prop
  | 0, _, _, _, _ => False
  | n + 1, x1, x2, x3, σ =>
    ((70 ≤ x3 → Q σ) ∧
    (¬ 70 ≤ x3 → vp_in (x2 + x3) 210 ∧
    vp_in (x1 + x3) 210 ∧
    pX6_copies_2  Q n x1 x2 (x3 + 1) (zz_i σ 1 (Int32.toNatClampNeg (x1 + x3)) (σ.1 1 (Int32.toNatClampNeg (x2 + x3))))))
set_option maxHeartbeats 4000000 in
set_option maxRecDepth 100000 in
theorem vX6_copies_2 {p : Program} {l : Launch} {e : Env} {s : State} {m : MethodId} {args : Array Value} {below : List Frame} {meth : Method} {c : Code} {Y : zz_Y}  {Q : zz_T → Prop} (X : zz_X p m c cX6_copies 4 s args RX6) (hr : meth.sig.returnType = none) (hlk : meth.locks = false) (hJ : zz_J Y) (hY : zz_mo Y)  : ∀ (n : Nat) (x1 : Int32) (x2 : Int32) (x3 : Int32) (σ : zz_T), pX6_copies_2  Q n x1 x2 x3 σ → zz_V p l e rmX6_copies s m args below meth c (MQ below (va_Qv Q (zz_E Y) (zz_A Y)) args s 0 0 (zz_A Y)) 4 Y σ 2 [(0, .ref (Y.2.1 0)), (1, .int x1), (2, .int x2), (3, .int x3)] [] := by
  intro n
  induction n with
  | zero => intro x1 x2 x3 σ h; exact h.elim
  | succ n ih =>
    intro x1 x2 x3 σ h 
    unfold pX6_copies_2 at h
    refine zv_iload_n X dX6_copies_2 3 rfl rfl rfl ?_
    refine zv_bipush (v := 70) X dX6_copies_3 (by decide) rfl ?_
    refine zv_icmp_ge (tgt := 30) X dX6_copies_5 (by decide) rfl (fun q5 => ?_) (fun q5 => ?_)
    · replace h := h.1 q5
      exact zv_vret X hr hlk h dX6_copies_30
    · replace h := h.2 q5
      refine zv_aload_n X dX6_copies_8 0 rfl rfl rfl ?_
      refine zg_X6_0 (k := 0) X (zz_mo_o hY).1 (zz_mo_o hY).2 fl_X6_7 dX6_copies_9 rfl ?_
      refine zv_iload_n X dX6_copies_12 1 rfl rfl rfl ?_
      refine zv_iload_n X dX6_copies_13 3 rfl rfl rfl ?_
      refine zv_iadd X dX6_copies_14 rfl ?_
      refine zv_aload_n X dX6_copies_15 0 rfl rfl rfl ?_
      refine zg_X6_0 (k := 0) X (zz_mo_o hY).1 (zz_mo_o hY).2 fl_X6_7 dX6_copies_16 rfl ?_
      refine zv_iload_n X dX6_copies_19 2 rfl rfl rfl ?_
      refine zv_iload_n X dX6_copies_20 3 rfl rfl rfl ?_
      refine zv_iadd X dX6_copies_21 rfl ?_
      obtain ⟨hi22, h⟩ := h
      refine zv_iald (k := 1) X (zz_mo_st hY).1 (zz_mo_st hY).2 hi22 dX6_copies_22 rfl ?_
      obtain ⟨hi23, h⟩ := h
      refine zv_iast (k := 1) X (zz_mo_st hY).1 (zz_mo_st hY).2 hi23 dX6_copies_23 rfl ?_
      refine zv_iinc (v := (x3 + 1)) (lv2 := [(3, .int (x3 + 1)), (0, .ref (Y.2.1 0)), (1, .int x1), (2, .int x2)]) X dX6_copies_24 3 rfl rfl (by decide) rfl rfl ?_
      refine zv_goto (tgt := 2) X dX6_copies_27 (by decide) ?_
      refine zv_sub (lv2 := [(0, .ref (Y.2.1 0)), (1, .int x1), (2, .int x2), (3, .int (x3 + 1))]) [1, 2, 3, 0] rfl ?_
      exact ih x1 x2 (x3 + 1) _ h
def pX6_copies (x1 : Int32) (x2 : Int32) (σ : zz_T) (Q : zz_T → Prop) : Prop :=
    ∃ n2, pX6_copies_2  Q n2 x1 x2 0 σ
set_option maxHeartbeats 4000000 in
set_option maxRecDepth 100000 in
theorem kX6_copies (l : Launch) {Y : zz_Y} (hJ : zz_J Y) (x1 : Int32) (x2 : Int32) (hY : zz_mo Y) {σ : zz_T} {Q : zz_T → Prop} (h : pX6_copies x1 x2 σ Q) : zz_Mv l yX6_copies cX6_copies 4 none rmX6_copies Y [.ref (Y.2.1 0), .int x1, .int x2] σ Q := by
  refine zz_Mv.start (by decide) hJ (Nat.le_of_ble_eq_true rfl) (fun p e s m below meth c X hr hlk => ?_)
  have X : zz_X p m c cX6_copies 4 s _ RX6 := X
  refine zv_sub (lv2 := [(0, .ref (Y.2.1 0)), (1, .int x1), (2, .int x2)]) [0, 1, 2] rfl ?_
  unfold pX6_copies at h
  refine zv_iconst (v := 0) X dX6_copies_0 (by decide) rfl ?_
  refine zv_istore_n (lv2 := [(3, .int 0), (0, .ref (Y.2.1 0)), (1, .int x1), (2, .int x2)]) X dX6_copies_1 rfl (by decide) rfl rfl ?_
  obtain ⟨n2, h⟩ := h
  refine zv_sub (lv2 := [(0, .ref (Y.2.1 0)), (1, .int x1), (2, .int x2), (3, .int 0)]) [1, 2, 3, 0] rfl ?_
  exact vX6_copies_2 X hr hlk hJ hY n2 x1 x2 0 _ h
def rmX6_keep : Room := { frames := 1, cells := 0, slots := 0, locals := 25 }
def pX6_keep (x1 : Int32) (σ : zz_T) (Q : Int32 → zz_T → Prop) : Prop :=
    pX6_in (Int32.toInt64 x1) 0 1 σ (fun r4 s4 =>
    ((r4 = 0 → Q (-1) s4) ∧
    (¬ r4 = 0 → vp_in x1 2 ∧
    pX6_flag (s4.1 3 (Int32.toNatClampNeg x1)) s4 (fun r18 s18 =>
    vp_in x1 2 ∧
    pX6_copies (70 * (x1 + 1)) 0 (zz_i s18 3 (Int32.toNatClampNeg x1) (vp_nar .boolean 1)) (fun s37 =>
    Q r18 s37)))))
set_option maxHeartbeats 4000000 in
set_option maxRecDepth 100000 in
theorem kX6_keep (l : Launch) {Y : zz_Y} (hJ : zz_J Y) (x1 : Int32) (hY : zz_mo Y) {σ : zz_T} {Q : Int32 → zz_T → Prop} (h : pX6_keep x1 σ Q) : zz_Mi l yX6_keep cX6_keep 3 (some .int) rmX6_keep Y [.ref (Y.2.1 0), .int x1] σ Q := by
  refine zz_Mi.start (by decide) hJ (Nat.le_of_ble_eq_true rfl) (fun p e s m below meth c X hr hlk => ?_)
  have X : zz_X p m c cX6_keep 3 s _ RX6 := X
  refine zv_sub (lv2 := [(0, .ref (Y.2.1 0)), (1, .int x1)]) [0, 1] rfl ?_
  unfold pX6_keep at h
  refine zv_iload_n X dX6_keep_0 1 rfl rfl rfl ?_
  refine zv_i2l X dX6_keep_1 rfl ?_
  refine zv_lconst (v := 0) X dX6_keep_2 (by decide) rfl ?_
  refine zv_lconst (v := 1) X dX6_keep_3 (by decide) rfl ?_
  refine zv_cSi X [.long (Int32.toInt64 x1), .long 0, .long 1] (kX6_in l hJ (Int32.toInt64 x1) 0 1  h) jl_X6_67 ⟨rfl, rfl⟩ ⟨Nat.le_of_ble_eq_true rfl, Nat.le_of_ble_eq_true rfl⟩ rfl rfl (Nat.le_of_ble_eq_true rfl) dX6_keep_4 rfl (fun r4 s4 h => ?_)
  refine zv_if_ne (tgt := 12) X dX6_keep_7 (by decide) rfl (fun q7 => ?_) (fun q7 => ?_)
  · replace h := h.2 q7
    refine zv_aload_n X dX6_keep_12 0 rfl rfl rfl ?_
    refine zg_X6_2 (k := 0) X (zz_mo_o hY).1 (zz_mo_o hY).2 fl_X6_16 dX6_keep_13 rfl ?_
    refine zv_iload_n X dX6_keep_16 1 rfl rfl rfl ?_
    obtain ⟨hi17, h⟩ := h
    refine zv_zald (k := 3) X (zz_mo_isKept hY).1 (zz_mo_isKept hY).2 hi17 dX6_keep_17 rfl ?_
    refine zv_cSi X [.int (s4.1 3 (Int32.toNatClampNeg x1))] (kX6_flag l hJ (s4.1 3 (Int32.toNatClampNeg x1))  h) jl_X6_174 ⟨rfl, rfl⟩ ⟨Nat.le_of_ble_eq_true rfl, Nat.le_of_ble_eq_true rfl⟩ rfl rfl (Nat.le_of_ble_eq_true rfl) dX6_keep_18 rfl (fun r18 s18 h => ?_)
    refine zv_istore_n (lv2 := [(2, .int r18), (0, .ref (Y.2.1 0)), (1, .int x1)]) X dX6_keep_21 rfl (by decide) rfl rfl ?_
    refine zv_aload_n X dX6_keep_22 1 rfl rfl rfl ?_
    refine zg_X6_2 (k := 0) X (zz_mo_o hY).1 (zz_mo_o hY).2 fl_X6_16 dX6_keep_23 rfl ?_
    refine zv_iload_n X dX6_keep_26 2 rfl rfl rfl ?_
    refine zv_iconst (v := 1) X dX6_keep_27 (by decide) rfl ?_
    obtain ⟨hi28, h⟩ := h
    refine zv_zast (k := 3) X (zz_mo_isKept hY).1 (zz_mo_isKept hY).2 hi28 dX6_keep_28 rfl ?_
    refine zv_aload_n X dX6_keep_29 1 rfl rfl rfl ?_
    refine zv_bipush (v := 70) X dX6_keep_30 (by decide) rfl ?_
    refine zv_iload_n X dX6_keep_32 2 rfl rfl rfl ?_
    refine zv_iconst (v := 1) X dX6_keep_33 (by decide) rfl ?_
    refine zv_iadd X dX6_keep_34 rfl ?_
    refine zv_imul X dX6_keep_35 rfl ?_
    refine zv_iconst (v := 0) X dX6_keep_36 (by decide) rfl ?_
    refine zv_cVv (k := 0) (ci := 6) X [.int (70 * (x1 + 1)), .int 0] (kX6_copies l hJ (70 * (x1 + 1)) 0 hY h) jl_X6_312 ⟨rfl, rfl⟩ ⟨Nat.le_of_ble_eq_true rfl, Nat.le_of_ble_eq_true rfl⟩ (zz_mo_o hY).1 (by decide) (zz_mo_o hY).2 rfl rfl rfl (Nat.le_of_ble_eq_true rfl) dX6_keep_37 rfl (fun s37 h => ?_)
    refine zv_iload_n X dX6_keep_40 0 rfl rfl rfl ?_
    exact zv_iret X hr hlk h dX6_keep_41
  · replace h := h.1 q7
    refine zv_iconst (v := (-1)) X dX6_keep_10 (by decide) rfl ?_
    exact zv_iret X hr hlk h dX6_keep_11
def rmX6_back : Room := { frames := 1, cells := 0, slots := 0, locals := 25 }
def pX6_back (x1 : Int32) (σ : zz_T) (Q : Int32 → zz_T → Prop) : Prop :=
    pX6_in (Int32.toInt64 x1) 0 1 σ (fun r4 s4 =>
    ((r4 = 0 → Q (-1) s4) ∧
    (¬ r4 = 0 → vp_in x1 2 ∧
    (((s4.1 3 (Int32.toNatClampNeg x1)) = 0 → Q (-2) s4) ∧
    (¬ (s4.1 3 (Int32.toNatClampNeg x1)) = 0 → pX6_copies 0 (70 * (x1 + 1)) s4 (fun s32 =>
    vp_in 50 210 ∧
    Q (s32.1 1 (Int32.toNatClampNeg 50)) s32))))))
set_option maxHeartbeats 4000000 in
set_option maxRecDepth 100000 in
theorem kX6_back (l : Launch) {Y : zz_Y} (hJ : zz_J Y) (x1 : Int32) (hY : zz_mo Y) {σ : zz_T} {Q : Int32 → zz_T → Prop} (h : pX6_back x1 σ Q) : zz_Mi l yX6_back cX6_back 2 (some .int) rmX6_back Y [.ref (Y.2.1 0), .int x1] σ Q := by
  refine zz_Mi.start (by decide) hJ (Nat.le_of_ble_eq_true rfl) (fun p e s m below meth c X hr hlk => ?_)
  have X : zz_X p m c cX6_back 2 s _ RX6 := X
  refine zv_sub (lv2 := [(0, .ref (Y.2.1 0)), (1, .int x1)]) [0, 1] rfl ?_
  unfold pX6_back at h
  refine zv_iload_n X dX6_back_0 1 rfl rfl rfl ?_
  refine zv_i2l X dX6_back_1 rfl ?_
  refine zv_lconst (v := 0) X dX6_back_2 (by decide) rfl ?_
  refine zv_lconst (v := 1) X dX6_back_3 (by decide) rfl ?_
  refine zv_cSi X [.long (Int32.toInt64 x1), .long 0, .long 1] (kX6_in l hJ (Int32.toInt64 x1) 0 1  h) jl_X6_67 ⟨rfl, rfl⟩ ⟨Nat.le_of_ble_eq_true rfl, Nat.le_of_ble_eq_true rfl⟩ rfl rfl (Nat.le_of_ble_eq_true rfl) dX6_back_4 rfl (fun r4 s4 h => ?_)
  refine zv_if_ne (tgt := 12) X dX6_back_7 (by decide) rfl (fun q7 => ?_) (fun q7 => ?_)
  · replace h := h.2 q7
    refine zv_aload_n X dX6_back_12 0 rfl rfl rfl ?_
    refine zg_X6_2 (k := 0) X (zz_mo_o hY).1 (zz_mo_o hY).2 fl_X6_16 dX6_back_13 rfl ?_
    refine zv_iload_n X dX6_back_16 1 rfl rfl rfl ?_
    obtain ⟨hi17, h⟩ := h
    refine zv_zald (k := 3) X (zz_mo_isKept hY).1 (zz_mo_isKept hY).2 hi17 dX6_back_17 rfl ?_
    refine zv_if_ne (tgt := 24) X dX6_back_18 (by decide) rfl (fun q18 => ?_) (fun q18 => ?_)
    · replace h := h.2 q18
      refine zv_aload_n X dX6_back_24 0 rfl rfl rfl ?_
      refine zv_iconst (v := 0) X dX6_back_25 (by decide) rfl ?_
      refine zv_bipush (v := 70) X dX6_back_26 (by decide) rfl ?_
      refine zv_iload_n X dX6_back_28 1 rfl rfl rfl ?_
      refine zv_iconst (v := 1) X dX6_back_29 (by decide) rfl ?_
      refine zv_iadd X dX6_back_30 rfl ?_
      refine zv_imul X dX6_back_31 rfl ?_
      refine zv_cVv (k := 0) (ci := 6) X [.int 0, .int (70 * (x1 + 1))] (kX6_copies l hJ 0 (70 * (x1 + 1)) hY h) jl_X6_312 ⟨rfl, rfl⟩ ⟨Nat.le_of_ble_eq_true rfl, Nat.le_of_ble_eq_true rfl⟩ (zz_mo_o hY).1 (by decide) (zz_mo_o hY).2 rfl rfl rfl (Nat.le_of_ble_eq_true rfl) dX6_back_32 rfl (fun s32 h => ?_)
      refine zv_aload_n X dX6_back_35 0 rfl rfl rfl ?_
      refine zg_X6_0 (k := 0) X (zz_mo_o hY).1 (zz_mo_o hY).2 fl_X6_7 dX6_back_36 rfl ?_
      refine zv_bipush (v := 50) X dX6_back_39 (by decide) rfl ?_
      obtain ⟨hi41, h⟩ := h
      refine zv_iald (k := 1) X (zz_mo_st hY).1 (zz_mo_st hY).2 hi41 dX6_back_41 rfl ?_
      exact zv_iret X hr hlk h dX6_back_42
    · replace h := h.1 q18
      refine zv_bipush (v := (-2)) X dX6_back_21 (by decide) rfl ?_
      exact zv_iret X hr hlk h dX6_back_23
  · replace h := h.1 q7
    refine zv_iconst (v := (-1)) X dX6_back_10 (by decide) rfl ?_
    exact zv_iret X hr hlk h dX6_back_11
def rmX6_isSheet : Room := { frames := 1, cells := 0, slots := 0, locals := 25 }
def pX6_isSheet (x0 : Int32) (x1 : Int32) (σ : zz_T) (Q : Int32 → zz_T → Prop) : Prop :=
    pX6_in (Int32.toInt64 x0) 0 3 σ (fun r6 s6 =>
    ((r6 = 0 → (zz_bo 0 ∧ Q 0 s6)) ∧
    (¬ r6 = 0 → pX6_in (Int32.toInt64 x1) 0 2 s6 (fun r18 s18 =>
    ((r18 = 0 → (zz_bo 0 ∧ Q 0 s18)) ∧
    (¬ r18 = 0 → (zz_bo 1 ∧ Q 1 s18)))))))
set_option maxHeartbeats 4000000 in
set_option maxRecDepth 100000 in
theorem kX6_isSheet (l : Launch) {Y : zz_Y} (hJ : zz_J Y) (x0 : Int32) (x1 : Int32)  {σ : zz_T} {Q : Int32 → zz_T → Prop} (h : pX6_isSheet x0 x1 σ Q) : zz_Mi l yX6_isSheet cX6_isSheet 2 (some .boolean) rmX6_isSheet Y [.int x0, .int x1] σ Q := by
  refine zz_Mi.start (by decide) hJ (Nat.le_of_ble_eq_true rfl) (fun p e s m below meth c X hr hlk => ?_)
  have X : zz_X p m c cX6_isSheet 2 s _ RX6 := X
  refine zv_sub (lv2 := [(0, .int x0), (1, .int x1)]) [0, 1] rfl ?_
  unfold pX6_isSheet at h
  refine zv_iload_n X dX6_isSheet_0 0 rfl rfl rfl ?_
  refine zv_i2l X dX6_isSheet_1 rfl ?_
  refine zv_lconst (v := 0) X dX6_isSheet_2 (by decide) rfl ?_
  refine zv_ldc2 (v := 3) X dX6_isSheet_3 co_X6_219 rfl ?_
  refine zv_cSi X [.long (Int32.toInt64 x0), .long 0, .long 3] (kX6_in l hJ (Int32.toInt64 x0) 0 3  h) jl_X6_67 ⟨rfl, rfl⟩ ⟨Nat.le_of_ble_eq_true rfl, Nat.le_of_ble_eq_true rfl⟩ rfl rfl (Nat.le_of_ble_eq_true rfl) dX6_isSheet_6 rfl (fun r6 s6 h => ?_)
  refine zv_if_eq (tgt := 28) X dX6_isSheet_9 (by decide) rfl (fun q9 => ?_) (fun q9 => ?_)
  · replace h := h.1 q9
    refine zv_iconst (v := 0) X dX6_isSheet_28 (by decide) rfl ?_
    exact zv_zret X hr hlk h dX6_isSheet_29
  · replace h := h.2 q9
    refine zv_iload_n X dX6_isSheet_12 1 rfl rfl rfl ?_
    refine zv_i2l X dX6_isSheet_13 rfl ?_
    refine zv_lconst (v := 0) X dX6_isSheet_14 (by decide) rfl ?_
    refine zv_ldc2 (v := 2) X dX6_isSheet_15 co_X6_238 rfl ?_
    refine zv_cSi X [.long (Int32.toInt64 x1), .long 0, .long 2] (kX6_in l hJ (Int32.toInt64 x1) 0 2  h) jl_X6_67 ⟨rfl, rfl⟩ ⟨Nat.le_of_ble_eq_true rfl, Nat.le_of_ble_eq_true rfl⟩ rfl rfl (Nat.le_of_ble_eq_true rfl) dX6_isSheet_18 rfl (fun r18 s18 h => ?_)
    refine zv_if_eq (tgt := 28) X dX6_isSheet_21 (by decide) rfl (fun q21 => ?_) (fun q21 => ?_)
    · replace h := h.1 q21
      refine zv_iconst (v := 0) X dX6_isSheet_28 (by decide) rfl ?_
      exact zv_zret X hr hlk h dX6_isSheet_29
    · replace h := h.2 q21
      refine zv_iconst (v := 1) X dX6_isSheet_24 (by decide) rfl ?_
      refine zv_goto (tgt := 29) X dX6_isSheet_25 (by decide) ?_
      exact zv_zret X hr hlk h dX6_isSheet_29
def rmX6_sheet : Room := { frames := 2, cells := 0, slots := 0, locals := 46 }
def pX6_sheet_40  (Q : Int32 → zz_T → Prop) : Nat → Int32 → Int32 → zz_T → Prop
  | 0, _, _, _ => False
  | n + 1, x1, x4, σ =>
    ((40 ≤ x4 → Q 1 σ) ∧
    (¬ 40 ≤ x4 → vp_in ((40 * x1) + x4) 160 ∧
    pX6_sheet_40  Q n x1 (x4 + 1) (zz_i σ 15 (Int32.toNatClampNeg ((40 * x1) + x4)) 0)))
set_option maxHeartbeats 4000000 in
set_option maxRecDepth 100000 in
theorem vX6_sheet_40 {p : Program} {l : Launch} {e : Env} {s : State} {m : MethodId} {args : Array Value} {below : List Frame} {meth : Method} {c : Code} {Y : zz_Y}  {Q : Int32 → zz_T → Prop} (X : zz_X p m c cX6_sheet 5 s args RX6) (hr : meth.sig.returnType = (some .int)) (hlk : meth.locks = false) (hJ : zz_J Y) (hY : zz_mo Y)  : ∀ (n : Nat) (x1 : Int32) (x4 : Int32) (σ : zz_T), pX6_sheet_40  Q n x1 x4 σ → zz_V p l e rmX6_sheet s m args below meth c (MQ below (va_Qi Q (zz_E Y) (zz_A Y)) args s 0 0 (zz_A Y)) 5 Y σ 40 [(0, .ref (Y.2.1 0)), (1, .int x1), (4, .int x4)] [] := by
  intro n
  induction n with
  | zero => intro x1 x4 σ h; exact h.elim
  | succ n ih =>
    intro x1 x4 σ h 
    unfold pX6_sheet_40 at h
    refine zv_iload X dX6_sheet_40 2 rfl rfl ?_
    refine zv_bipush (v := 40) X dX6_sheet_42 (by decide) rfl ?_
    refine zv_icmp_ge (tgt := 66) X dX6_sheet_44 (by decide) rfl (fun q44 => ?_) (fun q44 => ?_)
    · replace h := h.1 q44
      refine zv_iconst (v := 1) X dX6_sheet_66 (by decide) rfl ?_
      exact zv_iret X hr hlk h dX6_sheet_67
    · replace h := h.2 q44
      refine zv_aload_n X dX6_sheet_47 0 rfl rfl rfl ?_
      refine zg_X6_31 (k := 0) X (zz_mo_o hY).1 (zz_mo_o hY).2 fl_X6_53 dX6_sheet_48 rfl ?_
      refine zv_bipush (v := 40) X dX6_sheet_51 (by decide) rfl ?_
      refine zv_iload_n X dX6_sheet_53 1 rfl rfl rfl ?_
      refine zv_imul X dX6_sheet_54 rfl ?_
      refine zv_iload X dX6_sheet_55 2 rfl rfl ?_
      refine zv_iadd X dX6_sheet_57 rfl ?_
      refine zv_iconst (v := 0) X dX6_sheet_58 (by decide) rfl ?_
      obtain ⟨hi59, h⟩ := h
      refine zv_iast (k := 15) X (zz_mo_cells hY).1 (zz_mo_cells hY).2 hi59 dX6_sheet_59 rfl ?_
      refine zv_iinc (v := (x4 + 1)) (lv2 := [(4, .int (x4 + 1)), (0, .ref (Y.2.1 0)), (1, .int x1)]) X dX6_sheet_60 2 rfl rfl (by decide) rfl rfl ?_
      refine zv_goto (tgt := 40) X dX6_sheet_63 (by decide) ?_
      refine zv_sub (lv2 := [(0, .ref (Y.2.1 0)), (1, .int x1), (4, .int (x4 + 1))]) [1, 2, 0] rfl ?_
      exact ih x1 (x4 + 1) _ h
def pX6_sheet (x1 : Int32) (x2 : Int32) (x3 : Int32) (σ : zz_T) (Q : Int32 → zz_T → Prop) : Prop :=
    pX6_isSheet x1 x2 σ (fun r2 s2 =>
    ((r2 = 0 → Q (-1) s2) ∧
    (¬ r2 = 0 → ((x3 ≤ 40 → ((0 ≤ x3 → vp_in x1 4 ∧
    vp_in x1 4 ∧
    ∃ n40, pX6_sheet_40  Q n40 x1 0 (zz_i (zz_i s2 13 (Int32.toNatClampNeg x1) x2) 14 (Int32.toNatClampNeg x1) x3)) ∧
    (¬ 0 ≤ x3 → Q (-14) s2))) ∧
    (¬ x3 ≤ 40 → Q (-1) s2)))))
set_option maxHeartbeats 4000000 in
set_option maxRecDepth 100000 in
theorem kX6_sheet (l : Launch) {Y : zz_Y} (hJ : zz_J Y) (x1 : Int32) (x2 : Int32) (x3 : Int32) (hY : zz_mo Y) {σ : zz_T} {Q : Int32 → zz_T → Prop} (h : pX6_sheet x1 x2 x3 σ Q) : zz_Mi l yX6_sheet cX6_sheet 5 (some .int) rmX6_sheet Y [.ref (Y.2.1 0), .int x1, .int x2, .int x3] σ Q := by
  refine zz_Mi.start (by decide) hJ (Nat.le_of_ble_eq_true rfl) (fun p e s m below meth c X hr hlk => ?_)
  have X : zz_X p m c cX6_sheet 5 s _ RX6 := X
  refine zv_sub (lv2 := [(0, .ref (Y.2.1 0)), (1, .int x1), (2, .int x2), (3, .int x3)]) [0, 1, 2, 3] rfl ?_
  unfold pX6_sheet at h
  refine zv_iload_n X dX6_sheet_0 1 rfl rfl rfl ?_
  refine zv_iload_n X dX6_sheet_1 2 rfl rfl rfl ?_
  refine zv_cSi X [.int x1, .int x2] (kX6_isSheet l hJ x1 x2  h) jl_X6_315 ⟨rfl, rfl⟩ ⟨Nat.le_of_ble_eq_true rfl, Nat.le_of_ble_eq_true rfl⟩ rfl rfl (Nat.le_of_ble_eq_true rfl) dX6_sheet_2 rfl (fun r2 s2 h => ?_)
  refine zv_if_eq (tgt := 14) X dX6_sheet_5 (by decide) rfl (fun q5 => ?_) (fun q5 => ?_)
  · replace h := h.1 q5
    refine zv_iconst (v := (-1)) X dX6_sheet_14 (by decide) rfl ?_
    exact zv_iret X hr hlk h dX6_sheet_15
  · replace h := h.2 q5
    refine zv_iload_n X dX6_sheet_8 3 rfl rfl rfl ?_
    refine zv_bipush (v := 40) X dX6_sheet_9 (by decide) rfl ?_
    refine zv_icmp_le (tgt := 16) X dX6_sheet_11 (by decide) rfl (fun q11 => ?_) (fun q11 => ?_)
    · replace h := h.1 q11
      refine zv_iload_n X dX6_sheet_16 3 rfl rfl rfl ?_
      refine zv_if_ge (tgt := 23) X dX6_sheet_17 (by decide) rfl (fun q17 => ?_) (fun q17 => ?_)
      · replace h := h.1 q17
        refine zv_aload_n X dX6_sheet_23 0 rfl rfl rfl ?_
        refine zg_X6_29 (k := 0) X (zz_mo_o hY).1 (zz_mo_o hY).2 fl_X6_47 dX6_sheet_24 rfl ?_
        refine zv_iload_n X dX6_sheet_27 1 rfl rfl rfl ?_
        refine zv_iload_n X dX6_sheet_28 2 rfl rfl rfl ?_
        obtain ⟨hi29, h⟩ := h
        refine zv_iast (k := 13) X (zz_mo_lanes hY).1 (zz_mo_lanes hY).2 hi29 dX6_sheet_29 rfl ?_
        refine zv_aload_n X dX6_sheet_30 0 rfl rfl rfl ?_
        refine zg_X6_30 (k := 0) X (zz_mo_o hY).1 (zz_mo_o hY).2 fl_X6_50 dX6_sheet_31 rfl ?_
        refine zv_iload_n X dX6_sheet_34 1 rfl rfl rfl ?_
        refine zv_iload_n X dX6_sheet_35 3 rfl rfl rfl ?_
        obtain ⟨hi36, h⟩ := h
        refine zv_iast (k := 14) X (zz_mo_sizes hY).1 (zz_mo_sizes hY).2 hi36 dX6_sheet_36 rfl ?_
        refine zv_iconst (v := 0) X dX6_sheet_37 (by decide) rfl ?_
        refine zv_istore (lv2 := [(4, .int 0), (0, .ref (Y.2.1 0)), (1, .int x1), (2, .int x2), (3, .int x3)]) X dX6_sheet_38 (by decide) rfl rfl ?_
        obtain ⟨n40, h⟩ := h
        refine zv_sub (lv2 := [(0, .ref (Y.2.1 0)), (1, .int x1), (4, .int 0)]) [1, 2, 0] rfl ?_
        exact vX6_sheet_40 X hr hlk hJ hY n40 x1 0 _ h
      · replace h := h.2 q17
        refine zv_bipush (v := (-14)) X dX6_sheet_20 (by decide) rfl ?_
        exact zv_iret X hr hlk h dX6_sheet_22
    · replace h := h.2 q11
      refine zv_iconst (v := (-1)) X dX6_sheet_14 (by decide) rfl ?_
      exact zv_iret X hr hlk h dX6_sheet_15
def rmX6_lay : Room := { frames := 2, cells := 0, slots := 0, locals := 46 }
def pX6_lay (x1 : Int32) (x2 : Int32) (x3 : Int32) (σ : zz_T) (Q : Int32 → zz_T → Prop) : Prop :=
    pX6_isSheet x1 0 σ (fun r2 s2 =>
    ((r2 = 0 → Q (-1) s2) ∧
    (¬ r2 = 0 → vp_in x1 4 ∧
    (((s2.1 13 (Int32.toNatClampNeg x1)) = (-4) → Q (-11) s2) ∧
    (¬ (s2.1 13 (Int32.toNatClampNeg x1)) = (-4) → vp_in x1 4 ∧
    pX6_in (Int32.toInt64 x2) 0 (Int32.toInt64 ((s2.1 14 (Int32.toNatClampNeg x1)) - 1)) s2 (fun r36 s36 =>
    ((r36 = 0 → Q (-12) s36) ∧
    (¬ r36 = 0 → vp_in x1 4 ∧
    (((s36.1 13 (Int32.toNatClampNeg x1)) = 0 → vp_in ((40 * x1) + x2) 160 ∧
    Q 1 (zz_i s36 15 (Int32.toNatClampNeg ((40 * x1) + x2)) (Int32.toInt8 x3).toInt32)) ∧
    (¬ (s36.1 13 (Int32.toNatClampNeg x1)) = 0 → vp_in x1 4 ∧
    (((s36.1 13 (Int32.toNatClampNeg x1)) = 1 → vp_in ((40 * x1) + x2) 160 ∧
    Q 1 (zz_i s36 15 (Int32.toNatClampNeg ((40 * x1) + x2)) (Int32.toInt16 x3).toInt32)) ∧
    (¬ (s36.1 13 (Int32.toNatClampNeg x1)) = 1 → vp_in ((40 * x1) + x2) 160 ∧
    Q 1 (zz_i s36 15 (Int32.toNatClampNeg ((40 * x1) + x2)) x3)))))))))))))
set_option maxHeartbeats 4000000 in
set_option maxRecDepth 100000 in
theorem kX6_lay (l : Launch) {Y : zz_Y} (hJ : zz_J Y) (x1 : Int32) (x2 : Int32) (x3 : Int32) (hY : zz_mo Y) {σ : zz_T} {Q : Int32 → zz_T → Prop} (h : pX6_lay x1 x2 x3 σ Q) : zz_Mi l yX6_lay cX6_lay 4 (some .int) rmX6_lay Y [.ref (Y.2.1 0), .int x1, .int x2, .int x3] σ Q := by
  refine zz_Mi.start (by decide) hJ (Nat.le_of_ble_eq_true rfl) (fun p e s m below meth c X hr hlk => ?_)
  have X : zz_X p m c cX6_lay 4 s _ RX6 := X
  refine zv_sub (lv2 := [(0, .ref (Y.2.1 0)), (1, .int x1), (2, .int x2), (3, .int x3)]) [0, 1, 2, 3] rfl ?_
  unfold pX6_lay at h
  refine zv_iload_n X dX6_lay_0 1 rfl rfl rfl ?_
  refine zv_iconst (v := 0) X dX6_lay_1 (by decide) rfl ?_
  refine zv_cSi X [.int x1, .int 0] (kX6_isSheet l hJ x1 0  h) jl_X6_315 ⟨rfl, rfl⟩ ⟨Nat.le_of_ble_eq_true rfl, Nat.le_of_ble_eq_true rfl⟩ rfl rfl (Nat.le_of_ble_eq_true rfl) dX6_lay_2 rfl (fun r2 s2 h => ?_)
  refine zv_if_ne (tgt := 10) X dX6_lay_5 (by decide) rfl (fun q5 => ?_) (fun q5 => ?_)
  · replace h := h.2 q5
    refine zv_aload_n X dX6_lay_10 0 rfl rfl rfl ?_
    refine zg_X6_29 (k := 0) X (zz_mo_o hY).1 (zz_mo_o hY).2 fl_X6_47 dX6_lay_11 rfl ?_
    refine zv_iload_n X dX6_lay_14 1 rfl rfl rfl ?_
    obtain ⟨hi15, h⟩ := h
    refine zv_iald (k := 13) X (zz_mo_lanes hY).1 (zz_mo_lanes hY).2 hi15 dX6_lay_15 rfl ?_
    refine zv_bipush (v := (-4)) X dX6_lay_16 (by decide) rfl ?_
    refine zv_icmp_ne (tgt := 24) X dX6_lay_18 (by decide) rfl (fun q18 => ?_) (fun q18 => ?_)
    · replace h := h.2 q18
      refine zv_iload_n X dX6_lay_24 2 rfl rfl rfl ?_
      refine zv_i2l X dX6_lay_25 rfl ?_
      refine zv_lconst (v := 0) X dX6_lay_26 (by decide) rfl ?_
      refine zv_aload_n X dX6_lay_27 0 rfl rfl rfl ?_
      refine zg_X6_30 (k := 0) X (zz_mo_o hY).1 (zz_mo_o hY).2 fl_X6_50 dX6_lay_28 rfl ?_
      refine zv_iload_n X dX6_lay_31 1 rfl rfl rfl ?_
      obtain ⟨hi32, h⟩ := h
      refine zv_iald (k := 14) X (zz_mo_sizes hY).1 (zz_mo_sizes hY).2 hi32 dX6_lay_32 rfl ?_
      refine zv_iconst (v := 1) X dX6_lay_33 (by decide) rfl ?_
      refine zv_isub X dX6_lay_34 rfl ?_
      refine zv_i2l X dX6_lay_35 rfl ?_
      refine zv_cSi X [.long (Int32.toInt64 x2), .long 0, .long (Int32.toInt64 ((s2.1 14 (Int32.toNatClampNeg x1)) - 1))] (kX6_in l hJ (Int32.toInt64 x2) 0 (Int32.toInt64 ((s2.1 14 (Int32.toNatClampNeg x1)) - 1))  h) jl_X6_67 ⟨rfl, rfl⟩ ⟨Nat.le_of_ble_eq_true rfl, Nat.le_of_ble_eq_true rfl⟩ rfl rfl (Nat.le_of_ble_eq_true rfl) dX6_lay_36 rfl (fun r36 s36 h => ?_)
      refine zv_if_ne (tgt := 45) X dX6_lay_39 (by decide) rfl (fun q39 => ?_) (fun q39 => ?_)
      · replace h := h.2 q39
        refine zv_aload_n X dX6_lay_45 0 rfl rfl rfl ?_
        refine zg_X6_31 (k := 0) X (zz_mo_o hY).1 (zz_mo_o hY).2 fl_X6_53 dX6_lay_46 rfl ?_
        refine zv_bipush (v := 40) X dX6_lay_49 (by decide) rfl ?_
        refine zv_iload_n X dX6_lay_51 1 rfl rfl rfl ?_
        refine zv_imul X dX6_lay_52 rfl ?_
        refine zv_iload_n X dX6_lay_53 2 rfl rfl rfl ?_
        refine zv_iadd X dX6_lay_54 rfl ?_
        refine zv_aload_n X dX6_lay_55 0 rfl rfl rfl ?_
        refine zg_X6_29 (k := 0) X (zz_mo_o hY).1 (zz_mo_o hY).2 fl_X6_47 dX6_lay_56 rfl ?_
        refine zv_iload_n X dX6_lay_59 1 rfl rfl rfl ?_
        obtain ⟨hi60, h⟩ := h
        refine zv_iald (k := 13) X (zz_mo_lanes hY).1 (zz_mo_lanes hY).2 hi60 dX6_lay_60 rfl ?_
        refine zv_if_ne (tgt := 69) X dX6_lay_61 (by decide) rfl (fun q61 => ?_) (fun q61 => ?_)
        · replace h := h.2 q61
          refine zv_aload_n X dX6_lay_69 0 rfl rfl rfl ?_
          refine zg_X6_29 (k := 0) X (zz_mo_o hY).1 (zz_mo_o hY).2 fl_X6_47 dX6_lay_70 rfl ?_
          refine zv_iload_n X dX6_lay_73 1 rfl rfl rfl ?_
          obtain ⟨hi74, h⟩ := h
          refine zv_iald (k := 13) X (zz_mo_lanes hY).1 (zz_mo_lanes hY).2 hi74 dX6_lay_74 rfl ?_
          refine zv_iconst (v := 1) X dX6_lay_75 (by decide) rfl ?_
          refine zv_icmp_ne (tgt := 84) X dX6_lay_76 (by decide) rfl (fun q76 => ?_) (fun q76 => ?_)
          · replace h := h.2 q76
            refine zv_iload_n X dX6_lay_84 3 rfl rfl rfl ?_
            obtain ⟨hi85, h⟩ := h
            refine zv_iast (k := 15) X (zz_mo_cells hY).1 (zz_mo_cells hY).2 hi85 dX6_lay_85 rfl ?_
            refine zv_iconst (v := 1) X dX6_lay_86 (by decide) rfl ?_
            exact zv_iret X hr hlk h dX6_lay_87
          · replace h := h.1 q76
            refine zv_iload_n X dX6_lay_79 3 rfl rfl rfl ?_
            refine zv_i2s X dX6_lay_80 rfl ?_
            refine zv_goto (tgt := 85) X dX6_lay_81 (by decide) ?_
            obtain ⟨hi85, h⟩ := h
            refine zv_iast (k := 15) X (zz_mo_cells hY).1 (zz_mo_cells hY).2 hi85 dX6_lay_85 rfl ?_
            refine zv_iconst (v := 1) X dX6_lay_86 (by decide) rfl ?_
            exact zv_iret X hr hlk h dX6_lay_87
        · replace h := h.1 q61
          refine zv_iload_n X dX6_lay_64 3 rfl rfl rfl ?_
          refine zv_i2b X dX6_lay_65 rfl ?_
          refine zv_goto (tgt := 85) X dX6_lay_66 (by decide) ?_
          obtain ⟨hi85, h⟩ := h
          refine zv_iast (k := 15) X (zz_mo_cells hY).1 (zz_mo_cells hY).2 hi85 dX6_lay_85 rfl ?_
          refine zv_iconst (v := 1) X dX6_lay_86 (by decide) rfl ?_
          exact zv_iret X hr hlk h dX6_lay_87
      · replace h := h.1 q39
        refine zv_bipush (v := (-12)) X dX6_lay_42 (by decide) rfl ?_
        exact zv_iret X hr hlk h dX6_lay_44
    · replace h := h.1 q18
      refine zv_bipush (v := (-11)) X dX6_lay_21 (by decide) rfl ?_
      exact zv_iret X hr hlk h dX6_lay_23
  · replace h := h.1 q5
    refine zv_iconst (v := (-1)) X dX6_lay_8 (by decide) rfl ?_
    exact zv_iret X hr hlk h dX6_lay_9
def rmX6_read : Room := { frames := 3, cells := 0, slots := 0, locals := 68 }
def pX6_read_244  (Q : Int32 → zz_T → Prop) (K62 : Int32 → Int32 → Int32 → Int32 → Int32 → Int32 → Int32 → zz_T → Prop) (x1 : Int32) (x2 : Int32) (x3 : Int32) (x4 : Int32) (x5 : Int32) (x6 : Int32) (x7 : Int32) (σ : zz_T) : Prop :=
    K62 x1 x2 x3 x4 x5 x6 (x7 + 1) σ
set_option maxHeartbeats 4000000 in
set_option maxRecDepth 100000 in
theorem vX6_read_244 {p : Program} {l : Launch} {e : Env} {s : State} {m : MethodId} {args : Array Value} {below : List Frame} {meth : Method} {c : Code} {Y : zz_Y}  {Q : Int32 → zz_T → Prop} {K62 : Int32 → Int32 → Int32 → Int32 → Int32 → Int32 → Int32 → zz_T → Prop} (X : zz_X p m c cX6_read 11 s args RX6) (hr : meth.sig.returnType = (some .int)) (hlk : meth.locks = false) (hJ : zz_J Y) (hY : zz_mo Y) (hK62 : ∀ (x1 : Int32) (x2 : Int32) (x3 : Int32) (x4 : Int32) (x5 : Int32) (x6 : Int32) (x7 : Int32) (σ : zz_T), K62 x1 x2 x3 x4 x5 x6 x7 σ → zz_V p l e rmX6_read s m args below meth c (MQ below (va_Qi Q (zz_E Y) (zz_A Y)) args s 0 0 (zz_A Y)) 11 Y σ 62 [(0, .ref (Y.2.1 0)), (1, .int x1), (2, .int x2), (3, .int x3), (4, .int x4), (5, .int x5), (6, .int x6), (7, .int x7)] []) : ∀ (x1 : Int32) (x2 : Int32) (x3 : Int32) (x4 : Int32) (x5 : Int32) (x6 : Int32) (x7 : Int32) (σ : zz_T), pX6_read_244  Q K62 x1 x2 x3 x4 x5 x6 x7 σ → zz_V p l e rmX6_read s m args below meth c (MQ below (va_Qi Q (zz_E Y) (zz_A Y)) args s 0 0 (zz_A Y)) 11 Y σ 244 [(0, .ref (Y.2.1 0)), (1, .int x1), (2, .int x2), (3, .int x3), (4, .int x4), (5, .int x5), (6, .int x6), (7, .int x7)] [] := by
  intro x1 x2 x3 x4 x5 x6 x7 σ h 
  unfold pX6_read_244 at h
  refine zv_iinc (v := (x7 + 1)) (lv2 := [(7, .int (x7 + 1)), (0, .ref (Y.2.1 0)), (1, .int x1), (2, .int x2), (3, .int x3), (4, .int x4), (5, .int x5), (6, .int x6)]) X dX6_read_244 7 rfl rfl (by decide) rfl rfl ?_
  refine zv_goto (tgt := 62) X dX6_read_247 (by decide) ?_
  refine zv_sub (lv2 := [(0, .ref (Y.2.1 0)), (1, .int x1), (2, .int x2), (3, .int x3), (4, .int x4), (5, .int x5), (6, .int x6), (7, .int (x7 + 1))]) [1, 2, 3, 4, 5, 6, 7, 0] rfl ?_
  exact hK62 x1 x2 x3 x4 x5 x6 (x7 + 1) _ h
def pX6_read_208  (Q : Int32 → zz_T → Prop) : Nat → Int32 → Int32 → zz_T → Prop
  | 0, _, _, _ => False
  | n + 1, x7, x9, σ =>
    ((70 ≤ x9 → Q ((-20) - x7) σ) ∧
    (¬ 70 ≤ x9 → vp_in x9 70 ∧
    vp_in x9 210 ∧
    pX6_read_208  Q n x7 (x9 + 1) (zz_i σ 1 (Int32.toNatClampNeg x9) (σ.1 16 (Int32.toNatClampNeg x9)))))
set_option maxHeartbeats 4000000 in
set_option maxRecDepth 100000 in
theorem vX6_read_208 {p : Program} {l : Launch} {e : Env} {s : State} {m : MethodId} {args : Array Value} {below : List Frame} {meth : Method} {c : Code} {Y : zz_Y}  {Q : Int32 → zz_T → Prop} (X : zz_X p m c cX6_read 11 s args RX6) (hr : meth.sig.returnType = (some .int)) (hlk : meth.locks = false) (hJ : zz_J Y) (hY : zz_mo Y)  : ∀ (n : Nat) (x7 : Int32) (x9 : Int32) (σ : zz_T), pX6_read_208  Q n x7 x9 σ → zz_V p l e rmX6_read s m args below meth c (MQ below (va_Qi Q (zz_E Y) (zz_A Y)) args s 0 0 (zz_A Y)) 11 Y σ 208 [(0, .ref (Y.2.1 0)), (7, .int x7), (9, .int x9)] [] := by
  intro n
  induction n with
  | zero => intro x7 x9 σ h; exact h.elim
  | succ n ih =>
    intro x7 x9 σ h 
    unfold pX6_read_208 at h
    refine zv_iload X dX6_read_208 2 rfl rfl ?_
    refine zv_bipush (v := 70) X dX6_read_210 (by decide) rfl ?_
    refine zv_icmp_ge (tgt := 235) X dX6_read_212 (by decide) rfl (fun q212 => ?_) (fun q212 => ?_)
    · replace h := h.1 q212
      refine zv_bipush (v := (-20)) X dX6_read_235 (by decide) rfl ?_
      refine zv_iload X dX6_read_237 1 rfl rfl ?_
      refine zv_isub X dX6_read_239 rfl ?_
      exact zv_iret X hr hlk h dX6_read_240
    · replace h := h.2 q212
      refine zv_aload_n X dX6_read_215 0 rfl rfl rfl ?_
      refine zg_X6_0 (k := 0) X (zz_mo_o hY).1 (zz_mo_o hY).2 fl_X6_7 dX6_read_216 rfl ?_
      refine zv_iload X dX6_read_219 2 rfl rfl ?_
      refine zv_aload_n X dX6_read_221 0 rfl rfl rfl ?_
      refine zg_X6_33 (k := 0) X (zz_mo_o hY).1 (zz_mo_o hY).2 fl_X6_56 dX6_read_222 rfl ?_
      refine zv_iload X dX6_read_225 2 rfl rfl ?_
      obtain ⟨hi227, h⟩ := h
      refine zv_iald (k := 16) X (zz_mo_before hY).1 (zz_mo_before hY).2 hi227 dX6_read_227 rfl ?_
      obtain ⟨hi228, h⟩ := h
      refine zv_iast (k := 1) X (zz_mo_st hY).1 (zz_mo_st hY).2 hi228 dX6_read_228 rfl ?_
      refine zv_iinc (v := (x9 + 1)) (lv2 := [(9, .int (x9 + 1)), (0, .ref (Y.2.1 0)), (7, .int x7)]) X dX6_read_229 2 rfl rfl (by decide) rfl rfl ?_
      refine zv_goto (tgt := 208) X dX6_read_232 (by decide) ?_
      refine zv_sub (lv2 := [(0, .ref (Y.2.1 0)), (7, .int x7), (9, .int (x9 + 1))]) [1, 2, 0] rfl ?_
      exact ih x7 (x9 + 1) _ h
def pX6_read_164  (Q : Int32 → zz_T → Prop) (K62 : Int32 → Int32 → Int32 → Int32 → Int32 → Int32 → Int32 → zz_T → Prop) (x1 : Int32) (x2 : Int32) (x3 : Int32) (x4 : Int32) (x5 : Int32) (x6 : Int32) (x7 : Int32) (σ : zz_T) : Prop :=
    ((x5 = 0 → vp_in (((40 * x1) + x3) + (2 * x7)) 160 ∧
    vp_in ((((40 * x1) + x3) + (2 * x7)) + 1) 160 ∧
    pX6_set (σ.1 15 (Int32.toNatClampNeg (((40 * x1) + x3) + (2 * x7)))) (σ.1 15 (Int32.toNatClampNeg ((((40 * x1) + x3) + (2 * x7)) + 1))) σ (fun r199 s199 =>
    ((0 ≤ r199 → pX6_read_244  Q K62 x1 x2 x3 x4 x5 (x6 + 1) x7 s199) ∧
    (¬ 0 ≤ r199 → ∃ n208, pX6_read_208  Q n208 x7 0 s199)))) ∧
    (¬ x5 = 0 → pX6_read_244  Q K62 x1 x2 x3 x4 x5 x6 x7 σ))
set_option maxHeartbeats 4000000 in
set_option maxRecDepth 100000 in
theorem vX6_read_164 {p : Program} {l : Launch} {e : Env} {s : State} {m : MethodId} {args : Array Value} {below : List Frame} {meth : Method} {c : Code} {Y : zz_Y}  {Q : Int32 → zz_T → Prop} {K62 : Int32 → Int32 → Int32 → Int32 → Int32 → Int32 → Int32 → zz_T → Prop} (X : zz_X p m c cX6_read 11 s args RX6) (hr : meth.sig.returnType = (some .int)) (hlk : meth.locks = false) (hJ : zz_J Y) (hY : zz_mo Y) (hK62 : ∀ (x1 : Int32) (x2 : Int32) (x3 : Int32) (x4 : Int32) (x5 : Int32) (x6 : Int32) (x7 : Int32) (σ : zz_T), K62 x1 x2 x3 x4 x5 x6 x7 σ → zz_V p l e rmX6_read s m args below meth c (MQ below (va_Qi Q (zz_E Y) (zz_A Y)) args s 0 0 (zz_A Y)) 11 Y σ 62 [(0, .ref (Y.2.1 0)), (1, .int x1), (2, .int x2), (3, .int x3), (4, .int x4), (5, .int x5), (6, .int x6), (7, .int x7)] []) : ∀ (x1 : Int32) (x2 : Int32) (x3 : Int32) (x4 : Int32) (x5 : Int32) (x6 : Int32) (x7 : Int32) (σ : zz_T), pX6_read_164  Q K62 x1 x2 x3 x4 x5 x6 x7 σ → zz_V p l e rmX6_read s m args below meth c (MQ below (va_Qi Q (zz_E Y) (zz_A Y)) args s 0 0 (zz_A Y)) 11 Y σ 164 [(0, .ref (Y.2.1 0)), (1, .int x1), (2, .int x2), (3, .int x3), (4, .int x4), (5, .int x5), (6, .int x6), (7, .int x7)] [] := by
  intro x1 x2 x3 x4 x5 x6 x7 σ h 
  unfold pX6_read_164 at h
  refine zv_iload X dX6_read_164 5 rfl rfl ?_
  refine zv_if_ne (tgt := 244) X dX6_read_166 (by decide) rfl (fun q166 => ?_) (fun q166 => ?_)
  · replace h := h.2 q166
    exact vX6_read_244 X hr hlk hJ hY hK62 x1 x2 x3 x4 x5 x6 x7 _ h
  · replace h := h.1 q166
    refine zv_bipush (v := 40) X dX6_read_169 (by decide) rfl ?_
    refine zv_iload_n X dX6_read_171 1 rfl rfl rfl ?_
    refine zv_imul X dX6_read_172 rfl ?_
    refine zv_iload_n X dX6_read_173 3 rfl rfl rfl ?_
    refine zv_iadd X dX6_read_174 rfl ?_
    refine zv_iconst (v := 2) X dX6_read_175 (by decide) rfl ?_
    refine zv_iload X dX6_read_176 7 rfl rfl ?_
    refine zv_imul X dX6_read_178 rfl ?_
    refine zv_iadd X dX6_read_179 rfl ?_
    refine zv_istore (lv2 := [(8, .int (((40 * x1) + x3) + (2 * x7))), (0, .ref (Y.2.1 0)), (1, .int x1), (2, .int x2), (3, .int x3), (4, .int x4), (5, .int x5), (6, .int x6), (7, .int x7)]) X dX6_read_180 (by decide) rfl rfl ?_
    refine zv_aload_n X dX6_read_182 1 rfl rfl rfl ?_
    refine zv_aload_n X dX6_read_183 1 rfl rfl rfl ?_
    refine zg_X6_31 (k := 0) X (zz_mo_o hY).1 (zz_mo_o hY).2 fl_X6_53 dX6_read_184 rfl ?_
    refine zv_iload X dX6_read_187 0 rfl rfl ?_
    obtain ⟨hi189, h⟩ := h
    refine zv_iald (k := 15) X (zz_mo_cells hY).1 (zz_mo_cells hY).2 hi189 dX6_read_189 rfl ?_
    refine zv_aload_n X dX6_read_190 1 rfl rfl rfl ?_
    refine zg_X6_31 (k := 0) X (zz_mo_o hY).1 (zz_mo_o hY).2 fl_X6_53 dX6_read_191 rfl ?_
    refine zv_iload X dX6_read_194 0 rfl rfl ?_
    refine zv_iconst (v := 1) X dX6_read_196 (by decide) rfl ?_
    refine zv_iadd X dX6_read_197 rfl ?_
    obtain ⟨hi198, h⟩ := h
    refine zv_iald (k := 15) X (zz_mo_cells hY).1 (zz_mo_cells hY).2 hi198 dX6_read_198 rfl ?_
    refine zv_cVi (k := 0) (ci := 6) X [.int (σ.1 15 (Int32.toNatClampNeg (((40 * x1) + x3) + (2 * x7)))), .int (σ.1 15 (Int32.toNatClampNeg ((((40 * x1) + x3) + (2 * x7)) + 1)))] (kX6_set l hJ (σ.1 15 (Int32.toNatClampNeg (((40 * x1) + x3) + (2 * x7)))) (σ.1 15 (Int32.toNatClampNeg ((((40 * x1) + x3) + (2 * x7)) + 1))) hY h) jl_X6_320 ⟨rfl, rfl⟩ ⟨Nat.le_of_ble_eq_true rfl, Nat.le_of_ble_eq_true rfl⟩ (zz_mo_o hY).1 (by decide) (zz_mo_o hY).2 rfl rfl rfl (Nat.le_of_ble_eq_true rfl) dX6_read_199 rfl (fun r199 s199 h => ?_)
    refine zv_if_ge (tgt := 241) X dX6_read_202 (by decide) rfl (fun q202 => ?_) (fun q202 => ?_)
    · replace h := h.1 q202
      refine zv_iinc (v := (x6 + 1)) (lv2 := [(6, .int (x6 + 1)), (8, .int (((40 * x1) + x3) + (2 * x7))), (0, .ref (Y.2.1 0)), (1, .int x1), (2, .int x2), (3, .int x3), (4, .int x4), (5, .int x5), (7, .int x7)]) X dX6_read_241 7 rfl rfl (by decide) rfl rfl ?_
      refine zv_sub (lv2 := [(0, .ref (Y.2.1 0)), (1, .int x1), (2, .int x2), (3, .int x3), (4, .int x4), (5, .int x5), (6, .int (x6 + 1)), (7, .int x7)]) [2, 3, 4, 5, 6, 7, 0, 8] rfl ?_
      exact vX6_read_244 X hr hlk hJ hY hK62 x1 x2 x3 x4 x5 (x6 + 1) x7 _ h
    · replace h := h.2 q202
      refine zv_iconst (v := 0) X dX6_read_205 (by decide) rfl ?_
      refine zv_istore (lv2 := [(9, .int 0), (8, .int (((40 * x1) + x3) + (2 * x7))), (0, .ref (Y.2.1 0)), (1, .int x1), (2, .int x2), (3, .int x3), (4, .int x4), (5, .int x5), (6, .int x6), (7, .int x7)]) X dX6_read_206 (by decide) rfl rfl ?_
      obtain ⟨n208, h⟩ := h
      refine zv_sub (lv2 := [(0, .ref (Y.2.1 0)), (7, .int x7), (9, .int 0)]) [2, 9, 0] rfl ?_
      exact vX6_read_208 X hr hlk hJ hY n208 x7 0 _ h
def pX6_read_156  (Q : Int32 → zz_T → Prop) (K62 : Int32 → Int32 → Int32 → Int32 → Int32 → Int32 → Int32 → zz_T → Prop) (K77 : Int32 → Int32 → Int32 → Int32 → Int32 → Int32 → Int32 → Int32 → zz_T → Prop) (x1 : Int32) (x2 : Int32) (x3 : Int32) (x4 : Int32) (x6 : Int32) (x7 : Int32) (x8 : Int32) (t0 : Int32) (σ : zz_T) : Prop :=
    K77 x1 x2 x3 x4 t0 x6 x7 (x8 + 1) σ
set_option maxHeartbeats 4000000 in
set_option maxRecDepth 100000 in
theorem vX6_read_156 {p : Program} {l : Launch} {e : Env} {s : State} {m : MethodId} {args : Array Value} {below : List Frame} {meth : Method} {c : Code} {Y : zz_Y}  {Q : Int32 → zz_T → Prop} {K62 : Int32 → Int32 → Int32 → Int32 → Int32 → Int32 → Int32 → zz_T → Prop} {K77 : Int32 → Int32 → Int32 → Int32 → Int32 → Int32 → Int32 → Int32 → zz_T → Prop} (X : zz_X p m c cX6_read 11 s args RX6) (hr : meth.sig.returnType = (some .int)) (hlk : meth.locks = false) (hJ : zz_J Y) (hY : zz_mo Y) (hK62 : ∀ (x1 : Int32) (x2 : Int32) (x3 : Int32) (x4 : Int32) (x5 : Int32) (x6 : Int32) (x7 : Int32) (σ : zz_T), K62 x1 x2 x3 x4 x5 x6 x7 σ → zz_V p l e rmX6_read s m args below meth c (MQ below (va_Qi Q (zz_E Y) (zz_A Y)) args s 0 0 (zz_A Y)) 11 Y σ 62 [(0, .ref (Y.2.1 0)), (1, .int x1), (2, .int x2), (3, .int x3), (4, .int x4), (5, .int x5), (6, .int x6), (7, .int x7)] []) (hK77 : ∀ (x1 : Int32) (x2 : Int32) (x3 : Int32) (x4 : Int32) (x5 : Int32) (x6 : Int32) (x7 : Int32) (x8 : Int32) (σ : zz_T), K77 x1 x2 x3 x4 x5 x6 x7 x8 σ → zz_V p l e rmX6_read s m args below meth c (MQ below (va_Qi Q (zz_E Y) (zz_A Y)) args s 0 0 (zz_A Y)) 11 Y σ 77 [(0, .ref (Y.2.1 0)), (1, .int x1), (2, .int x2), (3, .int x3), (4, .int x4), (5, .int x5), (6, .int x6), (7, .int x7), (8, .int x8)] []) : ∀ (x1 : Int32) (x2 : Int32) (x3 : Int32) (x4 : Int32) (x6 : Int32) (x7 : Int32) (x8 : Int32) (t0 : Int32) (σ : zz_T), pX6_read_156  Q K62 K77 x1 x2 x3 x4 x6 x7 x8 t0 σ → zz_V p l e rmX6_read s m args below meth c (MQ below (va_Qi Q (zz_E Y) (zz_A Y)) args s 0 0 (zz_A Y)) 11 Y σ 156 [(0, .ref (Y.2.1 0)), (1, .int x1), (2, .int x2), (3, .int x3), (4, .int x4), (6, .int x6), (7, .int x7), (8, .int x8)] [.int t0] := by
  intro x1 x2 x3 x4 x6 x7 x8 t0 σ h 
  unfold pX6_read_156 at h
  refine zv_istore (lv2 := [(5, .int t0), (0, .ref (Y.2.1 0)), (1, .int x1), (2, .int x2), (3, .int x3), (4, .int x4), (6, .int x6), (7, .int x7), (8, .int x8)]) X dX6_read_156 (by decide) rfl rfl ?_
  refine zv_iinc (v := (x8 + 1)) (lv2 := [(8, .int (x8 + 1)), (5, .int t0), (0, .ref (Y.2.1 0)), (1, .int x1), (2, .int x2), (3, .int x3), (4, .int x4), (6, .int x6), (7, .int x7)]) X dX6_read_158 8 rfl rfl (by decide) rfl rfl ?_
  refine zv_goto (tgt := 77) X dX6_read_161 (by decide) ?_
  refine zv_sub (lv2 := [(0, .ref (Y.2.1 0)), (1, .int x1), (2, .int x2), (3, .int x3), (4, .int x4), (5, .int t0), (6, .int x6), (7, .int x7), (8, .int (x8 + 1))]) [2, 3, 4, 5, 6, 1, 7, 8, 0] rfl ?_
  exact hK77 x1 x2 x3 x4 t0 x6 x7 (x8 + 1) _ h
def pX6_read_151  (Q : Int32 → zz_T → Prop) (K62 : Int32 → Int32 → Int32 → Int32 → Int32 → Int32 → Int32 → zz_T → Prop) (K77 : Int32 → Int32 → Int32 → Int32 → Int32 → Int32 → Int32 → Int32 → zz_T → Prop) (x1 : Int32) (x2 : Int32) (x3 : Int32) (x4 : Int32) (x6 : Int32) (x7 : Int32) (x8 : Int32) (σ : zz_T) : Prop :=
    pX6_read_156  Q K62 K77 x1 x2 x3 x4 x6 x7 x8 2 σ
set_option maxHeartbeats 4000000 in
set_option maxRecDepth 100000 in
theorem vX6_read_151 {p : Program} {l : Launch} {e : Env} {s : State} {m : MethodId} {args : Array Value} {below : List Frame} {meth : Method} {c : Code} {Y : zz_Y}  {Q : Int32 → zz_T → Prop} {K62 : Int32 → Int32 → Int32 → Int32 → Int32 → Int32 → Int32 → zz_T → Prop} {K77 : Int32 → Int32 → Int32 → Int32 → Int32 → Int32 → Int32 → Int32 → zz_T → Prop} (X : zz_X p m c cX6_read 11 s args RX6) (hr : meth.sig.returnType = (some .int)) (hlk : meth.locks = false) (hJ : zz_J Y) (hY : zz_mo Y) (hK62 : ∀ (x1 : Int32) (x2 : Int32) (x3 : Int32) (x4 : Int32) (x5 : Int32) (x6 : Int32) (x7 : Int32) (σ : zz_T), K62 x1 x2 x3 x4 x5 x6 x7 σ → zz_V p l e rmX6_read s m args below meth c (MQ below (va_Qi Q (zz_E Y) (zz_A Y)) args s 0 0 (zz_A Y)) 11 Y σ 62 [(0, .ref (Y.2.1 0)), (1, .int x1), (2, .int x2), (3, .int x3), (4, .int x4), (5, .int x5), (6, .int x6), (7, .int x7)] []) (hK77 : ∀ (x1 : Int32) (x2 : Int32) (x3 : Int32) (x4 : Int32) (x5 : Int32) (x6 : Int32) (x7 : Int32) (x8 : Int32) (σ : zz_T), K77 x1 x2 x3 x4 x5 x6 x7 x8 σ → zz_V p l e rmX6_read s m args below meth c (MQ below (va_Qi Q (zz_E Y) (zz_A Y)) args s 0 0 (zz_A Y)) 11 Y σ 77 [(0, .ref (Y.2.1 0)), (1, .int x1), (2, .int x2), (3, .int x3), (4, .int x4), (5, .int x5), (6, .int x6), (7, .int x7), (8, .int x8)] []) : ∀ (x1 : Int32) (x2 : Int32) (x3 : Int32) (x4 : Int32) (x6 : Int32) (x7 : Int32) (x8 : Int32) (σ : zz_T), pX6_read_151  Q K62 K77 x1 x2 x3 x4 x6 x7 x8 σ → zz_V p l e rmX6_read s m args below meth c (MQ below (va_Qi Q (zz_E Y) (zz_A Y)) args s 0 0 (zz_A Y)) 11 Y σ 151 [(0, .ref (Y.2.1 0)), (1, .int x1), (2, .int x2), (3, .int x3), (4, .int x4), (6, .int x6), (7, .int x7), (8, .int x8)] [] := by
  intro x1 x2 x3 x4 x6 x7 x8 σ h 
  unfold pX6_read_151 at h
  refine zv_iconst (v := 2) X dX6_read_151 (by decide) rfl ?_
  refine zv_goto (tgt := 156) X dX6_read_152 (by decide) ?_
  exact vX6_read_156 X hr hlk hJ hY hK62 hK77 x1 x2 x3 x4 x6 x7 x8 2 _ h
def pX6_read_77  (Q : Int32 → zz_T → Prop) (K62 : Int32 → Int32 → Int32 → Int32 → Int32 → Int32 → Int32 → zz_T → Prop) : Nat → Int32 → Int32 → Int32 → Int32 → Int32 → Int32 → Int32 → Int32 → zz_T → Prop
  | 0, _, _, _, _, _, _, _, _, _ => False
  | n + 1, x1, x2, x3, x4, x5, x6, x7, x8, σ =>
    ((2 ≤ x8 → pX6_read_164  Q K62 x1 x2 x3 x4 x5 x6 x7 σ) ∧
    (¬ 2 ≤ x8 → ((x5 = 0 → vp_in x1 4 ∧
    (((σ.1 13 (Int32.toNatClampNeg x1)) = (-4) → pX6_read_156  Q K62 (pX6_read_77  Q K62 n) x1 x2 x3 x4 x6 x7 x8 1 σ) ∧
    (¬ (σ.1 13 (Int32.toNatClampNeg x1)) = (-4) → vp_in x1 4 ∧
    (((σ.1 13 (Int32.toNatClampNeg x1)) = x2 → (((lg_cmp (((Int32.toInt64 x3) + (Int32.toInt64 (2 * x7))) + (Int32.toInt64 x8)) 0) < 0 → pX6_read_151  Q K62 (pX6_read_77  Q K62 n) x1 x2 x3 x4 x6 x7 x8 σ) ∧
    (¬ (lg_cmp (((Int32.toInt64 x3) + (Int32.toInt64 (2 * x7))) + (Int32.toInt64 x8)) 0) < 0 → vp_in x1 4 ∧
    (((lg_cmp (((Int32.toInt64 x3) + (Int32.toInt64 (2 * x7))) + (Int32.toInt64 x8)) (Int32.toInt64 (σ.1 14 (Int32.toNatClampNeg x1)))) < 0 → pX6_read_156  Q K62 (pX6_read_77  Q K62 n) x1 x2 x3 x4 x6 x7 x8 0 σ) ∧
    (¬ (lg_cmp (((Int32.toInt64 x3) + (Int32.toInt64 (2 * x7))) + (Int32.toInt64 x8)) (Int32.toInt64 (σ.1 14 (Int32.toNatClampNeg x1)))) < 0 → pX6_read_151  Q K62 (pX6_read_77  Q K62 n) x1 x2 x3 x4 x6 x7 x8 σ))))) ∧
    (¬ (σ.1 13 (Int32.toNatClampNeg x1)) = x2 → pX6_read_156  Q K62 (pX6_read_77  Q K62 n) x1 x2 x3 x4 x6 x7 x8 3 σ))))) ∧
    (¬ x5 = 0 → pX6_read_164  Q K62 x1 x2 x3 x4 x5 x6 x7 σ))))
set_option maxHeartbeats 4000000 in
set_option maxRecDepth 100000 in
theorem vX6_read_77 {p : Program} {l : Launch} {e : Env} {s : State} {m : MethodId} {args : Array Value} {below : List Frame} {meth : Method} {c : Code} {Y : zz_Y}  {Q : Int32 → zz_T → Prop} {K62 : Int32 → Int32 → Int32 → Int32 → Int32 → Int32 → Int32 → zz_T → Prop} (X : zz_X p m c cX6_read 11 s args RX6) (hr : meth.sig.returnType = (some .int)) (hlk : meth.locks = false) (hJ : zz_J Y) (hY : zz_mo Y) (hK62 : ∀ (x1 : Int32) (x2 : Int32) (x3 : Int32) (x4 : Int32) (x5 : Int32) (x6 : Int32) (x7 : Int32) (σ : zz_T), K62 x1 x2 x3 x4 x5 x6 x7 σ → zz_V p l e rmX6_read s m args below meth c (MQ below (va_Qi Q (zz_E Y) (zz_A Y)) args s 0 0 (zz_A Y)) 11 Y σ 62 [(0, .ref (Y.2.1 0)), (1, .int x1), (2, .int x2), (3, .int x3), (4, .int x4), (5, .int x5), (6, .int x6), (7, .int x7)] []) : ∀ (n : Nat) (x1 : Int32) (x2 : Int32) (x3 : Int32) (x4 : Int32) (x5 : Int32) (x6 : Int32) (x7 : Int32) (x8 : Int32) (σ : zz_T), pX6_read_77  Q K62 n x1 x2 x3 x4 x5 x6 x7 x8 σ → zz_V p l e rmX6_read s m args below meth c (MQ below (va_Qi Q (zz_E Y) (zz_A Y)) args s 0 0 (zz_A Y)) 11 Y σ 77 [(0, .ref (Y.2.1 0)), (1, .int x1), (2, .int x2), (3, .int x3), (4, .int x4), (5, .int x5), (6, .int x6), (7, .int x7), (8, .int x8)] [] := by
  intro n
  induction n with
  | zero => intro x1 x2 x3 x4 x5 x6 x7 x8 σ h; exact h.elim
  | succ n ih =>
    intro x1 x2 x3 x4 x5 x6 x7 x8 σ h 
    unfold pX6_read_77 at h
    refine zv_iload X dX6_read_77 8 rfl rfl ?_
    refine zv_iconst (v := 2) X dX6_read_79 (by decide) rfl ?_
    refine zv_icmp_ge (tgt := 164) X dX6_read_80 (by decide) rfl (fun q80 => ?_) (fun q80 => ?_)
    · replace h := h.1 q80
      refine zv_sub (lv2 := [(0, .ref (Y.2.1 0)), (1, .int x1), (2, .int x2), (3, .int x3), (4, .int x4), (5, .int x5), (6, .int x6), (7, .int x7)]) [0, 1, 2, 3, 4, 5, 6, 7] rfl ?_
      exact vX6_read_164 X hr hlk hJ hY hK62 x1 x2 x3 x4 x5 x6 x7 _ h
    · replace h := h.2 q80
      refine zv_iload X dX6_read_83 5 rfl rfl ?_
      refine zv_if_ne (tgt := 164) X dX6_read_85 (by decide) rfl (fun q85 => ?_) (fun q85 => ?_)
      · replace h := h.2 q85
        refine zv_sub (lv2 := [(0, .ref (Y.2.1 0)), (1, .int x1), (2, .int x2), (3, .int x3), (4, .int x4), (5, .int x5), (6, .int x6), (7, .int x7)]) [0, 1, 2, 3, 4, 5, 6, 7] rfl ?_
        exact vX6_read_164 X hr hlk hJ hY hK62 x1 x2 x3 x4 x5 x6 x7 _ h
      · replace h := h.1 q85
        refine zv_iload_n X dX6_read_88 3 rfl rfl rfl ?_
        refine zv_i2l X dX6_read_89 rfl ?_
        refine zv_iconst (v := 2) X dX6_read_90 (by decide) rfl ?_
        refine zv_iload X dX6_read_91 7 rfl rfl ?_
        refine zv_imul X dX6_read_93 rfl ?_
        refine zv_i2l X dX6_read_94 rfl ?_
        refine zv_ladd X dX6_read_95 rfl ?_
        refine zv_iload X dX6_read_96 8 rfl rfl ?_
        refine zv_i2l X dX6_read_98 rfl ?_
        refine zv_ladd X dX6_read_99 rfl ?_
        refine zv_lstore (lv2 := [(9, .long (((Int32.toInt64 x3) + (Int32.toInt64 (2 * x7))) + (Int32.toInt64 x8))), (0, .ref (Y.2.1 0)), (1, .int x1), (2, .int x2), (3, .int x3), (4, .int x4), (5, .int x5), (6, .int x6), (7, .int x7), (8, .int x8)]) X dX6_read_100 (by decide) rfl rfl ?_
        refine zv_aload_n X dX6_read_102 1 rfl rfl rfl ?_
        refine zg_X6_29 (k := 0) X (zz_mo_o hY).1 (zz_mo_o hY).2 fl_X6_47 dX6_read_103 rfl ?_
        refine zv_iload_n X dX6_read_106 2 rfl rfl rfl ?_
        obtain ⟨hi107, h⟩ := h
        refine zv_iald (k := 13) X (zz_mo_lanes hY).1 (zz_mo_lanes hY).2 hi107 dX6_read_107 rfl ?_
        refine zv_bipush (v := (-4)) X dX6_read_108 (by decide) rfl ?_
        refine zv_icmp_ne (tgt := 117) X dX6_read_110 (by decide) rfl (fun q110 => ?_) (fun q110 => ?_)
        · replace h := h.2 q110
          refine zv_aload_n X dX6_read_117 1 rfl rfl rfl ?_
          refine zg_X6_29 (k := 0) X (zz_mo_o hY).1 (zz_mo_o hY).2 fl_X6_47 dX6_read_118 rfl ?_
          refine zv_iload_n X dX6_read_121 2 rfl rfl rfl ?_
          obtain ⟨hi122, h⟩ := h
          refine zv_iald (k := 13) X (zz_mo_lanes hY).1 (zz_mo_lanes hY).2 hi122 dX6_read_122 rfl ?_
          refine zv_iload_n X dX6_read_123 3 rfl rfl rfl ?_
          refine zv_icmp_eq (tgt := 131) X dX6_read_124 (by decide) rfl (fun q124 => ?_) (fun q124 => ?_)
          · replace h := h.1 q124
            refine zv_lload X dX6_read_131 0 rfl rfl ?_
            refine zv_lconst (v := 0) X dX6_read_133 (by decide) rfl ?_
            refine zv_lcmp X dX6_read_134 rfl ?_
            refine zv_if_lt (tgt := 151) X dX6_read_135 (by decide) rfl (fun q135 => ?_) (fun q135 => ?_)
            · replace h := h.1 q135
              refine zv_sub (lv2 := [(0, .ref (Y.2.1 0)), (1, .int x1), (2, .int x2), (3, .int x3), (4, .int x4), (6, .int x6), (7, .int x7), (8, .int x8)]) [1, 2, 3, 4, 5, 7, 8, 9] rfl ?_
              exact vX6_read_151 X hr hlk hJ hY hK62 ih x1 x2 x3 x4 x6 x7 x8 _ h
            · replace h := h.2 q135
              refine zv_lload X dX6_read_138 0 rfl rfl ?_
              refine zv_aload_n X dX6_read_140 1 rfl rfl rfl ?_
              refine zg_X6_30 (k := 0) X (zz_mo_o hY).1 (zz_mo_o hY).2 fl_X6_50 dX6_read_141 rfl ?_
              refine zv_iload_n X dX6_read_144 2 rfl rfl rfl ?_
              obtain ⟨hi145, h⟩ := h
              refine zv_iald (k := 14) X (zz_mo_sizes hY).1 (zz_mo_sizes hY).2 hi145 dX6_read_145 rfl ?_
              refine zv_i2l X dX6_read_146 rfl ?_
              refine zv_lcmp X dX6_read_147 rfl ?_
              refine zv_if_lt (tgt := 155) X dX6_read_148 (by decide) rfl (fun q148 => ?_) (fun q148 => ?_)
              · replace h := h.1 q148
                refine zv_iconst (v := 0) X dX6_read_155 (by decide) rfl ?_
                refine zv_sub (lv2 := [(0, .ref (Y.2.1 0)), (1, .int x1), (2, .int x2), (3, .int x3), (4, .int x4), (6, .int x6), (7, .int x7), (8, .int x8)]) [1, 2, 3, 4, 5, 7, 8, 9] rfl ?_
                exact vX6_read_156 X hr hlk hJ hY hK62 ih x1 x2 x3 x4 x6 x7 x8 0 _ h
              · replace h := h.2 q148
                refine zv_sub (lv2 := [(0, .ref (Y.2.1 0)), (1, .int x1), (2, .int x2), (3, .int x3), (4, .int x4), (6, .int x6), (7, .int x7), (8, .int x8)]) [1, 2, 3, 4, 5, 7, 8, 9] rfl ?_
                exact vX6_read_151 X hr hlk hJ hY hK62 ih x1 x2 x3 x4 x6 x7 x8 _ h
          · replace h := h.2 q124
            refine zv_iconst (v := 3) X dX6_read_127 (by decide) rfl ?_
            refine zv_goto (tgt := 156) X dX6_read_128 (by decide) ?_
            refine zv_sub (lv2 := [(0, .ref (Y.2.1 0)), (1, .int x1), (2, .int x2), (3, .int x3), (4, .int x4), (6, .int x6), (7, .int x7), (8, .int x8)]) [1, 2, 3, 4, 5, 7, 8, 9] rfl ?_
            exact vX6_read_156 X hr hlk hJ hY hK62 ih x1 x2 x3 x4 x6 x7 x8 3 _ h
        · replace h := h.1 q110
          refine zv_iconst (v := 1) X dX6_read_113 (by decide) rfl ?_
          refine zv_goto (tgt := 156) X dX6_read_114 (by decide) ?_
          refine zv_sub (lv2 := [(0, .ref (Y.2.1 0)), (1, .int x1), (2, .int x2), (3, .int x3), (4, .int x4), (6, .int x6), (7, .int x7), (8, .int x8)]) [1, 2, 3, 4, 5, 7, 8, 9] rfl ?_
          exact vX6_read_156 X hr hlk hJ hY hK62 ih x1 x2 x3 x4 x6 x7 x8 1 _ h
def pX6_read_62  (Q : Int32 → zz_T → Prop) : Nat → Int32 → Int32 → Int32 → Int32 → Int32 → Int32 → Int32 → zz_T → Prop
  | 0, _, _, _, _, _, _, _, _ => False
  | n + 1, x1, x2, x3, x4, x5, x6, x7, σ =>
    ((x4 ≤ x7 → Q x6 (zz_i σ 0 32 x5)) ∧
    (¬ x4 ≤ x7 → ((x5 = 0 → ∃ n77, pX6_read_77  Q (pX6_read_62  Q n) n77 x1 x2 x3 x4 x5 x6 x7 0 σ) ∧
    (¬ x5 = 0 → Q x6 (zz_i σ 0 32 x5)))))
set_option maxHeartbeats 4000000 in
set_option maxRecDepth 100000 in
theorem vX6_read_62 {p : Program} {l : Launch} {e : Env} {s : State} {m : MethodId} {args : Array Value} {below : List Frame} {meth : Method} {c : Code} {Y : zz_Y}  {Q : Int32 → zz_T → Prop} (X : zz_X p m c cX6_read 11 s args RX6) (hr : meth.sig.returnType = (some .int)) (hlk : meth.locks = false) (hJ : zz_J Y) (hY : zz_mo Y)  : ∀ (n : Nat) (x1 : Int32) (x2 : Int32) (x3 : Int32) (x4 : Int32) (x5 : Int32) (x6 : Int32) (x7 : Int32) (σ : zz_T), pX6_read_62  Q n x1 x2 x3 x4 x5 x6 x7 σ → zz_V p l e rmX6_read s m args below meth c (MQ below (va_Qi Q (zz_E Y) (zz_A Y)) args s 0 0 (zz_A Y)) 11 Y σ 62 [(0, .ref (Y.2.1 0)), (1, .int x1), (2, .int x2), (3, .int x3), (4, .int x4), (5, .int x5), (6, .int x6), (7, .int x7)] [] := by
  intro n
  induction n with
  | zero => intro x1 x2 x3 x4 x5 x6 x7 σ h; exact h.elim
  | succ n ih =>
    intro x1 x2 x3 x4 x5 x6 x7 σ h 
    unfold pX6_read_62 at h
    refine zv_iload X dX6_read_62 7 rfl rfl ?_
    refine zv_iload X dX6_read_64 4 rfl rfl ?_
    refine zv_icmp_ge (tgt := 250) X dX6_read_66 (by decide) rfl (fun q66 => ?_) (fun q66 => ?_)
    · replace h := h.1 q66
      refine zv_aload_n X dX6_read_250 0 rfl rfl rfl ?_
      refine zv_iload X dX6_read_251 5 rfl rfl ?_
      refine zp_X6_32 (k := 0) X (zz_mo_o hY).1 (zz_mo_o hY).2 fl_X6_323 dX6_read_253 rfl ?_
      refine zv_iload X dX6_read_256 6 rfl rfl ?_
      exact zv_iret X hr hlk h dX6_read_258
    · replace h := h.2 q66
      refine zv_iload X dX6_read_69 5 rfl rfl ?_
      refine zv_if_ne (tgt := 250) X dX6_read_71 (by decide) rfl (fun q71 => ?_) (fun q71 => ?_)
      · replace h := h.2 q71
        refine zv_aload_n X dX6_read_250 0 rfl rfl rfl ?_
        refine zv_iload X dX6_read_251 5 rfl rfl ?_
        refine zp_X6_32 (k := 0) X (zz_mo_o hY).1 (zz_mo_o hY).2 fl_X6_323 dX6_read_253 rfl ?_
        refine zv_iload X dX6_read_256 6 rfl rfl ?_
        exact zv_iret X hr hlk h dX6_read_258
      · replace h := h.1 q71
        refine zv_iconst (v := 0) X dX6_read_74 (by decide) rfl ?_
        refine zv_istore (lv2 := [(8, .int 0), (0, .ref (Y.2.1 0)), (1, .int x1), (2, .int x2), (3, .int x3), (4, .int x4), (5, .int x5), (6, .int x6), (7, .int x7)]) X dX6_read_75 (by decide) rfl rfl ?_
        obtain ⟨n77, h⟩ := h
        refine zv_sub (lv2 := [(0, .ref (Y.2.1 0)), (1, .int x1), (2, .int x2), (3, .int x3), (4, .int x4), (5, .int x5), (6, .int x6), (7, .int x7), (8, .int 0)]) [1, 2, 3, 4, 5, 6, 7, 8, 0] rfl ?_
        exact vX6_read_77 X hr hlk hJ hY ih n77 x1 x2 x3 x4 x5 x6 x7 0 _ h
def pX6_read_26  (Q : Int32 → zz_T → Prop) : Nat → Int32 → Int32 → Int32 → Int32 → Int32 → zz_T → Prop
  | 0, _, _, _, _, _, _ => False
  | n + 1, x1, x2, x3, x4, x5, σ =>
    ((70 ≤ x5 → ∃ n62, pX6_read_62  Q n62 x1 x2 x3 x4 0 0 0 σ) ∧
    (¬ 70 ≤ x5 → vp_in x5 210 ∧
    vp_in x5 70 ∧
    pX6_read_26  Q n x1 x2 x3 x4 (x5 + 1) (zz_i σ 16 (Int32.toNatClampNeg x5) (σ.1 1 (Int32.toNatClampNeg x5)))))
set_option maxHeartbeats 4000000 in
set_option maxRecDepth 100000 in
theorem vX6_read_26 {p : Program} {l : Launch} {e : Env} {s : State} {m : MethodId} {args : Array Value} {below : List Frame} {meth : Method} {c : Code} {Y : zz_Y}  {Q : Int32 → zz_T → Prop} (X : zz_X p m c cX6_read 11 s args RX6) (hr : meth.sig.returnType = (some .int)) (hlk : meth.locks = false) (hJ : zz_J Y) (hY : zz_mo Y)  : ∀ (n : Nat) (x1 : Int32) (x2 : Int32) (x3 : Int32) (x4 : Int32) (x5 : Int32) (σ : zz_T), pX6_read_26  Q n x1 x2 x3 x4 x5 σ → zz_V p l e rmX6_read s m args below meth c (MQ below (va_Qi Q (zz_E Y) (zz_A Y)) args s 0 0 (zz_A Y)) 11 Y σ 26 [(0, .ref (Y.2.1 0)), (1, .int x1), (2, .int x2), (3, .int x3), (4, .int x4), (5, .int x5)] [] := by
  intro n
  induction n with
  | zero => intro x1 x2 x3 x4 x5 σ h; exact h.elim
  | succ n ih =>
    intro x1 x2 x3 x4 x5 σ h 
    unfold pX6_read_26 at h
    refine zv_iload X dX6_read_26 5 rfl rfl ?_
    refine zv_bipush (v := 70) X dX6_read_28 (by decide) rfl ?_
    refine zv_icmp_ge (tgt := 53) X dX6_read_30 (by decide) rfl (fun q30 => ?_) (fun q30 => ?_)
    · replace h := h.1 q30
      refine zv_iconst (v := 0) X dX6_read_53 (by decide) rfl ?_
      refine zv_istore (lv2 := [(5, .int 0), (0, .ref (Y.2.1 0)), (1, .int x1), (2, .int x2), (3, .int x3), (4, .int x4)]) X dX6_read_54 (by decide) rfl rfl ?_
      refine zv_iconst (v := 0) X dX6_read_56 (by decide) rfl ?_
      refine zv_istore (lv2 := [(6, .int 0), (5, .int 0), (0, .ref (Y.2.1 0)), (1, .int x1), (2, .int x2), (3, .int x3), (4, .int x4)]) X dX6_read_57 (by decide) rfl rfl ?_
      refine zv_iconst (v := 0) X dX6_read_59 (by decide) rfl ?_
      refine zv_istore (lv2 := [(7, .int 0), (6, .int 0), (5, .int 0), (0, .ref (Y.2.1 0)), (1, .int x1), (2, .int x2), (3, .int x3), (4, .int x4)]) X dX6_read_60 (by decide) rfl rfl ?_
      obtain ⟨n62, h⟩ := h
      refine zv_sub (lv2 := [(0, .ref (Y.2.1 0)), (1, .int x1), (2, .int x2), (3, .int x3), (4, .int x4), (5, .int 0), (6, .int 0), (7, .int 0)]) [3, 4, 5, 6, 7, 2, 1, 0] rfl ?_
      exact vX6_read_62 X hr hlk hJ hY n62 x1 x2 x3 x4 0 0 0 _ h
    · replace h := h.2 q30
      refine zv_aload_n X dX6_read_33 0 rfl rfl rfl ?_
      refine zg_X6_33 (k := 0) X (zz_mo_o hY).1 (zz_mo_o hY).2 fl_X6_56 dX6_read_34 rfl ?_
      refine zv_iload X dX6_read_37 5 rfl rfl ?_
      refine zv_aload_n X dX6_read_39 0 rfl rfl rfl ?_
      refine zg_X6_0 (k := 0) X (zz_mo_o hY).1 (zz_mo_o hY).2 fl_X6_7 dX6_read_40 rfl ?_
      refine zv_iload X dX6_read_43 5 rfl rfl ?_
      obtain ⟨hi45, h⟩ := h
      refine zv_iald (k := 1) X (zz_mo_st hY).1 (zz_mo_st hY).2 hi45 dX6_read_45 rfl ?_
      obtain ⟨hi46, h⟩ := h
      refine zv_iast (k := 16) X (zz_mo_before hY).1 (zz_mo_before hY).2 hi46 dX6_read_46 rfl ?_
      refine zv_iinc (v := (x5 + 1)) (lv2 := [(5, .int (x5 + 1)), (0, .ref (Y.2.1 0)), (1, .int x1), (2, .int x2), (3, .int x3), (4, .int x4)]) X dX6_read_47 5 rfl rfl (by decide) rfl rfl ?_
      refine zv_goto (tgt := 26) X dX6_read_50 (by decide) ?_
      refine zv_sub (lv2 := [(0, .ref (Y.2.1 0)), (1, .int x1), (2, .int x2), (3, .int x3), (4, .int x4), (5, .int (x5 + 1))]) [1, 2, 3, 4, 5, 0] rfl ?_
      exact ih x1 x2 x3 x4 (x5 + 1) _ h
def pX6_read (x1 : Int32) (x2 : Int32) (x3 : Int32) (x4 : Int32) (σ : zz_T) (Q : Int32 → zz_T → Prop) : Prop :=
    pX6_isSheet x1 x2 σ (fun r2 s2 =>
    ((r2 = 0 → Q (-1) s2) ∧
    (¬ r2 = 0 → pX6_in (Int32.toInt64 x4) 0 20 s2 (fun r15 s15 =>
    ((r15 = 0 → Q (-1) s15) ∧
    (¬ r15 = 0 → ∃ n26, pX6_read_26  Q n26 x1 x2 x3 x4 0 s15))))))
set_option maxHeartbeats 4000000 in
set_option maxRecDepth 100000 in
theorem kX6_read (l : Launch) {Y : zz_Y} (hJ : zz_J Y) (x1 : Int32) (x2 : Int32) (x3 : Int32) (x4 : Int32) (hY : zz_mo Y) {σ : zz_T} {Q : Int32 → zz_T → Prop} (h : pX6_read x1 x2 x3 x4 σ Q) : zz_Mi l yX6_read cX6_read 11 (some .int) rmX6_read Y [.ref (Y.2.1 0), .int x1, .int x2, .int x3, .int x4] σ Q := by
  refine zz_Mi.start (by decide) hJ (Nat.le_of_ble_eq_true rfl) (fun p e s m below meth c X hr hlk => ?_)
  have X : zz_X p m c cX6_read 11 s _ RX6 := X
  refine zv_sub (lv2 := [(0, .ref (Y.2.1 0)), (1, .int x1), (2, .int x2), (3, .int x3), (4, .int x4)]) [0, 1, 2, 3, 4] rfl ?_
  unfold pX6_read at h
  refine zv_iload_n X dX6_read_0 1 rfl rfl rfl ?_
  refine zv_iload_n X dX6_read_1 2 rfl rfl rfl ?_
  refine zv_cSi X [.int x1, .int x2] (kX6_isSheet l hJ x1 x2  h) jl_X6_315 ⟨rfl, rfl⟩ ⟨Nat.le_of_ble_eq_true rfl, Nat.le_of_ble_eq_true rfl⟩ rfl rfl (Nat.le_of_ble_eq_true rfl) dX6_read_2 rfl (fun r2 s2 h => ?_)
  refine zv_if_eq (tgt := 21) X dX6_read_5 (by decide) rfl (fun q5 => ?_) (fun q5 => ?_)
  · replace h := h.1 q5
    refine zv_iconst (v := (-1)) X dX6_read_21 (by decide) rfl ?_
    exact zv_iret X hr hlk h dX6_read_22
  · replace h := h.2 q5
    refine zv_iload X dX6_read_8 4 rfl rfl ?_
    refine zv_i2l X dX6_read_10 rfl ?_
    refine zv_lconst (v := 0) X dX6_read_11 (by decide) rfl ?_
    refine zv_ldc2 (v := 20) X dX6_read_12 co_X6_318 rfl ?_
    refine zv_cSi X [.long (Int32.toInt64 x4), .long 0, .long 20] (kX6_in l hJ (Int32.toInt64 x4) 0 20  h) jl_X6_67 ⟨rfl, rfl⟩ ⟨Nat.le_of_ble_eq_true rfl, Nat.le_of_ble_eq_true rfl⟩ rfl rfl (Nat.le_of_ble_eq_true rfl) dX6_read_15 rfl (fun r15 s15 h => ?_)
    refine zv_if_ne (tgt := 23) X dX6_read_18 (by decide) rfl (fun q18 => ?_) (fun q18 => ?_)
    · replace h := h.2 q18
      refine zv_iconst (v := 0) X dX6_read_23 (by decide) rfl ?_
      refine zv_istore (lv2 := [(5, .int 0), (0, .ref (Y.2.1 0)), (1, .int x1), (2, .int x2), (3, .int x3), (4, .int x4)]) X dX6_read_24 (by decide) rfl rfl ?_
      obtain ⟨n26, h⟩ := h
      refine zv_sub (lv2 := [(0, .ref (Y.2.1 0)), (1, .int x1), (2, .int x2), (3, .int x3), (4, .int x4), (5, .int 0)]) [1, 2, 3, 4, 5, 0] rfl ?_
      exact vX6_read_26 X hr hlk hJ hY n26 x1 x2 x3 x4 0 _ h
    · replace h := h.1 q18
      refine zv_iconst (v := (-1)) X dX6_read_21 (by decide) rfl ?_
      exact zv_iret X hr hlk h dX6_read_22
def rmX6_torn : Room := { frames := 0, cells := 0, slots := 0, locals := 0 }
def pX6_torn  (σ : zz_T) (Q : Int32 → zz_T → Prop) : Prop :=
    Q (σ.1 0 32) σ
set_option maxHeartbeats 4000000 in
set_option maxRecDepth 100000 in
theorem kX6_torn (l : Launch) {Y : zz_Y} (hJ : zz_J Y)  (hY : zz_mo Y) {σ : zz_T} {Q : Int32 → zz_T → Prop} (h : pX6_torn  σ Q) : zz_Mi l yX6_torn cX6_torn 1 (some .int) rmX6_torn Y [.ref (Y.2.1 0)] σ Q := by
  refine zz_Mi.start (by decide) hJ (Nat.le_of_ble_eq_true rfl) (fun p e s m below meth c X hr hlk => ?_)
  have X : zz_X p m c cX6_torn 1 s _ RX6 := X
  refine zv_sub (lv2 := [(0, .ref (Y.2.1 0))]) [0] rfl ?_
  unfold pX6_torn at h
  refine zv_aload_n X dX6_torn_0 0 rfl rfl rfl ?_
  refine zg_X6_32 (k := 0) X (zz_mo_o hY).1 (zz_mo_o hY).2 fl_X6_323 dX6_torn_1 rfl ?_
  exact zv_iret X hr hlk h dX6_torn_4
def rmX6_count : Room := { frames := 2, cells := 0, slots := 0, locals := 45 }
def pX6_count_8  (Q : Int32 → zz_T → Prop) : Nat → Int32 → Int32 → Int32 → zz_T → Prop
  | 0, _, _, _, _ => False
  | n + 1, x1, x2, x3, σ =>
    vp_in 49 210 ∧
    (((σ.1 1 (Int32.toNatClampNeg 49)) ≤ x3 → ((x1 = 0 → vp_in 51 210 ∧
    Q (σ.1 1 (Int32.toNatClampNeg 51)) σ) ∧
    (¬ x1 = 0 → ((x1 = 1 → vp_in 0 2 ∧
    pX6_flag (σ.1 3 (Int32.toNatClampNeg 0)) σ (fun r94 s94 =>
    vp_in 1 2 ∧
    pX6_flag (s94.1 3 (Int32.toNatClampNeg 1)) s94 (fun r103 s103 =>
    Q (r94 + r103) s103))) ∧
    (¬ x1 = 1 → ((x1 = 2 → Q (σ.1 0 6) σ) ∧
    (¬ x1 = 2 → ((x1 = 3 → vp_in 0 4 ∧
    (((σ.1 13 (Int32.toNatClampNeg 0)) = (-4) → Q (-4) σ) ∧
    (¬ (σ.1 13 (Int32.toNatClampNeg 0)) = (-4) → vp_in 0 4 ∧
    Q (σ.1 14 (Int32.toNatClampNeg 0)) σ))) ∧
    (¬ x1 = 3 → ((x1 = 4 → pX6_sumOf 1 σ (fun r138 s138 =>
    Q r138 s138)) ∧
    (¬ x1 = 4 → ((x1 = 5 → Q x2 σ) ∧
    (¬ x1 = 5 → Q (-1) σ))))))))))))) ∧
    (¬ (σ.1 1 (Int32.toNatClampNeg 49)) ≤ x3 → vp_in (37 + x3) 210 ∧
    pX6_bitsOf (σ.1 1 (Int32.toNatClampNeg (37 + x3))) σ (fun r29 s29 =>
    pX6_count_8  Q n x1 (x2 + r29) (x3 + 1) s29)))
set_option maxHeartbeats 4000000 in
set_option maxRecDepth 100000 in
theorem vX6_count_8 {p : Program} {l : Launch} {e : Env} {s : State} {m : MethodId} {args : Array Value} {below : List Frame} {meth : Method} {c : Code} {Y : zz_Y}  {Q : Int32 → zz_T → Prop} (X : zz_X p m c cX6_count 4 s args RX6) (hr : meth.sig.returnType = (some .int)) (hlk : meth.locks = false) (hJ : zz_J Y) (hY : zz_mo Y)  : ∀ (n : Nat) (x1 : Int32) (x2 : Int32) (x3 : Int32) (σ : zz_T), pX6_count_8  Q n x1 x2 x3 σ → zz_V p l e rmX6_count s m args below meth c (MQ below (va_Qi Q (zz_E Y) (zz_A Y)) args s 0 0 (zz_A Y)) 4 Y σ 8 [(0, .ref (Y.2.1 0)), (1, .int x1), (2, .int x2), (3, .int x3)] [] := by
  intro n
  induction n with
  | zero => intro x1 x2 x3 σ h; exact h.elim
  | succ n ih =>
    intro x1 x2 x3 σ h 
    unfold pX6_count_8 at h
    refine zv_iload_n X dX6_count_8 3 rfl rfl rfl ?_
    refine zv_aload_n X dX6_count_9 0 rfl rfl rfl ?_
    refine zg_X6_0 (k := 0) X (zz_mo_o hY).1 (zz_mo_o hY).2 fl_X6_7 dX6_count_10 rfl ?_
    refine zv_bipush (v := 49) X dX6_count_13 (by decide) rfl ?_
    obtain ⟨hi15, h⟩ := h
    refine zv_iald (k := 1) X (zz_mo_st hY).1 (zz_mo_st hY).2 hi15 dX6_count_15 rfl ?_
    refine zv_icmp_ge (tgt := 40) X dX6_count_16 (by decide) rfl (fun q16 => ?_) (fun q16 => ?_)
    · replace h := h.1 q16
      refine zv_iload_n X dX6_count_40 1 rfl rfl rfl ?_
      by_cases e41_0 : x1 = 0
      · replace h := h.1 e41_0
        refine zv_tableIn (tgt := 80) X 0 dX6_count_41 e41_0 ⟨⟨by decide, by decide⟩, rfl⟩ (by decide) ?_
        refine zv_aload_n X dX6_count_80 0 rfl rfl rfl ?_
        refine zg_X6_0 (k := 0) X (zz_mo_o hY).1 (zz_mo_o hY).2 fl_X6_7 dX6_count_81 rfl ?_
        refine zv_bipush (v := 51) X dX6_count_84 (by decide) rfl ?_
        obtain ⟨hi86, h⟩ := h
        refine zv_iald (k := 1) X (zz_mo_st hY).1 (zz_mo_st hY).2 hi86 dX6_count_86 rfl ?_
        exact zv_iret X hr hlk h dX6_count_87
      · replace h := h.2 e41_0
        by_cases e41_1 : x1 = 1
        · replace h := h.1 e41_1
          refine zv_tableIn (tgt := 88) X 1 dX6_count_41 e41_1 ⟨⟨by decide, by decide⟩, rfl⟩ (by decide) ?_
          refine zv_aload_n X dX6_count_88 0 rfl rfl rfl ?_
          refine zg_X6_2 (k := 0) X (zz_mo_o hY).1 (zz_mo_o hY).2 fl_X6_16 dX6_count_89 rfl ?_
          refine zv_iconst (v := 0) X dX6_count_92 (by decide) rfl ?_
          obtain ⟨hi93, h⟩ := h
          refine zv_zald (k := 3) X (zz_mo_isKept hY).1 (zz_mo_isKept hY).2 hi93 dX6_count_93 rfl ?_
          refine zv_cSi X [.int (σ.1 3 (Int32.toNatClampNeg 0))] (kX6_flag l hJ (σ.1 3 (Int32.toNatClampNeg 0))  h) jl_X6_174 ⟨rfl, rfl⟩ ⟨Nat.le_of_ble_eq_true rfl, Nat.le_of_ble_eq_true rfl⟩ rfl rfl (Nat.le_of_ble_eq_true rfl) dX6_count_94 rfl (fun r94 s94 h => ?_)
          refine zv_aload_n X dX6_count_97 0 rfl rfl rfl ?_
          refine zg_X6_2 (k := 0) X (zz_mo_o hY).1 (zz_mo_o hY).2 fl_X6_16 dX6_count_98 rfl ?_
          refine zv_iconst (v := 1) X dX6_count_101 (by decide) rfl ?_
          obtain ⟨hi102, h⟩ := h
          refine zv_zald (k := 3) X (zz_mo_isKept hY).1 (zz_mo_isKept hY).2 hi102 dX6_count_102 rfl ?_
          refine zv_cSi X [.int (s94.1 3 (Int32.toNatClampNeg 1))] (kX6_flag l hJ (s94.1 3 (Int32.toNatClampNeg 1))  h) jl_X6_174 ⟨rfl, rfl⟩ ⟨Nat.le_of_ble_eq_true rfl, Nat.le_of_ble_eq_true rfl⟩ rfl rfl (Nat.le_of_ble_eq_true rfl) dX6_count_103 rfl (fun r103 s103 h => ?_)
          refine zv_iadd X dX6_count_106 rfl ?_
          exact zv_iret X hr hlk h dX6_count_107
        · replace h := h.2 e41_1
          by_cases e41_2 : x1 = 2
          · replace h := h.1 e41_2
            refine zv_tableIn (tgt := 108) X 2 dX6_count_41 e41_2 ⟨⟨by decide, by decide⟩, rfl⟩ (by decide) ?_
            refine zv_aload_n X dX6_count_108 0 rfl rfl rfl ?_
            refine zg_X6_6 (k := 0) X (zz_mo_o hY).1 (zz_mo_o hY).2 fl_X6_71 dX6_count_109 rfl ?_
            exact zv_iret X hr hlk h dX6_count_112
          · replace h := h.2 e41_2
            by_cases e41_3 : x1 = 3
            · replace h := h.1 e41_3
              refine zv_tableIn (tgt := 113) X 3 dX6_count_41 e41_3 ⟨⟨by decide, by decide⟩, rfl⟩ (by decide) ?_
              refine zv_aload_n X dX6_count_113 0 rfl rfl rfl ?_
              refine zg_X6_29 (k := 0) X (zz_mo_o hY).1 (zz_mo_o hY).2 fl_X6_47 dX6_count_114 rfl ?_
              refine zv_iconst (v := 0) X dX6_count_117 (by decide) rfl ?_
              obtain ⟨hi118, h⟩ := h
              refine zv_iald (k := 13) X (zz_mo_lanes hY).1 (zz_mo_lanes hY).2 hi118 dX6_count_118 rfl ?_
              refine zv_bipush (v := (-4)) X dX6_count_119 (by decide) rfl ?_
              refine zv_icmp_ne (tgt := 129) X dX6_count_121 (by decide) rfl (fun q121 => ?_) (fun q121 => ?_)
              · replace h := h.2 q121
                refine zv_aload_n X dX6_count_129 0 rfl rfl rfl ?_
                refine zg_X6_30 (k := 0) X (zz_mo_o hY).1 (zz_mo_o hY).2 fl_X6_50 dX6_count_130 rfl ?_
                refine zv_iconst (v := 0) X dX6_count_133 (by decide) rfl ?_
                obtain ⟨hi134, h⟩ := h
                refine zv_iald (k := 14) X (zz_mo_sizes hY).1 (zz_mo_sizes hY).2 hi134 dX6_count_134 rfl ?_
                exact zv_iret X hr hlk h dX6_count_135
              · replace h := h.1 q121
                refine zv_bipush (v := (-4)) X dX6_count_124 (by decide) rfl ?_
                refine zv_goto (tgt := 135) X dX6_count_126 (by decide) ?_
                exact zv_iret X hr hlk h dX6_count_135
            · replace h := h.2 e41_3
              by_cases e41_4 : x1 = 4
              · replace h := h.1 e41_4
                refine zv_tableIn (tgt := 136) X 4 dX6_count_41 e41_4 ⟨⟨by decide, by decide⟩, rfl⟩ (by decide) ?_
                refine zv_aload_n X dX6_count_136 0 rfl rfl rfl ?_
                refine zv_iconst (v := 1) X dX6_count_137 (by decide) rfl ?_
                refine zv_cVi (k := 0) (ci := 6) X [.int 1] (kX6_sumOf l hJ 1 hY h) jl_X6_212 ⟨rfl, rfl⟩ ⟨Nat.le_of_ble_eq_true rfl, Nat.le_of_ble_eq_true rfl⟩ (zz_mo_o hY).1 (by decide) (zz_mo_o hY).2 rfl rfl rfl (Nat.le_of_ble_eq_true rfl) dX6_count_138 rfl (fun r138 s138 h => ?_)
                exact zv_iret X hr hlk h dX6_count_141
              · replace h := h.2 e41_4
                by_cases e41_5 : x1 = 5
                · replace h := h.1 e41_5
                  refine zv_tableIn (tgt := 142) X 5 dX6_count_41 e41_5 ⟨⟨by decide, by decide⟩, rfl⟩ (by decide) ?_
                  refine zv_iload_n X dX6_count_142 2 rfl rfl rfl ?_
                  exact zv_iret X hr hlk h dX6_count_143
                · replace h := h.2 e41_5
                  refine zv_tableOut (tgt := 144) X dX6_count_41 (by have := zz_nt e41_0 (z := 0) rfl; have := zz_nt e41_1 (z := 1) rfl; have := zz_nt e41_2 (z := 2) rfl; have := zz_nt e41_3 (z := 3) rfl; have := zz_nt e41_4 (z := 4) rfl; have := zz_nt e41_5 (z := 5) rfl; omega) (by decide) ?_
                  refine zv_iconst (v := (-1)) X dX6_count_144 (by decide) rfl ?_
                  exact zv_iret X hr hlk h dX6_count_145
    · replace h := h.2 q16
      refine zv_iload_n X dX6_count_19 2 rfl rfl rfl ?_
      refine zv_aload_n X dX6_count_20 0 rfl rfl rfl ?_
      refine zg_X6_0 (k := 0) X (zz_mo_o hY).1 (zz_mo_o hY).2 fl_X6_7 dX6_count_21 rfl ?_
      refine zv_bipush (v := 37) X dX6_count_24 (by decide) rfl ?_
      refine zv_iload_n X dX6_count_26 3 rfl rfl rfl ?_
      refine zv_iadd X dX6_count_27 rfl ?_
      obtain ⟨hi28, h⟩ := h
      refine zv_iald (k := 1) X (zz_mo_st hY).1 (zz_mo_st hY).2 hi28 dX6_count_28 rfl ?_
      refine zv_cSi X [.int (σ.1 1 (Int32.toNatClampNeg (37 + x3)))] (kX6_bitsOf l hJ (σ.1 1 (Int32.toNatClampNeg (37 + x3)))  h) jl_X6_189 ⟨rfl, rfl⟩ ⟨Nat.le_of_ble_eq_true rfl, Nat.le_of_ble_eq_true rfl⟩ rfl rfl (Nat.le_of_ble_eq_true rfl) dX6_count_29 rfl (fun r29 s29 h => ?_)
      refine zv_iadd X dX6_count_32 rfl ?_
      refine zv_istore_n (lv2 := [(2, .int (x2 + r29)), (0, .ref (Y.2.1 0)), (1, .int x1), (3, .int x3)]) X dX6_count_33 rfl (by decide) rfl rfl ?_
      refine zv_iinc (v := (x3 + 1)) (lv2 := [(3, .int (x3 + 1)), (2, .int (x2 + r29)), (0, .ref (Y.2.1 0)), (1, .int x1)]) X dX6_count_34 3 rfl rfl (by decide) rfl rfl ?_
      refine zv_goto (tgt := 8) X dX6_count_37 (by decide) ?_
      refine zv_sub (lv2 := [(0, .ref (Y.2.1 0)), (1, .int x1), (2, .int (x2 + r29)), (3, .int (x3 + 1))]) [2, 3, 1, 0] rfl ?_
      exact ih x1 (x2 + r29) (x3 + 1) _ h
def pX6_count (x1 : Int32) (σ : zz_T) (Q : Int32 → zz_T → Prop) : Prop :=
    pX6_starts σ (fun s3 =>
    ∃ n8, pX6_count_8  Q n8 x1 0 0 s3)
set_option maxHeartbeats 4000000 in
set_option maxRecDepth 100000 in
theorem kX6_count (l : Launch) {Y : zz_Y} (hJ : zz_J Y) (x1 : Int32) (hY : zz_mo Y) {σ : zz_T} {Q : Int32 → zz_T → Prop} (h : pX6_count x1 σ Q) : zz_Mi l yX6_count cX6_count 4 (some .int) rmX6_count Y [.ref (Y.2.1 0), .int x1] σ Q := by
  refine zz_Mi.start (by decide) hJ (Nat.le_of_ble_eq_true rfl) (fun p e s m below meth c X hr hlk => ?_)
  have X : zz_X p m c cX6_count 4 s _ RX6 := X
  refine zv_sub (lv2 := [(0, .ref (Y.2.1 0)), (1, .int x1)]) [0, 1] rfl ?_
  unfold pX6_count at h
  refine zv_iconst (v := 0) X dX6_count_0 (by decide) rfl ?_
  refine zv_istore_n (lv2 := [(2, .int 0), (0, .ref (Y.2.1 0)), (1, .int x1)]) X dX6_count_1 rfl (by decide) rfl rfl ?_
  refine zv_aload_n X dX6_count_2 1 rfl rfl rfl ?_
  refine zv_cVv (k := 0) (ci := 6) X [] (kX6_starts l hJ  hY h) jl_X6_209 ⟨rfl, rfl⟩ ⟨Nat.le_of_ble_eq_true rfl, Nat.le_of_ble_eq_true rfl⟩ (zz_mo_o hY).1 (by decide) (zz_mo_o hY).2 rfl rfl rfl (Nat.le_of_ble_eq_true rfl) dX6_count_3 rfl (fun s3 h => ?_)
  refine zv_iconst (v := 0) X dX6_count_6 (by decide) rfl ?_
  refine zv_istore_n (lv2 := [(3, .int 0), (2, .int 0), (0, .ref (Y.2.1 0)), (1, .int x1)]) X dX6_count_7 rfl (by decide) rfl rfl ?_
  obtain ⟨n8, h⟩ := h
  refine zv_sub (lv2 := [(0, .ref (Y.2.1 0)), (1, .int x1), (2, .int 0), (3, .int 0)]) [2, 3, 1, 0] rfl ?_
  exact vX6_count_8 X hr hlk hJ hY n8 x1 0 0 _ h
