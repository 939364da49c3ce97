/-! A WORLD THAT GROWS: constructors, and the law. zc_V: at pc, with any cells ws -/
abbrev zc_G : Type := (va_G × (Nat → ClassId)) × (Nat → Nat)
abbrev zc_Y (n : Nat) (lay : Nat → zz_C) (f : Nat → Nat) (G : zc_G) : zz_Y := ((n, lay), f, G)
def zc_ty (G : zc_G) : List (ClassId × FieldType) := [(G.1.2 0, .int), (G.1.2 1, .byte), (G.1.2 2, .boolean), (G.1.2 3, .object "HotDots$Head"), (G.1.2 4, .object "HotDots$Printer"), (G.1.2 5, .object "HotDots$Sheet")]
def zc_S (G : zc_G) (A : Nat → Prop) (U : State) (H : Heap) : Prop := (∀ i, i < 3 → va_Z "HotDots" (zz_sn i) "[I" (.ref (G.2 i)) A U H ∧ va_T .int (G.2 i) 3 (fun j => .int (zz_f i j)) A U H) ∧ va_Z "java/lang/String" "COMPACT_STRINGS" "Z" (.int 1) A U H ∧ vk_S 8 zz_len zz_byt (fun i => G.2 (10 + i)) (fun i => G.2 (20 + i)) A U H ∧ va_Zq "jdk/internal/util/Preconditions" "SIOOBE_FORMATTER" "Ljava/util/function/BiFunction;" A U H
theorem zc_S.moved {G : zc_G} {A : Nat → Prop} {u U : State} {H : Heap} (hvm : u.vm.Alike U.vm) (h : zc_S G A u H) : zc_S G A U H := ⟨fun i hi => ⟨(h.1 i hi).1.moved hvm, (h.1 i hi).2.moved hvm⟩, h.2.1.moved hvm, h.2.2.1.moved hvm, h.2.2.2.moved hvm⟩
theorem zc_S.kept {G : zc_G} {A : Nat → Prop} {U : State} {H H1 : Heap} (h : zc_S G A U H) (hq : ∀ a : Nat, a < H.size → ¬ A a → H1[a]? = H[a]?) : zc_S G A U H1 := ⟨fun i hi => ⟨(h.1 i hi).1.kept hq, (h.1 i hi).2.kept hq⟩, h.2.1.kept hq, h.2.2.1.kept hq, h.2.2.2.kept hq⟩
theorem zc_S.narrow {G : zc_G} {A B : Nat → Prop} {U : State} {H : Heap} (h : zc_S G A U H) (hAB : ∀ q, B q → A q) : zc_S G B U H := ⟨fun i hi => ⟨(h.1 i hi).1.narrow hAB, (h.1 i hi).2.narrow hAB⟩, h.2.1.narrow hAB, h.2.2.1.narrow hAB, h.2.2.2.narrow hAB⟩
def zc_L (U : State) : Prop := (va_Nw (.methodLinkNest "HotDots" 9 yX4_init "HotDots") U ∧ va_Nw (.methodLinkNest "HotDots$Printer" 26 yX2_init "HotDots") U ∧ va_Nw (.methodLinkNest "HotDots$Printer" 31 yX0_init "HotDots") U ∧ va_Nw (.methodLinkNest "HotDots" 28 yX0_init "HotDots") U ∧ va_Nw (.methodLinkNest "HotDots" 57 yX3_init "HotDots") U) ∧ va_AO "HotDots$Head" U ∧ va_AO "HotDots$Printer" U ∧ va_AO "HotDots$Sheet" U
theorem zc_L.warm {s U : State} (hW : s.WarmedH U.vm) (h : zc_L s) : zc_L U := ⟨⟨h.1.1.warmM hW, h.1.2.1.warmM hW, h.1.2.2.1.warmM hW, h.1.2.2.2.1.warmM hW, h.1.2.2.2.2.warmM hW⟩, h.2.1.moved hW.alike, h.2.2.1.moved hW.alike, h.2.2.2.moved hW.alike⟩
theorem zc_L.same {u U : State} (hv : U.vm = u.vm) (h : zc_L u) : zc_L U := ⟨⟨h.1.1.same rfl hv.symm, h.1.2.1.same rfl hv.symm, h.1.2.2.1.same rfl hv.symm, h.1.2.2.2.1.same rfl hv.symm, h.1.2.2.2.2.same rfl hv.symm⟩, h.2.1.moved (by rw [hv]; exact Vm.Alike.refl _), h.2.2.1.moved (by rw [hv]; exact Vm.Alike.refl _), h.2.2.2.moved (by rw [hv]; exact Vm.Alike.refl _)⟩
abbrev zc_Y0 (G : zc_G) : zz_Y := ((0, fun _ => (0, 0, fun _ => 0)), fun _ => 0, G)
/-- what holds of the classes, the constants, the links -/
def zc_F (G : zc_G) (N0 : Nat) (U : State) (H : Heap) : Prop := va_K G.1.1 vwCl (zc_ty G) U ∧ zc_S G (fun q => N0 ≤ q) U H ∧ zz_N (zc_Y0 G) U ∧ zc_L U
theorem zc_F.warm {G : zc_G} {N0 : Nat} {s U : State} {H : Heap} (hW : s.WarmedH U.vm) (h : zc_F G N0 s H) : zc_F G N0 U H := ⟨va_K.moved hW.alike h.1, h.2.1.moved hW.alike, h.2.2.1.warm hW, h.2.2.2.warm hW⟩
theorem zc_F.kept {G : zc_G} {N0 : Nat} {U : State} {H H1 : Heap} (h : zc_F G N0 U H) (hq : ∀ a : Nat, a < H.size → ¬ N0 ≤ a → H1[a]? = H[a]?) : zc_F G N0 U H1 := ⟨h.1, h.2.1.kept hq, h.2.2⟩
def zc_B (G : zc_G) (N0 h0 ci : Nat) (fs : List Value) (sz : Nat) (U : State) : Prop := U.heap.size = sz ∧ va_P G.1.1 vwCl [(h0, .inr (ci, fs))] U.heap ∧ zc_F G N0 U U.heap ∧ N0 ≤ h0 ∧ N0 ≤ sz
abbrev zc_U : Type := (Nat → Nat) × zz_T
abbrev zc_A (h0 ci : Nat) (fs : List Value) (sz : Nat) : Nat → Prop := va_A [(h0, .inr (ci, fs))] sz
/-- a constructor's contract: its object alone before, the cells w u behind it -/
def zq_M (l : Launch) (y : MethodName) (bytes : ByteArray) (maxL : Nat) (rm : Room) (mc ms : Nat) (G : zc_G) (N0 ci : Nat) (fs : List Value) (post : zc_U → Prop) (w : zc_U → va_W) : Prop := ∀ h0 sz : Nat, Met l y (.code y bytes maxL none :: zz_tbl) rm (va_Pc [.ref h0] (zc_B G N0 h0 ci fs sz)) (va_Qv (fun u : zc_U => u.1 0 = h0 ∧ post u) (fun u t => va_P G.1.1 vwCl (w u) t.heap ∧ va_D (zc_A h0 ci fs sz) (w u)) (zc_A h0 ci fs sz)) mc ms (zc_A h0 ci fs sz)
theorem zc_blind (G : zc_G) (N0 h0 ci : Nat) (fs : List Value) (sz : Nat) (av : List Value) : FrameBlind (va_Pc av (zc_B G N0 h0 ci fs sz)) := by
  intro a U g mk h
  obtain ⟨h0, h1, h2, ⟨h3, h4, h5, h6⟩, h7⟩ := h
  exact ⟨h0, h1, h2, ⟨va_K.moved (u := U) (U := U.calling g mk a) (Vm.Alike.refl U.vm) h3, zc_S.moved (u := U) (U := U.calling g mk a) (Vm.Alike.refl U.vm) h4, h5.same rfl, h6.same rfl⟩, h7⟩
def zc_V (p : Program) (l : Launch) (e : Env) (R : Room) (s : State) (m : MethodId) (args : Array Value) (below : List Frame) (meth : Method) (c : Code) (Q : State → Prop) (nL : Nat) (A : Nat → Prop) (G : zc_G) (ws : va_W) (cells slots : Nat) (pc : Nat) (lv : List (Nat × Value)) (st : List Value) : Prop :=
  ∀ (H : Heap) (locs : List Loc) (ls : Array Slot), va_P G.1.1 vwCl ws H → va_D A ws → va_S A s.heap H locs → lv_has ls nL lv → W p l e R s m args below meth c H locs cells slots Q (F0 m pc ls st)
theorem zc_nd : ∀ n k, va_nd (List.range' k n) = true := by
  intro n
  induction n with
  | zero => intro k; rfl
  | succ n ih =>
    intro k
    rw [List.range'_succ]
    unfold va_nd
    rw [ih, Bool.and_true, decide_eq_true_eq]
    intro h
    have := (List.mem_range'_1.mp h).1
    omega
/-- behind a call that had the last cell alone -/
theorem zc_join {A0 : Nat → Prop} {D : va_G} {cl : List vw_C} {X w1 : va_W} {q : Nat} {x : va_E} {H H1 : Heap} (hP : va_P D cl (X ++ [(q, x)]) H) (hD : va_D A0 (X ++ [(q, x)])) (hk : ∀ a : Nat, a < H.size → ¬ va_A [(q, x)] H.size a → H1[a]? = H[a]?) (hF : ∀ a, va_A [(q, x)] H.size a → A0 a) (hP1 : va_P D cl w1 H1) (hD1 : va_D (va_A [(q, x)] H.size) w1) : va_P D cl (X ++ w1) H1 ∧ va_D A0 (X ++ w1) := by
  refine va_join (wr := X) hP hD [X.length] (List.range' 0 X.length) ?_ ?_ (zc_nd _ _) ?_ hk hF hP1 hD1
  · simp
  · apply List.ext_getElem?
    intro i
    by_cases hi : i < X.length
    · simp [List.getElem?_map, List.getElem?_range', hi, List.getElem?_append_left]
    · simp [List.getElem?_map, hi]
  · intro i hi h
    have := (List.mem_range'_1.mp hi).2
    simp at h
    omega
theorem zc_lastA {A0 : Nat → Prop} {X : va_W} {q : Nat} {x : va_E} {H0 H : Heap} {locs : List Loc} (hD : va_D A0 (X ++ [(q, x)])) (hS : va_S A0 H0 H locs) (hA : ∀ q, H0.size ≤ q → A0 q) : ∀ a, va_A [(q, x)] H.size a → A0 a := va_free (ws := X ++ [(q, x)]) hD hS hA [X.length] (by simp)
theorem zc_lastP {D : va_G} {cl : List vw_C} {X : va_W} {q : Nat} {x : va_E} {H : Heap} (hP : va_P D cl (X ++ [(q, x)]) H) : va_P D cl [(q, x)] H := hP.sub [X.length] (by simp)
theorem zc_RA {U : State} {a b : ClassId} {ty : FieldType} (h1 : va_RA U a ty) (h2 : va_RA U b ty) : a = b := by
  cases ty with
  | object C =>
    obtain ⟨_, _, _, _, _, e1⟩ := h1
    obtain ⟨_, _, _, _, _, e2⟩ := h2
    exact Option.some.inj (e1.symm.trans e2)
  | _ => exact Option.some.inj (Eq.trans (Eq.symm h1) h2)
/-- a new array's class is the one that is known -/
theorem zc_arr1 {D : va_G} {cl : List vw_C} {tys : List (ClassId × FieldType)} {U : State} {cA : ClassId} {ty : FieldType} (h : va_K D cl (tys ++ [(cA, ty)]) U) (i : Nat) {cB : ClassId} (hi : tys[i]? = some (cB, ty)) : cA = cB := by
  have a := (h.2 tys.length (cA, ty) (by simp)).2
  have hl := (List.getElem?_eq_some_iff.mp hi).1
  have b := (h.2 i (cB, ty) (by rw [List.getElem?_append_left hl]; exact hi)).2
  exact zc_RA a b
section ZC
variable {p : Program} {l : Launch} {e : Env} {R : Room} {s : State} {m : MethodId} {args : Array Value} {below : List Frame} {meth : Method} {c : Code} {Q : State → Prop} {nL : Nat} {cc : ByteArray} {own : String} {pc n : Nat} {lv : List (Nat × Value)} {st : List Value} {A : Nat → Prop} {G : zc_G} {ws : va_W} {cells slots N0 : Nat}
theorem zc_iadd (X : zz_X p m c cc nL s args own) {x y : Int32} (hd : decode cc pc = .ok (.iadd, 1))  (hn : pc + 1 = n) (k : zc_V p l e R s m args below meth c Q nL A G ws cells slots n lv (.int (x + y) :: st)) : zc_V p l e R s m args below meth c Q nL A G ws cells slots pc lv (.int y :: .int x :: st) := by
  subst hn; intro H locs ls hP hD hS hl; exact lv_iadd X.1 X.2.1 hd  (k H locs ls hP hD hS hl)
theorem zc_isub (X : zz_X p m c cc nL s args own) {x y : Int32} (hd : decode cc pc = .ok (.isub, 1))  (hn : pc + 1 = n) (k : zc_V p l e R s m args below meth c Q nL A G ws cells slots n lv (.int (x - y) :: st)) : zc_V p l e R s m args below meth c Q nL A G ws cells slots pc lv (.int y :: .int x :: st) := by
  subst hn; intro H locs ls hP hD hS hl; exact lv_isub X.1 X.2.1 hd  (k H locs ls hP hD hS hl)
theorem zc_iand (X : zz_X p m c cc nL s args own) {x y : Int32} (hd : decode cc pc = .ok (.iand, 1))  (hn : pc + 1 = n) (k : zc_V p l e R s m args below meth c Q nL A G ws cells slots n lv (.int (x &&& y) :: st)) : zc_V p l e R s m args below meth c Q nL A G ws cells slots pc lv (.int y :: .int x :: st) := by
  subst hn; intro H locs ls hP hD hS hl; exact lv_iand X.1 X.2.1 hd  (k H locs ls hP hD hS hl)
theorem zc_iconst (X : zz_X p m c cc nL s args own) {z : Int} {v : Int32} (hd : decode cc pc = .ok (.iconst z, 1)) (hv : Int32.ofInt z = v) (hn : pc + 1 = n) (k : zc_V p l e R s m args below meth c Q nL A G ws cells slots n lv (.int v :: st)) : zc_V p l e R s m args below meth c Q nL A G ws cells slots pc lv st := by
  subst hn; intro H locs ls hP hD hS hl; exact lv_iconst X.1 X.2.1 hd hv (k H locs ls hP hD hS hl)
theorem zc_bipush (X : zz_X p m c cc nL s args own) {z : Int} {v : Int32} (hd : decode cc pc = .ok (.bipush z, 2)) (hv : (Int8.ofInt z).toInt32 = v) (hn : pc + 2 = n) (k : zc_V p l e R s m args below meth c Q nL A G ws cells slots n lv (.int v :: st)) : zc_V p l e R s m args below meth c Q nL A G ws cells slots pc lv st := by
  subst hn; intro H locs ls hP hD hS hl; exact lv_bipush X.1 X.2.1 hd hv (k H locs ls hP hD hS hl)
theorem zc_sipush (X : zz_X p m c cc nL s args own) {z : Int} {v : Int32} (hd : decode cc pc = .ok (.sipush z, 3)) (hv : (Int16.ofInt z).toInt32 = v) (hn : pc + 3 = n) (k : zc_V p l e R s m args below meth c Q nL A G ws cells slots n lv (.int v :: st)) : zc_V p l e R s m args below meth c Q nL A G ws cells slots pc lv st := by
  subst hn; intro H locs ls hP hD hS hl; exact lv_sipush X.1 X.2.1 hd hv (k H locs ls hP hD hS hl)
theorem zc_iload_n (X : zz_X p m c cc nL s args own) {z : Fin 4} {i : Nat} {x : Int32} (hd : decode cc pc = .ok (.iload_n z, 1)) (j : Nat) (hi : (z : Nat) = i) (hk : lv[j]? = some (i, .int x)) (hn : pc + 1 = n) (k : zc_V p l e R s m args below meth c Q nL A G ws cells slots n lv (.int x :: st)) : zc_V p l e R s m args below meth c Q nL A G ws cells slots pc lv st := by
  subst hn; intro H locs ls hP hD hS hl; exact lv_iload_n X.1 X.2.1 hd hi (lv_at hl j hk) (k H locs ls hP hD hS hl)
theorem zc_aload_n (X : zz_X p m c cc nL s args own) {z : Fin 4} {i : Nat} {x : Nat} (hd : decode cc pc = .ok (.aload_n z, 1)) (j : Nat) (hi : (z : Nat) = i) (hk : lv[j]? = some (i, .ref x)) (hn : pc + 1 = n) (k : zc_V p l e R s m args below meth c Q nL A G ws cells slots n lv (.ref x :: st)) : zc_V p l e R s m args below meth c Q nL A G ws cells slots pc lv st := by
  subst hn; intro H locs ls hP hD hS hl; exact lv_aload_n X.1 X.2.1 hd hi (lv_at hl j hk) (k H locs ls hP hD hS hl)
theorem zc_dup (X : zz_X p m c cc nL s args own) {va : Value} (hd : decode cc pc = .ok (.dup, 1)) (hv : va.category = 1) (hn : pc + 1 = n) (k : zc_V p l e R s m args below meth c Q nL A G ws cells slots n lv (va :: va :: st)) : zc_V p l e R s m args below meth c Q nL A G ws cells slots pc lv (va :: st) := by
  subst hn; intro H locs ls hP hD hS hl; exact lv_dup X.1 X.2.1 hd hv (k H locs ls hP hD hS hl)
theorem zc_istore_n (X : zz_X p m c cc nL s args own) {z : Fin 4} {i : Nat} {x : Int32} {lv2 : List (Nat × Value)} (hd : decode cc pc = .ok (.istore_n z, 1)) (hi : (z : Nat) = i) (hb : i < nL) (hl2 : (i, Value.int x) :: lv.filter (fun q => !(q.1 == i) && !(q.1 + 1 == i && q.2.category == 2)) = lv2) (hn : pc + 1 = n) (k : zc_V p l e R s m args below meth c Q nL A G ws cells slots n lv2 st) : zc_V p l e R s m args below meth c Q nL A G ws cells slots pc lv (.int x :: st) := by
  subst hn; intro H locs ls hP hD hS hl; exact lv_istore_n X.1 X.2.1 hd hi hl hb hl2 (fun ls2 h2 => k H locs ls2 hP hD hS h2)
theorem zc_astore_n (X : zz_X p m c cc nL s args own) {z : Fin 4} {i : Nat} {x : Nat} {lv2 : List (Nat × Value)} (hd : decode cc pc = .ok (.astore_n z, 1)) (hi : (z : Nat) = i) (hb : i < nL) (hl2 : (i, Value.ref x) :: lv.filter (fun q => !(q.1 == i) && !(q.1 + 1 == i && q.2.category == 2)) = lv2) (hn : pc + 1 = n) (k : zc_V p l e R s m args below meth c Q nL A G ws cells slots n lv2 st) : zc_V p l e R s m args below meth c Q nL A G ws cells slots pc lv (.ref x :: st) := by
  subst hn; intro H locs ls hP hD hS hl; exact lv_astore_n X.1 X.2.1 hd hi hl hb hl2 (fun ls2 h2 => k H locs ls2 hP hD hS h2)
theorem zc_iinc (X : zz_X p m c cc nL s args own) {i : Nat} {z : Int} {x v : Int32} {lv2 : List (Nat × Value)} (hd : decode cc pc = .ok (.iinc i z, 3)) (j : Nat) (hk : lv[j]? = some (i, .int x)) (hv : x + Int32.ofInt z = v) (hb : i < nL) (hl2 : (i, Value.int v) :: lv.filter (fun q => !(q.1 == i) && !(q.1 + 1 == i && q.2.category == 2)) = lv2) (hn : pc + 3 = n) (k : zc_V p l e R s m args below meth c Q nL A G ws cells slots n lv2 st) : zc_V p l e R s m args below meth c Q nL A G ws cells slots pc lv st := by
  subst hn; intro H locs ls hP hD hS hl; exact lv_iinc X.1 X.2.1 hd hl hk hv hb hl2 (fun ls2 h2 => k H locs ls2 hP hD hS h2)
theorem zc_sub {lv2 : List (Nat × Value)} (ks : List Nat) (h : lv_pick lv ks = lv2) (k : zc_V p l e R s m args below meth c Q nL A G ws cells slots pc lv2 st) : zc_V p l e R s m args below meth c Q nL A G ws cells slots pc lv st := by
  intro H locs ls hP hD hS hl; exact k H locs ls hP hD hS (lv_sub hl ks h)
theorem zc_icmp_eq (X : zz_X p m c cc nL s args own) {x y : Int32} {off : Int} {tgt : Nat} (hd : decode cc pc = .ok (.if_icmp .eq off, 3)) (ht : (pc : Int) + off = (tgt : Int)) (hn : pc + 3 = n) (kt : x = y → zc_V p l e R s m args below meth c Q nL A G ws cells slots tgt lv st) (kf : ¬ (x = y) → zc_V p l e R s m args below meth c Q nL A G ws cells slots n lv st) : zc_V p l e R s m args below meth c Q nL A G ws cells slots pc lv (.int y :: .int x :: st) := by
  subst hn; intro H locs ls hP hD hS hl; exact lv_icmp_eq X.1 X.2.1 hd ht (fun h => kt h H locs ls hP hD hS hl) (fun h => kf h H locs ls hP hD hS hl)
theorem zc_icmp_ge (X : zz_X p m c cc nL s args own) {x y : Int32} {off : Int} {tgt : Nat} (hd : decode cc pc = .ok (.if_icmp .ge off, 3)) (ht : (pc : Int) + off = (tgt : Int)) (hn : pc + 3 = n) (kt : y ≤ x → zc_V p l e R s m args below meth c Q nL A G ws cells slots tgt lv st) (kf : ¬ (y ≤ x) → zc_V p l e R s m args below meth c Q nL A G ws cells slots n lv st) : zc_V p l e R s m args below meth c Q nL A G ws cells slots pc lv (.int y :: .int x :: st) := by
  subst hn; intro H locs ls hP hD hS hl; exact lv_icmp_ge X.1 X.2.1 hd ht (fun h => kt h H locs ls hP hD hS hl) (fun h => kf h H locs ls hP hD hS hl)
theorem zc_icmp_gt (X : zz_X p m c cc nL s args own) {x y : Int32} {off : Int} {tgt : Nat} (hd : decode cc pc = .ok (.if_icmp .gt off, 3)) (ht : (pc : Int) + off = (tgt : Int)) (hn : pc + 3 = n) (kt : y < x → zc_V p l e R s m args below meth c Q nL A G ws cells slots tgt lv st) (kf : ¬ (y < x) → zc_V p l e R s m args below meth c Q nL A G ws cells slots n lv st) : zc_V p l e R s m args below meth c Q nL A G ws cells slots pc lv (.int y :: .int x :: st) := by
  subst hn; intro H locs ls hP hD hS hl; exact lv_icmp_gt X.1 X.2.1 hd ht (fun h => kt h H locs ls hP hD hS hl) (fun h => kf h H locs ls hP hD hS hl)
theorem zc_goto (X : zz_X p m c cc nL s args own) {off : Int} {tgt : Nat} (hd : decode cc pc = .ok (.goto off, 3)) (ht : (pc : Int) + off = (tgt : Int)) (k : zc_V p l e R s m args below meth c Q nL A G ws cells slots tgt lv st) : zc_V p l e R s m args below meth c Q nL A G ws cells slots pc lv st := by
  intro H locs ls hP hD hS hl; exact lv_goto X.1 X.2.1 hd ht (k H locs ls hP hD hS hl)
theorem zc_tableIn (X : zz_X p m c cc nL s args own) {dflt lo hi : Int} {offs : Array Int} {len : Nat} {x : Int32} (v : Int32) {off : Int} {tgt : Nat} (hd : decode cc pc = .ok (.tableswitch dflt lo hi offs, len)) (hx : x = v) (h : (¬ v.toInt < lo ∧ ¬ hi < v.toInt) ∧ offs[(v.toInt - lo).toNat]? = some off) (ht : (pc : Int) + off = (tgt : Int)) (k : zc_V p l e R s m args below meth c Q nL A G ws cells slots tgt lv st) : zc_V p l e R s m args below meth c Q nL A G ws cells slots pc lv (.int x :: st) := by
  subst hx; intro H locs ls hP hD hS hl; exact lv_tableIn X.1 X.2.1 hd h.1.1 h.1.2 h.2 ht (k H locs ls hP hD hS hl)
theorem zc_wide {k n2 : Nat} (h1 : cells ≤ k) (h2 : slots ≤ n2) (K : zc_V p l e R s m args below meth c Q nL A G ws k n2 pc lv st) : zc_V p l e R s m args below meth c Q nL A G ws cells slots pc lv st := by
  intro H locs ls hP hD hS hl; exact W.widen h1 h2 (K H locs ls hP hD hS hl)
theorem zc_obj (X : zz_X p m c cc nL s args own) {idx : Nat} {a : Nat} (hlink : Cond.methodLink own idx objectInit ∈ zz_tbl) (hinst : Cond.instanceMethod objectInit ∈ zz_tbl) (hcode : Cond.code objectInit ⟨#[0xb1]⟩ 1 none ∈ zz_tbl) (hf : 1 ≤ R.frames) (hlo : (st.map fun v => v.category).sum + 12 ≤ R.locals) (hd : decode cc pc = .ok (.invokespecial idx, 3)) (hn : pc + 3 = n) (K : zc_V p l e R s m args below meth c Q nL A G ws cells slots n lv st) : zc_V p l e R s m args below meth c Q nL A G ws cells slots pc lv (.ref a :: st) := by
  subst hn; intro H locs ls hP hD hS hl
  refine W.objInit X.1 X.2.1 X.2.2.2.1 (X.2.2.2.2 _ hlink) (X.2.2.2.2 _ hinst) (X.2.2.2.2 _ hcode) rfl (by rw [X.2.2.1]; exact hl.1) rfl hd hf (by show 2 * 0 + _ + 12 ≤ _; omega) ?_
  exact W.eq (g2 := F0 m (pc + 3) ls st) rfl (K H locs ls hP hD hS hl)
/-- new int, byte, boolean arrays -/
theorem zc_newa (X : zz_X p m c cc nL s args own) (hK : va_K G.1.1 vwCl (zc_ty G) s) (hA : ∀ q, s.heap.size ≤ q → A q) {atype : ArrayType} (i : Nat) {ty : FieldType} (hty : newarray.typeOf atype = ty) (hi : (zc_ty G)[i]? = some (G.1.2 i, ty)) (harr : Cond.arrayClass ty ∈ zz_tbl) (hdef : defaultValue ty = .int 0) {v : Int32} {N' : Nat} (hv : ¬ v < 0) (hN : v.toNatClampNeg = N') (hbytes : N' * componentBytes ty ≤ 536870912) (hcells : cells + 1 ≤ R.cells) (hslots : slots + N' ≤ R.slots) (hd : decode cc pc = .ok (.newarray atype, 2)) (hn : pc + 2 = n)
    (K : ∀ q : Nat, zc_V p l e R s m args below meth c Q nL A G (ws ++ [(q, .inl (G.1.2 i, N', .inl (fun _ => 0)))]) (cells + 1) (slots + N') n lv (.ref q :: st)) : zc_V p l e R s m args below meth c Q nL A G ws cells slots pc lv (.int v :: st) := by
  subst hn; subst hty; intro H locs ls hP hD hS hl
  refine va_newa X.1 X.2.1 (atype := atype) (X.2.2.2.2 _ harr) rfl hK hP hD hS hA (a0 := (N', .inl (fun _ => 0))) (fun cA => by rw [hdef]; rfl) hv hN hbytes hcells hslots hd (fun q cA H1 hK1 hP1 hD1 hS1 => ?_)
  obtain rfl : cA = G.1.2 i := zc_arr1 hK1 i hi
  exact K q H1 locs ls hP1 hD1 hS1 hl
theorem zc_newq (X : zz_X p m c cc nL s args own) (hK : va_K G.1.1 vwCl (zc_ty G) s) (hA : ∀ q, s.heap.size ≤ q → A q) {idx : Nat} {C : String} (i : Nat) (hi : (zc_ty G)[i]? = some (G.1.2 i, .object C)) (hclink : Cond.classLink own idx C ∈ zz_tbl) (hover : va_AO C s) {v : Int32} {N' : Nat} (hv : ¬ v < 0) (hN : v.toNatClampNeg = N') (hbytes : N' * 4 ≤ 536870912) (hcells : cells + 1 ≤ R.cells) (hslots : slots + N' ≤ R.slots) (hd : decode cc pc = .ok (.anewarray idx, 3)) (hn : pc + 3 = n)
    (K : ∀ q : Nat, zc_V p l e R s m args below meth c Q nL A G (ws ++ [(q, .inl (G.1.2 i, N', .inr (.inr (.inr (.inr (fun _ => none))))))]) (cells + 1) (slots + N') n lv (.ref q :: st)) : zc_V p l e R s m args below meth c Q nL A G ws cells slots pc lv (.int v :: st) := by
  subst hn; intro H locs ls hP hD hS hl
  refine va_newq X.1 X.2.1 X.2.2.2.1 (X.2.2.2.2 _ hclink) hover hK hP hD hS hA hv hN hbytes hcells hslots hd (fun q cA H1 hK1 hP1 hD1 hS1 => ?_)
  obtain rfl : cA = G.1.2 i := zc_arr1 hK1 i hi
  exact K q H1 locs ls hP1 hD1 hS1 hl
/-- a final field of one's own object, the first cell -/
theorem zc_putF (X : zz_X p m c cc nL s args own) (hK : va_K G.1.1 vwCl (zc_ty G) s) {a ci : Nat} {fs fs2 : List Value} {Z : va_W} {T : u_T} {Nf : Nat} (hc : vwCl[ci]? = some (own, T, Nf)) (hin : ∀ w ∈ u_ws own T Nf, w ∈ zz_tbl) (ty0 : Nat → FieldType) (hty : ∀ k, k < Nf → parseFieldDescriptor (T k).2.2.1 = some (ty0 k)) (hnm : ∀ a, a < Nf → ∀ b, b < Nf → a ≠ b → (T a).2.1 ≠ (T b).2.1) (k : Nat) (hk : k < Nf) {idx : Nat} (hlink : Cond.fieldLink own idx (T k).1 (T k).2.1 (T k).2.2.1 ∈ zz_tbl) (hfin : (T k).2.2.2 = true) (hin2 : meth.name = "<init>") (hdecl : (T k).1 = own) {v : Value} (hnar : narrow (ty0 k) v = v) (hfit : fits (ty0 k) v = true) (hl2 : k < fs.length) (hfs : fs.set k v = fs2) (hd : decode cc pc = .ok (.putfield idx, 3)) (hn : pc + 3 = n)
    (K : zc_V p l e R s m args below meth c Q nL A G ((a, .inr (ci, fs2)) :: Z) cells slots n lv st) : zc_V p l e R s m args below meth c Q nL A G ((a, .inr (ci, fs)) :: Z) cells slots pc lv (v :: .ref a :: st) := by
  subst hn; subst hfs; intro H locs ls hP hD hS hl
  exact va_putF X.1 X.2.1 X.2.2.2.2 hin ty0 hty hnm X.2.2.2.1 hK hP hD hS 0 rfl hc k hk (X.2.2.2.2 _ hlink) (fun _ h => h) hfin hin2 hdecl (hty k hk) hnar hfit hl2 hd (fun H1 locs1 hP1 hD1 hS1 => K H1 locs1 ls hP1 hD1 hS1 hl)
theorem zc_get (X : zz_X p m c cc nL s args own) (hK : va_K G.1.1 vwCl (zc_ty G) s) {a ci : Nat} {fs : List Value} {Z : va_W} {C : String} {T : u_T} {Nf : Nat} (hc : vwCl[ci]? = some (C, T, Nf)) (hin : ∀ w ∈ u_ws C T Nf, w ∈ zz_tbl) (j : Nat) (hj : j < Nf) {idx : Nat} {v : Value} (hv : fs[j]? = some v) (hlink : Cond.fieldLink own idx (T j).1 (T j).2.1 (T j).2.2.1 ∈ zz_tbl) (hd : decode cc pc = .ok (.getfield idx, 3)) (hn : pc + 3 = n) (K : zc_V p l e R s m args below meth c Q nL A G ((a, .inr (ci, fs)) :: Z) cells slots n lv (v :: st)) : zc_V p l e R s m args below meth c Q nL A G ((a, .inr (ci, fs)) :: Z) cells slots pc lv (.ref a :: st) := by
  subst hn; intro H locs ls hP hD hS hl
  exact va_get X.1 X.2.1 X.2.2.2.2 hin X.2.2.2.1 hK hP 0 rfl hc j hj (X.2.2.2.2 _ hlink) (fun _ h => h) hv hd (K H locs ls hP hD hS hl)
theorem zc_iast (X : zz_X p m c cc nL s args own) (hK : va_K G.1.1 vwCl (zc_ty G) s) (q0 : Nat) {a N' : Nat} {f : Nat → Int32} {ws2 : va_W} (ha : ws[q0]? = some (a, .inl (G.1.2 0, N', .inl f))) {i x : Int32} (hin : vp_in i N') (hw : ws.set q0 (a, .inl (G.1.2 0, N', .inl (upd f i.toNatClampNeg x))) = ws2) (hd : decode cc pc = .ok (.iastore, 1)) (hn : pc + 1 = n) (K : zc_V p l e R s m args below meth c Q nL A G ws2 cells slots n lv st) : zc_V p l e R s m args below meth c Q nL A G ws cells slots pc lv (.int x :: .int i :: .ref a :: st) := by
  subst hn; subst hw; intro H locs ls hP hD hS hl
  exact va_iast X.1 X.2.1 hK hP hD hS q0 0 ha rfl hin hd (fun H1 locs1 hP1 hD1 hS1 => K H1 locs1 ls hP1 hD1 hS1 hl)
theorem zc_astq (X : zz_X p m c cc nL s args own) (hK : va_K G.1.1 vwCl (zc_ty G) s) (q0 t0 qk ci : Nat) {a N' v : Nat} {r : vw_C} {vs : List Value} {f : Nat → Option Nat} {ws2 : va_W} (ha : ws[q0]? = some (a, .inl (G.1.2 t0, N', .inr (.inr (.inr (.inr f)))))) (ht : (zc_ty G)[t0]? = some (G.1.2 t0, .object r.1)) (hv : ws[qk]? = some (v, .inr (ci, vs))) (hc : vwCl[ci]? = some r) {i : Int32} (hin : vp_in i N') (hw : ws.set q0 (a, .inl (G.1.2 t0, N', .inr (.inr (.inr (.inr (va_up f i.toNatClampNeg (some v))))))) = ws2) (hd : decode cc pc = .ok (.aastore, 1)) (hn : pc + 1 = n) (K : zc_V p l e R s m args below meth c Q nL A G ws2 cells slots n lv st) : zc_V p l e R s m args below meth c Q nL A G ws cells slots pc lv (.ref v :: .int i :: .ref a :: st) := by
  subst hn; subst hw; intro H locs ls hP hD hS hl
  exact va_astq X.1 X.2.1 hK hP hD hS q0 t0 qk ci ha ht hv hc hin hd (fun H1 locs1 hP1 hD1 hS1 => K H1 locs1 ls hP1 hD1 hS1 hl)
/-- new, dup, the constructor of a nest mate -/
theorem zc_mkN (X : zz_X p m c cc nL s args own) (F : zc_F G N0 s s.heap) (hA : ∀ q, s.heap.size ≤ q → A q) (hAN : ∀ q, A q → N0 ≤ q) (h0 : N0 ≤ s.heap.size) {y : MethodName} {bytes : ByteArray} {maxL mc ms ci idx idx2 Nf : Nat} {rm : Room} {T : u_T} {fs : List Value} {post : zc_U → Prop} {w : zc_U → va_W} (hM : zq_M l y bytes maxL rm mc ms G N0 ci fs post w) (hc : vwCl[ci]? = some (y.cls, T, Nf)) (hin : ∀ w ∈ u_ws y.cls T Nf, w ∈ zz_tbl) (ty0 : Nat → FieldType) (hty : ∀ k, k < Nf → parseFieldDescriptor (T k).2.2.1 = some (ty0 k)) (hfs : ∀ j, j < Nf → defaultValue (ty0 j) = vp_V fs j) (hcl : Cond.classLink own idx y.cls ∈ zz_tbl) (hinst : Cond.instantiable y.cls Nf ∈ zz_tbl) (hini : Cond.initialized y.cls ∈ zz_tbl) (hcode : Cond.code y bytes maxL none ∈ zz_tbl) (him : Cond.instanceMethod y ∈ zz_tbl) {host : String} (hl : va_Nw (.methodLinkNest own idx2 y host) s) (hy : y.name = "<init>") (hy2 : y.cls ≠ "java/lang/invoke/MethodHandle" ∧ y.cls ≠ "java/lang/invoke/VarHandle" ∧ (parseMethodDescriptor y.desc).map (fun d => d.parameters.length) = some 0) (hrc : rm.cells = mc ∧ rm.slots = ms) (hR : rm.frames + 1 ≤ R.frames ∧ 8 + (maxL + 11) + rm.locals ≤ R.locals) (hW : (st.map fun v => v.category).sum + 1 ≤ 8) (hcells : cells + 1 + mc ≤ R.cells) (hslots : slots + Nf + ms ≤ R.slots) (d1 : decode cc pc = .ok (.new idx, 3)) (d2 : decode cc (pc + 3) = .ok (.dup, 1)) (d3 : decode cc (pc + 4) = .ok (.invokespecial idx2, 3)) (hn : pc + 7 = n)
    (K : ∀ u : zc_U, post u → zc_V p l e R s m args below meth c Q nL A G (ws ++ w u) (cells + 1 + mc) (slots + Nf + ms) n lv (.ref (u.1 0) :: st)) : zc_V p l e R s m args below meth c Q nL A G ws cells slots pc lv st := by
  subst hn; intro H locs ls hP hD hS hlv
  refine va_new X.1 X.2.1 X.2.2.2.2 hin ty0 hty X.2.2.2.1 (X.2.2.2.2 _ hcl) (X.2.2.2.2 _ hinst) (X.2.2.2.2 _ hini) F.1 hP hD hS hA hc hfs (by omega) (by omega) d1 (fun q H1 hP1 hD1 hS1 => ?_)
  refine lv_dup X.1 X.2.1 d2 rfl ?_
  have hF := zc_lastA hD1 hS1 hA
  have hq : N0 ≤ q := hAN q (hF q (Or.inl ⟨0, _, rfl⟩))
  refine va_callv (va_runIN (As := []) (rest := .ref q :: st) X (hM q H1.size) ⟨va_cnB 0 X.2.2.2.2 (zz_gi (fun w hw => by rcases List.mem_cons.mp hw with rfl | hw; exact hcode; exact hw)) rfl hrc.1 hrc.2 hl (X.2.2.2.2 _ hini) hy2 hR, hy, X.2.2.2.2 _ him⟩ ⟨zc_blind G N0 q ci fs H1.size _, fun U hU hW2 => ⟨rfl, by rw [hU], by rw [hU]; exact zc_lastP hP1, by rw [hU]; exact (F.kept (fun a ha hn => hS1.2.1 a ha (fun z => hn (hAN a z)))).warm hW2, hq, Nat.le_trans h0 hS1.1⟩⟩ rfl rfl hlv.1 rfl (lv_room (by simp only [List.map_cons, List.sum_cons]; show 1 + _ ≤ 8; omega)) d3 ⟨hcells, hslots⟩) hS1 (fun a _ h => hF a h) hF (fun u t H2 locs2 ht hvm hw hB hz hk hS2 => ?_)
  obtain ⟨hu, hpost⟩ := hw
  obtain ⟨b1, b2⟩ := hB
  rw [ht] at b1
  obtain ⟨hP2, hD2⟩ := zc_join hP1 hD1 hk hF b1 b2
  have K2 := K u hpost H2 locs2 ls hP2 hD2 hS2 hlv
  rw [hu] at K2
  exact K2
/-- the same, an open constructor -/
theorem zc_mkI (X : zz_X p m c cc nL s args own) (F : zc_F G N0 s s.heap) (hA : ∀ q, s.heap.size ≤ q → A q) (hAN : ∀ q, A q → N0 ≤ q) (h0 : N0 ≤ s.heap.size) {y : MethodName} {bytes : ByteArray} {maxL mc ms ci idx idx2 Nf : Nat} {rm : Room} {T : u_T} {fs : List Value} {post : zc_U → Prop} {w : zc_U → va_W} (hM : zq_M l y bytes maxL rm mc ms G N0 ci fs post w) (hc : vwCl[ci]? = some (y.cls, T, Nf)) (hin : ∀ w ∈ u_ws y.cls T Nf, w ∈ zz_tbl) (ty0 : Nat → FieldType) (hty : ∀ k, k < Nf → parseFieldDescriptor (T k).2.2.1 = some (ty0 k)) (hfs : ∀ j, j < Nf → defaultValue (ty0 j) = vp_V fs j) (hcl : Cond.classLink own idx y.cls ∈ zz_tbl) (hinst : Cond.instantiable y.cls Nf ∈ zz_tbl) (hini : Cond.initialized y.cls ∈ zz_tbl) (hcode : Cond.code y bytes maxL none ∈ zz_tbl) (him : Cond.instanceMethod y ∈ zz_tbl) (hl : Cond.methodLink own idx2 y ∈ zz_tbl) (hy : y.name = "<init>") (hy2 : y.cls ≠ "java/lang/invoke/MethodHandle" ∧ y.cls ≠ "java/lang/invoke/VarHandle" ∧ (parseMethodDescriptor y.desc).map (fun d => d.parameters.length) = some 0) (hrc : rm.cells = mc ∧ rm.slots = ms) (hR : rm.frames + 1 ≤ R.frames ∧ 8 + (maxL + 11) + rm.locals ≤ R.locals) (hW : (st.map fun v => v.category).sum + 1 ≤ 8) (hcells : cells + 1 + mc ≤ R.cells) (hslots : slots + Nf + ms ≤ R.slots) (d1 : decode cc pc = .ok (.new idx, 3)) (d2 : decode cc (pc + 3) = .ok (.dup, 1)) (d3 : decode cc (pc + 4) = .ok (.invokespecial idx2, 3)) (hn : pc + 7 = n)
    (K : ∀ u : zc_U, post u → zc_V p l e R s m args below meth c Q nL A G (ws ++ w u) (cells + 1 + mc) (slots + Nf + ms) n lv (.ref (u.1 0) :: st)) : zc_V p l e R s m args below meth c Q nL A G ws cells slots pc lv st := by
  subst hn; intro H locs ls hP hD hS hlv
  refine va_new X.1 X.2.1 X.2.2.2.2 hin ty0 hty X.2.2.2.1 (X.2.2.2.2 _ hcl) (X.2.2.2.2 _ hinst) (X.2.2.2.2 _ hini) F.1 hP hD hS hA hc hfs (by omega) (by omega) d1 (fun q H1 hP1 hD1 hS1 => ?_)
  refine lv_dup X.1 X.2.1 d2 rfl ?_
  have hF := zc_lastA hD1 hS1 hA
  have hq : N0 ≤ q := hAN q (hF q (Or.inl ⟨0, _, rfl⟩))
  refine va_callv (va_runI (As := []) (rest := .ref q :: st) X (hM q H1.size) (cwI 0 X.2.2.2.2 (zz_gi (fun w hw => by rcases List.mem_cons.mp hw with rfl | hw; exact hcode; exact hw)) rfl hrc.1 hrc.2 (X.2.2.2.2 _ hini) (X.2.2.2.2 _ hl) (X.2.2.2.2 _ him) hy hy2 hR) ⟨zc_blind G N0 q ci fs H1.size _, fun U hU hW2 => ⟨rfl, by rw [hU], by rw [hU]; exact zc_lastP hP1, by rw [hU]; exact (F.kept (fun a ha hn => hS1.2.1 a ha (fun z => hn (hAN a z)))).warm hW2, hq, Nat.le_trans h0 hS1.1⟩⟩ rfl rfl hlv.1 rfl (lv_room (by simp only [List.map_cons, List.sum_cons]; show 1 + _ ≤ 8; omega)) d3 ⟨hcells, hslots⟩) hS1 (fun a _ h => hF a h) hF (fun u t H2 locs2 ht hvm hw hB hz hk hS2 => ?_)
  obtain ⟨hu, hpost⟩ := hw
  obtain ⟨b1, b2⟩ := hB
  rw [ht] at b1
  obtain ⟨hP2, hD2⟩ := zc_join hP1 hD1 hk hF b1 b2
  have K2 := K u hpost H2 locs2 ls hP2 hD2 hS2 hlv
  rw [hu] at K2
  exact K2
/-- a constructor's start and end -/
theorem zq_M.start {y : MethodName} {bytes : ByteArray} {maxL mc ms ci : Nat} {rm : Room} {fs : List Value} {post : zc_U → Prop} {w : zc_U → va_W} (hy : plainName y.cls = true) (hm : 1 ≤ maxL) (body : ∀ (h0 sz : Nat) (p : Program) (e : Env) (s : State) (m : MethodId) (below : List Frame) (meth : Method) (c : Code), zz_X p m c bytes maxL s [Value.ref h0].toArray y.cls → meth.sig.returnType = none → meth.locks = false → meth.name = y.name → zc_F G N0 s s.heap → (∀ q, s.heap.size ≤ q → zc_A h0 ci fs sz q) → (∀ q, zc_A h0 ci fs sz q → N0 ≤ q) → N0 ≤ s.heap.size →
      zc_V p l e rm s m [Value.ref h0].toArray below meth c (MQ below (va_Qv (fun u : zc_U => u.1 0 = h0 ∧ post u) (fun u t => va_P G.1.1 vwCl (w u) t.heap ∧ va_D (zc_A h0 ci fs sz) (w u)) (zc_A h0 ci fs sz)) [Value.ref h0].toArray s mc ms (zc_A h0 ci fs sz)) maxL (zc_A h0 ci fs sz) G [(h0, .inr (ci, fs))] 0 0 0 [(0, .ref h0)] []) : zq_M l y bytes maxL rm mc ms G N0 ci fs post w := by
  intro h0 sz
  refine Met.ofW (cc := bytes) (maxL := maxL) (ret := none) hy rfl ?_
  intro p e s m args below meth c s₁ B hml hv
  obtain ⟨rfl, hsz, hP, hF, hq, hz⟩ := hv
  have hts := atoms_spec (ws := Cond.code y bytes maxL none :: zz_tbl) B.pre
  have hown : s.vm.findClass y.cls = some m.cls := findClass_of_methodNamed B.named
  have hin : meth.name = y.name := (name_of_methodNamed B.named B.method).1
  rw [lg_entry_eq]
  have hA : ∀ q, zc_A h0 ci fs sz q → N0 ≤ q := by
    intro q h
    rcases h with ⟨k, x, h⟩ | h
    · have hk : k < 1 := (List.getElem?_eq_some_iff.mp h).1
      rw [show k = 0 by omega] at h
      have h := congrArg Prod.fst (Option.some.inj h)
      have h : h0 = q := h
      omega
    · omega
  refine body h0 sz p e s m below meth c ⟨B.exec, B.bytes, hml, hown, fun w hw => hts w (List.mem_cons_of_mem _ hw)⟩ B.returns B.notSynchronized hin hF (fun q h => Or.inr (by omega)) hA (by omega) s.heap [] _ hP ?_ va_S.rf (lv_entry [Value.ref h0] hm)
  refine ⟨fun i j x z hi hj _ => ?_, fun k x hk => Or.inl ⟨k, x.2, hk⟩⟩
  have hi : i < 1 := (List.getElem?_eq_some_iff.mp hi).1
  have hj : j < 1 := (List.getElem?_eq_some_iff.mp hj).1
  omega
theorem zc_ret (X : zz_X p m c cc nL s args own) (hr : meth.sig.returnType = none) (hlk : meth.locks = false) {post : zc_U → Prop} {w : zc_U → va_W} {h0 : Nat} (u : zc_U) (hu : u.1 0 = h0) (hp : post u) (hw : ∀ H : Heap, va_P G.1.1 vwCl ws H → va_D A ws → va_P G.1.1 vwCl (w u) H ∧ va_D A (w u)) (hd : decode cc pc = .ok (.return_, 1)) : zc_V p l e R s m args below meth c (MQ below (va_Qv (fun u : zc_U => u.1 0 = h0 ∧ post u) (fun u t => va_P G.1.1 vwCl (w u) t.heap ∧ va_D A (w u)) A) args s cells slots A) nL A G ws cells slots pc lv [] := by
  intro H locs ls hP hD hS hl
  obtain ⟨h1, h2⟩ := hw H hP hD
  exact W.vret X.1 X.2.1 hr (fun t ht hW => ⟨⟨u, rfl, ⟨hu, hp⟩, by rw [ht]; exact h1, h2⟩, hS.F ht⟩) hS.2.2 hd hlk
end ZC
