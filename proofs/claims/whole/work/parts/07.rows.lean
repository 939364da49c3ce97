theorem zz_cpN : Cond.native arraycopyName ∈ zz_tbl := zz_in 131 (by decide +kernel) (by decide +kernel)
theorem zz_cpS : Cond.static arraycopyName ∈ zz_tbl := zz_in 130 (by decide +kernel) (by decide +kernel)
theorem zz_cpI : Cond.initialized "java/lang/System" ∈ zz_tbl := zz_in 6 (by decide +kernel) (by decide +kernel)
theorem zz_maI : Cond.initialized "java/lang/Math" ∈ zz_tbl := zz_in 14 (by decide +kernel) (by decide +kernel)
theorem zz_mxS : Cond.static Lib.Math.max.name ∈ zz_tbl := zz_in 513 (by decide +kernel) (by decide +kernel)
theorem zz_mxC : Cond.code Lib.Math.max.name Lib.Math.max.code 2 (some .int) ∈ zz_tbl := zz_in 514 (by decide +kernel) (by decide +kernel)
theorem zz_mnS : Cond.static Lib.Math.min.name ∈ zz_tbl := zz_in 491 (by decide +kernel) (by decide +kernel)
theorem zz_mnC : Cond.code Lib.Math.min.name Lib.Math.min.code 2 (some .int) ∈ zz_tbl := zz_in 492 (by decide +kernel) (by decide +kernel)
section ZR
variable {p : Program} {l : Launch} {e : Env} {R : Room} {s : State} {m : MethodId} {args : Array Value} {below : List Frame} {meth : Method} {c : Code} {Q : State → Prop} {nL : Nat} {Y : zz_Y} {σ : zz_T} {cc : ByteArray} {own : String} {pc n : Nat} {lv : List (Nat × Value)} {st : List Value}
theorem zv_iald (X : zz_X p m c cc nL s args own) {k len : Nat} {f : Nat → Nat} (hk : k < Y.1.1) (ht : Y.1.2 k = (0, len, f)) {i : Int32} (hin : vp_in i len) (hd : decode cc pc = .ok (.iaload, 1)) (hn : pc + 1 = n) (K : zz_V p l e R s m args below meth c Q nL Y σ n lv (.int (σ.1 k i.toNatClampNeg) :: st)) : zz_V p l e R s m args below meth c Q nL Y σ pc lv (.int i :: .ref (Y.2.1 k) :: st) := by
  subst hn; intro H locs ls hG hl
  exact va_iald X.1 X.2.1 hG.2.1 hG.1 k 0 (by rw [zz_w_at hk, ht]; rfl) rfl hin hd (K H locs ls hG hl)
theorem zv_bald (X : zz_X p m c cc nL s args own) {k len : Nat} {f : Nat → Nat} (hk : k < Y.1.1) (ht : Y.1.2 k = (1, len, f)) {i : Int32} (hin : vp_in i len) (hd : decode cc pc = .ok (.baload, 1)) (hn : pc + 1 = n) (K : zz_V p l e R s m args below meth c Q nL Y σ n lv (.int (σ.1 k i.toNatClampNeg) :: st)) : zz_V p l e R s m args below meth c Q nL Y σ pc lv (.int i :: .ref (Y.2.1 k) :: st) := by
  subst hn; intro H locs ls hG hl
  exact va_bald X.1 X.2.1 hG.2.1 hG.1 k 1 (by rw [zz_w_at hk, ht]; rfl) rfl hin hd (K H locs ls hG hl)
theorem zv_zald (X : zz_X p m c cc nL s args own) {k len : Nat} {f : Nat → Nat} (hk : k < Y.1.1) (ht : Y.1.2 k = (2, len, f)) {i : Int32} (hin : vp_in i len) (hd : decode cc pc = .ok (.baload, 1)) (hn : pc + 1 = n) (K : zz_V p l e R s m args below meth c Q nL Y σ n lv (.int (σ.1 k i.toNatClampNeg) :: st)) : zz_V p l e R s m args below meth c Q nL Y σ pc lv (.int i :: .ref (Y.2.1 k) :: st) := by
  subst hn; intro H locs ls hG hl
  exact va_zald X.1 X.2.1 hG.2.1 hG.1 k 2 (by rw [zz_w_at hk, ht]; rfl) rfl hin hd (K H locs ls hG hl)
theorem zv_iast (X : zz_X p m c cc nL s args own) {k len : Nat} {f : Nat → Nat} (hk : k < Y.1.1) (ht : Y.1.2 k = (0, len, f)) {i x : Int32} (hin : vp_in i len) (hd : decode cc pc = .ok (.iastore, 1)) (hn : pc + 1 = n) (K : zz_V p l e R s m args below meth c Q nL Y (zz_i σ k i.toNatClampNeg x) n lv st) : zz_V p l e R s m args below meth c Q nL Y σ pc lv (.int x :: .int i :: .ref (Y.2.1 k) :: st) := by
  subst hn; intro H locs ls hG hl
  refine va_iast X.1 X.2.1 hG.2.1 hG.1 (zz_D hG.2.2.2.2.2 σ) hG.2.2.1 k 0 (by rw [zz_w_at hk, ht]; rfl) rfl hin hd (fun H1 locs1 hP hD hS => ?_)
  rw [zz_set_i (j := i.toNatClampNeg) (v := x) (by rw [ht]; rfl)] at hP
  exact K H1 locs1 ls ⟨hP, hG.2.1, hS, hG.2.2.2⟩ hl
theorem zv_bast (X : zz_X p m c cc nL s args own) {k len : Nat} {f : Nat → Nat} (hk : k < Y.1.1) (ht : Y.1.2 k = (1, len, f)) {i x : Int32} (hin : vp_in i len) (hd : decode cc pc = .ok (.bastore, 1)) (hn : pc + 1 = n) (K : zz_V p l e R s m args below meth c Q nL Y (zz_i σ k i.toNatClampNeg (vp_nar .byte x)) n lv st) : zz_V p l e R s m args below meth c Q nL Y σ pc lv (.int x :: .int i :: .ref (Y.2.1 k) :: st) := by
  subst hn; intro H locs ls hG hl
  refine va_bast X.1 X.2.1 hG.2.1 hG.1 (zz_D hG.2.2.2.2.2 σ) hG.2.2.1 k 1 (by rw [zz_w_at hk, ht]; rfl) rfl hin hd (fun H1 locs1 hP hD hS => ?_)
  rw [zz_set_i (j := i.toNatClampNeg) (v := (vp_nar .byte x)) (by rw [ht]; rfl)] at hP
  exact K H1 locs1 ls ⟨hP, hG.2.1, hS, hG.2.2.2⟩ hl
theorem zv_zast (X : zz_X p m c cc nL s args own) {k len : Nat} {f : Nat → Nat} (hk : k < Y.1.1) (ht : Y.1.2 k = (2, len, f)) {i x : Int32} (hin : vp_in i len) (hd : decode cc pc = .ok (.bastore, 1)) (hn : pc + 1 = n) (K : zz_V p l e R s m args below meth c Q nL Y (zz_i σ k i.toNatClampNeg (vp_nar .boolean x)) n lv st) : zz_V p l e R s m args below meth c Q nL Y σ pc lv (.int x :: .int i :: .ref (Y.2.1 k) :: st) := by
  subst hn; intro H locs ls hG hl
  refine va_zast X.1 X.2.1 hG.2.1 hG.1 (zz_D hG.2.2.2.2.2 σ) hG.2.2.1 k 2 (by rw [zz_w_at hk, ht]; rfl) rfl hin hd (fun H1 locs1 hP hD hS => ?_)
  rw [zz_set_i (j := i.toNatClampNeg) (v := (vp_nar .boolean x)) (by rw [ht]; rfl)] at hP
  exact K H1 locs1 ls ⟨hP, hG.2.1, hS, hG.2.2.2⟩ hl
theorem zv_aald3 (X : zz_X p m c cc nL s args own) {k len : Nat} {f : Nat → Nat} (hk : k < Y.1.1) (ht : Y.1.2 k = (3, len, f)) {i : Int32} (hin : vp_in i len) (hd : decode cc pc = .ok (.aaload, 1)) (hn : pc + 1 = n) (K : zz_V p l e R s m args below meth c Q nL Y σ n lv (.ref (Y.2.1 (f i.toNatClampNeg)) :: st)) : zz_V p l e R s m args below meth c Q nL Y σ pc lv (.int i :: .ref (Y.2.1 k) :: st) := by
  subst hn; intro H locs ls hG hl
  exact va_aldq (f := fun j => some (Y.2.1 (f j))) X.1 X.2.1 hG.2.1 hG.1 k 3 (by rw [zz_w_at hk, ht]; rfl) rfl hin hd (K H locs ls hG hl)
theorem zv_aald4 (X : zz_X p m c cc nL s args own) {k len : Nat} {f : Nat → Nat} (hk : k < Y.1.1) (ht : Y.1.2 k = (4, len, f)) {i : Int32} (hin : vp_in i len) (hd : decode cc pc = .ok (.aaload, 1)) (hn : pc + 1 = n) (K : zz_V p l e R s m args below meth c Q nL Y σ n lv (.ref (Y.2.1 (f i.toNatClampNeg)) :: st)) : zz_V p l e R s m args below meth c Q nL Y σ pc lv (.int i :: .ref (Y.2.1 k) :: st) := by
  subst hn; intro H locs ls hG hl
  exact va_aldq (f := fun j => some (Y.2.1 (f j))) X.1 X.2.1 hG.2.1 hG.1 k 4 (by rw [zz_w_at hk, ht]; rfl) rfl hin hd (K H locs ls hG hl)
theorem zv_aald5 (X : zz_X p m c cc nL s args own) {k len : Nat} {f : Nat → Nat} (hk : k < Y.1.1) (ht : Y.1.2 k = (5, len, f)) {i : Int32} (hin : vp_in i len) (hd : decode cc pc = .ok (.aaload, 1)) (hn : pc + 1 = n) (K : zz_V p l e R s m args below meth c Q nL Y σ n lv (.ref (Y.2.1 (f i.toNatClampNeg)) :: st)) : zz_V p l e R s m args below meth c Q nL Y σ pc lv (.int i :: .ref (Y.2.1 k) :: st) := by
  subst hn; intro H locs ls hG hl
  exact va_aldq (f := fun j => some (Y.2.1 (f j))) X.1 X.2.1 hG.2.1 hG.1 k 5 (by rw [zz_w_at hk, ht]; rfl) rfl hin hd (K H locs ls hG hl)
theorem zv_alen (X : zz_X p m c cc nL s args own) {k len : Nat} {f : Nat → Nat} (hk : k < Y.1.1) (ht : Y.1.2 k = (0, len, f)) (hd : decode cc pc = .ok (.arraylength, 1)) (hn : pc + 1 = n) (K : zz_V p l e R s m args below meth c Q nL Y σ n lv (.int (nI len) :: st)) : zz_V p l e R s m args below meth c Q nL Y σ pc lv (.ref (Y.2.1 k) :: st) := by
  subst hn; intro H locs ls hG hl
  exact va_alen X.1 X.2.1 hG.2.1 hG.1 k 0 (x := (len, .inl (σ.1 k))) (by rw [zz_w_at hk, ht]; rfl) (ty := .int) rfl rfl hd (K H locs ls hG hl)
theorem zv_copy (X : zz_X p m c cc nL s args own) {idx k0 k1 n0 n1 : Nat} {f0 f1 : Nat → Nat} (h0 : k0 < Y.1.1) (t0 : Y.1.2 k0 = (0, n0, f0)) (h1 : k1 < Y.1.1) (t1 : Y.1.2 k1 = (0, n1, f1)) {sp dp cn : Int32} (hlink : Cond.methodLink own idx arraycopyName ∈ zz_tbl) (hb1 : ¬ sp < 0) (hb2 : ¬ dp < 0) (hb3 : ¬ cn < 0) (hb4 : sp.toNatClampNeg + cn.toNatClampNeg ≤ n0) (hb5 : dp.toNatClampNeg + cn.toNatClampNeg ≤ n1) (hf : 1 ≤ R.frames) (hlo : (st.map fun v => v.category).sum + (nativeFrameWords "java/lang/System" "arraycopy" 5 + 11) ≤ R.locals) (hd : decode cc pc = .ok (.invokestatic idx, 3)) (hn : pc + 3 = n) (K : zz_V p l e R s m args below meth c Q nL Y (zz_r σ k1 (va_cpy (σ.1 k0) (σ.1 k1) sp.toNatClampNeg dp.toNatClampNeg cn.toNatClampNeg)) n lv st) : zz_V p l e R s m args below meth c Q nL Y σ pc lv (.int cn :: .int dp :: .ref (Y.2.1 k1) :: .int sp :: .ref (Y.2.1 k0) :: st) := by
  subst hn; intro H locs ls hG hl
  refine va_copyi X.1 X.2.1 (X.2.2.1.trans hl.1.symm) X.2.2.2.1 (X.2.2.2.2 _ hlink) (X.2.2.2.2 _ zz_cpN) (X.2.2.2.2 _ zz_cpS) (X.2.2.2.2 _ zz_cpI) hG.2.1 hG.1 (zz_D hG.2.2.2.2.2 σ) hG.2.2.1 k0 k1 0 0 (ty := .int) (by rw [zz_w_at h0, t0]; rfl) (by rw [zz_w_at h1, t1]; rfl) rfl rfl rfl hb1 hb2 hb3 hb4 hb5 (fun _ _ => rfl) hf hlo hd (fun H1 locs1 hP hD hS => ?_)
  rw [zz_set_r (f := va_cpy (σ.1 k0) (σ.1 k1) sp.toNatClampNeg dp.toNatClampNeg cn.toNatClampNeg) (by rw [t1]; rfl)] at hP
  exact K H1 locs1 ls ⟨hP, hG.2.1, hS, hG.2.2.2⟩ hl
theorem zv_max (X : zz_X p m c cc nL s args own) {idx : Nat} {x y : Int32} (hlink : Cond.methodLink own idx Lib.Math.max.name ∈ zz_tbl) (hf : 1 ≤ R.frames) (hlo : (st.map fun v => v.category).sum + 13 ≤ R.locals) (hd : decode cc pc = .ok (.invokestatic idx, 3)) (hn : pc + 3 = n) (K : zz_V p l e R s m args below meth c Q nL Y σ n lv (.int (if x < y then y else x) :: st)) : zz_V p l e R s m args below meth c Q nL Y σ pc lv (.int y :: .int x :: st) := by
  subst hn; intro H locs ls hG hl
  exact va_mmax X.1 X.2.1 (X.2.2.1.trans hl.1.symm) X.2.2.2.1 (X.2.2.2.2 _ hlink) (X.2.2.2.2 _ zz_mxS) (X.2.2.2.2 _ zz_maI) (X.2.2.2.2 _ zz_mxC) hf hlo (Nat.zero_le _) (Nat.zero_le _) hd (K H locs ls hG hl)
theorem zv_min (X : zz_X p m c cc nL s args own) {idx : Nat} {x y : Int32} (hlink : Cond.methodLink own idx Lib.Math.min.name ∈ zz_tbl) (hf : 1 ≤ R.frames) (hlo : (st.map fun v => v.category).sum + 13 ≤ R.locals) (hd : decode cc pc = .ok (.invokestatic idx, 3)) (hn : pc + 3 = n) (K : zz_V p l e R s m args below meth c Q nL Y σ n lv (.int (if y < x then y else x) :: st)) : zz_V p l e R s m args below meth c Q nL Y σ pc lv (.int y :: .int x :: st) := by
  subst hn; intro H locs ls hG hl
  exact va_mmin X.1 X.2.1 (X.2.2.1.trans hl.1.symm) X.2.2.2.1 (X.2.2.2.2 _ hlink) (X.2.2.2.2 _ zz_mnS) (X.2.2.2.2 _ zz_maI) (X.2.2.2.2 _ zz_mnC) hf hlo (Nat.zero_le _) (Nat.zero_le _) hd (K H locs ls hG hl)
def zz_bo (x : Int32) : Prop := x = 0 ∨ x = 1
theorem zz_bo0 : zz_bo 0 := Or.inl rfl
theorem zz_bo1 : zz_bo 1 := Or.inr rfl
theorem zv_iret (X : zz_X p m c cc nL s args own) (hr : meth.sig.returnType = some .int) (hlk : meth.locks = false) {post : Int32 → zz_T → Prop} {r : Int32} (hp : post r σ) (hd : decode cc pc = .ok (.ireturn, 1)) : zz_V p l e R s m args below meth c (MQ below (va_Qi post (zz_E Y) (zz_A Y)) args s 0 0 (zz_A Y)) nL Y σ pc lv [.int r] := by
  intro H locs ls hG hl
  exact W.iret X.1 X.2.1 hr (fun t ht hW => ⟨⟨r, σ, rfl, hp, by show va_P _ _ _ t.heap; rw [ht]; exact hG.1⟩, hG.2.2.1.F ht⟩) hG.2.2.1.2.2 hd hlk
theorem zv_zret (X : zz_X p m c cc nL s args own) (hr : meth.sig.returnType = some .boolean) (hlk : meth.locks = false) {post : Int32 → zz_T → Prop} {r : Int32} (hp : zz_bo r ∧ post r σ) (hd : decode cc pc = .ok (.ireturn, 1)) : zz_V p l e R s m args below meth c (MQ below (va_Qi post (zz_E Y) (zz_A Y)) args s 0 0 (zz_A Y)) nL Y σ pc lv [.int r] := by
  intro H locs ls hG hl
  exact W.zret X.1 X.2.1 hr (by rcases hp.1 with h | h <;> subst h <;> rfl) (fun t ht hW => ⟨⟨r, σ, rfl, hp.2, by show va_P _ _ _ t.heap; rw [ht]; exact hG.1⟩, hG.2.2.1.F ht⟩) hG.2.2.1.2.2 hd hlk
theorem zv_cret {ty : FieldType} (X : zz_X p m c cc nL s args own) (hr : meth.sig.returnType = some ty) (hlk : meth.locks = false) {post : Int32 → zz_T → Prop} {r : Int32} (hnar : narrow ty (.int r) = .int r) (hp : post r σ) (hd : decode cc pc = .ok (.ireturn, 1)) : zz_V p l e R s m args below meth c (MQ below (va_Qi post (zz_E Y) (zz_A Y)) args s 0 0 (zz_A Y)) nL Y σ pc lv [.int r] := by
  intro H locs ls hG hl
  exact W.zret X.1 X.2.1 hr hnar (fun t ht hW => ⟨⟨r, σ, rfl, hp, by show va_P _ _ _ t.heap; rw [ht]; exact hG.1⟩, hG.2.2.1.F ht⟩) hG.2.2.1.2.2 hd hlk
theorem zv_lret (X : zz_X p m c cc nL s args own) (hr : meth.sig.returnType = some .long) (hlk : meth.locks = false) {post : Int64 → zz_T → Prop} {r : Int64} (hp : post r σ) (hd : decode cc pc = .ok (.lreturn, 1)) : zz_V p l e R s m args below meth c (MQ below (va_Ql post (zz_E Y) (zz_A Y)) args s 0 0 (zz_A Y)) nL Y σ pc lv [.long r] := by
  intro H locs ls hG hl
  exact W.lret X.1 X.2.1 hr (fun t ht hW => ⟨⟨r, σ, rfl, hp, by show va_P _ _ _ t.heap; rw [ht]; exact hG.1⟩, hG.2.2.1.F ht⟩) hG.2.2.1.2.2 hd hlk
theorem zv_vret (X : zz_X p m c cc nL s args own) (hr : meth.sig.returnType = none) (hlk : meth.locks = false) {post : zz_T → Prop} (hp : post σ) (hd : decode cc pc = .ok (.return_, 1)) : zz_V p l e R s m args below meth c (MQ below (va_Qv post (zz_E Y) (zz_A Y)) args s 0 0 (zz_A Y)) nL Y σ pc lv [] := by
  intro H locs ls hG hl
  exact W.vret X.1 X.2.1 hr (fun t ht hW => ⟨⟨σ, rfl, hp, by show va_P _ _ _ t.heap; rw [ht]; exact hG.1⟩, hG.2.2.1.F ht⟩) hG.2.2.1.2.2 hd hlk
theorem zv_sret (X : zz_X p m c cc nL s args own) (hr : meth.sig.returnType = some (.object "java/lang/String")) (hlk : meth.locks = false) {post : Nat → zz_T → Prop} {i : Nat} (hi : i < 8) (hp : post i σ) (hd : decode cc pc = .ok (.areturn, 1)) : zz_V p l e R s m args below meth c (MQ below (va_Qq (fun r u => ∃ i, i < 8 ∧ r = some (Y.2.2.2 (10 + i)) ∧ post i u) (zz_E Y) (zz_A Y)) args s 0 0 (zz_A Y)) nL Y σ pc lv [.ref (Y.2.2.2 (10 + i))] := by
  intro H locs ls hG hl
  exact W.aret X.1 X.2.1 hr (Or.inl ⟨_, rfl⟩) (Or.inr ⟨_, rfl⟩) (fun t ht hW => ⟨⟨some (Y.2.2.2 (10 + i)), σ, rfl, ⟨i, hi, rfl, hp⟩, by show va_P _ _ _ t.heap; rw [ht]; exact hG.1⟩, hG.2.2.1.F ht⟩) hG.2.2.1.2.2 hd hlk
theorem zz_Mi.start {y : MethodName} {bytes : ByteArray} {maxL : Nat} {ret : Option FieldType} {rm : Room} {av : List Value} {post : Int32 → zz_T → Prop} (hy : plainName y.cls = true) (hJ : zz_J Y) (hlen : (lg_sl av).length ≤ maxL) (body : ∀ (p : Program) (e : Env) (s : State) (m : MethodId) (below : List Frame) (meth : Method) (c : Code), zz_X p m c bytes maxL s av.toArray y.cls → meth.sig.returnType = ret → meth.locks = false → zz_V p l e rm s m av.toArray below meth c (MQ below (va_Qi post (zz_E Y) (zz_A Y)) av.toArray s 0 0 (zz_A Y)) maxL Y σ 0 (lv_args 0 av) []) : zz_Mi l y bytes maxL ret rm Y av σ post := by
  refine Met.ofW (cc := bytes) (maxL := maxL) (ret := ret) hy rfl ?_
  intro p e s m args below meth c s₁ B hml hv
  obtain ⟨rfl, hP, hK, hS, hN⟩ := hv
  have hts := atoms_spec (ws := Cond.code y bytes maxL ret :: zz_tbl) B.pre
  have hown : s.vm.findClass y.cls = some m.cls := findClass_of_methodNamed B.named
  rw [lg_entry_eq]
  exact body p e s m below meth c ⟨B.exec, B.bytes, hml, hown, fun w hw => hts w (List.mem_cons_of_mem _ hw)⟩ B.returns B.notSynchronized s.heap [] _ ⟨hP, hK, va_S.rf, hS, hN, hJ⟩ (lv_entry av hlen)
theorem zz_Ml.start {y : MethodName} {bytes : ByteArray} {maxL : Nat} {ret : Option FieldType} {rm : Room} {av : List Value} {post : Int64 → zz_T → Prop} (hy : plainName y.cls = true) (hJ : zz_J Y) (hlen : (lg_sl av).length ≤ maxL) (body : ∀ (p : Program) (e : Env) (s : State) (m : MethodId) (below : List Frame) (meth : Method) (c : Code), zz_X p m c bytes maxL s av.toArray y.cls → meth.sig.returnType = ret → meth.locks = false → zz_V p l e rm s m av.toArray below meth c (MQ below (va_Ql post (zz_E Y) (zz_A Y)) av.toArray s 0 0 (zz_A Y)) maxL Y σ 0 (lv_args 0 av) []) : zz_Ml l y bytes maxL ret rm Y av σ post := by
  refine Met.ofW (cc := bytes) (maxL := maxL) (ret := ret) hy rfl ?_
  intro p e s m args below meth c s₁ B hml hv
  obtain ⟨rfl, hP, hK, hS, hN⟩ := hv
  have hts := atoms_spec (ws := Cond.code y bytes maxL ret :: zz_tbl) B.pre
  have hown : s.vm.findClass y.cls = some m.cls := findClass_of_methodNamed B.named
  rw [lg_entry_eq]
  exact body p e s m below meth c ⟨B.exec, B.bytes, hml, hown, fun w hw => hts w (List.mem_cons_of_mem _ hw)⟩ B.returns B.notSynchronized s.heap [] _ ⟨hP, hK, va_S.rf, hS, hN, hJ⟩ (lv_entry av hlen)
theorem zz_Mv.start {y : MethodName} {bytes : ByteArray} {maxL : Nat} {ret : Option FieldType} {rm : Room} {av : List Value} {post : zz_T → Prop} (hy : plainName y.cls = true) (hJ : zz_J Y) (hlen : (lg_sl av).length ≤ maxL) (body : ∀ (p : Program) (e : Env) (s : State) (m : MethodId) (below : List Frame) (meth : Method) (c : Code), zz_X p m c bytes maxL s av.toArray y.cls → meth.sig.returnType = ret → meth.locks = false → zz_V p l e rm s m av.toArray below meth c (MQ below (va_Qv post (zz_E Y) (zz_A Y)) av.toArray s 0 0 (zz_A Y)) maxL Y σ 0 (lv_args 0 av) []) : zz_Mv l y bytes maxL ret rm Y av σ post := by
  refine Met.ofW (cc := bytes) (maxL := maxL) (ret := ret) hy rfl ?_
  intro p e s m args below meth c s₁ B hml hv
  obtain ⟨rfl, hP, hK, hS, hN⟩ := hv
  have hts := atoms_spec (ws := Cond.code y bytes maxL ret :: zz_tbl) B.pre
  have hown : s.vm.findClass y.cls = some m.cls := findClass_of_methodNamed B.named
  rw [lg_entry_eq]
  exact body p e s m below meth c ⟨B.exec, B.bytes, hml, hown, fun w hw => hts w (List.mem_cons_of_mem _ hw)⟩ B.returns B.notSynchronized s.heap [] _ ⟨hP, hK, va_S.rf, hS, hN, hJ⟩ (lv_entry av hlen)
theorem zz_Ms.start {y : MethodName} {bytes : ByteArray} {maxL : Nat} {ret : Option FieldType} {rm : Room} {av : List Value} {post : Nat → zz_T → Prop} (hy : plainName y.cls = true) (hJ : zz_J Y) (hlen : (lg_sl av).length ≤ maxL) (body : ∀ (p : Program) (e : Env) (s : State) (m : MethodId) (below : List Frame) (meth : Method) (c : Code), zz_X p m c bytes maxL s av.toArray y.cls → meth.sig.returnType = ret → meth.locks = false → zz_V p l e rm s m av.toArray below meth c (MQ below (va_Qq (fun r u => ∃ i, i < 8 ∧ r = some (Y.2.2.2 (10 + i)) ∧ post i u) (zz_E Y) (zz_A Y)) av.toArray s 0 0 (zz_A Y)) maxL Y σ 0 (lv_args 0 av) []) : zz_Ms l y bytes maxL ret rm Y av σ post := by
  refine Met.ofW (cc := bytes) (maxL := maxL) (ret := ret) hy rfl ?_
  intro p e s m args below meth c s₁ B hml hv
  obtain ⟨rfl, hP, hK, hS, hN⟩ := hv
  have hts := atoms_spec (ws := Cond.code y bytes maxL ret :: zz_tbl) B.pre
  have hown : s.vm.findClass y.cls = some m.cls := findClass_of_methodNamed B.named
  rw [lg_entry_eq]
  exact body p e s m below meth c ⟨B.exec, B.bytes, hml, hown, fun w hw => hts w (List.mem_cons_of_mem _ hw)⟩ B.returns B.notSynchronized s.heap [] _ ⟨hP, hK, va_S.rf, hS, hN, hJ⟩ (lv_entry av hlen)
def zz_KV (own : String) (idx : Nat) (y : MethodName) (bytes : ByteArray) (maxL : Nat) (ret : Option FieldType) (nA : Nat) : Prop := (Cond.methodLink own idx y ∈ zz_tbl ∧ Cond.instanceMethod y ∈ zz_tbl ∧ Cond.selects y.cls y y ∈ zz_tbl ∧ Cond.initialized y.cls ∈ zz_tbl ∧ Cond.code y bytes maxL ret ∈ zz_tbl) ∧ (y.cls ≠ "java/lang/invoke/MethodHandle" ∧ y.cls ≠ "java/lang/invoke/VarHandle" ∧ (parseMethodDescriptor y.desc).map (fun d => d.parameters.length) = some nA)
def zz_KS (own : String) (idx : Nat) (y : MethodName) (bytes : ByteArray) (maxL : Nat) (ret : Option FieldType) (nA : Nat) : Prop := (Cond.methodLink own idx y ∈ zz_tbl ∧ Cond.static y ∈ zz_tbl ∧ Cond.initialized y.cls ∈ zz_tbl ∧ Cond.code y bytes maxL ret ∈ zz_tbl) ∧ (y.cls ≠ "java/lang/invoke/MethodHandle" ∧ y.cls ≠ "java/lang/invoke/VarHandle" ∧ (parseMethodDescriptor y.desc).map (fun d => d.parameters.length) = some nA)
theorem zz_gi {ws : List Cond} (h : ∀ w ∈ ws, w ∈ zz_tbl) : GoodIn zz_tbl ws := fun w hw => zz_good w (h w hw)
theorem zz_cV {y : MethodName} {bytes : ByteArray} {maxL nA idx : Nat} {ret : Option FieldType} {rm : Room} (hts : ∀ w ∈ zz_tbl, w.before args s = true) (h : zz_KV own idx y bytes maxL ret nA) (hrc : rm.cells = 0 ∧ rm.slots = 0) (hR : rm.frames + 1 ≤ R.frames ∧ 8 + (maxL + 11) + rm.locals ≤ R.locals) : CallW R s args own y.cls idx y bytes maxL ret (Cond.code y bytes maxL ret :: zz_tbl) rm 0 0 nA := by
  obtain ⟨⟨h1, h2, h3, h4, h5⟩, h6⟩ := h
  refine cwV nA hts (zz_gi ?_) rfl hrc.1 hrc.2 ⟨rfl, h6⟩ hR
  intro w hw
  rcases List.mem_append.mp hw with hw | hw
  · simp only [List.mem_cons, List.not_mem_nil, or_false] at hw
    rcases hw with rfl | rfl | rfl | rfl <;> assumption
  · rcases List.mem_cons.mp hw with rfl | hw
    · exact h5
    · exact hw
theorem zz_cS {y : MethodName} {bytes : ByteArray} {maxL nA idx : Nat} {ret : Option FieldType} {rm : Room} (hts : ∀ w ∈ zz_tbl, w.before args s = true) (h : zz_KS own idx y bytes maxL ret nA) (hrc : rm.cells = 0 ∧ rm.slots = 0) (hR : rm.frames + 1 ≤ R.frames ∧ 8 + (maxL + 11) + rm.locals ≤ R.locals) : CallB R s args own idx y bytes maxL ret (Cond.code y bytes maxL ret :: zz_tbl) rm 0 0 nA ∧ (Cond.static y).before args s = true := by
  obtain ⟨⟨h1, h2, h3, h4⟩, h6⟩ := h
  refine va_cwS nA hts (zz_gi ?_) rfl hrc.1 hrc.2 h6 hR
  intro w hw
  rcases List.mem_append.mp hw with hw | hw
  · simp only [List.mem_cons, List.not_mem_nil, or_false] at hw
    rcases hw with rfl | rfl | rfl <;> assumption
  · rcases List.mem_cons.mp hw with rfl | hw
    · exact h4
    · exact hw
theorem zz_tag (Y : zz_Y) {ci : Nat} (h : ci < 7) (f : Nat → Nat) (g : Nat → Int32) (lg : Nat → Int64) : ∃ (fs : List Value) (q : vw_C), zz_e Y (10 + ci, 0, f) g lg = .inr (ci, fs) ∧ vwCl[ci]? = some q ∧ q.1 = [RX0, RX1, RX2, RX3, RX4, RX5, RX6].getD ci "" := by
  match ci, h with
  | 0, _ => exact ⟨_, _, rfl, rfl, rfl⟩
  | 1, _ => exact ⟨_, _, rfl, rfl, rfl⟩
  | 2, _ => exact ⟨_, _, rfl, rfl, rfl⟩
  | 3, _ => exact ⟨_, _, rfl, rfl, rfl⟩
  | 4, _ => exact ⟨_, _, rfl, rfl, rfl⟩
  | 5, _ => exact ⟨_, _, rfl, rfl, rfl⟩
  | 6, _ => exact ⟨_, _, rfl, rfl, rfl⟩
theorem zz_recv {H : Heap} {locs : List Loc} (hG : zz_G Y s σ H locs) {k ci : Nat} {f : Nat → Nat} (hk : k < Y.1.1) (hci : ci < 7) (ht : Y.1.2 k = (10 + ci, 0, f)) {C : String} (hC : [RX0, RX1, RX2, RX3, RX4, RX5, RX6].getD ci "" = C) : ∃ cell : Cell, H[Y.2.1 k]? = some cell ∧ cell.vm.isStatics = false ∧ s.vm.findClass C = some cell.cls := by
  obtain ⟨fs, q, h1, h2, h3⟩ := zz_tag Y hci f (σ.1 k) σ.2
  have h := va_recv hG.2.1 hG.1 h2 (show (zz_w Y σ)[k]? = some (Y.2.1 k, .inr (ci, fs)) by rw [zz_w_at hk, ht, h1])
  rw [h3, hC] at h
  exact h
theorem zv_cVi (X : zz_X p m c cc nL s args own) {y : MethodName} {bytes : ByteArray} {maxL nA idx k ci : Nat} {ret : Option FieldType} {rm : Room} {f : Nat → Nat} {post : Int32 → zz_T → Prop} (As : List Value) {st0 : List Value} (hM : zz_Mi l y bytes maxL ret rm Y (.ref (Y.2.1 k) :: As) σ post) (h : zz_KV own idx y bytes maxL ret nA) (hrc : rm.cells = 0 ∧ rm.slots = 0) (hR : rm.frames + 1 ≤ R.frames ∧ 8 + (maxL + 11) + rm.locals ≤ R.locals) (hk : k < Y.1.1) (hci : ci < 7) (ht : Y.1.2 k = (10 + ci, 0, f)) (hC : [RX0, RX1, RX2, RX3, RX4, RX5, RX6].getD ci "" = y.cls) (hl2 : As.length = nA) (hst : st0 = As.reverse ++ .ref (Y.2.1 k) :: st) (hW : (st.map fun v => v.category).sum ≤ 8) (hd : decode cc pc = .ok (.invokevirtual idx, 3)) (hn : pc + 3 = n) (kk : ∀ (r : Int32) (σ2 : zz_T), post r σ2 → zz_V p l e R s m args below meth c Q nL Y σ2 n lv (.int r :: st)) : zz_V p l e R s m args below meth c Q nL Y σ pc lv st0 := by
  subst hn hst; intro H locs ls hG hl
  refine va_calli (va_runV (As := As) (rest := st) X hM (zz_cV X.2.2.2.2 h hrc hR) ⟨zz_blind Y _ σ, zz_recv hG hk hci ht hC, fun U hU hW => ⟨rfl, zz_pre hG hU hW⟩⟩ rfl hl2 hl.1 rfl (lv_room hW) hd ⟨Nat.zero_le _, Nat.zero_le _⟩) hG.2.2.1 (fun q _ h => h) (fun q h => h) (fun r u t H1 locs1 ht hvm hw hB hz1 hk1 hS => ?_)
  exact kk r u hw H1 locs1 ls ⟨by rw [← ht]; exact hB, hG.2.1, hS, hG.2.2.2⟩ hl
theorem zv_cSi (X : zz_X p m c cc nL s args own) {y : MethodName} {bytes : ByteArray} {maxL nA idx : Nat} {ret : Option FieldType} {rm : Room} {post : Int32 → zz_T → Prop} (As : List Value) {st0 : List Value} (hM : zz_Mi l y bytes maxL ret rm Y As σ post) (h : zz_KS own idx y bytes maxL ret nA) (hrc : rm.cells = 0 ∧ rm.slots = 0) (hR : rm.frames + 1 ≤ R.frames ∧ 8 + (maxL + 11) + rm.locals ≤ R.locals) (hl2 : As.length = nA) (hst : st0 = As.reverse ++ st) (hW : (st.map fun v => v.category).sum ≤ 8) (hd : decode cc pc = .ok (.invokestatic idx, 3)) (hn : pc + 3 = n) (kk : ∀ (r : Int32) (σ2 : zz_T), post r σ2 → zz_V p l e R s m args below meth c Q nL Y σ2 n lv (.int r :: st)) : zz_V p l e R s m args below meth c Q nL Y σ pc lv st0 := by
  subst hn hst; intro H locs ls hG hl
  refine va_calli (va_runS (As := As) (rest := st) X hM (zz_cS X.2.2.2.2 h hrc hR) ⟨zz_blind Y _ σ, fun U hU hW => ⟨rfl, zz_pre hG hU hW⟩⟩ rfl hl2 hl.1 rfl (lv_room hW) hd ⟨Nat.zero_le _, Nat.zero_le _⟩) hG.2.2.1 (fun q _ h => h) (fun q h => h) (fun r u t H1 locs1 ht hvm hw hB hz1 hk1 hS => ?_)
  exact kk r u hw H1 locs1 ls ⟨by rw [← ht]; exact hB, hG.2.1, hS, hG.2.2.2⟩ hl
theorem zv_cVl (X : zz_X p m c cc nL s args own) {y : MethodName} {bytes : ByteArray} {maxL nA idx k ci : Nat} {ret : Option FieldType} {rm : Room} {f : Nat → Nat} {post : Int64 → zz_T → Prop} (As : List Value) {st0 : List Value} (hM : zz_Ml l y bytes maxL ret rm Y (.ref (Y.2.1 k) :: As) σ post) (h : zz_KV own idx y bytes maxL ret nA) (hrc : rm.cells = 0 ∧ rm.slots = 0) (hR : rm.frames + 1 ≤ R.frames ∧ 8 + (maxL + 11) + rm.locals ≤ R.locals) (hk : k < Y.1.1) (hci : ci < 7) (ht : Y.1.2 k = (10 + ci, 0, f)) (hC : [RX0, RX1, RX2, RX3, RX4, RX5, RX6].getD ci "" = y.cls) (hl2 : As.length = nA) (hst : st0 = As.reverse ++ .ref (Y.2.1 k) :: st) (hW : (st.map fun v => v.category).sum ≤ 8) (hd : decode cc pc = .ok (.invokevirtual idx, 3)) (hn : pc + 3 = n) (kk : ∀ (r : Int64) (σ2 : zz_T), post r σ2 → zz_V p l e R s m args below meth c Q nL Y σ2 n lv (.long r :: st)) : zz_V p l e R s m args below meth c Q nL Y σ pc lv st0 := by
  subst hn hst; intro H locs ls hG hl
  refine va_calll (va_runV (As := As) (rest := st) X hM (zz_cV X.2.2.2.2 h hrc hR) ⟨zz_blind Y _ σ, zz_recv hG hk hci ht hC, fun U hU hW => ⟨rfl, zz_pre hG hU hW⟩⟩ rfl hl2 hl.1 rfl (lv_room hW) hd ⟨Nat.zero_le _, Nat.zero_le _⟩) hG.2.2.1 (fun q _ h => h) (fun q h => h) (fun r u t H1 locs1 ht hvm hw hB hz1 hk1 hS => ?_)
  exact kk r u hw H1 locs1 ls ⟨by rw [← ht]; exact hB, hG.2.1, hS, hG.2.2.2⟩ hl
theorem zv_cSl (X : zz_X p m c cc nL s args own) {y : MethodName} {bytes : ByteArray} {maxL nA idx : Nat} {ret : Option FieldType} {rm : Room} {post : Int64 → zz_T → Prop} (As : List Value) {st0 : List Value} (hM : zz_Ml l y bytes maxL ret rm Y As σ post) (h : zz_KS own idx y bytes maxL ret nA) (hrc : rm.cells = 0 ∧ rm.slots = 0) (hR : rm.frames + 1 ≤ R.frames ∧ 8 + (maxL + 11) + rm.locals ≤ R.locals) (hl2 : As.length = nA) (hst : st0 = As.reverse ++ st) (hW : (st.map fun v => v.category).sum ≤ 8) (hd : decode cc pc = .ok (.invokestatic idx, 3)) (hn : pc + 3 = n) (kk : ∀ (r : Int64) (σ2 : zz_T), post r σ2 → zz_V p l e R s m args below meth c Q nL Y σ2 n lv (.long r :: st)) : zz_V p l e R s m args below meth c Q nL Y σ pc lv st0 := by
  subst hn hst; intro H locs ls hG hl
  refine va_calll (va_runS (As := As) (rest := st) X hM (zz_cS X.2.2.2.2 h hrc hR) ⟨zz_blind Y _ σ, fun U hU hW => ⟨rfl, zz_pre hG hU hW⟩⟩ rfl hl2 hl.1 rfl (lv_room hW) hd ⟨Nat.zero_le _, Nat.zero_le _⟩) hG.2.2.1 (fun q _ h => h) (fun q h => h) (fun r u t H1 locs1 ht hvm hw hB hz1 hk1 hS => ?_)
  exact kk r u hw H1 locs1 ls ⟨by rw [← ht]; exact hB, hG.2.1, hS, hG.2.2.2⟩ hl
theorem zv_cVv (X : zz_X p m c cc nL s args own) {y : MethodName} {bytes : ByteArray} {maxL nA idx k ci : Nat} {ret : Option FieldType} {rm : Room} {f : Nat → Nat} {post : zz_T → Prop} (As : List Value) {st0 : List Value} (hM : zz_Mv l y bytes maxL ret rm Y (.ref (Y.2.1 k) :: As) σ post) (h : zz_KV own idx y bytes maxL ret nA) (hrc : rm.cells = 0 ∧ rm.slots = 0) (hR : rm.frames + 1 ≤ R.frames ∧ 8 + (maxL + 11) + rm.locals ≤ R.locals) (hk : k < Y.1.1) (hci : ci < 7) (ht : Y.1.2 k = (10 + ci, 0, f)) (hC : [RX0, RX1, RX2, RX3, RX4, RX5, RX6].getD ci "" = y.cls) (hl2 : As.length = nA) (hst : st0 = As.reverse ++ .ref (Y.2.1 k) :: st) (hW : (st.map fun v => v.category).sum ≤ 8) (hd : decode cc pc = .ok (.invokevirtual idx, 3)) (hn : pc + 3 = n) (kk : ∀ σ2 : zz_T, post σ2 → zz_V p l e R s m args below meth c Q nL Y σ2 n lv st) : zz_V p l e R s m args below meth c Q nL Y σ pc lv st0 := by
  subst hn hst; intro H locs ls hG hl
  refine va_callv (va_runV (As := As) (rest := st) X hM (zz_cV X.2.2.2.2 h hrc hR) ⟨zz_blind Y _ σ, zz_recv hG hk hci ht hC, fun U hU hW => ⟨rfl, zz_pre hG hU hW⟩⟩ rfl hl2 hl.1 rfl (lv_room hW) hd ⟨Nat.zero_le _, Nat.zero_le _⟩) hG.2.2.1 (fun q _ h => h) (fun q h => h) (fun u t H1 locs1 ht hvm hw hB hz1 hk1 hS => ?_)
  exact kk u hw H1 locs1 ls ⟨by rw [← ht]; exact hB, hG.2.1, hS, hG.2.2.2⟩ hl
theorem zv_cSv (X : zz_X p m c cc nL s args own) {y : MethodName} {bytes : ByteArray} {maxL nA idx : Nat} {ret : Option FieldType} {rm : Room} {post : zz_T → Prop} (As : List Value) {st0 : List Value} (hM : zz_Mv l y bytes maxL ret rm Y As σ post) (h : zz_KS own idx y bytes maxL ret nA) (hrc : rm.cells = 0 ∧ rm.slots = 0) (hR : rm.frames + 1 ≤ R.frames ∧ 8 + (maxL + 11) + rm.locals ≤ R.locals) (hl2 : As.length = nA) (hst : st0 = As.reverse ++ st) (hW : (st.map fun v => v.category).sum ≤ 8) (hd : decode cc pc = .ok (.invokestatic idx, 3)) (hn : pc + 3 = n) (kk : ∀ σ2 : zz_T, post σ2 → zz_V p l e R s m args below meth c Q nL Y σ2 n lv st) : zz_V p l e R s m args below meth c Q nL Y σ pc lv st0 := by
  subst hn hst; intro H locs ls hG hl
  refine va_callv (va_runS (As := As) (rest := st) X hM (zz_cS X.2.2.2.2 h hrc hR) ⟨zz_blind Y _ σ, fun U hU hW => ⟨rfl, zz_pre hG hU hW⟩⟩ rfl hl2 hl.1 rfl (lv_room hW) hd ⟨Nat.zero_le _, Nat.zero_le _⟩) hG.2.2.1 (fun q _ h => h) (fun q h => h) (fun u t H1 locs1 ht hvm hw hB hz1 hk1 hS => ?_)
  exact kk u hw H1 locs1 ls ⟨by rw [← ht]; exact hB, hG.2.1, hS, hG.2.2.2⟩ hl
theorem zv_cVs (X : zz_X p m c cc nL s args own) {y : MethodName} {bytes : ByteArray} {maxL nA idx k ci : Nat} {ret : Option FieldType} {rm : Room} {f : Nat → Nat} {post : Nat → zz_T → Prop} (As : List Value) {st0 : List Value} (hM : zz_Ms l y bytes maxL ret rm Y (.ref (Y.2.1 k) :: As) σ post) (h : zz_KV own idx y bytes maxL ret nA) (hrc : rm.cells = 0 ∧ rm.slots = 0) (hR : rm.frames + 1 ≤ R.frames ∧ 8 + (maxL + 11) + rm.locals ≤ R.locals) (hk : k < Y.1.1) (hci : ci < 7) (ht : Y.1.2 k = (10 + ci, 0, f)) (hC : [RX0, RX1, RX2, RX3, RX4, RX5, RX6].getD ci "" = y.cls) (hl2 : As.length = nA) (hst : st0 = As.reverse ++ .ref (Y.2.1 k) :: st) (hW : (st.map fun v => v.category).sum ≤ 8) (hd : decode cc pc = .ok (.invokevirtual idx, 3)) (hn : pc + 3 = n) (kk : ∀ (r : Nat) (σ2 : zz_T), r < 8 → post r σ2 → zz_V p l e R s m args below meth c Q nL Y σ2 n lv (.ref (Y.2.2.2 (10 + r)) :: st)) : zz_V p l e R s m args below meth c Q nL Y σ pc lv st0 := by
  subst hn hst; intro H locs ls hG hl
  refine va_callq (va_runV (As := As) (rest := st) X hM (zz_cV X.2.2.2.2 h hrc hR) ⟨zz_blind Y _ σ, zz_recv hG hk hci ht hC, fun U hU hW => ⟨rfl, zz_pre hG hU hW⟩⟩ rfl hl2 hl.1 rfl (lv_room hW) hd ⟨Nat.zero_le _, Nat.zero_le _⟩) hG.2.2.1 (fun q _ h => h) (fun q h => h) (fun r u t H1 locs1 ht hvm hw hB hz1 hk1 hS => ?_)
  obtain ⟨i, hi, rfl, hw⟩ := hw
  exact kk i u hi hw H1 locs1 ls ⟨by rw [← ht]; exact hB, hG.2.1, hS, hG.2.2.2⟩ hl
theorem zv_cSs (X : zz_X p m c cc nL s args own) {y : MethodName} {bytes : ByteArray} {maxL nA idx : Nat} {ret : Option FieldType} {rm : Room} {post : Nat → zz_T → Prop} (As : List Value) {st0 : List Value} (hM : zz_Ms l y bytes maxL ret rm Y As σ post) (h : zz_KS own idx y bytes maxL ret nA) (hrc : rm.cells = 0 ∧ rm.slots = 0) (hR : rm.frames + 1 ≤ R.frames ∧ 8 + (maxL + 11) + rm.locals ≤ R.locals) (hl2 : As.length = nA) (hst : st0 = As.reverse ++ st) (hW : (st.map fun v => v.category).sum ≤ 8) (hd : decode cc pc = .ok (.invokestatic idx, 3)) (hn : pc + 3 = n) (kk : ∀ (r : Nat) (σ2 : zz_T), r < 8 → post r σ2 → zz_V p l e R s m args below meth c Q nL Y σ2 n lv (.ref (Y.2.2.2 (10 + r)) :: st)) : zz_V p l e R s m args below meth c Q nL Y σ pc lv st0 := by
  subst hn hst; intro H locs ls hG hl
  refine va_callq (va_runS (As := As) (rest := st) X hM (zz_cS X.2.2.2.2 h hrc hR) ⟨zz_blind Y _ σ, fun U hU hW => ⟨rfl, zz_pre hG hU hW⟩⟩ rfl hl2 hl.1 rfl (lv_room hW) hd ⟨Nat.zero_le _, Nat.zero_le _⟩) hG.2.2.1 (fun q _ h => h) (fun q h => h) (fun r u t H1 locs1 ht hvm hw hB hz1 hk1 hS => ?_)
  obtain ⟨i, hi, rfl, hw⟩ := hw
  exact kk i u hi hw H1 locs1 ls ⟨by rw [← ht]; exact hB, hG.2.1, hS, hG.2.2.2⟩ hl
end ZR
