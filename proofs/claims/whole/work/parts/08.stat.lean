section ZS
variable {p : Program} {l : Launch} {e : Env} {R : Room} {s : State} {m : MethodId} {args : Array Value} {below : List Frame} {meth : Method} {c : Code} {Q : State → Prop} {nL : Nat} {Y : zz_Y} {σ : zz_T} {cc : ByteArray} {own : String} {pc n : Nat} {lv : List (Nat × Value)} {st : List Value}
theorem zv_ldcS (X : zz_X p m c cc nL s args "HotDots$Tape") (i : Nat) (hi : i < 8) (hd : decode cc pc = .ok (.ldc (zz_six i), 2)) (hn : pc + 2 = n) (K : zz_V p l e R s m args below meth c Q nL Y σ n lv (.ref (Y.2.2.2 (10 + i)) :: st)) : zz_V p l e R s m args below meth c Q nL Y σ pc lv st := by
  subst hn; intro H locs ls hG hl
  exact va_ldcS X.1 X.2.1 X.2.2.2.1 (hG.2.2.2.2.1.2 i hi) hd (K H locs ls hG hl)
theorem zv_sget_c (X : zz_X p m c cc nL s args "java/lang/String") {i : Nat} (hi : i < 8) (hlink : Cond.fieldLink "java/lang/String" 15 "java/lang/String" "coder" "B" ∈ zz_tbl) (hd : decode cc pc = .ok (.getfield 15, 3)) (hn : pc + 3 = n) (K : zz_V p l e R s m args below meth c Q nL Y σ n lv (.int 0 :: st)) : zz_V p l e R s m args below meth c Q nL Y σ pc lv (.ref (Y.2.2.2 (10 + i)) :: st) := by
  subst hn; intro H locs ls hG hl
  exact vk_getf X.1 X.2.1 ((hG.2.2.2.1.2.2.1.1 i hi).2.1) hG.2.2.1 X.2.2.2.1 (X.2.2.2.2 _ hlink) (fun _ h => h) hd (K H locs ls hG hl)
theorem zv_sget_v (X : zz_X p m c cc nL s args "java/lang/String") {i : Nat} (hi : i < 8) (hlink : Cond.fieldLink "java/lang/String" 9 "java/lang/String" "value" "[B" ∈ zz_tbl) (hd : decode cc pc = .ok (.getfield 9, 3)) (hn : pc + 3 = n) (K : zz_V p l e R s m args below meth c Q nL Y σ n lv (.ref (Y.2.2.2 (20 + i)) :: st)) : zz_V p l e R s m args below meth c Q nL Y σ pc lv (.ref (Y.2.2.2 (10 + i)) :: st) := by
  subst hn; intro H locs ls hG hl
  exact vk_getf X.1 X.2.1 ((hG.2.2.2.1.2.2.1.1 i hi).2.2.1) hG.2.2.1 X.2.2.2.1 (X.2.2.2.2 _ hlink) (fun _ h => h) hd (K H locs ls hG hl)
theorem zv_sblen (X : zz_X p m c cc nL s args own) {i : Nat} (hi : i < 8) (hd : decode cc pc = .ok (.arraylength, 1)) (hn : pc + 1 = n) (K : zz_V p l e R s m args below meth c Q nL Y σ n lv (.int (nI (zz_len.getD i 0)) :: st)) : zz_V p l e R s m args below meth c Q nL Y σ pc lv (.ref (Y.2.2.2 (20 + i)) :: st) := by
  subst hn; intro H locs ls hG hl
  exact va_tlen X.1 X.2.1 ((hG.2.2.2.1.2.2.1.1 i hi).2.2.2) hG.2.2.1 rfl hd (K H locs ls hG hl)
theorem zv_sbald (X : zz_X p m c cc nL s args own) {i : Nat} {j : Int32} (hi : i < 8) (hin : vp_in j (zz_len.getD i 0)) (hd : decode cc pc = .ok (.baload, 1)) (hn : pc + 1 = n) (K : zz_V p l e R s m args below meth c Q nL Y σ n lv (.int ((zz_byt.getD i []).getD j.toNatClampNeg 0) :: st)) : zz_V p l e R s m args below meth c Q nL Y σ pc lv (.int j :: .ref (Y.2.2.2 (20 + i)) :: st) := by
  subst hn; intro H locs ls hG hl
  exact va_tb X.1 X.2.1 ((hG.2.2.2.1.2.2.1.1 i hi).2.2.2) hG.2.2.1 hin rfl hd (K H locs ls hG hl)
theorem zv_comp (X : zz_X p m c cc nL s args own) {idx : Nat} (hlink : Cond.fieldLink own idx "java/lang/String" "COMPACT_STRINGS" "Z" ∈ zz_tbl) (hd : decode cc pc = .ok (.getstatic idx, 3)) (hn : pc + 3 = n) (K : zz_V p l e R s m args below meth c Q nL Y σ n lv (.int 1 :: st)) : zz_V p l e R s m args below meth c Q nL Y σ pc lv st := by
  subst hn; intro H locs ls hG hl
  exact va_gets X.1 X.2.1 hG.2.2.2.1.2.1 hG.2.2.1 X.2.2.2.1 (X.2.2.2.2 _ hlink) (fun _ h => h) hd (K H locs ls hG hl)
theorem zv_zq (X : zz_X p m c cc nL s args own) {idx : Nat} (hlink : Cond.fieldLink own idx "jdk/internal/util/Preconditions" "SIOOBE_FORMATTER" "Ljava/util/function/BiFunction;" ∈ zz_tbl) (hd : decode cc pc = .ok (.getstatic idx, 3)) (hn : pc + 3 = n) (k1 : zz_V p l e R s m args below meth c Q nL Y σ n lv (.null :: st)) (k2 : ∀ t : Nat, zz_V p l e R s m args below meth c Q nL Y σ n lv (.ref t :: st)) : zz_V p l e R s m args below meth c Q nL Y σ pc lv st := by
  subst hn; intro H locs ls hG hl
  rcases hG.2.2.2.1.2.2.2 with hz | ⟨t, hz⟩
  · exact va_gets X.1 X.2.1 hz hG.2.2.1 X.2.2.2.1 (X.2.2.2.2 _ hlink) (fun _ h => h) hd (k1 H locs ls hG hl)
  · exact va_gets X.1 X.2.1 hz hG.2.2.1 X.2.2.2.1 (X.2.2.2.2 _ hlink) (fun _ h => h) hd (k2 t H locs ls hG hl)
theorem zv_st (X : zz_X p m c cc nL s args own) {idx : Nat} (i : Nat) (hi : i < 3) (hlink : Cond.fieldLink own idx "HotDots" (zz_sn i) "[I" ∈ zz_tbl) (hd : decode cc pc = .ok (.getstatic idx, 3)) (hn : pc + 3 = n) (K : zz_V p l e R s m args below meth c Q nL Y σ n lv (.ref (Y.2.2.2 i) :: st)) : zz_V p l e R s m args below meth c Q nL Y σ pc lv st := by
  subst hn; intro H locs ls hG hl
  exact va_gets X.1 X.2.1 (hG.2.2.2.1.1 i hi).1 hG.2.2.1 X.2.2.2.1 (X.2.2.2.2 _ hlink) (fun _ h => h) hd (K H locs ls hG hl)
theorem zv_tald (X : zz_X p m c cc nL s args own) (i : Nat) (hi : i < 3) {j : Int32} (hin : vp_in j 3) (hd : decode cc pc = .ok (.iaload, 1)) (hn : pc + 1 = n) (K : zz_V p l e R s m args below meth c Q nL Y σ n lv (.int (zz_f i j.toNatClampNeg) :: st)) : zz_V p l e R s m args below meth c Q nL Y σ pc lv (.int j :: .ref (Y.2.2.2 i) :: st) := by
  subst hn; intro H locs ls hG hl
  exact va_ti X.1 X.2.1 (hG.2.2.2.1.1 i hi).2 hG.2.2.1 hin rfl hd (K H locs ls hG hl)
theorem zv_stN48 (X : zz_X p m c cc nL s args "HotDots$Printer") (hd : decode cc pc = .ok (.getstatic 48, 3)) (hn : pc + 3 = n) (K : zz_V p l e R s m args below meth c Q nL Y σ n lv (.ref (Y.2.2.2 2) :: st)) : zz_V p l e R s m args below meth c Q nL Y σ pc lv st := by
  subst hn; intro H locs ls hG hl
  exact va_getsN X.1 X.2.1 (hG.2.2.2.1.1 2 (by decide)).1 hG.2.2.1 X.2.2.2.1 (hG.2.2.2.2.1.1.1.use rfl) (fun _ h => h) hd (K H locs ls hG hl)
theorem zv_stN127 (X : zz_X p m c cc nL s args "HotDots$Tape") (hd : decode cc pc = .ok (.getstatic 127, 3)) (hn : pc + 3 = n) (K : zz_V p l e R s m args below meth c Q nL Y σ n lv (.ref (Y.2.2.2 0) :: st)) : zz_V p l e R s m args below meth c Q nL Y σ pc lv st := by
  subst hn; intro H locs ls hG hl
  exact va_getsN X.1 X.2.1 (hG.2.2.2.1.1 0 (by decide)).1 hG.2.2.1 X.2.2.2.1 (hG.2.2.2.2.1.1.2.1.use rfl) (fun _ h => h) hd (K H locs ls hG hl)
theorem zv_stN131 (X : zz_X p m c cc nL s args "HotDots$Tape") (hd : decode cc pc = .ok (.getstatic 131, 3)) (hn : pc + 3 = n) (K : zz_V p l e R s m args below meth c Q nL Y σ n lv (.ref (Y.2.2.2 1) :: st)) : zz_V p l e R s m args below meth c Q nL Y σ pc lv st := by
  subst hn; intro H locs ls hG hl
  exact va_getsN X.1 X.2.1 (hG.2.2.2.1.1 1 (by decide)).1 hG.2.2.1 X.2.2.2.1 (hG.2.2.2.2.1.1.2.2.use rfl) (fun _ h => h) hd (K H locs ls hG hl)
theorem zw_copyt {H : Heap} {locs : List Loc} {D : va_G} {cl : List vw_C} {tys : List (ClassId × FieldType)} {ws : va_W} {A : Nat → Prop} {a : Nat} {rest : List Value} {cells slots : Nat} {ls : Array Slot} (hexec : p.tables.exec = Jvm.exec) (hb : c.code = cc) (hml : c.maxLocals = ls.size) {index : Nat} (hown : s.vm.findClass own = some m.cls) (hlink : (Cond.methodLink own index arraycopyName).before args s = true) (hnat : (Cond.native arraycopyName).before args s = true) (hstat : (Cond.static arraycopyName).before args s = true) (hini : (Cond.initialized "java/lang/System").before args s = true)
    (hK : va_K D cl tys s) (hP : va_P D cl ws H) (hD : va_D A ws) (hS : va_S A s.heap H locs) {b0 n0 : Nat} {f : Nat → Int32} (hX : va_T .int b0 n0 (fun j => .int (f j)) A s s.heap) (q1 t1 : Nat) {c1 : ClassId} {n1 : Nat} {g : Nat → Int32} (ha1 : ws[q1]? = some (a, .inl (c1, n1, .inl g))) (ht1 : tys[t1]? = some (c1, .int))
    {sp dp cn : Int32} (h1 : ¬ sp < 0) (h2 : ¬ dp < 0) (h3 : ¬ cn < 0) (h4 : sp.toNatClampNeg + cn.toNatClampNeg ≤ n0) (h5 : dp.toNatClampNeg + cn.toNatClampNeg ≤ n1)
    (hframes : 1 ≤ R.frames) (hlocals : (rest.map fun v => v.category).sum + (nativeFrameWords "java/lang/System" "arraycopy" 5 + 11) ≤ R.locals) (hdg : decode cc pc = .ok (.invokestatic index, 3))
    (kk : ∀ (H1 : Heap) (locs1 : List Loc), va_P D cl (ws.set q1 (a, .inl (c1, n1, .inl (va_cpy f g sp.toNatClampNeg dp.toNatClampNeg cn.toNatClampNeg)))) H1 → va_S A s.heap H1 locs1 → W p l e R s m args below meth c H1 locs1 cells slots Q (F0 m (pc + 3) ls rest)) : W p l e R s m args below meth c H locs cells slots Q (F0 m pc ls (.int cn :: .int dp :: .ref a :: .int sp :: .ref b0 :: rest)) := by
  have nn : ∀ z : Int32, ¬ z < 0 → z.toInt = (z.toNatClampNeg : Int) := by
    intro z hz
    have hz0 : (0 : Int) ≤ z.toInt := by
      have := Int32.not_lt.mp hz
      simpa using Int32.le_iff_toInt_le.mp this
    show z.toInt = ((z.toInt.toNat : Nat) : Int)
    omega
  intro T hT X
  obtain ⟨scr, hs1, hs2, hs3, hs4, -, hs5, hs7⟩ := hX
  have hc0 : H[b0]? = some scr := by rw [hS.2.1 b0 (Array.getElem?_eq_some_iff.mp hs1).1 hs7]; exact hs1
  have hc1 : H[a]? = some (vp_cell c1 (n1, .inl g)) := hP q1 _ ha1
  obtain ⟨hs6, k0, hk0, cm0, hkk0⟩ := hs2
  obtain ⟨-, k1, hk1, cm1, hkk1⟩ := (hK.2 t1 _ ht1).1 n1 (fun j => .int (g j))
  obtain ⟨vm', X', step⟩ := X.arraycopy hexec hown hlink hnat hstat hini (src := b0) (dst := a) (cs := scr) (cd := vp_cell c1 (n1, .inl g)) (srcPos := sp) (destPos := dp) (n := cn) (by rw [hT]; exact hc0) (by rw [hT]; exact hc1)
    hs6 (fun _ h => by cases h) hs3 (fun h => by cases h) hk0 hk1 hkk0 hkk1 (by simp [refKind]) h1 h2 h3
    (by rw [nn sp h1, nn cn h3]; omega)
    (by rw [nn dp h2, nn cn h3]; show ¬ _ > ((arrV c1 n1 (fun j => .int (g j))).slots.size : Int); rw [arrV_size]; omega)
    (fun vm₁ _ i hi => by
      have e : scr.slots.getD (sp.toNatClampNeg + i) .null = .int (f (sp.toNatClampNeg + i)) := by
        rw [Array.getD_eq_getD_getElem?, hs5 _ (by omega)]
        rfl
      refine ⟨?_, ?_⟩
      · rw [e]
        rfl
      · rw [e]
        exact trivial)
    (g := F0 m pc ls (.int cn :: .int dp :: .ref a :: .int sp :: .ref b0 :: rest)) rfl (by rw [hml]) (rest := rest) rfl (by rw [hb]; exact hdg) hframes (by show 2 * 0 + _ + _ ≤ _; omega)
  have e1 : copied scr (vp_cell c1 (n1, .inl g)) sp dp cn = vp_cell c1 (n1, .inl (va_cpy f g sp.toNatClampNeg dp.toNatClampNeg cn.toNatClampNeg)) := va_copiedX (fun z => .int z) scr c1 f g hs5 h4
  rw [e1] at X' step
  have hl : a < H.size := (Array.getElem?_eq_some_iff.mp hc1).1
  have hheap : ((T.setVm vm').setCell a (vp_cell c1 (n1, .inl (va_cpy f g sp.toNatClampNeg dp.toNatClampNeg cn.toNatClampNeg)))).heap = H.setIfInBounds a (vp_cell c1 (n1, .inl (va_cpy f g sp.toNatClampNeg dp.toNatClampNeg cn.toNatClampNeg))) := by rw [← hT]; rfl
  have oq : ∀ q : Nat, q ≠ a → (H.setIfInBounds a (vp_cell c1 (n1, .inl (va_cpy f g sp.toNatClampNeg dp.toNatClampNeg cn.toNatClampNeg))))[q]? = H[q]? := fun q hq => by simp [Array.getElem?_setIfInBounds, Ne.symm hq]
  obtain ⟨t, a1, b1⟩ := kk _ _ (hP.set hD ha1 (show (H.setIfInBounds a _)[a]? = some _ by simp [Array.getElem?_setIfInBounds, hl]) oq) ⟨by simp; exact hS.1, fun q g1 g2 => by
      rw [oq q (fun e => g2 (by rw [e]; exact hD.2 q1 _ ha1))]
      exact hS.2.1 q g1 g2, fun q hq => by
      rcases List.mem_append.mp hq with h | h
      · exact hS.2.2 q h
      · obtain ⟨z, -, hz⟩ := List.mem_map.mp h
        rw [← hz]
        exact hD.2 q1 _ ha1⟩ _ hheap X'
  exact ⟨t, step t a1, b1⟩
theorem zv_copyT (X : zz_X p m c cc nL s args own) {idx k1 n1 : Nat} (i : Nat) (hi : i < 3) {f1 : Nat → Nat} (h1 : k1 < Y.1.1) (t1 : Y.1.2 k1 = (0, n1, f1)) {sp dp cn : Int32} (hlink : Cond.methodLink own idx arraycopyName ∈ zz_tbl) (hb1 : ¬ sp < 0) (hb2 : ¬ dp < 0) (hb3 : ¬ cn < 0) (hb4 : sp.toNatClampNeg + cn.toNatClampNeg ≤ 3) (hb5 : dp.toNatClampNeg + cn.toNatClampNeg ≤ n1) (hf : 1 ≤ R.frames) (hlo : (st.map fun v => v.category).sum + (nativeFrameWords "java/lang/System" "arraycopy" 5 + 11) ≤ R.locals) (hd : decode cc pc = .ok (.invokestatic idx, 3)) (hn : pc + 3 = n) (K : zz_V p l e R s m args below meth c Q nL Y (zz_r σ k1 (va_cpy (zz_f i) (σ.1 k1) sp.toNatClampNeg dp.toNatClampNeg cn.toNatClampNeg)) n lv st) : zz_V p l e R s m args below meth c Q nL Y σ pc lv (.int cn :: .int dp :: .ref (Y.2.1 k1) :: .int sp :: .ref (Y.2.2.2 i) :: st) := by
  subst hn; intro H locs ls hG hl
  refine zw_copyt X.1 X.2.1 (X.2.2.1.trans hl.1.symm) X.2.2.2.1 (X.2.2.2.2 _ hlink) (X.2.2.2.2 _ zz_cpN) (X.2.2.2.2 _ zz_cpS) (X.2.2.2.2 _ zz_cpI) hG.2.1 hG.1 (zz_D hG.2.2.2.2.2 σ) hG.2.2.1 (hG.2.2.2.1.1 i hi).2 k1 0 (by rw [zz_w_at h1, t1]; rfl) rfl hb1 hb2 hb3 hb4 hb5 hf hlo hd (fun H1 locs1 hP hS => ?_)
  rw [zz_set_r (f := va_cpy (zz_f i) (σ.1 k1) sp.toNatClampNeg dp.toNatClampNeg cn.toNatClampNeg) (by rw [t1]; rfl)] at hP
  exact K H1 locs1 ls ⟨hP, hG.2.1, hS, hG.2.2.2⟩ hl
theorem zv_cTi (X : zz_X p m c cc nL s args own) {y : MethodName} {bytes : ByteArray} {maxL nA idx i : Nat} {ret : Option FieldType} {rm : Room} {post : Int32 → zz_T → Prop} (As : List Value) {st0 : List Value} (hM : zz_Mi l y bytes maxL ret rm Y (.ref (Y.2.2.2 (10 + i)) :: As) σ post) (h : zz_KV own idx y bytes maxL ret nA) (hrc : rm.cells = 0 ∧ rm.slots = 0) (hR : rm.frames + 1 ≤ R.frames ∧ 8 + (maxL + 11) + rm.locals ≤ R.locals) (hi : i < 8) (hC : y.cls = "java/lang/String") (hl2 : As.length = nA) (hst : st0 = As.reverse ++ .ref (Y.2.2.2 (10 + i)) :: st) (hW : (st.map fun v => v.category).sum ≤ 8) (hd : decode cc pc = .ok (.invokevirtual idx, 3)) (hn : pc + 3 = n) (kk : ∀ (r : Int32) (σ2 : zz_T), post r σ2 → zz_V p l e R s m args below meth c Q nL Y σ2 n lv (.int r :: st)) : zz_V p l e R s m args below meth c Q nL Y σ pc lv st0 := by
  subst hn hst; intro H locs ls hG hl
  refine va_calli (va_runV (As := As) (rest := st) X hM (zz_cV X.2.2.2.2 h hrc hR) ⟨zz_blind Y _ σ, by rw [hC]; exact vk_recv (adK := fun i => Y.2.2.2 (10 + i)) (i := i) hG.2.2.2.1.2.2.1 hi hG.2.2.1, fun U hU hW => ⟨rfl, zz_pre hG hU hW⟩⟩ rfl hl2 hl.1 rfl (lv_room hW) hd ⟨Nat.zero_le _, Nat.zero_le _⟩) hG.2.2.1 (fun q _ h => h) (fun q h => h) (fun r u t H1 locs1 ht hvm hw hB hz1 hk1 hS => ?_)
  exact kk r u hw H1 locs1 ls ⟨by rw [← ht]; exact hB, hG.2.1, hS, hG.2.2.2⟩ hl
end ZS
