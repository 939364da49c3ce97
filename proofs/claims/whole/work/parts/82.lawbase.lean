def R_law : String := "HotDotsLaw"
def lw_P (b : Addr) (xs : List Int32) (args : Array Value) (s : State) : Prop := args = #[.ref b] ∧ s.IntsAt b xs ∧ xs.length ≤ 2560 ∧ (Jvm.Cond.and given_1 narrow_1).before args s = true
def lw_Q (_ : Array Value) (s : State) (o : Outcome) (t : State) : Prop := o = .returned (some (.int 1)) ∧ Framed s o t [] 600000 7302250
def lw_Z (below : List Frame) (a : Array Value) (s : State) : State → Prop := fun t => ∃ o, t.status = .running ∧ Ended t below o ∧ lw_Q a s o t
/-- the law's own end, with 1 on the stack, nothing written that was there before, its room as the claim has it -/
theorem lw_ret {p : Program} {l : Launch} {e : Env} {s : State} {m : MethodId} {below : List Frame} {meth : Method} {c : Code} {b : Nat} (hx : p.tables.exec = Jvm.exec) (hb : c.code = code) (hr : meth.sig.returnType = ret) (hlocks : meth.locks = false) {pc : Nat} {H : Heap} {ls : Array Slot} (hdg : decode code pc = .ok (.ireturn, 1)) : W p l e room_1 s m #[Value.ref b] below meth c H [] 600000 7302250 (lw_Z below #[Value.ref b] s) (F0 m pc ls [.int 1]) := by
  intro T hT X
  obtain ⟨fs, hret, hrun, hended, hW, hframe⟩ := X.leave (v := some (.int 1)) (hlocks := hlocks) (fun h => by rw [hr] at h; cases h)
  have hmeth' : T.vm.method? m = some meth := X.method'
  refine ⟨T.setFrames fs, ?_, .returned (some (.int 1)), hrun, hended, rfl, ⟨_, rfl⟩, hW, hframe⟩
  jvm_step X.here [X.here.top, hx, hb, hdg, hmeth', hr, ret, narrow_b1]
  (try refine ⟨rfl, ?_⟩); (try refine ⟨rfl, ?_⟩)
  first | (intro acts; rw [hret _ acts rfl rfl rfl]) | rw [hret _ _ rfl rfl rfl]
  exact Steps.refl _
/-- what holds at the law's entry: the machine, the code, the tables' words (any of lw_tbl by 'hts w (by decide +kernel)'), the script of L ints xs at the cell b, what the Statement gives of the start (any of its parts by flat_of_before) -/
def lw_At (p : Program) (s : State) (m : MethodId) (meth : Method) (c : Code) (b L : Nat) (xs : Nat → Int32) : Prop :=
  p.tables.exec = Jvm.exec ∧ c.code = code ∧ meth.sig.returnType = ret ∧ c.maxLocals = 4 ∧ s.vm.findClass R_law = some m.cls ∧ (∀ w ∈ lw_tbl, w.before #[Value.ref b] s = true) ∧ va_X b L xs s s.heap ∧ b < s.heap.size ∧ meth.locks = false ∧ (Jvm.Cond.and given_1 narrow_1).before #[Value.ref b] s = true
section ZC
variable {p : Program} {l : Launch} {e : Env} {R : Room} {s : State} {m : MethodId} {args : Array Value} {below : List Frame} {meth : Method} {c : Code} {Q : State → Prop} {nL : Nat} {cc : ByteArray} {own : String} {pc n : Nat} {lv : List (Nat × Value)} {st : List Value} {A : Nat → Prop} {G : zc_G} {ws : va_W} {cells slots N0 : Nat}
theorem zc_lcmp (X : zz_X p m c cc nL s args own) {x y : Int64} (hd : decode cc pc = .ok (.lcmp, 1))  (hn : pc + 1 = n) (k : zc_V p l e R s m args below meth c Q nL A G ws cells slots n lv (.int (lg_cmp x y) :: st)) : zc_V p l e R s m args below meth c Q nL A G ws cells slots pc lv (.long y :: .long x :: st) := by
  subst hn; intro H locs ls hP hD hS hl; exact W.lcmp X.1 X.2.1 hd  (k H locs ls hP hD hS hl)
theorem zc_if_eq (X : zz_X p m c cc nL s args own) {x : Int32} {off : Int} {tgt : Nat} (hd : decode cc pc = .ok (.ifCond .eq off, 3)) (ht : (pc : Int) + off = (tgt : Int)) (hn : pc + 3 = n) (kt : x = 0 → zc_V p l e R s m args below meth c Q nL A G ws cells slots tgt lv st) (kf : ¬ (x = 0) → zc_V p l e R s m args below meth c Q nL A G ws cells slots n lv st) : zc_V p l e R s m args below meth c Q nL A G ws cells slots pc lv (.int x :: st) := by
  subst hn; intro H locs ls hP hD hS hl; exact lv_if_eq X.1 X.2.1 hd ht (fun h => kt h H locs ls hP hD hS hl) (fun h => kf h H locs ls hP hD hS hl)
theorem zc_tableOut (X : zz_X p m c cc nL s args own) {dflt lo hi : Int} {offs : Array Int} {len : Nat} {x : Int32} {tgt : Nat} (hd : decode cc pc = .ok (.tableswitch dflt lo hi offs, len)) (h : x.toInt < lo ∨ hi < x.toInt) (ht : (pc : Int) + dflt = (tgt : Int)) (k : zc_V p l e R s m args below meth c Q nL A G ws cells slots tgt lv st) : zc_V p l e R s m args below meth c Q nL A G ws cells slots pc lv (.int x :: st) := by
  intro H locs ls hP hD hS hl; exact lv_tableOut X.1 X.2.1 hd h ht (k H locs ls hP hD hS hl)
theorem zc_cVl (X : zz_X p m c cc nL s args own) (F : zc_F G N0 s s.heap) (hAN : ∀ q, A q → N0 ≤ q) {nn : Nat} {lay : Nat → zz_C} {fa : Nat → Nat} (P1 P2 : va_W) {σ : zz_T} {y : MethodName} {bytes : ByteArray} {maxL nA idx k ci : Nat} {ret : Option FieldType} {rm : Room} {f : Nat → Nat} {post : Int64 → zz_T → Prop} (As : List Value) {st0 : List Value} (hM : zz_J (zc_Y nn lay fa G) → zz_Ml l y bytes maxL ret rm (zc_Y nn lay fa G) (.ref (fa k) :: As) σ post) (h : zz_KV own idx y bytes maxL ret nA) (hrc : rm.cells = 0 ∧ rm.slots = 0) (hR : rm.frames + 1 ≤ R.frames ∧ 8 + (maxL + 11) + rm.locals ≤ R.locals) (hk : k < nn) (hci : ci < 7) (ht : lay k = (10 + ci, 0, f)) (hC : [RX0, RX1, RX2, RX3, RX4, RX5, RX6].getD ci "" = y.cls) (hl2 : As.length = nA) (hst : st0 = As.reverse ++ .ref (fa k) :: st) (hW : (st.map fun v => v.category).sum ≤ 8) (hcs : cells ≤ R.cells ∧ slots ≤ R.slots) (hd : decode cc pc = .ok (.invokevirtual idx, 3)) (hn : pc + 3 = n) (kk : ∀ (r : Int64) (σ2 : zz_T), post r σ2 → zc_V p l e R s m args below meth c Q nL A G (P1 ++ (zz_w (zc_Y nn lay fa G) σ2 ++ P2)) cells slots n lv (.long r :: st)) : zc_V p l e R s m args below meth c Q nL A G (P1 ++ (zz_w (zc_Y nn lay fa G) σ ++ P2)) cells slots pc lv st0 := by
  subst hn hst; intro H locs ls hP hD hS hl
  have hi := zc_inA hD
  have hrec : ∃ cell : Cell, H[fa k]? = some cell ∧ cell.vm.isStatics = false ∧ s.vm.findClass y.cls = some cell.cls := by
    obtain ⟨fs, q, h1, h2, h3⟩ := zz_tag (zc_Y nn lay fa G) hci f (σ.1 k) σ.2
    have h := va_recv F.1 (zc_midP hP) h2 (show (zz_w (zc_Y nn lay fa G) σ)[k]? = some (fa k, .inr (ci, fs)) by rw [zz_w_at hk]; show some (fa k, zz_e _ (lay k) _ _) = _; rw [ht, h1])
    rw [h3, hC] at h
    exact h
  refine va_calll (va_runV (As := As) (rest := st) X (hM (zc_J hD)) (zz_cV X.2.2.2.2 h hrc hR) ⟨zz_blind _ _ σ, hrec, fun U hU hW => ⟨rfl, zc_pre F hAN hP hD hS hU hW⟩⟩ rfl hl2 hl.1 rfl (lv_room hW) hd ⟨by rw [Nat.add_zero]; exact hcs.1, by rw [Nat.add_zero]; exact hcs.2⟩) hS (fun q _ h => hi q h) hi (fun r u t H1 locs1 ht hvm hw hB hz1 hk1 hS1 => ?_)
  obtain ⟨h1, h2⟩ := zc_post (σ2 := u) hP hD hk1 (by rw [← ht]; exact hB)
  exact kk r u hw H1 locs1 ls h1 h2 hS1 hl
end ZC
def zl_C (p : Program) (s : State) (m : MethodId) (c : Code) (b L : Nat) (xs : Nat → Int32) (G : zc_G) : Prop := zz_X p m c code 4 s #[Value.ref b] RL ∧ zc_F G s.heap.size s s.heap ∧ va_X b L xs s s.heap ∧ b < s.heap.size ∧ L ≤ 2560
abbrev zl_V (p : Program) (l : Launch) (e : Env) (s : State) (m : MethodId) (below : List Frame) (meth : Method) (c : Code) (b : Nat) (G : zc_G) (fx fm : Nat → Nat) (σ τ : zz_T) (i pc : Nat) (st : List Value) : Prop := zc_V p l e room_1 s m #[Value.ref b] below meth c (lw_Z below #[Value.ref b] s) 4 (fun q => s.heap.size ≤ q) G (zz_w (zc_Y 88 zz_lay fx G) σ ++ (zz_w (zc_Y 17 zz_mlay fm G) τ ++ [])) 600000 7302250 pc [(3, .int (nI i)), (2, .ref (fm 0)), (1, .ref (fx 0)), (0, .ref b)] st
section ZL
variable {p : Program} {l : Launch} {e : Env} {s : State} {m : MethodId} {below : List Frame} {meth : Method} {c : Code} {b L : Nat} {xs : Nat → Int32} {G : zc_G} {fx fm : Nat → Nat} {σ τ : zz_T} {S : zSt} {i : Nat}
theorem zl_ld (C : zl_C p s m c b L xs G) {j pc : Nat} {st : List Value} (hj : j < L) (hd : decode code pc = .ok (.iaload, 1)) (K : zl_V p l e s m below meth c b G fx fm σ τ i (pc + 1) (.int (xs j) :: st)) : zl_V p l e s m below meth c b G fx fm σ τ i pc (.int (nI j) :: .ref b :: st) := by
  intro H locs ls hP hD hS hl
  have hL := C.2.2.2.2
  have hin : vp_in (nI j) L := vp_in_nI hj (by omega)
  have K2 := K H locs ls hP hD hS hl
  rw [← nI_tn (n := j) (by omega)] at K2
  exact va_sld C.1.1 C.1.2.1 C.2.2.1 C.2.2.2.1 (Nat.not_le.mpr C.2.2.2.1) hS hin hd K2
theorem zl_len (C : zl_C p s m c b L xs G) {pc : Nat} {st : List Value} (hd : decode code pc = .ok (.arraylength, 1)) (K : zl_V p l e s m below meth c b G fx fm σ τ i (pc + 1) (.int (nI L) :: st)) : zl_V p l e s m below meth c b G fx fm σ τ i pc (.ref b :: st) := by
  intro H locs ls hP hD hS hl
  exact va_slen C.1.1 C.1.2.1 C.2.2.1 C.2.2.2.1 (Nat.not_le.mpr C.2.2.2.1) hS hd (K H locs ls hP hD hS hl)
/-- script[i + k] -/
theorem zl_arg (C : zl_C p s m c b L xs G) {k pc : Nat} {z : Int} {st : List Value} (hk : i + k < L) (d0 : decode code pc = .ok (.aload_n 0, 1)) (d1 : decode code (pc + 1) = .ok (.iload_n 3, 1)) (d2 : decode code (pc + 2) = .ok (.iconst z, 1)) (hz : Int32.ofInt z = nI k) (d3 : decode code (pc + 3) = .ok (.iadd, 1)) (d4 : decode code (pc + 4) = .ok (.iaload, 1)) (K : zl_V p l e s m below meth c b G fx fm σ τ i (pc + 5) (.int (xs (i + k)) :: st)) : zl_V p l e s m below meth c b G fx fm σ τ i pc st := by
  refine zc_aload_n C.1 d0 3 rfl rfl rfl ?_
  refine zc_iload_n C.1 d1 0 rfl rfl rfl ?_
  refine zc_iconst C.1 d2 hz rfl ?_
  refine zc_iadd C.1 d3 rfl ?_
  rw [nI_add]
  exact zl_ld C hk d4 K
/-- calls of the class's method, of the reference's -/
theorem zl_x (C : zl_C p s m c b L xs G) {y : MethodName} {bytes : ByteArray} {maxL nA idx pc n : Nat} {ret : Option FieldType} {rm : Room} {post : Int32 → zz_T → Prop} (As : List Value) {st st0 : List Value} (hM : zz_J (zc_Y 88 zz_lay fx G) → zz_Mi l y bytes maxL ret rm (zc_Y 88 zz_lay fx G) (.ref (fx 0) :: As) σ post) (h : zz_KV RL idx y bytes maxL ret nA) (hrc : rm.cells = 0 ∧ rm.slots = 0) (hR : rm.frames + 1 ≤ room_1.frames ∧ 8 + (maxL + 11) + rm.locals ≤ room_1.locals) (hC : RX5 = y.cls) (hl2 : As.length = nA) (hst : st0 = As.reverse ++ .ref (fx 0) :: st) (hW : (st.map fun v => v.category).sum ≤ 8) (hd : decode code pc = .ok (.invokevirtual idx, 3)) (hn : pc + 3 = n) (kk : ∀ (r : Int32) (σ2 : zz_T), post r σ2 → zl_V p l e s m below meth c b G fx fm σ2 τ i n (.int r :: st)) : zl_V p l e s m below meth c b G fx fm σ τ i pc st0 :=
  zc_cVi C.1 C.2.1 (fun _ h => h) [] (zz_w (zc_Y 17 zz_mlay fm G) τ ++ []) (k := 0) (ci := 5) As hM h hrc hR (by decide) (by decide) rfl hC hl2 hst hW ⟨(Nat.le_of_ble_eq_true rfl), (Nat.le_of_ble_eq_true rfl)⟩ hd hn kk
theorem zl_m (C : zl_C p s m c b L xs G) {y : MethodName} {bytes : ByteArray} {maxL nA idx pc n : Nat} {ret : Option FieldType} {rm : Room} {post : Int32 → zz_T → Prop} (As : List Value) {st st0 : List Value} (hM : zz_J (zc_Y 17 zz_mlay fm G) → zz_Mi l y bytes maxL ret rm (zc_Y 17 zz_mlay fm G) (.ref (fm 0) :: As) τ post) (h : zz_KV RL idx y bytes maxL ret nA) (hrc : rm.cells = 0 ∧ rm.slots = 0) (hR : rm.frames + 1 ≤ room_1.frames ∧ 8 + (maxL + 11) + rm.locals ≤ room_1.locals) (hC : RX6 = y.cls) (hl2 : As.length = nA) (hst : st0 = As.reverse ++ .ref (fm 0) :: st) (hW : (st.map fun v => v.category).sum ≤ 8) (hd : decode code pc = .ok (.invokevirtual idx, 3)) (hn : pc + 3 = n) (kk : ∀ (r : Int32) (τ2 : zz_T), post r τ2 → zl_V p l e s m below meth c b G fx fm σ τ2 i n (.int r :: st)) : zl_V p l e s m below meth c b G fx fm σ τ i pc st0 :=
  zc_cVi C.1 C.2.1 (fun _ h => h) (zz_w (zc_Y 88 zz_lay fx G) σ) [] (k := 0) (ci := 6) As hM h hrc hR (by decide) (by decide) rfl hC hl2 hst hW ⟨(Nat.le_of_ble_eq_true rfl), (Nat.le_of_ble_eq_true rfl)⟩ hd hn kk
theorem zl_xl (C : zl_C p s m c b L xs G) {y : MethodName} {bytes : ByteArray} {maxL nA idx pc n : Nat} {ret : Option FieldType} {rm : Room} {post : Int64 → zz_T → Prop} (As : List Value) {st st0 : List Value} (hM : zz_J (zc_Y 88 zz_lay fx G) → zz_Ml l y bytes maxL ret rm (zc_Y 88 zz_lay fx G) (.ref (fx 0) :: As) σ post) (h : zz_KV RL idx y bytes maxL ret nA) (hrc : rm.cells = 0 ∧ rm.slots = 0) (hR : rm.frames + 1 ≤ room_1.frames ∧ 8 + (maxL + 11) + rm.locals ≤ room_1.locals) (hC : RX5 = y.cls) (hl2 : As.length = nA) (hst : st0 = As.reverse ++ .ref (fx 0) :: st) (hW : (st.map fun v => v.category).sum ≤ 8) (hd : decode code pc = .ok (.invokevirtual idx, 3)) (hn : pc + 3 = n) (kk : ∀ (r : Int64) (σ2 : zz_T), post r σ2 → zl_V p l e s m below meth c b G fx fm σ2 τ i n (.long r :: st)) : zl_V p l e s m below meth c b G fx fm σ τ i pc st0 :=
  zc_cVl C.1 C.2.1 (fun _ h => h) [] (zz_w (zc_Y 17 zz_mlay fm G) τ ++ []) (k := 0) (ci := 5) As hM h hrc hR (by decide) (by decide) rfl hC hl2 hst hW ⟨(Nat.le_of_ble_eq_true rfl), (Nat.le_of_ble_eq_true rfl)⟩ hd hn kk
theorem zl_ml (C : zl_C p s m c b L xs G) {y : MethodName} {bytes : ByteArray} {maxL nA idx pc n : Nat} {ret : Option FieldType} {rm : Room} {post : Int64 → zz_T → Prop} (As : List Value) {st st0 : List Value} (hM : zz_J (zc_Y 17 zz_mlay fm G) → zz_Ml l y bytes maxL ret rm (zc_Y 17 zz_mlay fm G) (.ref (fm 0) :: As) τ post) (h : zz_KV RL idx y bytes maxL ret nA) (hrc : rm.cells = 0 ∧ rm.slots = 0) (hR : rm.frames + 1 ≤ room_1.frames ∧ 8 + (maxL + 11) + rm.locals ≤ room_1.locals) (hC : RX6 = y.cls) (hl2 : As.length = nA) (hst : st0 = As.reverse ++ .ref (fm 0) :: st) (hW : (st.map fun v => v.category).sum ≤ 8) (hd : decode code pc = .ok (.invokevirtual idx, 3)) (hn : pc + 3 = n) (kk : ∀ (r : Int64) (τ2 : zz_T), post r τ2 → zl_V p l e s m below meth c b G fx fm σ τ2 i n (.long r :: st)) : zl_V p l e s m below meth c b G fx fm σ τ i pc st0 :=
  zc_cVl C.1 C.2.1 (fun _ h => h) (zz_w (zc_Y 88 zz_lay fx G) σ) [] (k := 0) (ci := 6) As hM h hrc hR (by decide) (by decide) rfl hC hl2 hst hW ⟨(Nat.le_of_ble_eq_true rfl), (Nat.le_of_ble_eq_true rfl)⟩ hd hn kk
theorem zl_end (C : zl_C p s m c b L xs G) (hr : meth.sig.returnType = ret) (hlk : meth.locks = false) : zl_V p l e s m below meth c b G fx fm σ τ i 1459 [] := by
  refine zc_iconst (v := 1) C.1 dL_law_1459 (by decide) rfl ?_
  intro H locs ls hP hD hS hl
  exact va_forget hS.2.2 (lw_ret C.1.1 C.1.2.1 hr hlk dL_law_1460)
theorem zl_and (y : Int32) : ∃ v, v < 64 ∧ y &&& 63 = nI v := by
  refine ⟨(y &&& 63).toBitVec.toNat, ?_, ?_⟩
  · rw [Int32.toBitVec_and, BitVec.toNat_and]
    have : y.toBitVec.toNat &&& (63 : Int32).toBitVec.toNat ≤ (63 : Int32).toBitVec.toNat := Nat.and_le_right
    have e : (63 : Int32).toBitVec.toNat = 63 := rfl
    omega
  · apply Int32.toBitVec_inj.1
    show _ = BitVec.ofNat 32 _
    rw [BitVec.ofNat_toNat, BitVec.setWidth_eq]
end ZL
