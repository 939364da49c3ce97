/-! WHAT THE STATEMENT GIVES: constants, classes, links -/
def zl_tm (i : Nat) : Term := .static "HotDots" (zz_sn i) "[I"
def zl_tx (i : Nat) : Term := .string "HotDots$Tape" (zz_six i)
theorem zl_g1 : ∀ i, i < 3 → Cond.arrayOf (zl_tm i) .int ∈ flatC (Jvm.Cond.and given_1 narrow_1) := by decide +kernel
theorem zl_g2 : ∀ i, i < 3 → Cond.eq (.length (zl_tm i)) (.int (Int32.ofNat 3)) ∈ flatC (Jvm.Cond.and given_1 narrow_1) := by decide +kernel
theorem zl_g3 : ∀ i, i < 3 → ∀ j, j < 3 → Cond.eq (.elem (zl_tm i) (.int (Int32.ofNat j))) (.int (zz_f i j)) ∈ flatC (Jvm.Cond.and given_1 narrow_1) := by decide +kernel
theorem zl_g4 : ∀ i, i < 8 → Cond.exactly (zl_tx i) "java/lang/String" ∈ flatC (Jvm.Cond.and given_1 narrow_1) := by decide +kernel
theorem zl_g5 : ∀ i, i < 8 → Cond.eq (.field (zl_tx i) "java/lang/String" "coder" "B") (.int 0) ∈ flatC (Jvm.Cond.and given_1 narrow_1) := by decide +kernel
theorem zl_g6 : ∀ i, i < 8 → Cond.arrayOf (.field (zl_tx i) "java/lang/String" "value" "[B") .byte ∈ flatC (Jvm.Cond.and given_1 narrow_1) := by decide +kernel
theorem zl_g7 : ∀ i, i < 8 → Cond.eq (.length (.field (zl_tx i) "java/lang/String" "value" "[B")) (.int (Int32.ofNat (zz_len.getD i 0))) ∈ flatC (Jvm.Cond.and given_1 narrow_1) := by decide +kernel
theorem zl_g8 : ∀ i, i < 8 → ∀ j, j < zz_len.getD i 0 → Cond.eq (.elem (.field (zl_tx i) "java/lang/String" "value" "[B") (.int (Int32.ofNat j))) (.int ((zz_byt.getD i []).getD j 0)) ∈ flatC (Jvm.Cond.and given_1 narrow_1) := by decide +kernel
theorem zl_g9 : ∀ i, i < 8 → ∀ j, j < 8 → i ≠ j → Cond.not (Cond.eq (zl_tx i) (zl_tx j)) ∈ flatC (Jvm.Cond.and given_1 narrow_1) ∨ Cond.not (Cond.eq (zl_tx j) (zl_tx i)) ∈ flatC (Jvm.Cond.and given_1 narrow_1) := by decide +kernel
theorem zl_ga : Cond.eq (.static "java/lang/String" "COMPACT_STRINGS" "Z") (.int 1) ∈ flatC (Jvm.Cond.and given_1 narrow_1) := by decide +kernel
theorem zl_gb : Cond.isRef (.static "jdk/internal/util/Preconditions" "SIOOBE_FORMATTER" "Ljava/util/function/BiFunction;") ∈ flatC (Jvm.Cond.and given_1 narrow_1) := by decide +kernel
theorem zl_gc : ∀ i, i < 8 → zz_len.getD i 0 < 2 ^ 31 := by decide +kernel
def zl_st (t0 t1 t2 : Nat) (adK adV : Nat → Nat) (k : Nat) : Nat := if k = 0 then t0 else if k = 1 then t1 else if k = 2 then t2 else if k < 20 then adK (k - 10) else adV (k - 20)
theorem zl_S {s : State} {b : Nat} (hts : ∀ w ∈ lw_tbl, w.before #[Value.ref b] s = true) (hgv : (Jvm.Cond.and given_1 narrow_1).before #[Value.ref b] s = true) : ∃ st : Nat → Nat, ∀ D : va_G × (Nat → ClassId), zc_S (D, st) (fun q => s.heap.size ≤ q) s s.heap ∧ zz_N (zc_Y0 (D, st)) s := by
  have hs := flat_of_before _ hgv
  have hA : ∀ a : Nat, a < s.heap.size → ¬ (fun q : Nat => s.heap.size ≤ q) a := fun a h => Nat.not_le.mpr h
  have T : ∀ i, i < 3 → ∃ t : Nat, (zl_tm i).eval #[Value.ref b] s none [] s = some (.ref t) ∧ va_T .int t 3 (fun j => .int (zz_f i j)) (fun q => s.heap.size ≤ q) s s.heap := fun i hi => va_Tof (by decide) (hs _ (zl_g1 i hi)) (va_eqt (hs _ (zl_g2 i hi))) (fun j hj => va_eqt (hs _ (zl_g3 i hi j hj))) hA
  obtain ⟨t0, v0, T0⟩ := T 0 (by decide)
  obtain ⟨t1, v1, T1⟩ := T 1 (by decide)
  obtain ⟨t2, v2, T2⟩ := T 2 (by decide)
  obtain ⟨adK, adV, hSS, hev⟩ := vk_Sof (N := 8) (tm := zl_tx) (len := zz_len) (byt := zz_byt) (A := fun q => s.heap.size ≤ q) zl_gc (fun i hi => hs _ (zl_g4 i hi)) (fun i hi => hs _ (zl_g5 i hi)) (fun i hi => hs _ (zl_g6 i hi)) (fun i hi => hs _ (zl_g7 i hi)) (fun i hi j hj => hs _ (zl_g8 i hi j hj)) (fun i j hi hj hij => (zl_g9 i hi j hj hij).imp (fun h => hs _ h) (fun h => hs _ h)) hA
  have e1 : ∀ i, i < 8 → zl_st t0 t1 t2 adK adV (10 + i) = adK i := fun i hi => by
    unfold zl_st
    rw [if_neg (by omega), if_neg (by omega), if_neg (by omega), if_pos (by omega), Nat.add_sub_cancel_left]
  have e2 : ∀ i, i < 8 → zl_st t0 t1 t2 adK adV (20 + i) = adV i := fun i hi => by
    unfold zl_st
    rw [if_neg (by omega), if_neg (by omega), if_neg (by omega), if_neg (by omega), Nat.add_sub_cancel_left]
  refine ⟨zl_st t0 t1 t2 adK adV, fun D => ⟨⟨fun i hi => ?_, ?_, ⟨fun i hi => ?_, fun i j hi hj h => ?_⟩, ?_⟩, ⟨?_, ?_, ?_⟩, fun i hi => ?_⟩⟩
  · match i, hi with
    | 0, _ => exact ⟨va_Zof (hts _ (List.mem_append_right _ (List.mem_of_getElem? (i := 364) (by decide +kernel)))) (hts _ (List.mem_append_right _ (List.mem_of_getElem? (i := 1) (by decide +kernel)))) v0 hA, T0⟩
    | 1, _ => exact ⟨va_Zof (hts _ (List.mem_append_right _ (List.mem_of_getElem? (i := 366) (by decide +kernel)))) (hts _ (List.mem_append_right _ (List.mem_of_getElem? (i := 1) (by decide +kernel)))) v1 hA, T1⟩
    | 2, _ => exact ⟨va_Zof (hts _ (List.mem_append_right _ (List.mem_of_getElem? (i := 128) (by decide +kernel)))) (hts _ (List.mem_append_right _ (List.mem_of_getElem? (i := 1) (by decide +kernel)))) v2 hA, T2⟩
  · exact va_Zof (hts _ (List.mem_append_right _ (List.mem_of_getElem? (i := 297) (by decide +kernel)))) (hts _ (List.mem_append_right _ (List.mem_of_getElem? (i := 9) (by decide +kernel)))) (va_eqi (hs _ zl_ga)) hA
  · show va_O "java/lang/String" (zl_st t0 t1 t2 adK adV (10 + i)) _ _ _ ∧ va_OF "java/lang/String" "coder" "B" (.int 0) (zl_st t0 t1 t2 adK adV (10 + i)) _ _ _ ∧ va_OF "java/lang/String" "value" "[B" (.ref (zl_st t0 t1 t2 adK adV (20 + i))) (zl_st t0 t1 t2 adK adV (10 + i)) _ _ _ ∧ va_T .byte (zl_st t0 t1 t2 adK adV (20 + i)) _ _ _ _ _
    rw [e1 i hi, e2 i hi]
    exact hSS.1 i hi
  · have h : zl_st t0 t1 t2 adK adV (10 + i) = zl_st t0 t1 t2 adK adV (10 + j) := h
    rw [e1 i hi, e1 j hj] at h
    exact hSS.2 i j hi hj h
  · exact va_Zqof (hts _ (List.mem_append_right _ (List.mem_of_getElem? (i := 313) (by decide +kernel)))) (hts _ (List.mem_append_right _ (List.mem_of_getElem? (i := 11) (by decide +kernel)))) (hs _ zl_gb) hA
  · exact va_Nw.of rfl (hts _ (List.mem_append_right _ (List.mem_of_getElem? (i := 127) (by decide +kernel))))
  · exact va_Nw.of rfl (hts _ (List.mem_append_right _ (List.mem_of_getElem? (i := 363) (by decide +kernel))))
  · exact va_Nw.of rfl (hts _ (List.mem_append_right _ (List.mem_of_getElem? (i := 365) (by decide +kernel))))
  · show vk_R _ _ _ (zl_st t0 t1 t2 adK adV (10 + i)) s
    rw [e1 i hi]
    refine vk_R.of (A := #[Value.ref b]) ?_ (hev i hi)
    match i, hi with
    | 0, _ => exact hts _ (List.mem_append_right _ (List.mem_of_getElem? (i := 276) (by decide +kernel)))
    | 1, _ => exact hts _ (List.mem_append_right _ (List.mem_of_getElem? (i := 277) (by decide +kernel)))
    | 2, _ => exact hts _ (List.mem_append_right _ (List.mem_of_getElem? (i := 278) (by decide +kernel)))
    | 3, _ => exact hts _ (List.mem_append_right _ (List.mem_of_getElem? (i := 279) (by decide +kernel)))
    | 4, _ => exact hts _ (List.mem_append_right _ (List.mem_of_getElem? (i := 280) (by decide +kernel)))
    | 5, _ => exact hts _ (List.mem_append_right _ (List.mem_of_getElem? (i := 281) (by decide +kernel)))
    | 6, _ => exact hts _ (List.mem_append_right _ (List.mem_of_getElem? (i := 282) (by decide +kernel)))
    | 7, _ => exact hts _ (List.mem_append_right _ (List.mem_of_getElem? (i := 283) (by decide +kernel)))
theorem zl_arP {s : State} {args : Array Value} {ty : FieldType} (h : (Cond.arrayClass ty).before args s = true) (hty : ∀ cA, s.vm.findClass ("[" ++ ty.toString) = some cA → va_RA s cA ty) : ∃ cA : ClassId, ArrOfT s cA ty ∧ va_RA s cA ty := by
  obtain ⟨cA, k, comp, h1, h2, h3⟩ := Cond.arrayClass_spec h
  exact ⟨cA, fun n z => ⟨fun k h => (by cases h), k, h2, comp, h3⟩, hty cA h1⟩
theorem zl_arO {s : State} {args : Array Value} {C : String} (h : (Cond.arrayOver (.object C)).before args s = true) : ∃ cA : ClassId, ArrOfT s cA (.object C) ∧ va_RA s cA (.object C) := by
  obtain ⟨comp, cA, k, h1, h2, h3, h4, h5⟩ := Cond.arrayOver_spec h
  exact ⟨cA, fun n z => ⟨fun k h => (by cases h), k, h3, comp, h4⟩, k, comp, h3, h4, h1, h5⟩
def zl_ix {α : Type} (l : List α) (d : α) (k : Nat) : α := l.getD k d
theorem zl_F {s : State} {b : Nat} (hts : ∀ w ∈ lw_tbl, w.before #[Value.ref b] s = true) (hgv : (Jvm.Cond.and given_1 narrow_1).before #[Value.ref b] s = true) : ∃ G : zc_G, zc_F G s.heap.size s s.heap := by
  have htz : ∀ w ∈ zz_tbl, w.before #[Value.ref b] s = true := fun w hw => hts w (List.mem_filter.mp hw).1
  obtain ⟨c0, i0, k0⟩ := u_known (C := RX0) (T := TX0) (N := 5) (n := 5) htz zz_u0 (hts _ (List.mem_append_right _ (List.mem_of_getElem? (i := 93) (by decide +kernel))))
  obtain ⟨c1, i1, k1⟩ := u_known (C := RX1) (T := TX1) (N := 8) (n := 8) htz zz_u1 (hts _ (List.mem_append_right _ (List.mem_of_getElem? (i := 64) (by decide +kernel))))
  obtain ⟨c2, i2, k2⟩ := u_known (C := RX2) (T := TX2) (N := 4) (n := 4) htz zz_u2 (hts _ (List.mem_append_right _ (List.mem_of_getElem? (i := 72) (by decide +kernel))))
  obtain ⟨c3, i3, k3⟩ := u_known (C := RX3) (T := TX3) (N := 4) (n := 4) htz zz_u3 (hts _ (List.mem_append_right _ (List.mem_of_getElem? (i := 176) (by decide +kernel))))
  obtain ⟨c4, i4, k4⟩ := u_known (C := RX4) (T := TX4) (N := 9) (n := 9) htz zz_u4 (hts _ (List.mem_append_right _ (List.mem_of_getElem? (i := 25) (by decide +kernel))))
  obtain ⟨c5, i5, k5⟩ := u_known (C := RX5) (T := TX5) (N := 11) (n := 11) htz zz_u5 (hts _ (List.mem_append_right _ (List.mem_of_getElem? (i := 17) (by decide +kernel))))
  obtain ⟨c6, i6, k6⟩ := u_known (C := RX6) (T := TX6) (N := 34) (n := 34) htz zz_u6 (hts _ (List.mem_append_right _ (List.mem_of_getElem? (i := 742) (by decide +kernel))))
  obtain ⟨a0, p0, q0⟩ := zl_arP (ty := .int) (hts _ (List.mem_append_right _ (List.mem_of_getElem? (i := 92) (by decide +kernel)))) (fun cA h => h)
  obtain ⟨a1, p1, q1⟩ := zl_arP (ty := .byte) (hts _ (List.mem_append_right _ (List.mem_of_getElem? (i := 62) (by decide +kernel)))) (fun cA h => h)
  obtain ⟨a2, p2, q2⟩ := zl_arP (ty := .boolean) (hts _ (List.mem_append_right _ (List.mem_of_getElem? (i := 198) (by decide +kernel)))) (fun cA h => h)
  obtain ⟨a3, p3, q3⟩ := zl_arO (C := "HotDots$Head") (hts _ (List.mem_append_right _ (List.mem_of_getElem? (i := 70) (by decide +kernel))))
  obtain ⟨a4, p4, q4⟩ := zl_arO (C := "HotDots$Printer") (hts _ (List.mem_append_right _ (List.mem_of_getElem? (i := 173) (by decide +kernel))))
  obtain ⟨a5, p5, q5⟩ := zl_arO (C := "HotDots$Sheet") (hts _ (List.mem_append_right _ (List.mem_of_getElem? (i := 175) (by decide +kernel))))
  obtain ⟨st, hst⟩ := zl_S hts hgv
  obtain ⟨hS, hN⟩ := hst ((zl_ix [c0, c1, c2, c3, c4, c5, c6] c0, zl_ix [i0, i1, i2, i3, i4, i5, i6] i0), zl_ix [a0, a1, a2, a3, a4, a5] a0)
  refine ⟨_, ⟨fun k q hq => ?_, fun k q hq => ?_⟩, hS, hN, ⟨va_Nw.of rfl (hts _ (List.mem_append_right _ (List.mem_of_getElem? (i := 26) (by decide +kernel)))), va_Nw.of rfl (hts _ (List.mem_append_right _ (List.mem_of_getElem? (i := 73) (by decide +kernel)))), va_Nw.of rfl (hts _ (List.mem_append_right _ (List.mem_of_getElem? (i := 94) (by decide +kernel)))), va_Nw.of rfl (hts _ (List.mem_append_right _ (List.mem_of_getElem? (i := 172) (by decide +kernel)))), va_Nw.of rfl (hts _ (List.mem_append_right _ (List.mem_of_getElem? (i := 177) (by decide +kernel))))⟩, va_AO.of (hts _ (List.mem_append_right _ (List.mem_of_getElem? (i := 70) (by decide +kernel)))), va_AO.of (hts _ (List.mem_append_right _ (List.mem_of_getElem? (i := 173) (by decide +kernel)))), va_AO.of (hts _ (List.mem_append_right _ (List.mem_of_getElem? (i := 175) (by decide +kernel))))⟩
  · match k, hq with
    | 0, hq => cases hq; exact k0
    | 1, hq => cases hq; exact k1
    | 2, hq => cases hq; exact k2
    | 3, hq => cases hq; exact k3
    | 4, hq => cases hq; exact k4
    | 5, hq => cases hq; exact k5
    | 6, hq => cases hq; exact k6
    | k + 7, hq => exact absurd hq (by simp [vwCl])
  · match k, hq with
    | 0, hq => cases hq; exact ⟨p0, q0⟩
    | 1, hq => cases hq; exact ⟨p1, q1⟩
    | 2, hq => cases hq; exact ⟨p2, q2⟩
    | 3, hq => cases hq; exact ⟨p3, q3⟩
    | 4, hq => cases hq; exact ⟨p4, q4⟩
    | 5, hq => cases hq; exact ⟨p5, q5⟩
    | k + 6, hq => exact absurd hq (by simp [zc_ty])
