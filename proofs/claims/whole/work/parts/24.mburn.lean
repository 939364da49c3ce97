/-- head h of g in a flat row -/
def fl_g (a : Nat → Int32) (g : Nat → Nat) (h wr : Nat) (f : Nat → Nat) : Prop := a (11 * h) = nI (g (11 * h)) ∧ a (11 * h + 1) = nI (g (11 * h + 1)) ∧ a (11 * h + 2) = nI wr ∧ ∀ d, d < 8 → a (11 * h + 3 + d) = nI (f d)
/-- what a flat row holds -/
def fl_dy (a : Nat → Int32) (g : Nat → Nat) (F : Nat → Nat → Nat) (Wr : Nat → Nat) (r : Nat) : Prop :=
  (a 33 = nI (g 33) ∧ a 49 = nI (g 49) ∧ a 50 = nI r) ∧ (a 34 = nI (g 34) ∧ a 35 = nI (g 35) ∧ a 36 = nI (g 36)) ∧ (∀ i, i < g 49 → a (37 + i) = nI (g (37 + i))) ∧
  (a 51 = nI (g 51) ∧ ∀ i, i < g 51 → a (52 + 3 * i) = nI (g (52 + 3 * i)) ∧ a (53 + 3 * i) = nI (g (53 + 3 * i)) ∧ a (54 + 3 * i) = nI (g (54 + 3 * i))) ∧
  ∀ h, h < g 33 → fl_g a g h (Wr h) (F h)
def mHead (q : Nat) : Prop := q = 0 ∨ q = 2 ∨ q = 7 ∨ q = 8 ∨ q = 9 ∨ q = 10
theorem m_head {h : Nat} {g : Nat → Nat} {wr w nx wm bm ho wb : Nat} {f : Nat → Nat} {τ : zz_T} {Q : zz_T → Prop} (b : Bool) (hg : gOK g) (hh : h < g 33) (H : fl_g (τ.1 2) g h wr f) (hwr : wr ≤ 9999) (hf : ∀ d, d < 8 → f d ≤ 99) (hr : τ.1 2 34 = nI (g 34) ∧ τ.1 2 35 = nI (g 35) ∧ τ.1 2 36 = nI (g 36)) (hw : w < 256) (hn : nx < 256) (a14 : τ.1 0 14 = nI wm) (a15 : τ.1 0 15 = nI bm) (a16 : τ.1 0 16 = nI ho) (a7 : τ.1 7 h = nI wb) (hho : ho ≤ 99)
    (hq : ∀ τ' : zz_T, zz_but mHead τ τ' → τ'.1 2 = hu (11 * h + 3) 8 (gC g h f w nx b) (upd (τ.1 2) (11 * h + 2) (nI (min (wr + gE g h f w nx b) 9999))) → (∀ j, j ≠ 14 → j ≠ 15 → j ≠ 16 → τ'.1 0 j = τ.1 0 j) → τ'.1 0 14 = nI (wm + gE g h f w nx b) → τ'.1 0 15 = nI (bm + zs_pc (gB g h f w nx b)) → τ'.1 0 16 = nI (max ho (fmx (gT g h f w nx b) 8)) → τ'.1 7 = upd (τ.1 7) h (nI (wb + gE g h f w nx b)) → τ'.1 8 = upd (τ.1 8) h (nI (gB g h f w nx b)) → Q τ') : pX6_headBurns (nI h) (nI w) (nI nx) (if b then 0 else 1) τ Q := by
  obtain ⟨k0, k1, k2, k3⟩ := H
  have h3 : h < 3 := by have := hg.1; omega
  have hb := hg.2.1 h hh
  have hm := hg.2.2.1
  have tl : ∀ d, gT g h f w nx b d ≤ 99 := fun d => zs_ht_le _ _ _ _ _ _ _
  have th : Int32.toNatClampNeg (nI h) = h := nI_tn (by omega)
  have vh : vp_in (nI h) 3 := vp_in_nI h3 (by decide)
  -- the end
  have fin : ∀ τ1 : zz_T, zz_but mHead τ τ1 → τ1.1 2 = hu (11 * h + 3) 8 (gT g h f w nx b) (τ.1 2) → (∀ j, j ≠ 16 → τ1.1 0 j = τ.1 0 j) → τ1.1 0 16 = nI (max ho (fmx (gT g h f w nx b) 8)) → τ1.1 7 = τ.1 7 → τ1.1 8 = τ.1 8 → pX6_headBurns_44 Q 1 (nI h) (nI w) (nI 8) τ1 := by
    intro τ1 hbt e2 e0 e16 e7 e8
    refine br_t (by decide) ?_
    refine m_blackOf (mk := g 34) (t := gT g h f w nx b) h3 (by rw [e2, hu_out (by omega)]; exact hr.1) (by omega) (fun d hd => by rw [e2, hu_in hd]) (fun d _ => tl d) ⟨vh, vh, ?_⟩
    rw [th, zi_at, show nI (zs_bk (g 34) (gT g h f w nx b) 8) = nI (gB g h f w nx b) from rfl, fb_xorI]
    refine m_bitsOf (zs_xor_lt (gB_lt _ _ _ _ _ _) hw) ⟨vh, ?_⟩
    rw [zi_at]
    refine m_bitsOf (gB_lt _ _ _ _ _ _) ⟨vh, vh, ?_⟩
    refine m_of (c := 2) h3 (by omega) ?_
    rw [zi_k (by omega), zi_k (by omega), zi_k (by omega), zi_k (by omega), e2, hu_out (by omega), k2]
    have el := gE_le g h f w nx b
    rw [show zs_pc (gB g h f w nx b ^^^ w) = gE g h f w nx b from rfl, nI_add, iI_nI (wr + gE g h f w nx b)]
    refine m_within (m := 9999) (by omega) (by omega) (by omega) ?_
    rw [show min ((wr + gE g h f w nx b : Nat) : Int).toNat 9999 = min (wr + gE g h f w nx b) 9999 by omega]
    have ix : (11 : Int32) * nI h + 2 = nI (11 * h + 2) := by rw [show (11 : Int32) = nI 11 from rfl, show (2 : Int32) = nI 2 from rfl, pk_mul, nI_add]
    refine ⟨by rw [ix]; exact vp_in_nI (by omega) (by decide), ?_⟩
    rw [ix, nI_tn (by omega)]
    refine m_cools (cl := g 35) (sp := g 36) (t := gT g h f w nx b) h3 ?_ ?_ (by omega) (by omega) (fun d hd => ?_) (fun d _ => tl d) (fun τ2 hb2 e22 => ?_)
    · rw [zi_j (by omega), zi_k (by omega), zi_k (by omega), zi_k (by omega), zi_k (by omega), e2, hu_out (by omega)]; exact hr.2.1
    · rw [zi_j (by omega), zi_k (by omega), zi_k (by omega), zi_k (by omega), zi_k (by omega), e2, hu_out (by omega)]; exact hr.2.2
    · rw [zi_j (by omega), zi_k (by omega), zi_k (by omega), zi_k (by omega), zi_k (by omega), e2, hu_in hd]
    · have o2 : ∀ q, q ≠ 2 → q ≠ 10 → τ2.1 q = _ := fun q x y => hb2.1 q (by omega)
      refine hq τ2 ?_ ?_ (fun j x y z => ?_) ?_ ?_ ?_ ?_ ?_
      · refine zz_but.tr ?_ (hb2.mono (fun q hq => by unfold mHead; omega))
        exact ((((hbt.i (by unfold mHead; omega)).i (by unfold mHead; omega)).i (by unfold mHead; omega)).i (by unfold mHead; omega)).i (by unfold mHead; omega)
      · rw [e22, zi_r, zr_at, zi_k (by omega), zi_k (by omega), zi_k (by omega), zi_k (by omega), e2]
        funext k
        simp only [hu, upd]
        by_cases q : 11 * h + 3 ≤ k ∧ k < 11 * h + 3 + 8
        · rw [if_pos q, if_pos q]; rfl
        · rw [if_neg q, if_neg q, if_neg q]
      · rw [o2 0 (by omega) (by omega), zi_k (by omega), zi_k (by omega), zi_j x, zi_j y, zi_k (by omega)]
        exact e0 j z
      · rw [o2 0 (by omega) (by omega), zi_k (by omega), zi_k (by omega), zi_at, zi_j (by omega), zi_k (by omega), e0 14 (by omega), a14, nI_add]
      · rw [o2 0 (by omega) (by omega), zi_k (by omega), zi_k (by omega), zi_j (by omega), zi_at, zi_k (by omega), e0 15 (by omega), a15, nI_add]
      · rw [o2 0 (by omega) (by omega), zi_k (by omega), zi_k (by omega), zi_j (by omega), zi_j (by omega), zi_k (by omega)]
        exact e16
      · rw [o2 7 (by omega) (by omega), zi_k (by omega), zi_r, zr_at, zi_k (by omega), zi_k (by omega), zi_k (by omega), e7, a7, nI_add]
      · rw [o2 8 (by omega) (by omega), zi_k (by omega), zi_k (by omega), zi_k (by omega), zi_k (by omega), zi_r, zr_at, e8]
  have loop2 : ∀ (j d : Nat) (τ1 : zz_T), d + j = 8 → zz_but mHead τ τ1 → τ1.1 2 = hu (11 * h + 3) d (gT g h f w nx b) (τ.1 2) → (∀ i, i ≠ 16 → τ1.1 0 i = τ.1 0 i) → τ1.1 0 16 = nI (max ho (fmx (gT g h f w nx b) d)) → τ1.1 7 = τ.1 7 → τ1.1 8 = τ.1 8 → (∀ i, i < 8 → τ1.1 9 i = nI (if b then zs_gn (g (11 * h)) (g (11 * h + 1)) f w nx i else 0)) → pX6_headBurns_44 Q (j + 1) (nI h) (nI w) (nI d) τ1 := by
    intro j
    induction j with
    | zero =>
      intro d τ1 hd hbt e2 e0 e16 e7 e8 e9
      obtain rfl : d = 8 := by omega
      exact fin τ1 hbt e2 e0 e16 e7 e8
    | succ j ih =>
      intro d τ1 hd hbt e2 e0 e16 e7 e8 e9
      refine br_f (by rw [show (8 : Int32) = nI 8 from rfl, nI_leI (by omega) (by omega)]; omega) (m_heat h3 (by omega) ⟨vp_in_nI (by omega) (by decide), ?_⟩)
      have bf := hf d (by omega)
      have bg : (if b then zs_gn (g (11 * h)) (g (11 * h + 1)) f w nx d else 0) ≤ 30 := by
        have := zs_gn_le (kd := g (11 * h)) (po := g (11 * h + 1)) (f := f) (w := w) (nx := nx) (d := d)
        split <;> omega
      rw [nI_tn (by omega), e9 d (by omega), e2, hu_out (by omega), k3 d (by omega), nI_add, iI_nI (f d + _)]
      refine m_within (m := 99) (by omega) (by omega) (by omega) (m_heatB h3 (by omega) ?_)
      rw [show min ((f d + (if b then zs_gn (g (11 * h)) (g (11 * h + 1)) f w nx d else 0) : Nat) : Int).toNat 99 = gT g h f w nx b d by rw [Int.toNat_natCast]; rfl, zi_k (by omega), e16]
      have tld := tl d
      have fl : fmx (gT g h f w nx b) d ≤ 99 := fmx_le (fun i _ => tl i)
      have step : pX6_headBurns_101 Q (pX6_headBurns_44 Q (j + 1)) (nI h) (nI w) (nI d) (nI (max ho (fmx (gT g h f w nx b) (d + 1)))) (zz_i τ1 2 (11 * h + 3 + d) (nI (gT g h f w nx b d))) := by
        unfold pX6_headBurns_101
        rw [nI_1]
        refine ih (d + 1) _ (by omega) ((hbt.i (by unfold mHead; omega)).i (by unfold mHead; omega)) ?_ (fun i hi => ?_) ?_ ?_ ?_ (fun i hi => ?_)
        · rw [zi_k (by omega), zi_r, zr_at, e2]; exact hu_s _ _ _ _
        · rw [zi_j hi, zi_k (by omega)]; exact e0 i hi
        · rw [zi_at]
        · rw [zi_k (by omega), zi_k (by omega)]; exact e7
        · rw [zi_k (by omega), zi_k (by omega)]; exact e8
        · rw [zi_k (by omega), zi_k (by omega)]; exact e9 i hi
      by_cases hle : gT g h f w nx b d ≤ max ho (fmx (gT g h f w nx b) d)
      · refine br_t ((nI_leI (by omega) (by omega)).mpr hle) ?_
        rw [show max ho (fmx (gT g h f w nx b) (d + 1)) = max ho (fmx (gT g h f w nx b) d) by show max ho (max (fmx (gT g h f w nx b) d) (gT g h f w nx b d)) = _; omega] at step
        exact step
      · refine br_f (fun q => hle ((nI_leI (by omega) (by omega)).mp q)) ?_
        rw [show max ho (fmx (gT g h f w nx b) (d + 1)) = gT g h f w nx b d by show max ho (max (fmx (gT g h f w nx b) d) (gT g h f w nx b d)) = _; omega] at step
        exact step
  have loop1 : ∀ (j d : Nat) (τ1 : zz_T), d + j = 8 → zz_but (fun q => q = 9) τ τ1 → (∀ i, i < d → τ1.1 9 i = nI (if b then zs_gn (g (11 * h)) (g (11 * h + 1)) f w nx i else 0)) → pX6_headBurns_3 Q (j + 1) (nI h) (nI w) (nI nx) (if b then 0 else 1) (nI d) τ1 := by
    intro j
    induction j with
    | zero =>
      intro d τ1 hd hbt e9
      obtain rfl : d = 8 := by omega
      have o : ∀ q, q ≠ 9 → τ1.1 q = τ.1 q := fun q x => hbt.1 q x
      refine br_t (by decide) ⟨9, loop2 8 0 τ1 rfl (hbt.mono (fun q hq => by unfold mHead; omega)) ?_ (fun i _ => by rw [o 0 (by omega)]) ?_ (o 7 (by omega)) (o 8 (by omega)) e9⟩
      · rw [hu_0]; exact o 2 (by omega)
      · rw [o 0 (by omega), a16]; simp [fmx]
    | succ j ih =>
      intro d τ1 hd hbt e9
      have e2 : τ1.1 2 = τ.1 2 := hbt.1 2 (by omega)
      have step : pX6_headBurns_34 Q (pX6_headBurns_3 Q (j + 1)) (nI h) (nI w) (nI nx) (if b then 0 else 1) (nI d) (nI d) (nI (if b then zs_gn (g (11 * h)) (g (11 * h + 1)) f w nx d else 0)) τ1 := by
        unfold pX6_headBurns_34
        refine ⟨vp_in_nI (by omega) (by decide), ?_⟩
        rw [nI_1, nI_tn (by omega)]
        refine ih (d + 1) _ (by omega) (hbt.i rfl) (fun i hi => ?_)
        by_cases i0 : i = d
        · subst i0; rw [zi_at]
        · rw [zi_j i0]; exact e9 i (by omega)
      refine br_f (by rw [show (8 : Int32) = nI 8 from rfl, nI_leI (by omega) (by omega)]; omega) ?_
      cases b with
      | true =>
        refine br_t rfl ?_
        exact m_gets (f := f) h3 (by omega) hw hn (by rw [e2]; exact k0) hb.1 (by rw [e2]; exact k1) hb.2 (by rw [e2]; exact k3 d (by omega)) (hf d (by omega)) step
      | false => exact br_f (by decide) step
  exact ⟨9, loop1 8 0 τ rfl (zz_but.rf _ _) (fun i hi => absurd hi (by omega))⟩
