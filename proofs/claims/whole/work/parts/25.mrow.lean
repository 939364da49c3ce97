theorem fl_g.kept {a a' : Nat → Int32} {g : Nat → Nat} {h wr : Nat} {f : Nat → Nat} (H : fl_g a g h wr f) (e : ∀ k, 11 * h ≤ k → k < 11 * h + 11 → a' k = a k) : fl_g a' g h wr f := by
  obtain ⟨x, y, z, q⟩ := H
  exact ⟨by rw [e _ (by omega) (by omega)]; exact x, by rw [e _ (by omega) (by omega)]; exact y, by rw [e _ (by omega) (by omega)]; exact z, fun d hd => by rw [e _ (by omega) (by omega)]; exact q d hd⟩
theorem fl_dy.kept {a a' : Nat → Int32} {g : Nat → Nat} {F : Nat → Nat → Nat} {Wr : Nat → Nat} {r : Nat} (hg : gOK g) (H : fl_dy a g F Wr r) (e : ∀ k, k < 70 → a' k = a k) : fl_dy a' g F Wr r := by
  obtain ⟨⟨a1, a2, a3⟩, ⟨b1, b2, b3⟩, c, ⟨d1, d2⟩, q⟩ := H
  have h12 := hg.2.2.2.1.1
  have h6 := hg.2.2.2.2.1
  have h3 := hg.1
  refine ⟨⟨?_, ?_, ?_⟩, ⟨?_, ?_, ?_⟩, fun i hi => ?_, ⟨?_, fun i hi => ?_⟩, fun h hh => ?_⟩
  · rw [e _ (by omega)]; exact a1
  · rw [e _ (by omega)]; exact a2
  · rw [e _ (by omega)]; exact a3
  · rw [e _ (by omega)]; exact b1
  · rw [e _ (by omega)]; exact b2
  · rw [e _ (by omega)]; exact b3
  · rw [e _ (by omega)]; exact c i hi
  · rw [e _ (by omega)]; exact d1
  · rw [e _ (by omega), e _ (by omega), e _ (by omega)]; exact d2 i hi
  · exact (q h hh).kept (fun k h1 h2 => e k (by omega))
/-- only heads changed -/
theorem fl_dy.heads {a a' : Nat → Int32} {g : Nat → Nat} {F F' : Nat → Nat → Nat} {Wr Wr' : Nat → Nat} {r : Nat} (H : fl_dy a g F Wr r) (e : ∀ k, 33 ≤ k → a' k = a k) (q : ∀ h, h < g 33 → fl_g a' g h (Wr' h) (F' h)) : fl_dy a' g F' Wr' r := by
  obtain ⟨⟨a1, a2, a3⟩, ⟨b1, b2, b3⟩, c, ⟨d1, d2⟩, -⟩ := H
  refine ⟨⟨?_, ?_, ?_⟩, ⟨?_, ?_, ?_⟩, fun i hi => ?_, ⟨?_, fun i hi => ?_⟩, q⟩
  · rw [e _ (by omega)]; exact a1
  · rw [e _ (by omega)]; exact a2
  · rw [e _ (by omega)]; exact a3
  · rw [e _ (by omega)]; exact b1
  · rw [e _ (by omega)]; exact b2
  · rw [e _ (by omega)]; exact b3
  · rw [e _ (by omega)]; exact c i hi
  · rw [e _ (by omega)]; exact d1
  · rw [e _ (by omega), e _ (by omega), e _ (by omega)]; exact d2 i hi
/-- the accumulators of the reference -/
def mAc (τ : zz_T) (nh wm bm ho wr : Nat) (wb : Nat → Nat) : Prop := τ.1 0 14 = nI wm ∧ τ.1 0 15 = nI bm ∧ τ.1 0 16 = nI ho ∧ τ.1 0 17 = nI wr ∧ ∀ h, h < nh → τ.1 7 h = nI (wb h)
def mRo (q : Nat) : Prop := q = 0 ∨ q = 2 ∨ q = 7 ∨ q = 8 ∨ q = 9 ∨ q = 10
theorem m_row {g : Nat → Nat} {F : Nat → Nat → Nat} {Wr wb : Nat → Nat} {r w nx wm bm ho wr : Nat} {τ : zz_T} {Q : zz_T → Prop} (b re : Bool) (hg : gOK g) (hd : gDY g F Wr r) (H : fl_dy (τ.1 2) g F Wr r) (hw : w < 256) (hn : nx < 256) (A : mAc τ (g 33) wm bm ho wr wb) (hwm : wm ≤ 100000) (hho : ho ≤ 99)
    (hre : (τ.1 0 13 = (-4) ∧ re = false) ∨ ∃ i, τ.1 0 13 = nI i ∧ i < 12 ∧ 0 < g 49 ∧ re = decide (r % g 49 = i))
    (hq : ∀ τ' : zz_T, zz_but mRo τ τ' → fl_dy (τ'.1 2) g (fun h => if re then (fun _ => 0) else gC g h (F h) w nx b) (fun h => min (Wr h + gE g h (F h) w nx b) 9999) (r + 1) → (∀ j, j ≠ 14 → j ≠ 15 → j ≠ 16 → j ≠ 17 → τ'.1 0 j = τ.1 0 j) → mAc τ' (g 33) (wm + fb_sm (fun h => gE g h (F h) w nx b) (g 33)) (bm + fb_sm (fun h => zs_pc (gB g h (F h) w nx b)) (g 33)) (max ho (fmx (fun h => fmx (gT g h (F h) w nx b) 8) (g 33))) (wr + if fb_sm (fun h => gE g h (F h) w nx b) (g 33) = 0 then 0 else 1) (fun h => wb h + gE g h (F h) w nx b) → (∀ h, h < g 33 → τ'.1 8 h = nI (gB g h (F h) w nx b)) → Q τ') : pX6_rowGoes (nI w) (nI nx) (if b then 0 else 1) τ Q := by
  have h3 := hg.1
  have h12 := hg.2.2.2.1.1
  have tl : ∀ h d, gT g h (F h) w nx b d ≤ 99 := fun h d => zs_ht_le _ _ _ _ _ _ _
  have sE : ∀ n, n ≤ 3 → fb_sm (fun h => gE g h (F h) w nx b) n ≤ 24 := fun n hn => by
    have := fb_sm_bound (f := fun h => gE g h (F h) w nx b) (c := 8) (n := n) (fun k _ => gE_le _ _ _ _ _ _)
    omega
  -- the row's number
  have last : ∀ τ1 : zz_T, zz_but mRo τ τ1 → fl_dy (τ1.1 2) g (fun h => if re then (fun _ => 0) else gC g h (F h) w nx b) (fun h => min (Wr h + gE g h (F h) w nx b) 9999) r → (∀ j, j ≠ 14 → j ≠ 15 → j ≠ 16 → j ≠ 17 → τ1.1 0 j = τ.1 0 j) → mAc τ1 (g 33) (wm + fb_sm (fun h => gE g h (F h) w nx b) (g 33)) (bm + fb_sm (fun h => zs_pc (gB g h (F h) w nx b)) (g 33)) (max ho (fmx (fun h => fmx (gT g h (F h) w nx b) 8) (g 33))) (wr + if fb_sm (fun h => gE g h (F h) w nx b) (g 33) = 0 then 0 else 1) (fun h => wb h + gE g h (F h) w nx b) → (∀ h, h < g 33 → τ1.1 8 h = nI (gB g h (F h) w nx b)) → pX6_rowGoes_139 Q τ1 := by
    intro τ1 hb hP h0 hA h8
    unfold pX6_rowGoes_139
    refine ⟨vp_in_nI (n := 50) (by decide) (by decide), vp_in_nI (n := 50) (by decide) (by decide), ?_⟩
    rw [show Int32.toNatClampNeg 50 = 50 from rfl, hP.1.2.2, nI_1]
    refine hq _ (hb.i (by unfold mRo; omega)) ?_ (fun j x y z u => by rw [zi_k (by omega)]; exact h0 j x y z u) ?_ (fun h hh => by rw [zi_k (by omega)]; exact h8 h hh)
    · obtain ⟨⟨a1, a2, a3⟩, ⟨b1, b2, b3⟩, c, ⟨d1, d2⟩, q⟩ := hP
      refine ⟨⟨?_, ?_, ?_⟩, ⟨?_, ?_, ?_⟩, fun i hi => ?_, ⟨?_, fun i hi => ?_⟩, fun h hh => ?_⟩
      · rw [zi_j (by omega)]; exact a1
      · rw [zi_j (by omega)]; exact a2
      · rw [zi_at]
      · rw [zi_j (by omega)]; exact b1
      · rw [zi_j (by omega)]; exact b2
      · rw [zi_j (by omega)]; exact b3
      · rw [zi_j (by omega)]; exact c i hi
      · rw [zi_j (by omega)]; exact d1
      · rw [zi_j (by omega), zi_j (by omega), zi_j (by omega)]; exact d2 i hi
      · exact (q h hh).kept (fun k h1 h2 => zi_j (by omega))
    · obtain ⟨x1, x2, x3, x4, x5⟩ := hA
      exact ⟨by rw [zi_k (by omega)]; exact x1, by rw [zi_k (by omega)]; exact x2, by rw [zi_k (by omega)]; exact x3, by rw [zi_k (by omega)]; exact x4, fun h hh => by rw [zi_k (by omega)]; exact x5 h hh⟩
  -- behind the heads
  have mid : ∀ τ1 : zz_T, zz_but mRo τ τ1 → fl_dy (τ1.1 2) g (fun h => gC g h (F h) w nx b) (fun h => min (Wr h + gE g h (F h) w nx b) 9999) r → (∀ j, j ≠ 14 → j ≠ 15 → j ≠ 16 → τ1.1 0 j = τ.1 0 j) → τ1.1 0 14 = nI (wm + fb_sm (fun h => gE g h (F h) w nx b) (g 33)) → τ1.1 0 15 = nI (bm + fb_sm (fun h => zs_pc (gB g h (F h) w nx b)) (g 33)) → τ1.1 0 16 = nI (max ho (fmx (fun h => fmx (gT g h (F h) w nx b) 8) (g 33))) → (∀ h, h < g 33 → τ1.1 7 h = nI (wb h + gE g h (F h) w nx b)) → (∀ h, h < g 33 → τ1.1 8 h = nI (gB g h (F h) w nx b)) → ∀ fl : Int32, fl = (if fb_sm (fun h => gE g h (F h) w nx b) (g 33) = 0 then 0 else 1) → pX6_rowGoes_55 Q (nI wr) fl τ1 := by
    intro τ1 hb hP h0 e14 e15 e16 e7 e8 fl hfl
    unfold pX6_rowGoes_55 pX6_flag
    have go : ∀ v : Int32, v = nI (wr + if fb_sm (fun h => gE g h (F h) w nx b) (g 33) = 0 then 0 else 1) → (((zz_i τ1 0 17 v).1 0 13) = (-4) → pX6_rowGoes_139 Q (zz_i τ1 0 17 v)) ∧ (¬ ((zz_i τ1 0 17 v).1 0 13) = (-4) → vp_in 50 70 ∧ vp_in 49 70 ∧ ¬ ((zz_i τ1 0 17 v).1 2 (Int32.toNatClampNeg 49)) = 0 ∧ (((((zz_i τ1 0 17 v).1 2 (Int32.toNatClampNeg 50)) - ((zz_i τ1 0 17 v).1 2 (Int32.toNatClampNeg 50)) / ((zz_i τ1 0 17 v).1 2 (Int32.toNatClampNeg 49)) * ((zz_i τ1 0 17 v).1 2 (Int32.toNatClampNeg 49))) = ((zz_i τ1 0 17 v).1 0 13) → ∃ n96, pX6_rowGoes_96 Q n96 0 (zz_i τ1 0 17 v)) ∧ (¬ (((zz_i τ1 0 17 v).1 2 (Int32.toNatClampNeg 50)) - ((zz_i τ1 0 17 v).1 2 (Int32.toNatClampNeg 50)) / ((zz_i τ1 0 17 v).1 2 (Int32.toNatClampNeg 49)) * ((zz_i τ1 0 17 v).1 2 (Int32.toNatClampNeg 49))) = ((zz_i τ1 0 17 v).1 0 13) → pX6_rowGoes_139 Q (zz_i τ1 0 17 v)))) := by
      intro v hv
      have hb2 : zz_but mRo τ (zz_i τ1 0 17 v) := hb.i (by unfold mRo; omega)
      have g0 : ∀ j, j ≠ 14 → j ≠ 15 → j ≠ 16 → j ≠ 17 → (zz_i τ1 0 17 v).1 0 j = τ.1 0 j := fun j x y z u => by rw [zi_j u]; exact h0 j x y z
      have gA : mAc (zz_i τ1 0 17 v) (g 33) (wm + fb_sm (fun h => gE g h (F h) w nx b) (g 33)) (bm + fb_sm (fun h => zs_pc (gB g h (F h) w nx b)) (g 33)) (max ho (fmx (fun h => fmx (gT g h (F h) w nx b) 8) (g 33))) (wr + if fb_sm (fun h => gE g h (F h) w nx b) (g 33) = 0 then 0 else 1) (fun h => wb h + gE g h (F h) w nx b) := ⟨by rw [zi_j (by omega)]; exact e14, by rw [zi_j (by omega)]; exact e15, by rw [zi_j (by omega)]; exact e16, by rw [zi_at, hv], fun h hh => by rw [zi_k (by omega)]; exact e7 h hh⟩
      have g8 : ∀ h, h < g 33 → (zz_i τ1 0 17 v).1 8 h = nI (gB g h (F h) w nx b) := fun h hh => by rw [zi_k (by omega)]; exact e8 h hh
      have gP : (zz_i τ1 0 17 v).1 2 = τ1.1 2 := zi_k (by omega)
      have e13 : (zz_i τ1 0 17 v).1 0 13 = τ.1 0 13 := g0 13 (by omega) (by omega) (by omega) (by omega)
      rw [e13]
      rcases hre with ⟨x13, rfl⟩ | ⟨i, x13, hi, hnl, hre⟩
      · refine br_t x13 (last _ hb2 ?_ g0 gA g8)
        rw [gP]; exact hP
      · have hne : ¬ τ.1 0 13 = (-4) := by
          rw [x13]
          intro q
          have q2 := congrArg Int32.toInt q
          rw [nI_i (by omega)] at q2
          have : ((-4 : Int32)).toInt = -4 := by decide
          omega
        refine br_f hne ⟨vp_in_nI (n := 50) (by decide) (by decide), vp_in_nI (n := 49) (by decide) (by decide), ?_⟩
        have hr := hd.2
        have ml : r % g 49 < g 49 := Nat.mod_lt _ hnl
        rw [gP, show Int32.toNatClampNeg 49 = 49 from rfl, show Int32.toNatClampNeg 50 = 50 from rfl, hP.1.2.1, hP.1.2.2, pk_rem (by omega) hnl (by omega), x13]
        refine ⟨fun q => by have := (nI_z (by omega)).mp q; omega, ?_⟩
        by_cases hri : r % g 49 = i
        · refine br_t (by rw [hri]) ?_
          have hre' : re = true := by rw [hre]; simp [hri]
          -- all heats are 0
          have inner : ∀ (K : Int32 → zz_T → Prop) (h : Nat), h < g 33 → ∀ (j d : Nat) (τ2 : zz_T), d + j = 8 → (∀ τ3 : zz_T, zz_but (fun q => q = 2) τ2 τ3 → (∀ k, (k < 11 * h + 3 ∨ 11 * h + 11 ≤ k) → τ3.1 2 k = τ2.1 2 k) → (∀ e, e < 8 → d ≤ e → τ3.1 2 (11 * h + 3 + e) = 0) → (∀ e, e < d → τ3.1 2 (11 * h + 3 + e) = τ2.1 2 (11 * h + 3 + e)) → K (nI (h + 1)) τ3) → pX6_rowGoes_111 Q K (j + 1) (nI h) (nI d) τ2 := by
            intro K h hh j
            induction j with
            | zero =>
              intro d τ2 hd hK
              obtain rfl : d = 8 := by omega
              refine br_t (by decide) ?_
              rw [nI_1]
              exact hK τ2 (zz_but.rf _ _) (fun k _ => rfl) (fun e x y => absurd x (by omega)) (fun e _ => rfl)
            | succ j ih =>
              intro d τ2 hd hK
              refine br_f (by rw [show (8 : Int32) = nI 8 from rfl, nI_leI (by omega) (by omega)]; omega) (m_heatB (by omega) (by omega) ?_)
              rw [nI_1]
              refine ih (d + 1) _ (by omega) (fun τ3 b3 o3 z3 u3 => hK τ3 (zz_but.tr ((zz_but.rf _ _).i rfl) b3) (fun k hk => by rw [o3 k hk, zi_j (by omega)]) (fun e x y => ?_) (fun e he => ?_))
              · by_cases hed : e = d
                · subst hed; rw [u3 e (by omega), zi_at]
                · exact z3 e x (by omega)
              · rw [u3 e (by omega), zi_j (by omega)]
          have outer : ∀ (j h : Nat) (τ2 : zz_T), h + j = g 33 → zz_but (fun q => q = 2) (zz_i τ1 0 17 v) τ2 → fl_dy (τ2.1 2) g (gUp h (fun _ _ => 0) (fun h => gC g h (F h) w nx b)) (fun h => min (Wr h + gE g h (F h) w nx b) 9999) r → pX6_rowGoes_96 Q (j + 1) (nI h) τ2 := by
            intro j
            induction j with
            | zero =>
              intro h τ2 hj hb3 hP3
              obtain rfl : h = g 33 := by omega
              refine ⟨vp_in_nI (n := 33) (by decide) (by decide), ?_⟩
              refine br_t (by rw [show Int32.toNatClampNeg 33 = 33 from rfl, hP3.1.1]; exact nI_le (by omega) (by omega)) (last τ2 ?_ ?_ ?_ ?_ ?_)
              · exact hb2.tr (hb3.mono (fun q hq => by unfold mRo; omega))
              · refine hP3.heads (fun k _ => rfl) (fun h hh => ?_)
                have := hP3.2.2.2.2 h hh
                simp only [gUp, if_pos hh] at this
                rw [hre']
                exact this
              · intro j x y z u; rw [hb3.1 0 (by omega)]; exact g0 j x y z u
              · obtain ⟨x1, x2, x3, x4, x5⟩ := gA
                exact ⟨by rw [hb3.1 0 (by omega)]; exact x1, by rw [hb3.1 0 (by omega)]; exact x2, by rw [hb3.1 0 (by omega)]; exact x3, by rw [hb3.1 0 (by omega)]; exact x4, fun h hh => by rw [hb3.1 7 (by omega)]; exact x5 h hh⟩
              · intro h hh; rw [hb3.1 8 (by omega)]; exact g8 h hh
            | succ j ih =>
              intro h τ2 hj hb3 hP3
              have hlt : h < g 33 := by omega
              refine ⟨vp_in_nI (n := 33) (by decide) (by decide), ?_⟩
              refine br_f (by rw [show Int32.toNatClampNeg 33 = 33 from rfl, hP3.1.1]; exact nI_ge hlt (by omega)) ⟨9, inner _ h hlt 8 0 τ2 rfl (fun τ3 b3 o3 z3 u3 => ih (h + 1) τ3 (by omega) (hb3.tr b3) ?_)⟩
              refine hP3.heads (fun k hk => o3 k (by omega)) (fun i hi => ?_)
              have hh := hP3.2.2.2.2 i hi
              by_cases e : i = h
              · subst e
                simp only [gUp, if_neg (Nat.lt_irrefl i)] at hh
                simp only [gUp, if_pos (Nat.lt_succ_self i)]
                obtain ⟨y1, y2, y3, y4⟩ := hh
                exact ⟨by rw [o3 _ (by omega)]; exact y1, by rw [o3 _ (by omega)]; exact y2, by rw [o3 _ (by omega)]; exact y3, fun d hd => by rw [z3 d hd (by omega)]; rfl⟩
              · have q : (i < h + 1) = (i < h) := by simp; omega
                simp only [gUp, q]
                exact hh.kept (fun k x y => o3 k (by omega))
          refine ⟨g 33 + 1, outer (g 33) 0 _ (by omega) (zz_but.rf _ _) ?_⟩
          rw [gP]
          refine hP.heads (fun k _ => rfl) (fun h hh => ?_)
          simp only [gUp, if_neg (Nat.not_lt_zero h)]
          exact hP.2.2.2.2 h hh
        · refine br_f (fun q => hri ((nI_eq (by omega) (by omega)).mp q)) (last _ hb2 ?_ g0 gA g8)
          have hre' : re = false := by rw [hre]; simp [hri]
          rw [gP]
          simp only [hre']
          exact hP
    by_cases hz : fb_sm (fun h => gE g h (F h) w nx b) (g 33) = 0
    · rw [if_pos hz] at hfl
      refine br_t hfl ?_
      have := go (nI wr + 0) (by rw [if_pos hz]; exact nI_add wr 0)
      exact this
    · rw [if_neg hz] at hfl
      refine br_f (by rw [hfl]; decide) ?_
      have := go (nI wr + 1) (by rw [if_neg hz]; exact nI_1 wr)
      exact this
  have loop : ∀ (j h : Nat) (τ1 : zz_T), h + j = g 33 → zz_but mRo τ τ1 → fl_dy (τ1.1 2) g (gUp h (fun h => gC g h (F h) w nx b) F) (gUw h (fun h => min (Wr h + gE g h (F h) w nx b) 9999) Wr) r → (∀ j, j ≠ 14 → j ≠ 15 → j ≠ 16 → τ1.1 0 j = τ.1 0 j) → τ1.1 0 14 = nI (wm + fb_sm (fun h => gE g h (F h) w nx b) h) → τ1.1 0 15 = nI (bm + fb_sm (fun h => zs_pc (gB g h (F h) w nx b)) h) → τ1.1 0 16 = nI (max ho (fmx (fun h => fmx (gT g h (F h) w nx b) 8) h)) → (∀ i, i < h → τ1.1 7 i = nI (wb i + gE g i (F i) w nx b)) → (∀ i, h ≤ i → τ1.1 7 i = τ.1 7 i) → (∀ i, i < h → τ1.1 8 i = nI (gB g i (F i) w nx b)) → pX6_rowGoes_9 Q (j + 1) (nI w) (nI nx) (if b then 0 else 1) (nI wm) (nI h) τ1 := by
    intro j
    induction j with
    | zero =>
      intro h τ1 hj hb hP h0 e14 e15 e16 e7 e7' e8
      obtain rfl : h = g 33 := by omega
      have hs := sE (g 33) h3
      have hP' : fl_dy (τ1.1 2) g (fun h => gC g h (F h) w nx b) (fun h => min (Wr h + gE g h (F h) w nx b) 9999) r := hP.heads (fun k _ => rfl) (fun h hh => by
        have := hP.2.2.2.2 h hh
        simp only [gUp, gUw, if_pos hh] at this
        exact this)
      refine ⟨vp_in_nI (n := 33) (by decide) (by decide), br_t (by rw [show Int32.toNatClampNeg 33 = 33 from rfl, hP.1.1]; exact nI_le (by omega) (by omega)) ?_⟩
      rw [e14, show τ1.1 0 17 = nI wr by rw [h0 17 (by omega) (by omega) (by omega)]; exact A.2.2.2.1]
      by_cases hz : fb_sm (fun h => gE g h (F h) w nx b) (g 33) = 0
      · exact br_t (by rw [hz, Nat.add_zero, nI_leI (by omega) (by omega)]; exact Nat.le_refl _) (mid τ1 hb hP' h0 e14 e15 e16 e7 e8 0 (by rw [if_pos hz]))
      · exact br_f (by rw [nI_leI (by omega) (by omega)]; omega) (mid τ1 hb hP' h0 e14 e15 e16 e7 e8 1 (by rw [if_neg hz]))
    | succ j ih =>
      intro h τ1 hj hb hP h0 e14 e15 e16 e7 e7' e8
      have hlt : h < g 33 := by omega
      refine ⟨vp_in_nI (n := 33) (by decide) (by decide), br_f (by rw [show Int32.toNatClampNeg 33 = 33 from rfl, hP.1.1]; exact nI_ge hlt (by omega)) ?_⟩
      have hh := hP.2.2.2.2 h hlt
      simp only [gUp, gUw, if_neg (Nat.lt_irrefl h)] at hh
      have hho2 : max ho (fmx (fun h => fmx (gT g h (F h) w nx b) 8) h) ≤ 99 := by
        have := fmx_le (f := fun h => fmx (gT g h (F h) w nx b) 8) (c := 99) (n := h) (fun i _ => fmx_le (fun d _ => tl i d))
        omega
      refine m_head b hg hlt hh (hd.1 h hlt).1 (hd.1 h hlt).2 hP.2.1 hw hn e14 e15 e16 (by rw [e7' h (Nat.le_refl _)]; exact A.2.2.2.2 h hlt) hho2 (fun τ2 hb2 f2 f0 f14 f15 f16 f7 f8 => ?_)
      rw [nI_1]
      refine ih (h + 1) τ2 (by omega) (hb.tr (hb2.mono (fun q hq => hq))) ?_ (fun j x y z => by rw [f0 j x y z]; exact h0 j x y z) (by rw [f14, Nat.add_assoc]; rfl) (by rw [f15, Nat.add_assoc]; rfl) ?_ (fun i hi => ?_) (fun i hi => ?_) (fun i hi => ?_)
      · refine hP.heads (fun k hk => by rw [f2, hu_out (by omega)]; simp only [upd]; rw [if_neg (by omega)]) (fun i hi => ?_)
        by_cases e : i = h
        · subst e
          simp only [gUp, gUw, if_pos (Nat.lt_succ_self i)]
          obtain ⟨y1, y2, y3, y4⟩ := hh
          refine ⟨?_, ?_, ?_, fun d hd => ?_⟩
          · rw [f2, hu_out (by omega)]; simp only [upd]; rw [if_neg (by omega)]; exact y1
          · rw [f2, hu_out (by omega)]; simp only [upd]; rw [if_neg (by omega)]; exact y2
          · rw [f2, hu_out (by omega)]; simp only [upd]; rw [if_pos trivial]
          · rw [f2, hu_in hd]
        · have q : (i < h + 1) = (i < h) := by simp; omega
          simp only [gUp, gUw, q]
          exact (hP.2.2.2.2 i hi).kept (fun k x y => by rw [f2, hu_out (by omega)]; simp only [upd]; rw [if_neg (by omega)])
      · rw [f16, Nat.max_assoc]; rfl
      · rw [f7]
        simp only [upd]
        by_cases e : i = h
        · subst e; rw [if_pos rfl]
        · rw [if_neg e]; exact e7 i (by omega)
      · rw [f7]
        simp only [upd]
        rw [if_neg (by omega)]
        exact e7' i (by omega)
      · rw [f8]
        simp only [upd]
        by_cases e : i = h
        · subst e; rw [if_pos rfl]
        · rw [if_neg e]; exact e8 i (by omega)
  refine ⟨g 33 + 1, ?_⟩
  rw [A.1]
  refine loop (g 33) 0 τ (by omega) (zz_but.rf _ _) ?_ (fun _ _ _ _ => rfl) (by rw [A.1]; rfl) (by rw [A.2.1]; rfl) (by rw [A.2.2.1]; simp [fmx]) (fun i hi => absurd hi (by omega)) (fun _ _ => rfl) (fun i hi => absurd hi (by omega))
  exact H.heads (fun k _ => rfl) (fun h hh => by simp only [gUp, gUw, if_neg (Nat.not_lt_zero h)]; exact H.2.2.2.2 h hh)
