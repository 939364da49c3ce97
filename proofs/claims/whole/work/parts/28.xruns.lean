/-! THE CLASS, by rows: one head alone at cell 37, a printer on trial at cell 20 -/
/-- rows as told from row r on, with power by pw -/
def gRp (g : Nat → Nat) (r : Nat) (pw : Nat → Bool) (i : Nat) : zRow := (gL g (r + i), gL g (r + i + 1), pw i, false)
theorem gRp_t (g : Nat → Nat) (r : Nat) : gRp g r (fun _ => true) = gR g r none := rfl
/-- g2 is g but for the kind or power of heads -/
def gSim (g g2 : Nat → Nat) : Prop := gOK g2 ∧ g2 33 = g 33 ∧ g2 34 = g 34 ∧ g2 35 = g 35 ∧ g2 36 = g 36 ∧ ∀ r, gL g2 r = gL g r
theorem gSim.rf {g : Nat → Nat} (h : gOK g) : gSim g g := ⟨h, rfl, rfl, rfl, rfl, fun _ => rfl⟩
def LoneAt (σ0 : zz_T) (g2 : Nat → Nat) (h : Nat) (f : Nat → Nat) (σ1 : zz_T) : Prop := cK σ0 σ1 ∧ (∃ wr, wr ≤ 9999 ∧ hx_g σ1 37 g2 h wr f) ∧ ∀ d, d < 8 → f d ≤ 99
theorem xP_cK {σ σ' : zz_T} {g : Nat → Nat} {F : Nat → Nat → Nat} {Wr : Nat → Nat} {r : Nat} (hg : gOK g) (N : px_dy σ 3 g F Wr r) (h : cK σ σ') : px_dy σ' 3 g F Wr r := N.kept hg.1 (fun q x y => h q (by unfold cScr; omega))
theorem x_lone_step {σ0 σ1 : zz_T} {Q : Int32 → zz_T → Prop} {g g2 : Nat → Nat} {F : Nat → Nat → Nat} {Wr : Nat → Nat} {r h i : Nat} {pw : Nat → Bool} {f0 : Nat → Nat} (hg : gOK g) (h2 : gSim g g2) (hr : r < 100000) (hi : i < 900) (hh : h < g 33) (N : px_dy σ0 3 g F Wr r) (L : LoneAt σ0 g2 h (hF g2 h (gRp g r pw) f0 i) σ1) (hq : ∀ σ2 : zz_T, LoneAt σ0 g2 h (hF g2 h (gRp g r pw) f0 (i + 1)) σ2 → Q (nI (hB g2 h (gRp g r pw) f0 i)) σ2) : pX5_burnLone (nI i) (if pw i then 1 else 0) σ1 Q := by
  obtain ⟨hc, ⟨wr, hwr, H⟩, hf⟩ := L
  obtain ⟨k1, k2, k3, k4, k5, k6⟩ := h2
  have N1 := xP_cK hg N hc
  unfold pX5_burnLone
  refine px_wantedIn hg (by omega) N1 (by omega) ?_
  rw [nI_1]
  refine px_wantedIn hg (by omega) N1 (by omega) ?_
  refine hx_burng (pw i) k1 (by omega) H hwr hf (by rw [k3, k4, k5]; exact N1.2.1) (gL_lt hg _) (gL_lt hg _) (by omega) (by omega) (by omega) (fun σ2 hb hg2 hot => ?_)
  refine hq σ2 ⟨hc.tr (cK.of hb (fun q x => by unfold cScr; omega)), ⟨_, Nat.min_le_right _ _, hg2⟩, fun d hd => zs_cl_le _ _ _ _⟩
def TrialAt (σ0 : zz_T) (g2 : Nat → Nat) (R : Nat → zRow) (F : Nat → Nat → Nat) (Wr : Nat → Nat) (r i : Nat) (σ1 : zz_T) : Prop := cK σ0 σ1 ∧ px_dy σ1 20 g2 (fun h => hF g2 h R (F h) i) (fun h => hW g2 h R (F h) (Wr h) i) (r + i)
theorem x_trial_step {σ0 σ1 : zz_T} {Q : Int32 → zz_T → Prop} {g2 : Nat → Nat} {F : Nat → Nat → Nat} {Wr : Nat → Nat} {r i : Nat} {pw : Nat → Bool} (hg : gOK g2) (hd : gDY g2 F Wr r) (hr : r < 100000) (hi : i < 900) (T : TrialAt σ0 g2 (gRp g2 r pw) F Wr r i σ1) (hq : ∀ σ2 : zz_T, TrialAt σ0 g2 (gRp g2 r pw) F Wr r (i + 1) σ2 → (∀ h, h < g2 33 → ∀ d, d < 8 → σ2.1 (20 + 8 + 3 * h + 2) d = nI (hT g2 h (gRp g2 r pw) (F h) i d)) → σ2.1 20 7 = nI (gP g2 (gRp g2 r pw) F i) → Q (nI (gS g2 (gRp g2 r pw) F i)) σ2) : pX1_burnRow 20 (if pw i then 1 else 0) σ1 Q := by
  obtain ⟨hc, P⟩ := T
  refine px_burnRow (pw i) hg (hd.run _ (by omega)) P (fun σ2 hb hP hot h7 => ?_)
  exact hq σ2 ⟨hc.tr (cK.of hb (fun q x => by unfold cScr; omega)), hP⟩ hot h7
theorem x_trial_0 {σ : zz_T} {Q : zz_T → Prop} {g : Nat → Nat} {F : Nat → Nat → Nat} {Wr : Nat → Nat} {r : Nat} (hg : gOK g) (N : px_dy σ 3 g F Wr r) (hq : ∀ σ2 : zz_T, cK σ σ2 → px_dy σ2 20 g F Wr r → Q σ2) : pX1_copyFrom 20 3 σ Q :=
  px_copy hg N (by omega) (fun σ2 hb hP => hq σ2 (cK.of hb (fun q x => by unfold cScr; omega)) hP)
theorem x_lone_0 {σ : zz_T} {Q : zz_T → Prop} {g : Nat → Nat} {F : Nat → Nat → Nat} {Wr : Nat → Nat} {r h : Nat} (hg : gOK g) (hd : gDY g F Wr r) (hh : h < g 33) (N : px_dy σ 3 g F Wr r) (hq : ∀ σ2 : zz_T, LoneAt σ g h (F h) σ2 → Q σ2) : pX0_copyFrom 37 (11 + 3 * h) σ Q := by
  have h3 := hg.1
  refine hx_copy (N.2.2.2.2 h hh) (by omega) (by omega) (by omega) (fun σ2 hb hP => hq σ2 ⟨cK.of hb (fun q x => by unfold cScr; omega), ⟨_, (hd.1 h hh).1, hP⟩, (hd.1 h hh).2⟩)
/-- how many are wrong of the head alone, up to a limit -/
theorem x_wrongOfLone {σ0 σ1 : zz_T} {Q : Int32 → zz_T → Prop} {g g2 : Nat → Nat} {F : Nat → Nat → Nat} {Wr : Nat → Nat} {r h n lim : Nat} {f0 : Nat → Nat} (hg : gOK g) (h2 : gSim g g2) (hr : r < 100000) (hn : n ≤ 60) (hl : lim ≤ 1000000) (hh : h < g 33) (N : px_dy σ0 3 g F Wr r) (L : LoneAt σ0 g2 h f0 σ1) (hq : ∀ (x : Nat) (σ2 : zz_T), cK σ0 σ2 → (x = fb_sm (hE g2 h (gRp g r (fun _ => true)) f0) n ∨ (lim ≤ x ∧ x ≤ fb_sm (hE g2 h (gRp g r (fun _ => true)) f0) n)) → Q (nI x) σ2) : pX5_wrongOfLone (nI n) (nI lim) σ1 Q := by
  have bE : ∀ i, fb_sm (hE g2 h (gRp g r (fun _ => true)) f0) i ≤ i * 8 := fun i => fb_sm_bound (fun k _ => hE_le _ _ _ _ _)
  have loop : ∀ (j i : Nat) (σ2 : zz_T), i + j = n → LoneAt σ0 g2 h (hF g2 h (gRp g r (fun _ => true)) f0 i) σ2 → pX5_wrongOfLone_5 Q (j + 1) (nI n) (nI lim) (nI (fb_sm (hE g2 h (gRp g r (fun _ => true)) f0) i)) (nI i) σ2 := by
    intro j
    induction j with
    | zero =>
      intro i σ2 hi L2
      obtain rfl : i = n := by omega
      exact br_t (nI_le (Nat.le_refl _) (by omega)) (hq _ σ2 L2.1 (Or.inl rfl))
    | succ j ih =>
      intro i σ2 hi L2
      have b1 := bE i
      refine br_f (nI_ge (by omega) (by omega)) ?_
      by_cases hlim : lim ≤ fb_sm (hE g2 h (gRp g r (fun _ => true)) f0) i
      · refine br_t (nI_le hlim (by omega)) (hq _ σ2 L2.1 (Or.inr ⟨hlim, ?_⟩))
        have := fb_sm_mono (hE g2 h (gRp g r (fun _ => true)) f0) i (n - i)
        rw [show i + (n - i) = n by omega] at this
        exact this
      · refine br_f (fun q => hlim ((nI_leI (by omega) (by omega)).mp q)) ?_
        refine x_lone_step (pw := fun _ => true) hg h2 hr (by omega) hh N L2 (fun σ3 L3 => ?_)
        refine px_wantedIn hg (by omega) (xP_cK hg N L3.1) (by omega) ?_
        rw [fb_xorI]
        refine zb_c _ (zs_xor_lt (hB_lt _ _ _ _ _) (gL_lt hg _)) _ _ ?_
        rw [nI_add, nI_1]
        exact ih (i + 1) σ3 (by omega) L3
  exact ⟨n + 1, loop n 0 σ1 (by omega) L⟩
/-- how many are wrong on trial, up to a limit -/
theorem x_wrongInTrial {σ0 σ1 : zz_T} {Q : Int32 → zz_T → Prop} {g2 : Nat → Nat} {F : Nat → Nat → Nat} {Wr : Nat → Nat} {r n lim : Nat} (hg : gOK g2) (hd : gDY g2 F Wr r) (hr : r < 100000) (hn : n ≤ 60) (hl : lim ≤ 1000000) (hc : cK σ0 σ1) (P : px_dy σ1 20 g2 F Wr r) (hq : ∀ (x : Nat) (σ2 : zz_T), cK σ0 σ2 → (x = gN g2 (gR g2 r none) F n ∨ (lim ≤ x ∧ x ≤ gN g2 (gR g2 r none) F n)) → Q (nI x) σ2) : pX5_wrongInTrial (nI n) (nI lim) σ1 Q := by
  have loop : ∀ (j i : Nat) (σ2 : zz_T), i + j = n → TrialAt σ0 g2 (gRp g2 r (fun _ => true)) F Wr r i σ2 → pX5_wrongInTrial_5 Q (j + 1) (nI n) (nI lim) (nI (gN g2 (gR g2 r none) F i)) (nI i) σ2 := by
    intro j
    induction j with
    | zero =>
      intro i σ2 hi T
      obtain rfl : i = n := by omega
      exact br_t (nI_le (Nat.le_refl _) (by omega)) (hq _ σ2 T.1 (Or.inl rfl))
    | succ j ih =>
      intro i σ2 hi T
      have b1 := gN_le hg.1 (gR g2 r none) F i
      refine br_f (nI_ge (by omega) (by omega)) ?_
      by_cases hlim : lim ≤ gN g2 (gR g2 r none) F i
      · refine br_t (nI_le hlim (by omega)) (hq _ σ2 T.1 (Or.inr ⟨hlim, ?_⟩))
        have := fb_sm_mono (gS g2 (gR g2 r none) F) i (n - i)
        rw [show i + (n - i) = n by omega] at this
        exact this
      · refine br_f (fun q => hlim ((nI_leI (by omega) (by omega)).mp q)) ?_
        refine x_trial_step (pw := fun _ => true) hg hd hr (by omega) T (fun σ3 T3 _ _ => ?_)
        rw [nI_add, nI_1]
        exact ih (i + 1) σ3 (by omega) T3
  exact ⟨n + 1, loop n 0 σ1 (by omega) ⟨hc, P⟩⟩
