section ZW2
variable {S : zSt} {σ τ : zz_T}
/-- behind starts(), n rows -/
theorem m_rowsR {Q : zz_T → Prop} {n : Nat} {τ1 : zz_T} (hs : sOK S) (hn : n ≤ 1000) (hk : mK τ τ1) (m2 : mP (τ1.1 2) (sg S)) (h13 : τ1.1 0 13 = (-4)) (A : ∀ nh, nh ≤ 3 → mAc τ1 nh 0 0 0 0 (fun _ => 0)) (hq : ∀ τ' : zz_T, mK τ τ' → zz_but mRo τ1 τ' → fl_dy (τ'.1 2) (sg S) (fun h => hF (sg S) h (gR (sg S) (sg S 50) none) (gF0 (sg S) h) n) (fun h => hW (sg S) h (gR (sg S) (sg S 50) none) (gF0 (sg S) h) (gW0 (sg S) h) n) (sg S 50 + n) → mAc τ' (sg S 33) (gN (sg S) (gR (sg S) (sg S 50) none) (gF0 (sg S)) n) (fb_sm (gP (sg S) (gR (sg S) (sg S 50) none) (gF0 (sg S))) n) (fmx (gM (sg S) (gR (sg S) (sg S 50) none) (gF0 (sg S))) n) (fb_sm (fun i => if gS (sg S) (gR (sg S) (sg S 50) none) (gF0 (sg S)) i = 0 then 0 else 1) n) (fun h => fb_sm (hE (sg S) h (gR (sg S) (sg S 50) none) (gF0 (sg S) h)) n) → (0 < n → ∀ h, h < sg S 33 → τ'.1 8 h = nI (hB (sg S) h (gR (sg S) (sg S 50) none) (gF0 (sg S) h) (n - 1))) → τ'.1 0 13 = (-4) → Q τ') : pX6_rowsGo (nI n) τ1 Q := by
  have hr := hs.1.2.2
  refine m_rows (wt := none) hs.1.1 hs.1.2.1 (by omega) hn m2 (A (sg S 33) hs.1.1.1) (by omega) (by omega) (Or.inl ⟨h13, rfl⟩) (fun τ' hb hP h0 hA h8 => hq τ' (hk.tr (mK.of hb.1 (fun q hq => by unfold mRo at hq; unfold mScr; omega) (fun j hj => h0 j (by omega) (by omega) (by omega) (by omega)))) hb hP ?_ h8 (by rw [h0 13 (by omega) (by omega) (by omega) (by omega)]; exact h13))
  simp only [Nat.zero_add, Nat.zero_max] at hA
  exact hA
theorem b_runs (hs : sOK S) (X : RX σ S) (M : RM τ S) (x1 x2 : Int32) : zBi (pX5_runs x1 x2 σ) (pX6_runs x1 x2 τ) := by
  have h3 := hs.1.1.1
  have hr := hs.1.2.2
  unfold pX5_runs pX6_runs
  by_cases h : zIn x1 0 60
  · obtain ⟨n, hn, rfl⟩ := (zIn_c (n := 60) (by omega)).mp h
    by_cases h2 : zIn x2 0 3
    · obtain ⟨c, hc, rfl⟩ := (zIn_c (n := 3) (by omega)).mp h2
      generalize hRd : gR (sg S) (sg S 50) none = R
      have ml : ∀ i, gM (sg S) R (gF0 (sg S)) i ≤ 99 := fun i => fmx_le (fun h _ => fmx_le (fun d _ => hT_le _ _ _ _ _ _))
      refine ⟨nI (if c = 0 then gN (sg S) R (gF0 (sg S)) n else if c = 1 then fb_sm (gP (sg S) R (gF0 (sg S))) n else if c = 2 then fmx (gM (sg S) R (gF0 (sg S))) n else fb_sm (fun i => if gS (sg S) R (gF0 (sg S)) i = 0 then 0 else 1) n), S, hs, x_badRows_y h (br_t rfl (x_out_y h2 (br_t rfl ?_))), m_isFar_y h (br_f (by decide) (m_in_y rfl rfl h2 (br_f (by decide) (m_startsR hs M (fun τ' hk m2 m1 h13 hA => m_rowsR hs (by omega) hk m2 h13 hA (fun τ2 hk2 hb hP hA2 h8 h13' => ?_))))))⟩
      · refine x_trial_0 hs.1.1 X.1 (fun σ2 hc2 P => ?_)
        have loop : ∀ (j i : Nat) (σ3 : zz_T), i + j = n → TrialAt σ (sg S) R (gF0 (sg S)) (gW0 (sg S)) (sg S 50) i σ3 → pX5_runs_43 (fun x s => x = nI (if c = 0 then gN (sg S) R (gF0 (sg S)) n else if c = 1 then fb_sm (gP (sg S) R (gF0 (sg S))) n else if c = 2 then fmx (gM (sg S) R (gF0 (sg S))) n else fb_sm (fun i => if gS (sg S) R (gF0 (sg S)) i = 0 then 0 else 1) n) ∧ RX s S) (j + 1) (nI n) (nI c) (nI (gN (sg S) R (gF0 (sg S)) i)) (nI (fb_sm (gP (sg S) R (gF0 (sg S))) i)) (nI (fmx (gM (sg S) R (gF0 (sg S))) i)) (nI (fb_sm (fun i => if gS (sg S) R (gF0 (sg S)) i = 0 then 0 else 1) i)) (nI i) σ3 := by
          intro j
          induction j with
          | zero =>
            intro i σ3 hi T
            obtain rfl : i = n := by omega
            have RX3 := X.keep T.1 hs
            refine br_t (nI_le (Nat.le_refl _) (by omega)) ?_
            rcases (show c = 0 ∨ c = 1 ∨ c = 2 ∨ c = 3 by omega) with rfl | rfl | rfl | rfl
            · exact br_t rfl ⟨rfl, RX3⟩
            · exact br_f (by decide) (br_t rfl ⟨rfl, RX3⟩)
            · exact br_f (by decide) (br_f (by decide) (br_t rfl ⟨rfl, RX3⟩))
            · exact br_f (by decide) (br_f (by decide) (br_f (by decide) ⟨rfl, RX3⟩))
          | succ j ih =>
            intro i σ3 hi T
            refine br_f (nI_ge (by omega) (by omega)) ?_
            rw [← hRd, ← gRp_t] at T
            refine x_trial_step (pw := fun _ => true) hs.1.1 hs.1.2.1 (by omega) (by omega) T (fun σ4 T4 hot h7 => ?_)
            rw [gRp_t, hRd] at T4 hot h7
            have sl := gS_le h3 R (gF0 (sg S)) i
            have key : ∀ t1 : Nat, t1 = (if gS (sg S) R (gF0 (sg S)) i = 0 then 0 else 1) → pX5_runs_76 (fun x s => x = nI (if c = 0 then gN (sg S) R (gF0 (sg S)) n else if c = 1 then fb_sm (gP (sg S) R (gF0 (sg S))) n else if c = 2 then fmx (gM (sg S) R (gF0 (sg S))) n else fb_sm (fun i => if gS (sg S) R (gF0 (sg S)) i = 0 then 0 else 1) n) ∧ RX s S) (pX5_runs_43 (fun x s => x = nI (if c = 0 then gN (sg S) R (gF0 (sg S)) n else if c = 1 then fb_sm (gP (sg S) R (gF0 (sg S))) n else if c = 2 then fmx (gM (sg S) R (gF0 (sg S))) n else fb_sm (fun i => if gS (sg S) R (gF0 (sg S)) i = 0 then 0 else 1) n) ∧ RX s S) (j + 1)) (nI n) (nI c) (nI (gN (sg S) R (gF0 (sg S)) i) + nI (gS (sg S) R (gF0 (sg S)) i)) (nI (fb_sm (gP (sg S) R (gF0 (sg S))) i)) (nI (fmx (gM (sg S) R (gF0 (sg S))) i)) (nI i) (nI (fb_sm (fun i => if gS (sg S) R (gF0 (sg S)) i = 0 then 0 else 1) i)) (nI t1) σ4 := by
              intro t1 ht1
              unfold pX5_runs_76
              refine px_hottest h3 T4.2.1.1 hot (fun h _ d _ => hT_le _ _ _ _ _ _) ?_
              have fl : fmx (gM (sg S) R (gF0 (sg S))) i ≤ 99 := fmx_le (fun k _ => ml k)
              have gl := ml i
              rw [h7, nI_add, nI_add, nI_add, nI_1, show nI (fmx (fun h => fmx (hT (sg S) h R (gF0 (sg S) h) i) 8) (sg S 33)) = nI (gM (sg S) R (gF0 (sg S)) i) from rfl, z_max (by omega) (by omega), ht1]
              exact ih (i + 1) σ4 (by omega) T4
            rw [gRp_t, hRd]
            by_cases hz : gS (sg S) R (gF0 (sg S)) i = 0
            · refine br_t (by rw [hz]; decide) (key 0 (by rw [if_pos hz]))
            · refine br_f ?_ (key 1 (by rw [if_neg hz]))
              rw [show (0 : Int32) = nI 0 from rfl, nI_leI (by omega) (by omega)]; omega
        exact ⟨n + 1, loop n 0 σ2 (by omega) ⟨hc2, P⟩⟩
      · rw [hRd] at hA2
        have MK := M.keep hk2
        obtain ⟨y1, y2, y3, y4, y5⟩ := hA2
        rcases (show c = 0 ∨ c = 1 ∨ c = 2 ∨ c = 3 by omega) with rfl | rfl | rfl | rfl
        · exact br_t rfl ⟨y1, MK⟩
        · exact br_f (by decide) (br_t rfl ⟨y2, MK⟩)
        · exact br_f (by decide) (br_f (by decide) (br_t rfl ⟨y3, MK⟩))
        · exact br_f (by decide) (br_f (by decide) (br_f (by decide) ⟨y4, MK⟩))
    · exact ⟨-1, S, hs, x_badRows_y h (br_t rfl (x_out_n h2 (br_f (by decide) ⟨rfl, X⟩))), m_isFar_y h (br_f (by decide) (m_in_n rfl rfl h2 (br_t rfl ⟨rfl, M⟩)))⟩
  · exact ⟨-1, S, hs, x_badRows_n h (br_f (by decide) ⟨rfl, X⟩), m_isFar_n h (br_t rfl ⟨rfl, M⟩)⟩
theorem b_black (hs : sOK S) (X : RX σ S) (M : RM τ S) (x1 x2 : Int32) : zBi (pX5_black x1 x2 σ) (pX6_black x1 x2 τ) := by
  have h3 := hs.1.1.1
  have hr := hs.1.2.2
  unfold pX5_black pX6_black
  by_cases h : zIn x1 0 (nI (sg S 33) - 1)
  · obtain ⟨k, hk, rfl⟩ := (zIn_n (by omega)).mp h
    by_cases h2 : zIn x2 0 60
    · obtain ⟨n, hn, rfl⟩ := (zIn_c (n := 60) (by omega)).mp h2
      generalize hRd : gR (sg S) (sg S 50) none = R
      refine ⟨nI (hB (sg S) k R (gF0 (sg S) k) n), S, hs, x_noHead_y X.1.1.1 h (br_t rfl (x_badRows_y h2 (br_t rfl ⟨vp_in_nI (by omega) (by decide), ?_⟩))), m_isHead_y M.1.1.1 h (br_f (by decide) (m_isFar_y h2 (br_f (by decide) (m_startsR hs M (fun τ' hk1 m2 m1 h13 hA => ?_)))))⟩
      · rw [nI_tn (by omega)]
        refine x_lone_0 hs.1.1 hs.1.2.1 hk X.1 (fun σ2 L => ?_)
        have loop : ∀ (j i : Nat) (v : Int32) (σ3 : zz_T), i + j = n + 1 → LoneAt σ (sg S) k (hF (sg S) k R (gF0 (sg S) k) i) σ3 → (i = n + 1 → v = nI (hB (sg S) k R (gF0 (sg S) k) n)) → pX5_black_38 (fun x s => x = nI (hB (sg S) k R (gF0 (sg S) k) n) ∧ RX s S) (j + 1) (nI n) v (nI i) σ3 := by
          intro j
          induction j with
          | zero =>
            intro i v σ3 hi L3 hv
            exact br_t (nI_lt (by omega) (by omega)) ⟨hv (by omega), X.keep L3.1 hs⟩
          | succ j ih =>
            intro i v σ3 hi L3 hv
            refine br_f (nI_nlt (by omega) (by omega)) ?_
            rw [← hRd, ← gRp_t] at L3
            refine x_lone_step (pw := fun _ => true) hs.1.1 (gSim.rf hs.1.1) (by omega) (by omega) hk X.1 L3 (fun σ4 L4 => ?_)
            rw [nI_1]
            rw [gRp_t, hRd] at L4
            rw [gRp_t, hRd]
            exact ih (i + 1) _ σ4 (by omega) L4 (fun q => by rw [show i = n by omega])
        exact ⟨n + 2, loop (n + 1) 0 0 σ2 (by omega) L (fun q => absurd q (by omega))⟩
      · rw [nI_1]
        refine m_rowsR hs (by omega) hk1 m2 h13 hA (fun τ2 hk2 hb hP hA2 h8 h13' => ⟨vp_in_nI (by omega) (by decide), ?_, M.keep hk2⟩)
        rw [nI_tn (by omega), h8 (by omega) k hk, hRd, Nat.add_sub_cancel]
    · exact ⟨-1, S, hs, x_noHead_y X.1.1.1 h (br_t rfl (x_badRows_n h2 (br_f (by decide) ⟨rfl, X⟩))), m_isHead_y M.1.1.1 h (br_f (by decide) (m_isFar_n h2 (br_t rfl ⟨rfl, M⟩)))⟩
  · exact ⟨-1, S, hs, x_noHead_n X.1.1.1 h (br_f (by decide) ⟨rfl, X⟩), m_isHead_n M.1.1.1 h (br_t rfl ⟨rfl, M⟩)⟩
theorem b_ahead (hs : sOK S) (X : RX σ S) (M : RM τ S) (x1 x2 x3 : Int32) : zBi (pX5_ahead x1 x2 x3 σ) (pX6_ahead x1 x2 x3 τ) := by
  have h3 := hs.1.1.1
  have hr := hs.1.2.2
  unfold pX5_ahead pX6_ahead
  by_cases h : zIn x1 0 (nI (sg S 33) - 1)
  · obtain ⟨k, hk, rfl⟩ := (zIn_n (by omega)).mp h
    by_cases h4 : zIn x2 0 7
    · obtain ⟨d, hd, rfl⟩ := (zIn_c (n := 7) (by omega)).mp h4
      by_cases h2 : zIn x3 0 60
      · obtain ⟨n, hn, rfl⟩ := (zIn_c (n := 60) (by omega)).mp h2
        generalize hRd : gR (sg S) (sg S 50) none = R
        refine ⟨nI (hF (sg S) k R (gF0 (sg S) k) n d), S, hs, x_noHead_y X.1.1.1 h (br_t rfl (x_noDot_y h4 (br_t rfl (x_badRows_y h2 (br_t rfl ⟨vp_in_nI (by omega) (by decide), ?_⟩))))), m_isHead_y M.1.1.1 h (br_f (by decide) (m_isDot_y h4 (br_f (by decide) (m_isFar_y h2 (br_f (by decide) (m_startsR hs M (fun τ' hk1 m2 m1 h13 hA => m_rowsR hs (by omega) hk1 m2 h13 hA (fun τ2 hk2 hb hP hA2 h8 h13' => m_heat (by omega) (by omega) ⟨?_, M.keep hk2⟩))))))))⟩
        · rw [nI_tn (by omega)]
          refine x_lone_0 hs.1.1 hs.1.2.1 hk X.1 (fun σ2 L => ?_)
          have loop : ∀ (j i : Nat) (σ3 : zz_T), i + j = n → LoneAt σ (sg S) k (hF (sg S) k R (gF0 (sg S) k) i) σ3 → pX5_ahead_43 (fun x s => x = nI (hF (sg S) k R (gF0 (sg S) k) n d) ∧ RX s S) (j + 1) (nI d) (nI n) (nI i) σ3 := by
            intro j
            induction j with
            | zero =>
              intro i σ3 hi L3
              obtain rfl : i = n := by omega
              refine br_t (nI_le (Nat.le_refl _) (by omega)) ⟨vp_in_nI (by omega) (by decide), ?_, X.keep L3.1 hs⟩
              obtain ⟨wr, _, y⟩ := L3.2.1
              rw [nI_tn (by omega)]
              exact y.2.2.2 d (by omega)
            | succ j ih =>
              intro i σ3 hi L3
              refine br_f (nI_ge (by omega) (by omega)) ?_
              rw [← hRd, ← gRp_t] at L3
              refine x_lone_step (pw := fun _ => true) hs.1.1 (gSim.rf hs.1.1) (by omega) (by omega) hk X.1 L3 (fun σ4 L4 => ?_)
              rw [nI_1]
              rw [gRp_t, hRd] at L4
              exact ih (i + 1) σ4 (by omega) L4
          exact ⟨n + 1, loop n 0 σ2 (by omega) L⟩
        · rw [hRd] at hP
          exact (hP.2.2.2.2 k hk).2.2.2 d (by omega)
      · exact ⟨-1, S, hs, x_noHead_y X.1.1.1 h (br_t rfl (x_noDot_y h4 (br_t rfl (x_badRows_n h2 (br_f (by decide) ⟨rfl, X⟩))))), m_isHead_y M.1.1.1 h (br_f (by decide) (m_isDot_y h4 (br_f (by decide) (m_isFar_n h2 (br_t rfl ⟨rfl, M⟩)))))⟩
    · exact ⟨-1, S, hs, x_noHead_y X.1.1.1 h (br_t rfl (x_noDot_n h4 (br_f (by decide) ⟨rfl, X⟩))), m_isHead_y M.1.1.1 h (br_f (by decide) (m_isDot_n h4 (br_t rfl ⟨rfl, M⟩)))⟩
  · exact ⟨-1, S, hs, x_noHead_n X.1.1.1 h (br_f (by decide) ⟨rfl, X⟩), m_isHead_n M.1.1.1 h (br_t rfl ⟨rfl, M⟩)⟩
end ZW2
