theorem zi_loc {σ : zz_T} {p k j : Nat} {v : Int32} (hk : k < 70) (hj : j < 70) (h : j ≠ k) : (zz_i σ (p + (zloc k).1) (zloc k).2 v).1 (p + (zloc j).1) (zloc j).2 = σ.1 (p + (zloc j).1) (zloc j).2 := by
  by_cases c : (zloc j).1 = (zloc k).1
  · rw [c, zi_j (fun q => h (zloc_inj j hj k hk (Prod.ext c q)))]
  · rw [zi_k (by omega)]
section ZE3
variable {S : zSt} {σ τ : zz_T}
theorem b_see (hs : sOK S) (X : RX σ S) (M : RM τ S) (x1 x2 x3 : Int32) : zBi (pX5_see x1 x2 x3 σ) (pX6_see x1 x2 x3 τ) := by
  have h6 := hs.1.1.2.2.2.2.1
  have h3 := hs.1.1.1
  have h12 := hs.1.1.2.2.2.1.1
  unfold pX5_see pX6_see
  by_cases h : zIn x1 0 40
  · by_cases h2 : zIn x2 0 (nI (sg S 33) - 1)
    · by_cases h4 : zIn x3 0 255
      · obtain ⟨a, ha, rfl⟩ := (zIn_c (n := 40) (by omega)).mp h
        obtain ⟨b, hb, rfl⟩ := (zIn_n (by omega)).mp h2
        obtain ⟨c, hc, rfl⟩ := (zIn_c (n := 255) (by omega)).mp h4
        have x51 : σ.1 7 3 = nI (sg S 51) := X.1.2.2.2.1.1
        have m51 : τ.1 1 51 = nI (sg S 51) := M.1.2.2.2.1.1
        by_cases hf : sg S 51 = 6
        · refine ⟨-3, S, hs, x_out_y h (br_t rfl (x_noHead_y X.1.1.1 h2 (br_t rfl (x_out_y h4 (br_t rfl (br_f ?_ ⟨rfl, X⟩)))))), m_in_y rfl rfl h (br_f (by decide) (m_isHead_y M.1.1.1 h2 (br_f (by decide) (m_in_y rfl rfl h4 (br_f (by decide) ⟨vp_in_nI (n := 51) (by decide) (by decide), br_t ?_ ⟨rfl, M⟩⟩)))))⟩
          · rw [x51, hf]; decide
          · rw [show Int32.toNatClampNeg 51 = 51 from rfl, m51, hf]; rfl
        · generalize hn : sg S 51 = n at *
          have g1 : gAll (gu (sg S) (52 + 0 + 3 * n) a) := gAll_gu hs.1 (by omega) (by omega) (by omega) (by unfold gBnd; omega)
          have g2 : gAll (gu (gu (sg S) (52 + 0 + 3 * n) a) (52 + 1 + 3 * n) b) := gAll_gu g1 (by omega) (by omega) (by omega) (by unfold gBnd; rw [gu_ne (j := 33) (by omega)]; omega)
          have g3 : gAll (gu (gu (gu (sg S) (52 + 0 + 3 * n) a) (52 + 1 + 3 * n) b) (52 + 2 + 3 * n) c) := gAll_gu g2 (by omega) (by omega) (by omega) (by unfold gBnd; omega)
          have rd : ∀ j, j ≠ 51 → j ≠ 52 + 0 + 3 * n → j ≠ 52 + 1 + 3 * n → j ≠ 52 + 2 + 3 * n → gu (gu (gu (gu (sg S) (52 + 0 + 3 * n) a) (52 + 1 + 3 * n) b) (52 + 2 + 3 * n) c) 51 (n + 1) j = sg S j := fun j q0 q1 q2 q3 => by rw [gu_ne q0, gu_ne q3, gu_ne q2, gu_ne q1]
          have v0 : gu (gu (gu (gu (sg S) (52 + 0 + 3 * n) a) (52 + 1 + 3 * n) b) (52 + 2 + 3 * n) c) 51 (n + 1) (52 + 0 + 3 * n) = a := by rw [gu_ne (by omega), gu_ne (by omega), gu_ne (by omega), gu_at]
          have v1 : gu (gu (gu (gu (sg S) (52 + 0 + 3 * n) a) (52 + 1 + 3 * n) b) (52 + 2 + 3 * n) c) 51 (n + 1) (52 + 1 + 3 * n) = b := by rw [gu_ne (by omega), gu_ne (by omega), gu_at]
          have v2 : gu (gu (gu (gu (sg S) (52 + 0 + 3 * n) a) (52 + 1 + 3 * n) b) (52 + 2 + 3 * n) c) 51 (n + 1) (52 + 2 + 3 * n) = c := by rw [gu_ne (by omega), gu_at]
          have v51 : gu (gu (gu (gu (sg S) (52 + 0 + 3 * n) a) (52 + 1 + 3 * n) b) (52 + 2 + 3 * n) c) 51 (n + 1) 51 = n + 1 := gu_at _ _ _
          have g4 : gAll (gu (gu (gu (gu (sg S) (52 + 0 + 3 * n) a) (52 + 1 + 3 * n) b) (52 + 2 + 3 * n) c) 51 (n + 1)) := by
            refine gAll_51 g3 (by omega) (fun i hi => ?_)
            by_cases e : i = n
            · subst e
              rw [show 52 + 3 * i = 52 + 0 + 3 * i by omega, show 53 + 3 * i = 52 + 1 + 3 * i by omega, show 54 + 3 * i = 52 + 2 + 3 * i by omega, gu_ne (by omega), gu_ne (by omega), gu_at, gu_ne (j := 52 + 1 + 3 * i) (by omega), gu_at, gu_at, gu_ne (by omega), gu_ne (by omega), gu_ne (by omega)]
              omega
            · rw [gu_ne (by omega), gu_ne (by omega), gu_ne (by omega), gu_ne (by omega), gu_ne (by omega), gu_ne (by omega), gu_ne (by omega), gu_ne (by omega), gu_ne (by omega), gu_ne (by omega), gu_ne (by omega), gu_ne (by omega)]
              exact hs.1.1.2.2.2.2.2 i (by omega)
          generalize hG : gu (gu (gu (gu (sg S) (52 + 0 + 3 * n) a) (52 + 1 + 3 * n) b) (52 + 2 + 3 * n) c) 51 (n + 1) = G at rd v0 v1 v2 v51 g4
          have G33 : G 33 = sg S 33 := rd 33 (by omega) (by omega) (by omega) (by omega)
          have G49 : G 49 = sg S 49 := rd 49 (by omega) (by omega) (by omega) (by omega)
          have lv : ∀ j, gLive G j → j = 51 ∨ j = 52 + 0 + 3 * n ∨ j = 52 + 1 + 3 * n ∨ j = 52 + 2 + 3 * n ∨ gLive (sg S) j := by
            intro j hj
            unfold gLive at hj ⊢
            rw [G33, G49, v51] at hj
            rw [hn]
            omega
          have z0 : zloc (52 + 0 + 3 * n) = (5, n) := zloc_s (by omega)
          have z1 : zloc (52 + 1 + 3 * n) = (6, n) := zloc_s (by omega)
          have z2 : zloc (52 + 2 + 3 * n) = (7, n) := zloc_s (by omega)
          have z3 : zloc 51 = (4, 3) := rfl
          have xp : xP (zz_i (zz_i (zz_i (zz_i σ 8 n (nI a)) 9 n (nI b)) 10 n (nI c)) 7 3 (nI (n + 1))) 3 G := by
            rw [xP_iff g4.1.1 g4.1.2.2.2.1.1]
            intro j hj
            have j70 := gLive_lt g4.1.1 g4.1.2.2.2.1.1 g4.1.2.2.2.2.1 hj
            have w0 := fun (ρ : zz_T) (v : Int32) (q : j ≠ 52 + 0 + 3 * n) => zi_loc (σ := ρ) (p := 3) (k := 52 + 0 + 3 * n) (j := j) (v := v) (by omega) j70 q
            have w1 := fun (ρ : zz_T) (v : Int32) (q : j ≠ 52 + 1 + 3 * n) => zi_loc (σ := ρ) (p := 3) (k := 52 + 1 + 3 * n) (j := j) (v := v) (by omega) j70 q
            have w2 := fun (ρ : zz_T) (v : Int32) (q : j ≠ 52 + 2 + 3 * n) => zi_loc (σ := ρ) (p := 3) (k := 52 + 2 + 3 * n) (j := j) (v := v) (by omega) j70 q
            have w3 := fun (ρ : zz_T) (v : Int32) (q : j ≠ 51) => zi_loc (σ := ρ) (p := 3) (k := 51) (j := j) (v := v) (by omega) j70 q
            rw [z0] at w0
            rw [z1] at w1
            rw [z2] at w2
            rw [z3] at w3
            by_cases e3 : j = 51
            · subst e3; rw [v51]; exact zi_at _ _ _ _
            · refine (w3 _ _ e3).trans ?_
              by_cases e2 : j = 52 + 2 + 3 * n
              · rw [e2, v2, z2]; exact zi_at _ _ _ _
              · refine (w2 _ _ e2).trans ?_
                by_cases e1 : j = 52 + 1 + 3 * n
                · rw [e1, v1, z1]; exact zi_at _ _ _ _
                · refine (w1 _ _ e1).trans ?_
                  by_cases e0 : j = 52 + 0 + 3 * n
                  · rw [e0, v0, z0]; exact zi_at _ _ _ _
                  · refine (w0 _ _ e0).trans ?_
                    rw [rd j e3 e0 e1 e2]
                    rcases lv j hj with q | q | q | q | q
                    · exact absurd q e3
                    · exact absurd q e0
                    · exact absurd q e1
                    · exact absurd q e2
                    · exact (xP_iff h3 h12).mp X.1 j q
          have mp : mP ((zz_i (zz_i (zz_i (zz_i τ 1 (52 + 3 * n) (nI a)) 1 (52 + 3 * n + 1) (nI b)) 1 (52 + 3 * n + 2) (nI c)) 1 51 (nI (n + 1))).1 1) G := by
            rw [mP_iff g4.1.1 g4.1.2.2.2.1.1]
            intro j hj
            by_cases e3 : j = 51
            · subst e3; rw [v51]; exact zi_at _ _ _ _
            · rw [zi_j e3]
              by_cases e2 : j = 52 + 2 + 3 * n
              · rw [e2, v2, show 52 + 3 * n + 2 = 52 + 2 + 3 * n by omega]; exact zi_at _ _ _ _
              · rw [zi_j (by omega)]
                by_cases e1 : j = 52 + 1 + 3 * n
                · rw [e1, v1, show 52 + 3 * n + 1 = 52 + 1 + 3 * n by omega]; exact zi_at _ _ _ _
                · rw [zi_j (by omega)]
                  by_cases e0 : j = 52 + 0 + 3 * n
                  · rw [e0, v0, show 52 + 3 * n = 52 + 0 + 3 * n by omega]; exact zi_at _ _ _ _
                  · rw [zi_j (by omega), rd j e3 e0 e1 e2]
                    rcases lv j hj with q | q | q | q | q
                    · exact absurd q e3
                    · exact absurd q e0
                    · exact absurd q e1
                    · exact absurd q e2
                    · exact (mP_iff h3 h12).mp M.1 j q
          refine ⟨nI (n + 1), (G, S.2), hs.g g4, x_out_y h (br_t rfl (x_noHead_y X.1.1.1 h2 (br_t rfl (x_out_y h4 (br_t rfl (br_t ?_ ?_)))))), m_in_y rfl rfl h (br_f (by decide) (m_isHead_y M.1.1.1 h2 (br_f (by decide) (m_in_y rfl rfl h4 (br_f (by decide) ⟨vp_in_nI (n := 51) (by decide) (by decide), br_f ?_ ?_⟩)))))⟩
          · rw [x51, show (6 : Int32) = nI 6 from rfl, nI_ltI (by omega) (by omega)]; omega
          · unfold pX2_append
            rw [zi_k (c := 7) (k := 7 + 1) (by omega), x51, zi_k (c := 7) (k := 7 + 2) (by omega), zi_k (c := 7) (k := 7 + 1) (by omega), x51, zi_k (c := 7) (k := 7 + 3) (by omega), zi_k (c := 7) (k := 7 + 2) (by omega), zi_k (c := 7) (k := 7 + 1) (by omega), x51, nI_tn (by omega), nI_1]
            refine ⟨vp_in_nI (by omega) (by decide), vp_in_nI (by omega) (by decide), vp_in_nI (by omega) (by decide), zi_at _ _ _ _, xp, ?_⟩
            exact X.2.keep hs (fun q hq => by rw [zi_k (by omega), zi_k (by omega), zi_k (by omega), zi_k (by omega)])
          · rw [show Int32.toNatClampNeg 51 = 51 from rfl, m51, show (6 : Int32) = nI 6 from rfl, nI_eq (by omega) (by omega)]; exact hf
          · rw [show Int32.toNatClampNeg 51 = 51 from rfl, m51, show (52 : Int32) = nI 52 from rfl, show (3 : Int32) = nI 3 from rfl, pk_mul, nI_add, show (1 : Int32) = nI 1 from rfl, show (2 : Int32) = nI 2 from rfl, nI_add, nI_add, nI_tn (by omega), nI_tn (by omega), nI_tn (by omega), zi_at, zi_j (by omega), zi_j (by omega), zi_j (by omega), m51, nI_add]
            refine ⟨vp_in_nI (n := 51) (by decide) (by decide), vp_in_nI (by omega) (by decide), vp_in_nI (by omega) (by decide), vp_in_nI (by omega) (by decide), vp_in_nI (n := 51) (by decide) (by decide), vp_in_nI (n := 51) (by decide) (by decide), vp_in_nI (n := 51) (by decide) (by decide), rfl, mp, ?_⟩
            exact M.2.keep (fun q hq => by rw [zi_k (by omega), zi_k (by omega), zi_k (by omega), zi_k (by omega)]) (fun j hj => by rw [zi_j (by omega), zi_j (by omega), zi_j (by omega), zi_j (by omega)]) (fun j hj => by rw [zi_k (by omega), zi_k (by omega), zi_k (by omega), zi_k (by omega)])
      · exact ⟨-1, S, hs, x_out_y h (br_t rfl (x_noHead_y X.1.1.1 h2 (br_t rfl (x_out_n h4 (br_f (by decide) ⟨rfl, X⟩))))), m_in_y rfl rfl h (br_f (by decide) (m_isHead_y M.1.1.1 h2 (br_f (by decide) (m_in_n rfl rfl h4 (br_t rfl ⟨rfl, M⟩)))))⟩
    · exact ⟨-1, S, hs, x_out_y h (br_t rfl (x_noHead_n X.1.1.1 h2 (br_f (by decide) ⟨rfl, X⟩))), m_in_y rfl rfl h (br_f (by decide) (m_isHead_n M.1.1.1 h2 (br_t rfl ⟨rfl, M⟩)))⟩
  · exact ⟨-1, S, hs, x_out_n h (br_f (by decide) ⟨rfl, X⟩), m_in_n rfl rfl h (br_t rfl ⟨rfl, M⟩)⟩
/-- behind starts() -/
theorem m_startsR {Q : zz_T → Prop} (hs : sOK S) (M : RM τ S) (hq : ∀ τ' : zz_T, mK τ τ' → mP (τ'.1 2) (sg S) → mP (τ'.1 1) (sg S) → τ'.1 0 13 = (-4) → (∀ nh, nh ≤ 3 → mAc τ' nh 0 0 0 0 (fun _ => 0)) → Q τ') : pX6_starts τ Q := by
  refine m_starts (fun τ' hb e2 h0 h13 hA => hq τ' (mK.of hb.1 (fun q hq => by unfold mScr; omega) (fun j hj => h0 j (by omega) (by omega) (by omega) (by omega) (by omega))) ?_ ?_ h13 hA)
  · exact M.1.kept hs.1.1 e2
  · rw [hb.1 1 (by omega)]; exact M.1
theorem x_sumL {k : Nat} {Q : Int32 → zz_T → Prop} {f : Nat → Nat} (hf : ∀ d, d < 8 → σ.1 (k + 1) d = nI (f d)) (hq : Q (nI (fb_sm f 8)) σ) : pX0_heatSum k σ Q := by
  have loop : ∀ (j d : Nat), d + j = 8 → pX0_heatSum_4 k Q (j + 1) (nI (fb_sm f d)) (nI d) σ := by
    intro j
    induction j with
    | zero =>
      intro d hd
      obtain rfl : d = 8 := by omega
      exact br_t (by decide) hq
    | succ j ih =>
      intro d hd
      refine br_f (by rw [show (8 : Int32) = nI 8 from rfl, nI_leI (by omega) (by omega)]; omega) ⟨vp_in_nI (by omega) (by decide), ?_⟩
      rw [nI_tn (by omega), hf d (by omega), nI_add, nI_1]
      exact ih (d + 1) (by omega)
  exact ⟨9, loop 8 0 rfl⟩
theorem m_heatsOf {h : Nat} {Q : Int32 → zz_T → Prop} {f : Nat → Nat} (hh : h < 3) (hf : ∀ d, d < 8 → τ.1 2 (11 * h + 3 + d) = nI (f d)) (hq : Q (nI (fb_sm f 8)) τ) : pX6_heatsOf (nI h) τ Q := by
  have loop : ∀ (j d : Nat), d + j = 8 → pX6_heatsOf_4 Q (j + 1) (nI h) (nI (fb_sm f d)) (nI d) τ := by
    intro j
    induction j with
    | zero =>
      intro d hd
      obtain rfl : d = 8 := by omega
      exact br_t (by decide) hq
    | succ j ih =>
      intro d hd
      refine br_f (by rw [show (8 : Int32) = nI 8 from rfl, nI_leI (by omega) (by omega)]; omega) (m_heat hh (by omega) ?_)
      rw [hf d (by omega), nI_add, nI_1]
      exact ih (d + 1) (by omega)
  exact ⟨9, loop 8 0 rfl⟩
theorem m_sumOf {c nh : Nat} {f : Nat → Nat} {Q : Int32 → zz_T → Prop} (hc : c < 11) (h3 : nh ≤ 3) (h33 : τ.1 2 33 = nI nh) (hf : ∀ h, h < nh → τ.1 2 (11 * h + c) = nI (f h)) (hq : Q (nI (fb_sm f nh)) τ) : pX6_sumOf (nI c) τ Q := by
  have loop : ∀ (j h : Nat), h + j = nh → pX6_sumOf_4 Q (j + 1) (nI c) (nI (fb_sm f h)) (nI h) τ := by
    intro j
    induction j with
    | zero =>
      intro h hj
      obtain rfl : h = nh := by omega
      exact ⟨vp_in_nI (n := 33) (by decide) (by decide), br_t (by rw [show Int32.toNatClampNeg 33 = 33 from rfl, h33]; exact nI_le (by omega) (by omega)) hq⟩
    | succ j ih =>
      intro h hj
      refine ⟨vp_in_nI (n := 33) (by decide) (by decide), br_f (by rw [show Int32.toNatClampNeg 33 = 33 from rfl, h33]; exact nI_ge (by omega) (by omega)) (m_of (by omega) hc ?_)⟩
      rw [hf h (by omega), nI_add, nI_1]
      exact ih (h + 1) (by omega)
  exact ⟨nh + 1, loop nh 0 (by omega)⟩
theorem b_head (hs : sOK S) (X : RX σ S) (M : RM τ S) (x1 x2 : Int32) : zBi (pX5_head x1 x2 σ) (pX6_head x1 x2 τ) := by
  have h3 := hs.1.1.1
  unfold pX5_head pX6_head
  by_cases h : zIn x1 0 (nI (sg S 33) - 1)
  · obtain ⟨i, hi, rfl⟩ := (zIn_n (by omega)).mp h
    by_cases h2 : zIn x2 0 3
    · obtain ⟨c, hc, rfl⟩ := (zIn_c (n := 3) (by omega)).mp h2
      by_cases hc3 : c = 3
      · subst hc3
        refine ⟨nI (fb_sm (gF0 (sg S) i) 8), S, hs, x_noHead_y X.1.1.1 h (br_t rfl ⟨vp_in_nI (by omega) (by decide), ?_⟩), m_isHead_y M.1.1.1 h (br_f (by decide) (m_in_y rfl rfl h2 (br_f (by decide) (m_startsR hs M (fun τ' hk m2 m1 _ _ => br_t rfl (m_heatsOf (by omega) (m2.2.2.2.2 i hi).2.2.2 ⟨rfl, M.keep hk⟩))))))⟩
        rw [nI_tn (by omega)]
        exact br_f (by decide) (br_f (by decide) (br_f (by decide) (br_t rfl (x_sumL (X.1.2.2.2.2 i hi).2.2.2 ⟨rfl, X⟩))))
      · refine ⟨nI (sg S (11 * i + c)), S, hs, x_noHead_y X.1.1.1 h (br_t rfl ⟨vp_in_nI (by omega) (by decide), ?_⟩), m_isHead_y M.1.1.1 h (br_f (by decide) (m_in_y rfl rfl h2 (br_f (by decide) (m_startsR hs M (fun τ' hk m2 m1 _ _ => br_f ?_ (m_of (by omega) (by omega) ⟨?_, M.keep hk⟩))))))⟩
        · rw [nI_tn (by omega)]
          obtain ⟨y0, y1, y2, y3⟩ := X.1.2.2.2.2 i hi
          rcases (show c = 0 ∨ c = 1 ∨ c = 2 by omega) with rfl | rfl | rfl
          · exact br_t rfl ⟨y0, X⟩
          · exact br_f (by decide) (br_t rfl ⟨y1, X⟩)
          · exact br_f (by decide) (br_f (by decide) (br_t rfl ⟨y2, X⟩))
        · rw [show (3 : Int32) = nI 3 from rfl, nI_eq (by omega) (by omega)]; exact hc3
        · exact (mP_iff h3 hs.1.1.2.2.2.1.1).mp m2 _ (by unfold gLive; omega)
    · have n : ∀ c, c ≤ 3 → ¬ x2 = nI c := fun c hc q => h2 ((zIn_c (n := 3) (by omega)).mpr ⟨c, hc, q⟩)
      exact ⟨-1, S, hs, x_noHead_y X.1.1.1 h (br_t rfl ⟨vp_in_nI (by omega) (by decide), br_f (n 0 (by omega)) (br_f (n 1 (by omega)) (br_f (n 2 (by omega)) (br_f (n 3 (by omega)) ⟨rfl, X⟩)))⟩), m_isHead_y M.1.1.1 h (br_f (by decide) (m_in_n rfl rfl h2 (br_t rfl ⟨rfl, M⟩)))⟩
  · exact ⟨-1, S, hs, x_noHead_n X.1.1.1 h (br_f (by decide) ⟨rfl, X⟩), m_isHead_n M.1.1.1 h (br_t rfl ⟨rfl, M⟩)⟩
theorem b_dot (hs : sOK S) (X : RX σ S) (M : RM τ S) (x1 x2 x3 : Int32) : zBi (pX5_dot x1 x2 x3 σ) (pX6_dot x1 x2 x3 τ) := by
  have h3 := hs.1.1.1
  have hr := hs.1.2.2
  unfold pX5_dot pX6_dot
  by_cases h : zIn x1 0 (nI (sg S 33) - 1)
  · obtain ⟨i, hi, rfl⟩ := (zIn_n (by omega)).mp h
    by_cases h2 : zIn x2 0 7
    · obtain ⟨d, hd, rfl⟩ := (zIn_c (n := 7) (by omega)).mp h2
      by_cases h4 : zIn x3 0 1
      · obtain ⟨c, hc, rfl⟩ := (zIn_c (n := 1) (by omega)).mp h4
        have hb := hs.1.1.2.1 i hi
        have hf := (hs.1.2.1.1 i hi).2 d (by omega)
        obtain ⟨y0, y1, y2, y3⟩ := X.1.2.2.2.2 i hi
        rcases (show c = 0 ∨ c = 1 by omega) with rfl | rfl
        · refine ⟨nI (gF0 (sg S) i d), S, hs, x_noHead_y X.1.1.1 h (br_t rfl (x_noDot_y h2 (br_t rfl (x_out_y h4 (br_t rfl ⟨vp_in_nI (by omega) (by decide), br_t rfl ⟨vp_in_nI (by omega) (by decide), ?_, X⟩⟩))))), m_isHead_y M.1.1.1 h (br_f (by decide) (m_isDot_y h2 (br_f (by decide) (m_isPart_y h4 (br_f (by decide) (m_startsR hs M (fun τ' hk m2 m1 _ _ => br_t rfl (m_heat (by omega) (by omega) ⟨(m2.2.2.2.2 i hi).2.2.2 d (by omega), M.keep hk⟩))))))))⟩
          rw [nI_tn (n := i) (by omega), nI_tn (n := d) (by omega)]
          exact y3 d (by omega)
        · refine ⟨nI (zs_gn (sg S (11 * i)) (sg S (11 * i + 1)) (gF0 (sg S) i) (gL (sg S) (sg S 50 + 0)) (gL (sg S) (sg S 50 + 1)) d), S, hs, x_noHead_y X.1.1.1 h (br_t rfl (x_noDot_y h2 (br_t rfl (x_out_y h4 (br_t rfl ⟨vp_in_nI (by omega) (by decide), br_f (by decide) ?_⟩))))), m_isHead_y M.1.1.1 h (br_f (by decide) (m_isDot_y h2 (br_f (by decide) (m_isPart_y h4 (br_f (by decide) (m_startsR hs M (fun τ' hk m2 m1 _ _ => br_f (by decide) ⟨vp_in_nI (n := 50) (by decide) (by decide), ?_⟩)))))))⟩
          · rw [nI_tn (n := i) (by omega)]
            refine px_wantedIn (i := 0) hs.1.1 (by omega) X.1 (by omega) (px_wantedIn (i := 1) hs.1.1 (by omega) X.1 (by omega) ?_)
            exact hx_gain (f := gF0 (sg S) i) y0 hb.1 y1 hb.2 (y3 d (by omega)) hf (gL_lt hs.1.1 _) (gL_lt hs.1.1 _) (by omega) ⟨rfl, X⟩
          · rw [show Int32.toNatClampNeg 50 = 50 from rfl, m2.1.2.2]
            refine m_lineAt hs.1.1 m2.1.2.1 m2.2.2.1 (by omega) ⟨vp_in_nI (n := 50) (by decide) (by decide), ?_⟩
            rw [m2.1.2.2, nI_1]
            refine m_lineAt hs.1.1 m2.1.2.1 m2.2.2.1 (by omega) ?_
            obtain ⟨w0, w1, w2, w3⟩ := m2.2.2.2.2 i hi
            exact m_gets (f := gF0 (sg S) i) (by omega) (by omega) (gL_lt hs.1.1 _) (gL_lt hs.1.1 _) w0 hb.1 w1 hb.2 (w3 d (by omega)) hf ⟨rfl, M.keep hk⟩
      · exact ⟨-1, S, hs, x_noHead_y X.1.1.1 h (br_t rfl (x_noDot_y h2 (br_t rfl (x_out_n h4 (br_f (by decide) ⟨rfl, X⟩))))), m_isHead_y M.1.1.1 h (br_f (by decide) (m_isDot_y h2 (br_f (by decide) (m_isPart_n h4 (br_t rfl ⟨rfl, M⟩)))))⟩
    · exact ⟨-1, S, hs, x_noHead_y X.1.1.1 h (br_t rfl (x_noDot_n h2 (br_f (by decide) ⟨rfl, X⟩))), m_isHead_y M.1.1.1 h (br_f (by decide) (m_isDot_n h2 (br_t rfl ⟨rfl, M⟩)))⟩
  · exact ⟨-1, S, hs, x_noHead_n X.1.1.1 h (br_f (by decide) ⟨rfl, X⟩), m_isHead_n M.1.1.1 h (br_t rfl ⟨rfl, M⟩)⟩
end ZE3
