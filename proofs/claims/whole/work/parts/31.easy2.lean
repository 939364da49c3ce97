section ZE2
variable {S : zSt} {σ τ : zz_T}
theorem b_warm (hs : sOK S) (X : RX σ S) (M : RM τ S) (x1 x2 x3 : Int32) : zBi (pX5_warm x1 x2 x3 σ) (pX6_warm x1 x2 x3 τ) := by
  have h3 := hs.1.1.1
  unfold pX5_warm pX6_warm
  by_cases h : zIn x1 0 (nI (sg S 33) - 1)
  · by_cases h2 : zIn x2 0 7
    · by_cases h4 : zIn x3 0 99
      · obtain ⟨i, hi, rfl⟩ := (zIn_n (by omega)).mp h
        obtain ⟨d, hd, rfl⟩ := (zIn_c (n := 7) (by omega)).mp h2
        obtain ⟨v, hv, rfl⟩ := (zIn_c (n := 99) (by omega)).mp h4
        have hg : gAll (gu (sg S) (11 * i + 3 + d) v) := gAll_gu hs.1 (by omega) (by omega) (by omega) (by unfold gBnd; omega)
        have hl := gLive_gu (g := sg S) (k := 11 * i + 3 + d) (v := v) (by omega) (by omega) (by omega)
        have a := RX_set hs X (k := 11 * i + 3 + d) (by omega) hg hl
        have r := RX_at hs X (k := 11 * i + 3 + d) (by unfold gLive; omega)
        rw [zloc_d (by omega) (by omega)] at a r
        have e : 3 + (8 + 3 * i + 1) = 11 + 3 * i + 1 := by omega
        simp only [e] at a r
        refine ⟨nI (sg S (11 * i + 3 + d)), _, hs.g hg, x_noHead_y X.1.1.1 h (br_t rfl (x_noDot_y h2 (br_t rfl (x_out_y h4 (br_t rfl ⟨vp_in_nI (by omega) (by decide), vp_in_nI (by omega) (by decide), vp_in_nI (by omega) (by decide), vp_in_nI (by omega) (by decide), ?_⟩))))), m_isHead_y M.1.1.1 h (br_f (by decide) (m_isDot_y h2 (br_f (by decide) (m_in_y rfl rfl h4 (br_f (by decide) ?_)))))⟩
        · rw [nI_tn (n := i) (by omega), nI_tn (n := d) (by omega)]; exact ⟨r, a⟩
        · rw [show (11 : Int32) = nI 11 from rfl, show (3 : Int32) = nI 3 from rfl, pk_mul, nI_add, nI_add]
          exact m_becomes (by omega) ⟨RM_at hs M (by unfold gLive; omega), RM_set hs M (by omega) hg hl⟩
      · exact ⟨-1, S, hs, x_noHead_y X.1.1.1 h (br_t rfl (x_noDot_y h2 (br_t rfl (x_out_n h4 (br_f (by decide) ⟨rfl, X⟩))))), m_isHead_y M.1.1.1 h (br_f (by decide) (m_isDot_y h2 (br_f (by decide) (m_in_n rfl rfl h4 (br_t rfl ⟨rfl, M⟩)))))⟩
    · exact ⟨-1, S, hs, x_noHead_y X.1.1.1 h (br_t rfl (x_noDot_n h2 (br_f (by decide) ⟨rfl, X⟩))), m_isHead_y M.1.1.1 h (br_f (by decide) (m_isDot_n h2 (br_t rfl ⟨rfl, M⟩)))⟩
  · exact ⟨-1, S, hs, x_noHead_n X.1.1.1 h (br_f (by decide) ⟨rfl, X⟩), m_isHead_n M.1.1.1 h (br_t rfl ⟨rfl, M⟩)⟩
theorem b_alter (hs : sOK S) (X : RX σ S) (M : RM τ S) (x1 x2 x3 : Int32) : zBi (pX5_alter x1 x2 x3 σ) (pX6_alter x1 x2 x3 τ) := by
  have h3 := hs.1.1.1
  unfold pX5_alter pX6_alter pX6_alter_37 pX6_alter_38 pX5_mostOf
  -- the reference's end where the number is not as told
  have bad : ∀ Q : Int32 → zz_T → Prop, Q (-1) τ → pX6_isHead x1 τ (fun r42 s42 => ((r42 = 0 → Q (-1) s42) ∧ (¬ r42 = 0 → (((0 : Int32) = 0 → Q (-1) s42) ∧ (¬ (0 : Int32) = 0 → pX6_becomes ((11 * x1) + x2) x3 s42 (fun r61 s61 => Q r61 s61)))))) := by
    intro Q hQ
    by_cases h : zIn x1 0 (nI (sg S 33) - 1)
    · exact m_isHead_y M.1.1.1 h (br_f (by decide) (br_t rfl hQ))
    · exact m_isHead_n M.1.1.1 h (br_t rfl hQ)
  by_cases h2 : zIn x2 0 1
  · obtain ⟨c, hc, rfl⟩ := (zIn_c (n := 1) (by omega)).mp h2
    by_cases h4 : zIn x3 0 (nI (if c = 0 then 3 else 30))
    · by_cases h : zIn x1 0 (nI (sg S 33) - 1)
      · obtain ⟨i, hi, rfl⟩ := (zIn_n (by omega)).mp h
        obtain ⟨v, hv, rfl⟩ := (zIn_c (by split <;> omega)).mp h4
        have hg : gAll (gu (sg S) (11 * i + c) v) := by
          refine gAll_gu hs.1 (by omega) (by omega) (by omega) ?_
          rcases (show c = 0 ∨ c = 1 by omega) with rfl | rfl
          · rw [if_pos rfl] at hv; unfold gBnd; omega
          · rw [if_neg (by decide)] at hv; unfold gBnd; omega
        have hl := gLive_gu (g := sg S) (k := 11 * i + c) (v := v) (by omega) (by omega) (by omega)
        have a := RX_set hs X (k := 11 * i + c) (by omega) hg hl
        have r := RX_at hs X (k := 11 * i + c) (by unfold gLive; omega)
        rw [zloc_h (by omega) (by omega)] at a r
        have e : 3 + (8 + 3 * i) = 11 + 3 * i := by omega
        simp only [e] at a r
        have mfin : ∀ (Q : Int32 → zz_T → Prop), Q (nI (sg S (11 * i + c))) (zz_i τ 1 (11 * i + c) (nI v)) → pX6_isHead (nI i) τ (fun r42 s42 => ((r42 = 0 → Q (-1) s42) ∧ (¬ r42 = 0 → (((1 : Int32) = 0 → Q (-1) s42) ∧ (¬ (1 : Int32) = 0 → pX6_becomes ((11 * nI i) + nI c) (nI v) s42 (fun r61 s61 => Q r61 s61)))))) := by
          intro Q hQ
          refine m_isHead_y M.1.1.1 h (br_f (by decide) (br_f (by decide) ?_))
          rw [show (11 : Int32) = nI 11 from rfl, pk_mul, nI_add]
          refine m_becomes (by omega) ?_
          rw [RM_at hs M (k := 11 * i + c) (by unfold gLive; omega)]
          exact hQ
        have mRM := RM_set hs M (k := 11 * i + c) (v := v) (by omega) hg hl
        refine ⟨nI (sg S (11 * i + c)), _, hs.g hg, x_noHead_y X.1.1.1 h (br_t rfl (x_out_y h2 (br_t rfl ?_))), ?_⟩
        · rcases (show c = 0 ∨ c = 1 by omega) with rfl | rfl
          · refine br_t rfl (x_out_y h4 (br_t rfl ⟨vp_in_nI (by omega) (by decide), br_t rfl ?_⟩))
            unfold pX5_alter_59 pX0_drive
            rw [nI_tn (n := i) (by omega)]
            exact br_t rfl ⟨r, a⟩
          · refine br_f (by decide) (x_out_y h4 (br_t rfl ⟨vp_in_nI (by omega) (by decide), br_f (by decide) ?_⟩))
            unfold pX5_alter_59 pX0_drive
            rw [nI_tn (n := i) (by omega)]
            exact br_f (by decide) ⟨r, a⟩
        · rcases (show c = 0 ∨ c = 1 by omega) with rfl | rfl
          · exact br_t rfl (m_in_y (b := 3) rfl rfl h4 (mfin (fun x t => x = nI (sg S (11 * i + 0)) ∧ RM t (gu (sg S) (11 * i + 0) v, S.2)) ⟨rfl, mRM⟩))
          · exact br_f (by decide) (br_t rfl (m_in_y (b := 30) rfl rfl h4 (br_f (by decide) (mfin (fun x t => x = nI (sg S (11 * i + 1)) ∧ RM t (gu (sg S) (11 * i + 1) v, S.2)) ⟨rfl, mRM⟩))))
      · refine ⟨-1, S, hs, x_noHead_n X.1.1.1 h (br_f (by decide) ⟨rfl, X⟩), ?_⟩
        rcases (show c = 0 ∨ c = 1 by omega) with rfl | rfl
        · exact br_t rfl (m_in_y (b := 3) rfl rfl h4 (m_isHead_n M.1.1.1 h (br_t rfl ⟨rfl, M⟩)))
        · exact br_f (by decide) (br_t rfl (m_in_y (b := 30) rfl rfl h4 (br_f (by decide) (m_isHead_n M.1.1.1 h (br_t rfl ⟨rfl, M⟩)))))
    · refine ⟨-1, S, hs, ?_, ?_⟩
      · by_cases h : zIn x1 0 (nI (sg S 33) - 1)
        · refine x_noHead_y X.1.1.1 h (br_t rfl (x_out_y h2 (br_t rfl ?_)))
          rcases (show c = 0 ∨ c = 1 by omega) with rfl | rfl
          · exact br_t rfl (x_out_n h4 (br_f (by decide) ⟨rfl, X⟩))
          · exact br_f (by decide) (x_out_n h4 (br_f (by decide) ⟨rfl, X⟩))
        · exact x_noHead_n X.1.1.1 h (br_f (by decide) ⟨rfl, X⟩)
      · rcases (show c = 0 ∨ c = 1 by omega) with rfl | rfl
        · exact br_t rfl (m_in_n (b := 3) rfl rfl h4 (bad (fun x t => x = (-1) ∧ RM t S) ⟨rfl, M⟩))
        · exact br_f (by decide) (br_t rfl (m_in_n (b := 30) rfl rfl h4 (br_t rfl (bad (fun x t => x = (-1) ∧ RM t S) ⟨rfl, M⟩))))
  · refine ⟨-1, S, hs, ?_, ?_⟩
    · by_cases h : zIn x1 0 (nI (sg S 33) - 1)
      · exact x_noHead_y X.1.1.1 h (br_t rfl (x_out_n h2 (br_f (by decide) ⟨rfl, X⟩)))
      · exact x_noHead_n X.1.1.1 h (br_f (by decide) ⟨rfl, X⟩)
    · have n0 : ¬ x2 = 0 := fun q => h2 ((zIn_c (n := 1) (by omega)).mpr ⟨0, by omega, q⟩)
      have n1 : ¬ x2 = 1 := fun q => h2 ((zIn_c (n := 1) (by omega)).mpr ⟨1, by omega, q⟩)
      exact br_f n0 (br_f n1 (bad (fun x t => x = (-1) ∧ RM t S) ⟨rfl, M⟩))
theorem b_tell (hs : sOK S) (X : RX σ S) (M : RM τ S) (x1 x2 : Int32) : zBi (pX5_tell x1 x2 σ) (pX6_tell x1 x2 τ) := by
  unfold pX5_tell pX6_tell pX6_lowOf pX6_mostOf
  by_cases h : zIn x1 0 2
  · obtain ⟨c, hc, rfl⟩ := (zIn_c (n := 2) (by omega)).mp h
    have hv3 : vp_in (nI c) 3 := vp_in_nI (by omega) (by decide)
    by_cases h2 : zIn x2 (zz_f 0 c) (zz_f 1 c)
    · have hv : ∃ v : Nat, x2 = nI v ∧ gBnd (sg S) (34 + c) v := by
        rcases (show c = 0 ∨ c = 1 ∨ c = 2 by omega) with rfl | rfl | rfl
        · obtain ⟨v, h1, h2, rfl⟩ := (zIn_d (a := 1) (n := 60) (by omega) (by omega)).mp h2
          exact ⟨v, rfl, by unfold gBnd; omega⟩
        · obtain ⟨v, h1, rfl⟩ := (zIn_c (n := 9) (by omega)).mp h2
          exact ⟨v, rfl, by unfold gBnd; omega⟩
        · obtain ⟨v, h1, rfl⟩ := (zIn_c (n := 3) (by omega)).mp h2
          exact ⟨v, rfl, by unfold gBnd; omega⟩
      obtain ⟨v, rfl, hb⟩ := hv
      have hg : gAll (gu (sg S) (34 + c) v) := gAll_gu hs.1 (by omega) (by omega) (by omega) hb
      have hl := gLive_gu (g := sg S) (k := 34 + c) (v := v) (by omega) (by omega) (by omega)
      have a := RX_set hs X (k := 34 + c) (by omega) hg hl
      have r := RX_at hs X (k := 34 + c) (by unfold gLive; omega)
      have zl : zloc (34 + c) = (3, c) := by
        rcases (show c = 0 ∨ c = 1 ∨ c = 2 by omega) with rfl | rfl | rfl <;> rfl
      rw [zl] at a r
      refine ⟨nI (sg S (34 + c)), _, hs.g hg, x_out_y h (br_t rfl ⟨hv3, hv3, ?_⟩), m_in_y rfl rfl h (br_f (by decide) ?_)⟩
      · rw [nI_tn (n := c) (by omega)]
        exact x_out_y h2 (br_t rfl ⟨hv3, hv3, r, a⟩)
      · have fin : pX6_becomes (34 + nI c) (nI v) τ (fun x t => x = nI (sg S (34 + c)) ∧ RM t (gu (sg S) (34 + c) v, S.2)) := by
          rw [show (34 : Int32) = nI 34 from rfl, nI_add]
          exact m_becomes (by omega) ⟨RM_at hs M (by unfold gLive; omega), RM_set hs M (by omega) hg hl⟩
        rcases (show c = 0 ∨ c = 1 ∨ c = 2 by omega) with rfl | rfl | rfl
        · exact br_t rfl (br_t rfl (m_in_y rfl rfl h2 (br_f (by decide) fin)))
        · exact br_f (by decide) (br_f (by decide) (br_t rfl (m_in_y rfl rfl h2 (br_f (by decide) fin))))
        · exact br_f (by decide) (br_f (by decide) (br_f (by decide) (m_in_y rfl rfl h2 (br_f (by decide) fin))))
    · refine ⟨-1, S, hs, x_out_y h (br_t rfl ⟨hv3, hv3, ?_⟩), m_in_y rfl rfl h (br_f (by decide) ?_)⟩
      · rw [nI_tn (n := c) (by omega)]
        exact x_out_n h2 (br_f (by decide) ⟨rfl, X⟩)
      · rcases (show c = 0 ∨ c = 1 ∨ c = 2 by omega) with rfl | rfl | rfl
        · exact br_t rfl (br_t rfl (m_in_n rfl rfl h2 (br_t rfl ⟨rfl, M⟩)))
        · exact br_f (by decide) (br_f (by decide) (br_t rfl (m_in_n rfl rfl h2 (br_t rfl ⟨rfl, M⟩))))
        · exact br_f (by decide) (br_f (by decide) (br_f (by decide) (m_in_n rfl rfl h2 (br_t rfl ⟨rfl, M⟩))))
  · exact ⟨-1, S, hs, x_out_n h (br_f (by decide) ⟨rfl, X⟩), m_in_n rfl rfl h (br_t rfl ⟨rfl, M⟩)⟩
theorem b_add (hs : sOK S) (X : RX σ S) (M : RM τ S) (x1 : Int32) : zBi (pX5_add x1 σ) (pX6_add x1 τ) := by
  have h12 := hs.1.1.2.2.2.1.1
  unfold pX5_add pX6_add
  by_cases h : zIn x1 0 255
  · obtain ⟨v, hv, rfl⟩ := (zIn_c (n := 255) (by omega)).mp h
    by_cases hf : sg S 49 = 12
    · refine ⟨-3, S, hs, x_out_y h (br_t rfl (br_f ?_ ⟨rfl, X⟩)), m_in_y rfl rfl h (br_f (by decide) ⟨vp_in_nI (n := 49) (by decide) (by decide), br_t ?_ ⟨rfl, M⟩⟩)⟩
      · rw [X.1.1.2.1, hf]; decide
      · rw [show Int32.toNatClampNeg 49 = 49 from rfl, M.1.1.2.1, hf]; rfl
    · have hg1 : gAll (gu (sg S) (37 + sg S 49) v) := gAll_gu hs.1 (by omega) (by omega) (by omega) (by unfold gBnd; omega)
      have hl1 := gLive_gu (g := sg S) (k := 37 + sg S 49) (v := v) (by omega) (by omega) (by omega)
      have a1 := RX_set hs X (k := 37 + sg S 49) (by omega) hg1 hl1
      have m1 := RM_set hs M (k := 37 + sg S 49) (by omega) hg1 hl1
      have s1 : sOK (gu (sg S) (37 + sg S 49) v, S.2) := hs.g hg1
      have e49 : gu (sg S) (37 + sg S 49) v 49 = sg S 49 := gu_ne (by omega)
      have hg2 : gAll (gu (gu (sg S) (37 + sg S 49) v) 49 (sg S 49 + 1)) := by
        refine gAll_49 hg1 (by omega) (fun i hi => ?_)
        by_cases e : i = sg S 49
        · subst e; rw [gu_at]; omega
        · rw [gu_ne (by omega)]; exact hs.1.1.2.2.2.1.2 i (by omega)
      have hl2 : ∀ j, gLive (gu (gu (sg S) (37 + sg S 49) v) 49 (sg S 49 + 1)) j → j = 49 ∨ gLive (gu (sg S) (37 + sg S 49) v) j ∨ j = 37 + sg S 49 := by
        intro j hj
        unfold gLive at hj ⊢
        rw [gu_at, gu_ne (j := 33) (by omega), gu_ne (j := 51) (by omega), gu_ne (j := 33) (by omega), gu_ne (j := 51) (by omega)] at hj
        rw [gu_ne (j := 33) (by omega), gu_ne (j := 51) (by omega), e49]
        omega
      have xp : xP (zz_i (zz_i σ 5 (sg S 49) (nI v)) 3 5 (nI (sg S 49 + 1))) 3 (gu (gu (sg S) (37 + sg S 49) v) 49 (sg S 49 + 1)) := by
        rw [zloc_l (by omega)] at a1
        have q1 := (xP_iff (σ := zz_i σ 5 (sg S 49) (nI v)) s1.1.1.1 s1.1.1.2.2.2.1.1).mp a1.1
        rw [xP_iff hg2.1.1 hg2.1.2.2.2.1.1]
        intro j hj
        have j70 := gLive_lt hg2.1.1 hg2.1.2.2.2.1.1 hg2.1.2.2.2.2.1 hj
        by_cases e : j = 49
        · subst e; rw [gu_at]; exact zi_at _ _ _ _
        · rw [gu_ne e]
          have nl : ¬ (3 + (zloc j).1 = 3 ∧ (zloc j).2 = 5) := by
            rintro ⟨y1, y2⟩
            exact e (zloc_inj j j70 49 (by omega) (Prod.ext (by show (zloc j).1 = 0; omega) y2))
          have rd : (zz_i (zz_i σ 5 (sg S 49) (nI v)) 3 5 (nI (sg S 49 + 1))).1 (3 + (zloc j).1) (zloc j).2 = (zz_i σ 5 (sg S 49) (nI v)).1 (3 + (zloc j).1) (zloc j).2 := by
            by_cases c3 : 3 + (zloc j).1 = 3
            · rw [c3, zi_j (fun q => nl ⟨c3, q⟩)]
            · rw [zi_k c3]
          rw [rd]
          rcases hl2 j hj with q | q | q
          · exact absurd q e
          · exact q1 j q
          · subst q
            rw [zloc_l (by omega), gu_at]
            exact zi_at _ _ _ _
      have mp : mP ((zz_i (zz_i τ 1 (37 + sg S 49) (nI v)) 1 49 (nI (sg S 49 + 1))).1 1) (gu (gu (sg S) (37 + sg S 49) v) 49 (sg S 49 + 1)) := by
        have q1 := (mP_iff s1.1.1.1 s1.1.1.2.2.2.1.1).mp m1.1
        rw [mP_iff hg2.1.1 hg2.1.2.2.2.1.1]
        intro j hj
        by_cases e : j = 49
        · subst e; rw [gu_at]; exact zi_at _ _ _ _
        · rw [gu_ne e, zi_j e]
          rcases hl2 j hj with q | q | q
          · exact absurd q e
          · exact q1 j q
          · subst q; rw [gu_at]; exact zi_at _ _ _ _
      refine ⟨nI (sg S 49 + 1), (gu (gu (sg S) (37 + sg S 49) v) 49 (sg S 49 + 1), S.2), hs.g hg2, x_out_y h (br_t rfl (br_t ?_ ?_)), m_in_y rfl rfl h (br_f (by decide) ⟨vp_in_nI (n := 49) (by decide) (by decide), br_f ?_ ?_⟩)⟩
      · rw [X.1.1.2.1, show (12 : Int32) = nI 12 from rfl, nI_ltI (by omega) (by omega)]; omega
      · rw [X.1.1.2.1, nI_tn (by omega), zi_at, zi_k (by omega), X.1.1.2.1, nI_1]
        refine ⟨vp_in_nI (by omega) (by decide), rfl, xp, ?_⟩
        exact X.2.keep hs (fun q hq => by rw [zi_k (by omega), zi_k (by omega)])
      · rw [show Int32.toNatClampNeg 49 = 49 from rfl, M.1.1.2.1, show (12 : Int32) = nI 12 from rfl, nI_eq (by omega) (by omega)]; exact hf
      · rw [show Int32.toNatClampNeg 49 = 49 from rfl, M.1.1.2.1, show (37 : Int32) = nI 37 from rfl, nI_add, nI_tn (by omega), zi_at, zi_j (by omega), M.1.1.2.1, nI_1]
        refine ⟨vp_in_nI (n := 49) (by decide) (by decide), vp_in_nI (by omega) (by decide), vp_in_nI (n := 49) (by decide) (by decide), vp_in_nI (n := 49) (by decide) (by decide), vp_in_nI (n := 49) (by decide) (by decide), rfl, mp, ?_⟩
        exact M.2.keep (fun q hq => by rw [zi_k (by omega), zi_k (by omega)]) (fun j hj => by rw [zi_j (by omega), zi_j (by omega)]) (fun j hj => by rw [zi_k (by omega), zi_k (by omega)])
  · exact ⟨-1, S, hs, x_out_n h (br_f (by decide) ⟨rfl, X⟩), m_in_n rfl rfl h (br_t rfl ⟨rfl, M⟩)⟩
end ZE2
