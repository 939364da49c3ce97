section ZD
variable {σ σ' τ τ' : zz_T} {n p : Nat} {b : Nat → Nat} {G : Nat → Nat} {M : Nat}
def zd_lo (r : Nat) : Nat := if r = 0 then 1 else 0
def zd_hi (r : Nat) : Nat := if r = 0 then 60 else if r = 1 then 9 else 3
theorem zd_lohi : ∀ r, r < 3 → zz_f 0 r = nI (zd_lo r) ∧ zz_f 1 r = nI (zd_hi r) ∧ zd_lo r ≤ 1000 ∧ zd_hi r ≤ 1000 := by decide +kernel
theorem zd_rule {r p1 : Nat} (hG : zd_ok G M) (hr : r < 3) (T : zt_T σ n b) (U : zt_U τ n b) (hp1 : p1 ≤ n) (x6 : σ.1 1 6 = nI p1) (X : zd_X σ G M) (t11 : τ.1 0 11 = 0) (t7 : τ.1 0 7 = nI p1) (D : zd_M τ G M) : zd_o σ τ n b (zd_sp b n p1 (zd_lo r) (zd_hi r) (gu G (34 + r)) M) (pX4_readRule 1 20 (nI r) σ) (fun Q => pX6_readLine_95 Q (nI (4 + r)) τ) := by
  have n160 := T.2.1
  have h3 := hG.1.1.1
  have h12 := hG.1.1.2.2.2.1.1
  have hf1 := zt_f_le (b := b) hp1
  have he1 := zt_e_le (b := b) hp1
  have hf2 := zt_f_le (b := b) he1.2
  have he2 := zt_e_le (b := b) he1.2
  obtain ⟨f0, f1, ll, lh⟩ := zd_lohi r hr
  have tr : Int32.toNatClampNeg (nI r) = r := nI_tn (by omega)
  have vr : vp_in (nI r) 3 := vp_in_nI (by omega) (by decide)
  have ne7 : ¬ nI (4 + r) = 7 := fun z => by have := (nI_eq (b := 7) (by omega) (by omega)).mp z; omega
  have nl4 : ¬ nI (4 + r) < 4 := fun z => by have := (nI_ltI (b := 4) (by omega) (by omega)).mp z; omega
  have sub : nI (4 + r) - 4 = nI r := by rw [show (4 : Int32) = nI 4 from rfl, pk_sub (by omega)]; congr 1; omega
  have ix : (34 : Int32) + nI (4 + r) - 4 = nI (34 + r) := by rw [show (34 : Int32) = nI 34 from rfl, show (4 : Int32) = nI 4 from rfl, nI_add, pk_sub (by omega)]; congr 1; omega
  have low : ∀ (Q : Int32 → zz_T → Prop) (τ1 : zz_T), Q (nI (zd_lo r)) τ1 → pX6_lowOf (nI r) τ1 Q := by
    intro Q τ1 hQ
    rcases (show r = 0 ∨ r = 1 ∨ r = 2 by omega) with rfl | rfl | rfl
    · exact br_t rfl hQ
    · exact br_f (by decide) hQ
    · exact br_f (by decide) hQ
  have mos : ∀ (Q : Int32 → zz_T → Prop) (τ1 : zz_T), Q (nI (zd_hi r)) τ1 → pX6_mostOf (nI r) τ1 Q := by
    intro Q τ1 hQ
    rcases (show r = 0 ∨ r = 1 ∨ r = 2 by omega) with rfl | rfl | rfl
    · exact br_t rfl hQ
    · exact br_f (by decide) (br_t rfl hQ)
    · exact br_f (by decide) (br_f (by decide) hQ)
  by_cases k1 : zt_ok b n p1 = true
  · have ref : ∀ (Q : zz_T → Prop), (zt_s b n p1 ≠ 2 → ∀ τ' : zz_T, zd_KM τ τ' → zt_F τ' 2 (zt_f b n p1) → Q τ') → (zt_s b n p1 = 2 → ¬ (zd_lo r ≤ zt_v b n p1 ∧ zt_v b n p1 ≤ zd_hi r) → ∀ τ' : zz_T, zd_KM τ τ' → zt_F τ' 3 (zt_f b n p1) → Q τ') → (zt_s b n p1 = 2 → (zd_lo r ≤ zt_v b n p1 ∧ zt_v b n p1 ≤ zd_hi r) → ∀ τ' : zz_T, zd_KM τ τ' → zd_M τ' (gu G (34 + r) (zt_v b n p1)) M → (zt_R τ' n b (zt_e b n p1) ∨ (zt_ok b n (zt_e b n p1) = false ∧ zt_F τ' 1 (zt_f b n (zt_e b n p1)))) → ((τ'.1 0 11 = 0 → ((τ'.1 0 9 = 3 → pX6_readLine_133 Q 1 τ') ∧ (¬ τ'.1 0 9 = 3 → pX6_readLine_133 Q 0 τ'))) ∧ (¬ τ'.1 0 11 = 0 → pX6_readLine_137 Q τ'))) → pX6_readLine_95 Q (nI (4 + r)) τ := by
      intro Q q2 q3 qy
      refine m_95 U hp1 t11 t7 (fun z => by rw [k1] at z; cases z) (fun _ τ1 y1 R1 => ?_)
      unfold pX6_readLineOf
      refine br_f ne7 (br_f nl4 ?_)
      rw [sub, ix, nI_tn (n := 34 + r) (by omega)]
      refine low _ τ1 (mos _ τ1 ?_)
      have U1 := U.kk y1.k
      have vps : ∀ P : Prop, P → vp_in (nI (34 + r)) 70 ∧ P := fun P hP => ⟨vp_in_nI (by omega) (by decide), hP⟩
      have flt : ∀ (cc ff v : Nat) (τ2 : zz_T), 0 < cc → cc ≤ 5 → zt_M τ1 τ2 → zt_F τ2 cc ff → (∀ τ' : zz_T, zd_KM τ τ' → zt_F τ' cc ff → Q τ') → (fun s109 : zz_T => ((s109.1 0 11 = 0 → ((s109.1 0 9 = 3 → pX6_readLine_133 Q 1 s109) ∧ (¬ s109.1 0 9 = 3 → pX6_readLine_133 Q 0 s109))) ∧ (¬ s109.1 0 11 = 0 → pX6_readLine_137 Q s109))) (zz_i τ2 4 (34 + r) (nI v)) := by
        intro cc ff v τ2 h0 h5 y2 F hQ
        have F' : zt_F (zz_i τ2 4 (34 + r) (nI v)) cc ff := by
          unfold zt_F
          rw [zi_k (by omega)]
          exact F
        exact br_f (by rw [F'.1]; exact fun z => by have := (nI_z (by omega)).mp z; omega) (m_reads_f F'.1 h0 h5 (hQ _ ((y1.k.tr y2.k).i (by omega)) F'))
      refine m_num U1 hp1 R1 ll lh (fun e τ2 y2 F => vps _ (flt 2 _ 0 τ2 (by omega) (by omega) y2 F (q2 e))) (fun e rr τ2 y2 F => vps _ (flt 3 _ 0 τ2 (by omega) (by omega) y2 F (q3 e rr))) (fun e rr τ2 y2 d => vps _ (qy e rr _ ((y1.k.tr y2.k).i (by omega)) ?_ ?_))
      · refine ⟨fun j hj => ?_, fun r' hr' => ?_⟩
        · by_cases j1 : j = 34 + r
          · rw [j1, zi_at, gu_at]
          · rw [zi_j j1, gu_ne j1, y2.1 4 (by omega), y1.1 4 (by omega)]
            exact D.1 j hj
        · rw [zi_k (by omega), y2.1 5 (by omega), y1.1 5 (by omega)]
          exact D.2 r' hr'
      · unfold zt_R zt_F
        rw [zi_k (by omega)]
        exact d
    by_cases s2 : zt_s b n p1 = 2
    · by_cases rg : zd_lo r ≤ zt_v b n p1 ∧ zt_v b n p1 ≤ zd_hi r
      · have adv1 := zt_adv hp1 (show zt_s b n p1 ≠ 0 by omega)
        have gA : gAll (gu G (34 + r) (zt_v b n p1)) := by
          refine gAll_gu hG.1 (by omega) (by omega) (by omega) ?_
          unfold zd_lo zd_hi at rg
          unfold gBnd
          rcases (show r = 0 ∨ r = 1 ∨ r = 2 by omega) with rfl | rfl | rfl
          · simp only [if_true] at rg; omega
          · simp only [Nat.one_ne_zero, if_false, if_true] at rg; omega
          · simp only [show ¬ (2 : Nat) = 0 by omega, show ¬ (2 : Nat) = 1 by omega, if_false] at rg; omega
        have okG : zd_ok (gu G (34 + r) (zt_v b n p1)) M := by
          refine ⟨gA, by rw [gu_ne (by omega)]; exact hG.2.1, by rw [gu_ne (by omega)]; exact hG.2.2.1, fun j h1 h2 => ?_, hG.2.2.2.2.1, fun z => by rw [gu_ne (by omega)]; exact hG.2.2.2.2.2 z⟩
          rw [gu_ne (j := 33) (by omega)] at h1
          rw [gu_ne (by omega)]
          exact hG.2.2.2.1 j h1 h2
        have zl : zloc (34 + r) = (3, r) := by
          rcases (show r = 0 ∨ r = 1 ∨ r = 2 by omega) with rfl | rfl | rfl <;> rfl
        have cls : ∀ (Q : Int32 → zz_T → Prop), (∀ σ' : zz_T, zd_KX σ σ' → σ'.1 1 2 = σ.1 1 2 → σ'.1 1 6 = nI (zt_e b n p1) → zd_X σ' (gu G (34 + r) (zt_v b n p1)) M → pX4_stepTo 1 3 σ' (fun r63 s63 => (zz_bo r63 ∧ Q r63 s63))) → pX4_readRule 1 20 (nI r) σ Q := by
          intro Q hQ
          unfold pX4_readRule
          rw [tr, f0, f1]
          refine x_stepTo (d := 2) T hp1 (by omega) x6 (fun _ _ σ1 y1 a2 a4 a5 a6 => br_f (by decide) ⟨vr, vr, ?_⟩) (fun z => by rw [k1] at z; cases z) (fun _ z => absurd s2 z)
          have T1 := T.kept y1
          refine x_take T1 hp1 ll lh k1 s2 a5 a6 (fun _ σ2 y2 y3 a7 => br_f (by decide) ⟨vr, ?_⟩) (fun z => absurd rg z)
          rw [a7]
          have X2 : zd_X σ2 G M := X.kept (by omega) (fun q h => by rw [y2 q h, y1.1 q h]) (by rw [y3 8 (by omega), y1.2 8 (by omega)])
          have s := xP_set (p := 20) (k := 34 + r) (v := zt_v b n p1) h3 h12 hG.1.1.2.2.2.2.1 gA.1.1 gA.1.2.2.2.1.1 (by omega) X2.1 (gLive_gu (by omega) (by omega) (by omega))
          rw [zl] at s
          have c1e : (zz_i σ2 (20 + 3) r (nI (zt_v b n p1))).1 1 = σ2.1 1 := by rw [zi_k (by omega)]
          refine hQ _ ⟨fun q h1 h2 => ?_, ?_⟩ ?_ ?_ ⟨s, ?_⟩
          · rw [zi_k (by omega), y2 q h1, y1.1 q h1]
          · rw [c1e, y3 1 (by omega), y1.2 1 (by omega)]
          · rw [c1e, y3 2 (by omega)]; exact a2
          · rw [c1e, y3 6 (by omega)]; exact a6
          · rw [c1e]; exact X2.2
        by_cases k2 : zt_ok b n (zt_e b n p1) = true
        · by_cases s3 : zt_s b n (zt_e b n p1) = 3
          · have adv2 := zt_adv he1.2 (show zt_s b n (zt_e b n p1) ≠ 0 by omega)
            unfold zd_sp
            rw [if_pos k1, if_pos s2, if_pos rg, if_pos k2, if_pos s3]
            refine ⟨fun Q hQ => cls Q (fun σ1 y1 a2 a6 X1 => ?_), fun Q hQ => ref Q (fun z => absurd s2 z) (fun _ z => absurd rg z) (fun _ _ τ1 y1 D1 d => ?_)⟩
            · refine x_stepTo (d := 3) (T.kk y1) he1.2 (by omega) a6 (fun _ _ σ2 y2 b2 b4 b5 b6 => ⟨zz_bo1, hQ σ2 (y1.tr y2.k) (by rw [b2]; exact a2) b6 (X1.kept okG.1.1.1 y2.1 (y2.2 8 (by omega)))⟩) (fun z => by rw [k2] at z; cases z) (fun _ z => absurd s3 z)
            · exact m_stop (U.kk y1) he1.2 d (fun z => by rw [k2] at z; cases z) (fun _ z => absurd s3 z) (fun _ _ τ2 y2 d2 => hQ τ2 (y1.tr y2.k) d2 (D1.kept (y2.1 4 (by omega)) (y2.1 5 (by omega))))
          · unfold zd_sp
            rw [if_pos k1, if_pos s2, if_pos rg, if_pos k2, if_neg s3]
            refine ⟨fun Q hQ => cls Q (fun σ1 y1 a2 a6 X1 => ?_), fun Q hQ => ref Q (fun z => absurd s2 z) (fun _ z => absurd rg z) (fun _ _ τ1 y1 D1 d => ?_)⟩
            · exact x_stepTo (d := 3) (T.kk y1) he1.2 (by omega) a6 (fun _ z => absurd z s3) (fun z => by rw [k2] at z; cases z) (fun _ _ σ2 y2 b2 b3 => ⟨zz_bo0, hQ σ2 (y1.tr y2.k) b2 b3⟩)
            · exact m_stop (U.kk y1) he1.2 d (fun z => by rw [k2] at z; cases z) (fun _ _ τ2 y2 F => hQ τ2 (y1.tr y2.k) F) (fun _ z => absurd z s3)
        · have k2 : zt_ok b n (zt_e b n p1) = false := by cases hz : zt_ok b n (zt_e b n p1) with | false => rfl | true => exact absurd hz k2
          unfold zd_sp
          rw [if_pos k1, if_pos s2, if_pos rg, if_neg (fun z => by rw [k2] at z; cases z)]
          refine ⟨fun Q hQ => cls Q (fun σ1 y1 a2 a6 X1 => ?_), fun Q hQ => ref Q (fun z => absurd s2 z) (fun _ z => absurd rg z) (fun _ _ τ1 y1 D1 d => ?_)⟩
          · exact x_stepTo (d := 3) (T.kk y1) he1.2 (by omega) a6 (fun z => by rw [k2] at z; cases z) (fun _ σ2 y2 b2 b3 => ⟨zz_bo0, hQ σ2 (y1.tr y2.k) b2 b3⟩) (fun z => by rw [k2] at z; cases z)
          · exact m_stop (U.kk y1) he1.2 d (fun _ F => hQ τ1 y1 F) (fun z => by rw [k2] at z; cases z) (fun z => by rw [k2] at z; cases z)
      · unfold zd_sp
        rw [if_pos k1, if_pos s2, if_neg rg]
        refine ⟨fun Q hQ => ?_, fun Q hQ => ref Q (fun z => absurd s2 z) (fun _ _ τ1 y1 F => hQ τ1 y1 F) (fun _ z => absurd z rg)⟩
        unfold pX4_readRule
        rw [tr, f0, f1]
        refine x_stepTo (d := 2) T hp1 (by omega) x6 (fun _ _ σ1 y1 a2 a4 a5 a6 => br_f (by decide) ⟨vr, vr, ?_⟩) (fun z => by rw [k1] at z; cases z) (fun _ z => absurd s2 z)
        have T1 := T.kept y1
        exact x_take T1 hp1 ll lh k1 s2 a5 a6 (fun z => absurd z rg) (fun _ σ2 y2 y3 b2 b3 => br_t rfl ⟨zz_bo0, hQ σ2 ⟨fun q h1 _ => by rw [y2 q h1, y1.1 q h1], by rw [y3 1 (by omega) (by omega) (by omega), y1.2 1 (by omega)]⟩ b2 b3⟩)
    · unfold zd_sp
      rw [if_pos k1, if_neg s2]
      refine ⟨fun Q hQ => ?_, fun Q hQ => ref Q (fun _ τ1 y1 F => hQ τ1 y1 F) (fun z => absurd z s2) (fun z => absurd z s2)⟩
      exact x_stepTo (d := 2) T hp1 (by omega) x6 (fun _ z => absurd z s2) (fun z => by rw [k1] at z; cases z) (fun _ _ σ1 y1 b2 b3 => br_t rfl ⟨zz_bo0, hQ σ1 y1.k b2 b3⟩)
  · have k1 : zt_ok b n p1 = false := by cases hz : zt_ok b n p1 with | false => rfl | true => exact absurd hz k1
    unfold zd_sp
    rw [if_neg (fun z => by rw [k1] at z; cases z)]
    refine ⟨fun Q hQ => ?_, fun Q hQ => m_95 U hp1 t11 t7 (fun _ τ1 y1 F => hQ τ1 y1.k F) (fun z => by rw [k1] at z; cases z)⟩
    exact x_stepTo (d := 2) T hp1 (by omega) x6 (fun z => by rw [k1] at z; cases z) (fun _ σ1 y1 b2 b3 => br_t rfl ⟨zz_bo0, hQ σ1 y1.k b2 b3⟩) (fun z => by rw [k1] at z; cases z)
end ZD
