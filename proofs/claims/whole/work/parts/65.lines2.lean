section ZD
variable {σ σ' τ τ' : zz_T} {n p : Nat} {b : Nat → Nat} {M : Nat}
def zd_af (Q : zz_T → Prop) : zz_T → Prop := fun s109 => ((s109.1 0 11 = 0 → ((s109.1 0 9 = 3 → pX6_readLine_133 Q 1 s109) ∧ (¬ s109.1 0 9 = 3 → pX6_readLine_133 Q 0 s109))) ∧ (¬ s109.1 0 11 = 0 → pX6_readLine_137 Q s109))
/-- numbers, then a stop -/
def zd_lsp (b : Nat → Nat) (n M : Nat) : Nat → Nat → (Nat → Nat) → zd_O
  | 0, _, _ => .inl (1, 0)
  | j + 1, q, G => if zt_s b n q = 2 then (if G 49 < 12 then (if zt_v b n q ≤ 255 then (if zt_ok b n (zt_e b n q) = true then zd_lsp b n M j (zt_e b n q) (zd_l G (zt_v b n q)) else .inl (1, zt_f b n (zt_e b n q))) else .inl (3, zt_f b n q)) else .inl (5, zt_f b n q)) else (if zt_s b n q = 3 then .inr (G, M, zt_e b n q) else .inl (2, zt_f b n q))
theorem m_af_f {c f : Nat} {Q : zz_T → Prop} (F : zt_F τ c f) (h0 : 0 < c) (h5 : c ≤ 5) (hq : Q τ) : zd_af Q τ := br_f (by rw [F.1]; exact fun z => by have := (nI_z (by omega)).mp z; omega) (m_reads_f F.1 h0 h5 hq)
theorem m_lines_f {c f m : Nat} {Q : zz_T → Prop} (F : zt_F τ c f) (h0 : 0 < c) (h5 : c ≤ 5) (hq : Q τ) : pX6_readLines_23 (zd_af Q) (m + 1) τ := br_f (by rw [F.1]; exact fun z => by have := (nI_z (by omega)).mp z; omega) (m_af_f F h0 h5 hq)
theorem zd_loopX {Q : Int32 → zz_T → Prop} (h7 : M.testBit 7 = true) (T : zt_T σ n b) : ∀ (j q : Nat) (G : Nat → Nat) (σ1 : zz_T), n - q < j → zd_ok G M → q ≤ n → zt_ok b n q = true → zd_KX σ σ1 → σ1.1 1 2 = σ.1 1 2 → σ1.1 1 4 = nI (zt_s b n q) → σ1.1 1 5 = nI (zt_f b n q) → σ1.1 1 6 = nI (zt_e b n q) → zd_X σ1 G M → zd_C σ Q (zd_lsp b n M j q G) → pX4_readLines_10 1 20 Q j σ1 := by
  have n160 := T.2.1
  intro j
  induction j with
  | zero => intro q G σ1 hj; omega
  | succ j ih =>
    intro q G σ1 hj hG hq k kx a2 a4 a5 a6 X hQ
    have h12 := hG.1.1.2.2.2.1.1
    have hf := zt_f_le (b := b) hq
    have he := zt_e_le (b := b) hq
    have sl : zt_s b n q ≤ 4 := by
      unfold zt_s
      split
      · omega
      · exact (zt_sort_le _).2
    have un : zd_lsp b n M (j + 1) q G = if zt_s b n q = 2 then (if G 49 < 12 then (if zt_v b n q ≤ 255 then (if zt_ok b n (zt_e b n q) = true then zd_lsp b n M j (zt_e b n q) (zd_l G (zt_v b n q)) else .inl (1, zt_f b n (zt_e b n q))) else .inl (3, zt_f b n q)) else .inl (5, zt_f b n q)) else (if zt_s b n q = 3 then .inr (G, M, zt_e b n q) else .inl (2, zt_f b n q)) := rfl
    rw [un] at hQ
    have T1 := T.kk kx
    have e5 : σ1.1 20 5 = nI (G 49) := X.1.1.2.1
    by_cases s2 : zt_s b n q = 2
    · rw [if_pos s2] at hQ
      have adv := zt_adv hq (show zt_s b n q ≠ 0 by omega)
      have x4 : σ1.1 1 4 = nI 2 := by rw [a4, s2]
      by_cases c12 : G 49 < 12
      · rw [if_pos c12] at hQ
        by_cases rg : zt_v b n q ≤ 255
        · rw [if_pos rg] at hQ
          by_cases k2 : zt_ok b n (zt_e b n q) = true
          · rw [if_pos k2] at hQ
            have okG := zd_l_ok (v := zt_v b n q) hG h7 c12 rg
            exact x_lineStep hG h7 c12 T1 hq k s2 x4 a5 a6 X (fun z => absurd rg z) (fun _ z => by rw [k2] at z; cases z) (fun _ _ σ2 y2 b2 b4 b5 b6 X2 => ih (zt_e b n q) _ σ2 (by omega) okG he.2 k2 (kx.tr y2) (by rw [b2]; exact a2) b4 b5 b6 X2 hQ)
          · rw [if_neg k2] at hQ
            exact x_lineStep hG h7 c12 T1 hq k s2 x4 a5 a6 X (fun z => absurd rg z) (fun _ _ σ2 y2 b2 b3 => hQ σ2 (kx.tr y2) b2 b3) (fun _ z => absurd z k2)
        · rw [if_neg rg] at hQ
          exact x_lineStep hG h7 c12 T1 hq k s2 x4 a5 a6 X (fun _ σ2 y2 b2 b3 => hQ σ2 (kx.tr y2) b2 b3) (fun z => absurd z rg) (fun z => absurd z rg)
      · rw [if_neg c12] at hQ
        have c12' : (12 : Int32) ≤ nI (G 49) := by rw [show (12 : Int32) = nI 12 from rfl, nI_leI (by omega) (by omega)]; omega
        exact br_t (by rw [e5]; exact c12') (br_t x4 ⟨zz_bo0, zz_bo0, hQ _ ⟨fun u h1 h2 => by rw [zi_k h1, zi_k h1]; exact kx.1 u h1 h2, by rw [zi_j (by omega), zi_j (by omega)]; exact kx.2⟩ (by rw [zi_j (by omega), zi_at]; rfl) (by rw [zi_at, zi_j (by omega)]; exact a5)⟩)
    · rw [if_neg s2] at hQ
      have n2 : ¬ σ1.1 1 4 = 2 := by rw [a4]; exact fun z => s2 ((nI_eq (b := 2) (by omega) (by omega)).mp z)
      have cls : pX4_readLines_72 1 20 Q σ1 → pX4_readLines_10 1 20 Q (j + 1) σ1 := fun h => ⟨fun _ => h, fun _ => br_f n2 h⟩
      by_cases s3 : zt_s b n q = 3
      · rw [if_pos s3] at hQ
        exact cls (br_f n2 (br_t (by rw [a4, s3]; rfl) ⟨zz_bo1, hQ σ1 kx a2 a6 X⟩))
      · rw [if_neg s3] at hQ
        have n3 : ¬ σ1.1 1 4 = 3 := by rw [a4]; exact fun z => s3 ((nI_eq (b := 3) (by omega) (by omega)).mp z)
        exact cls (br_f n2 (br_f n3 ⟨zz_bo0, br_t rfl ⟨zz_bo0, hQ _ ⟨fun u h1 h2 => by rw [zi_k h1, zi_k h1]; exact kx.1 u h1 h2, by rw [zi_j (by omega), zi_j (by omega)]; exact kx.2⟩ (by rw [zi_j (by omega), zi_at]; rfl) (by rw [zi_at, zi_j (by omega)]; exact a5)⟩⟩))
theorem zd_loopM {Q : zz_T → Prop} (h7 : M.testBit 7 = true) (U : zt_U τ n b) : ∀ (j q : Nat) (G : Nat → Nat) (τ1 : zz_T), n - q < j → zd_ok G M → q ≤ n → zt_ok b n q = true → zd_KM τ τ1 → zt_R τ1 n b q → zd_M τ1 G M → zd_D τ n b Q (zd_lsp b n M j q G) → pX6_readLines_23 (zd_af Q) (j + 1) τ1 := by
  have n160 := U.2.1
  intro j
  induction j with
  | zero => intro q G τ1 hj; omega
  | succ j ih =>
    intro q G τ1 hj hG hq k km R D hQ
    have h12 := hG.1.1.2.2.2.1.1
    have hf := zt_f_le (b := b) hq
    have he := zt_e_le (b := b) hq
    have sl : zt_s b n q ≤ 4 := by
      unfold zt_s
      split
      · omega
      · exact (zt_sort_le _).2
    have un : zd_lsp b n M (j + 1) q G = if zt_s b n q = 2 then (if G 49 < 12 then (if zt_v b n q ≤ 255 then (if zt_ok b n (zt_e b n q) = true then zd_lsp b n M j (zt_e b n q) (zd_l G (zt_v b n q)) else .inl (1, zt_f b n (zt_e b n q))) else .inl (3, zt_f b n q)) else .inl (5, zt_f b n q)) else (if zt_s b n q = 3 then .inr (G, M, zt_e b n q) else .inl (2, zt_f b n q)) := rfl
    rw [un] at hQ
    have U1 := U.kk km
    obtain ⟨_, r11, r9, r8, r7, r10⟩ := id R
    have e49 : τ1.1 4 49 = nI (G 49) := D.1 49 (by omega)
    have t49 : Int32.toNatClampNeg 49 = 49 := rfl
    have v49 : vp_in 49 70 := vp_in_nI (n := 49) (by decide) (by decide)
    by_cases s2 : zt_s b n q = 2
    · rw [if_pos s2] at hQ
      have adv := zt_adv hq (show zt_s b n q ≠ 0 by omega)
      have r92 : τ1.1 0 9 = 2 := by rw [r9, s2]; rfl
      by_cases c12 : G 49 < 12
      · rw [if_pos c12] at hQ
        have nc : ¬ (12 : Int32) ≤ nI (G 49) := by rw [show (12 : Int32) = nI 12 from rfl, nI_leI (by omega) (by omega)]; omega
        -- the reference, one number
        have ref : (¬ zt_v b n q ≤ 255 → ∀ τ' : zz_T, zd_KM τ τ' → zt_F τ' 3 (zt_f b n q) → Q τ') → (zt_v b n q ≤ 255 → ∀ τ' : zz_T, zd_KM τ τ' → zd_M τ' (zd_l G (zt_v b n q)) M → (zt_R τ' n b (zt_e b n q) ∨ (zt_ok b n (zt_e b n q) = false ∧ zt_F τ' 1 (zt_f b n (zt_e b n q)))) → pX6_readLines_23 (zd_af Q) (j + 1) τ') → pX6_readLines_23 (zd_af Q) (j + 1 + 1) τ1 := by
          intro q3 qy
          refine br_t r11 (br_t r92 ⟨v49, br_f (by rw [t49, e49]; exact nc) ?_⟩)
          unfold pX6_readLines_56
          refine m_req (ok := true) (e := 5) r11 r8 (fun _ => br_t r11 ⟨v49, ?_⟩) (fun z => by cases z)
          rw [t49, e49, show (37 : Int32) = nI 37 from rfl, nI_add, nI_tn (n := 37 + G 49) (by omega)]
          have vps : ∀ P : Prop, P → vp_in (nI (37 + G 49)) 70 ∧ vp_in 49 70 ∧ vp_in 49 70 ∧ P := fun P hP => ⟨vp_in_nI (by omega) (by decide), v49, v49, hP⟩
          refine m_num (lo := 0) (hi := 255) U1 hq R (by omega) (by omega) (fun z => absurd s2 z) (fun _ rg τ2 y2 F => vps _ ?_) (fun _ rg τ2 y2 d => vps _ (qy rg.2 _ (((km.tr y2.k).i (by omega)).i (by omega)) ?_ ?_))
          · have F' : zt_F (zz_i (zz_i τ2 4 (37 + G 49) 0) 4 49 ((zz_i τ2 4 (37 + G 49) 0).1 4 49 + 1)) 3 (zt_f b n q) := by
              unfold zt_F
              rw [zi_k (by omega), zi_k (by omega)]
              exact F
            exact m_lines_f F' (by omega) (by omega) (q3 (fun z => rg ⟨Nat.zero_le _, z⟩) _ (((km.tr y2.k).i (by omega)).i (by omega)) F')
          · refine ⟨fun i hi => ?_, fun r hr => ?_⟩
            · unfold zd_l
              by_cases i49 : i = 49
              · subst i49
                rw [zi_at, gu_at, zi_j (by omega), y2.1 4 (by omega), e49, nI_1]
              · rw [zi_j i49, gu_ne i49]
                by_cases i1 : i = 37 + G 49
                · rw [i1, zi_at, gu_at]
                · rw [zi_j i1, gu_ne i1, y2.1 4 (by omega)]
                  exact D.1 i hi
            · rw [zi_k (by omega), zi_k (by omega), y2.1 5 (by omega)]
              exact D.2 r hr
          · unfold zt_R zt_F
            rw [zi_k (by omega), zi_k (by omega)]
            exact d
        by_cases rg : zt_v b n q ≤ 255
        · rw [if_pos rg] at hQ
          by_cases k2 : zt_ok b n (zt_e b n q) = true
          · rw [if_pos k2] at hQ
            have okG := zd_l_ok (v := zt_v b n q) hG h7 c12 rg
            refine ref (fun z => absurd rg z) (fun _ τ2 y2 D2 d => ?_)
            rcases d with d | ⟨d, _⟩
            · exact ih (zt_e b n q) _ τ2 (by omega) okG he.2 k2 y2 d D2 hQ
            · rw [k2] at d; cases d
          · rw [if_neg k2] at hQ
            refine ref (fun z => absurd rg z) (fun _ τ2 y2 D2 d => ?_)
            rcases d with d | ⟨_, F⟩
            · exact absurd d.1 k2
            · exact m_lines_f F (by omega) (by omega) (hQ τ2 y2 F)
        · rw [if_neg rg] at hQ
          exact ref (fun _ τ2 y2 F => hQ τ2 y2 F) (fun z => absurd z rg)
      · rw [if_neg c12] at hQ
        have c12' : (12 : Int32) ≤ nI (G 49) := by rw [show (12 : Int32) = nI 12 from rfl, nI_leI (by omega) (by omega)]; omega
        refine br_t r11 (br_t r92 ⟨v49, br_t (by rw [t49, e49]; exact c12') ?_⟩)
        unfold pX6_readLines_56
        exact m_req (ok := false) (e := 5) r11 r8 (fun z => by cases z) (fun _ τ2 y2 f1 f2 => br_f (by rw [f1]; decide) (m_lines_f ⟨f1, f2⟩ (by omega) (by omega) (hQ τ2 (km.tr y2.k) ⟨f1, f2⟩)))
    · rw [if_neg s2] at hQ
      have r2 : ¬ τ1.1 0 9 = 2 := by rw [r9]; exact fun z => s2 ((nI_eq (b := 2) (by omega) (by omega)).mp z)
      have ref : zd_af Q τ1 → pX6_readLines_23 (zd_af Q) (j + 1 + 1) τ1 := fun h => br_t r11 (br_f r2 h)
      by_cases s3 : zt_s b n q = 3
      · rw [if_pos s3] at hQ
        exact ref (m_stop U1 hq (Or.inl R) (fun z => by rw [k] at z; cases z) (fun _ z => absurd s3 z) (fun _ _ τ2 y2 d => hQ τ2 (km.tr y2.k) d (D.kept (y2.1 4 (by omega)) (y2.1 5 (by omega)))))
      · rw [if_neg s3] at hQ
        exact ref (m_stop U1 hq (Or.inl R) (fun z => by rw [k] at z; cases z) (fun _ _ τ2 y2 F => hQ τ2 (km.tr y2.k) F) (fun _ z => absurd z s3))
end ZD
