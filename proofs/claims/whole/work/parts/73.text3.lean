theorem vn_b0z : vp_nar .boolean 0 = 0 := by decide
section ZF
variable {S : zSt} {σ σ' τ τ' : zz_T} {n : Nat} {b : Nat → Nat} {G : Nat → Nat} {M : Nat}
/-- the first draft -/
def zd_G0 : Nat → Nat := fun j => if j = 34 then 20 else if j = 35 then 3 else 0
theorem zd_G0_ok : zd_ok zd_G0 0 := by
  have z : ∀ j, j ≠ 34 → j ≠ 35 → zd_G0 j = 0 := fun j h1 h2 => by unfold zd_G0; rw [if_neg h1, if_neg h2]
  have z33 := z 33 (by omega) (by omega)
  have z36 := z 36 (by omega) (by omega)
  have z49 := z 49 (by omega) (by omega)
  have z50 := z 50 (by omega) (by omega)
  have z51 := z 51 (by omega) (by omega)
  have z34 : zd_G0 34 = 20 := rfl
  have z35 : zd_G0 35 = 3 := rfl
  refine ⟨⟨⟨by omega, fun h hh => by omega, ⟨by omega, by omega, by omega, by omega⟩, ⟨by omega, fun i hi => by omega⟩, by omega, fun i hi => by omega⟩, ⟨fun h hh => by omega, by omega⟩, by omega⟩, z50, z51, fun j _ h2 => z j (by omega) (by omega), by omega, fun _ => z49⟩
def zd_txP (n : Nat) : (Nat × Nat) ⊕ (Nat × (Nat → Nat)) → Prop
  | .inl a => 1 ≤ a.1 ∧ a.1 ≤ 5 ∧ a.2 ≤ n
  | .inr a => gAll a.2
theorem zd_tx_P : ∀ (j t p : Nat) (G : Nat → Nat) (M : Nat), n - p < j → zd_ok G M → p ≤ n → zd_txP n (zd_tx b n j t p G M) := by
  intro j
  induction j with
  | zero => intro t p G M hj; omega
  | succ j ih =>
    intro t p G M hj hG hp
    have un : zd_tx b n (j + 1) t p G M = if zt_ok b n p = true then (if zt_s b n p = 0 then .inr (t, G) else match zd_li b n p G M with | .inl a => .inl a | .inr a => zd_tx b n j (t + 1) a.2.2 a.1 a.2.1) else .inl (1, zt_f b n p) := rfl
    rw [un]
    by_cases k : zt_ok b n p = true
    · rw [if_pos k]
      by_cases s0 : zt_s b n p = 0
      · rw [if_pos s0]; exact hG.1
      · rw [if_neg s0]
        have P := zd_li_P hG hp s0
        revert P
        cases zd_li b n p G M with
        | inl a => exact fun P => P
        | inr a =>
          intro P
          have P1 : p < a.2.2 := P.2.1
          have P2 : a.2.2 ≤ n := P.2.2
          exact ih (t + 1) a.2.2 a.1 a.2.1 (by omega) P.1 P2
    · rw [if_neg k]
      exact ⟨by show 1 ≤ 1; omega, by show 1 ≤ 5; omega, (zt_f_le (b := b) hp).2⟩
theorem x_readInto {Q : Int32 → zz_T → Prop} (T : zt_T σ n b) (h : ∀ σ1 : zz_T, zd_KX σ σ1 → σ1.1 1 2 = 0 → zd_TC σ1 Q (zd_tx b n (n + 1) 0 0 zd_G0 0)) : pX4_readInto 1 20 σ Q := by
  unfold pX4_readInto pX1_begin
  refine ⟨n + 1, ?_⟩
  generalize hσ : zz_i (zz_i (zz_i (zz_r (zz_i (zz_i (zz_i (zz_i σ 20 4 0) 20 5 0) (20 + 4) 3 0) 20 6 0) (20 + 3) (va_cpy (zz_f 2) ((zz_i (zz_i (zz_i (zz_i σ 20 4 0) 20 5 0) (20 + 4) 3 0) 20 6 0).1 (20 + 3)) 0 0 3)) 1 2 0) 1 6 0) 1 8 0 = σ1
  have kx : zd_KX σ σ1 := by
    refine ⟨fun q h1 h2 => ?_, ?_⟩
    · rw [← hσ, zi_k (by omega), zi_k (by omega), zi_k (by omega), zr_k (by omega), zi_k (by omega), zi_k (by omega), zi_k (by omega), zi_k (by omega)]
    · rw [← hσ, zi_j (by omega), zi_j (by omega), zi_j (by omega), zr_k (by omega), zi_k (by omega), zi_k (by omega), zi_k (by omega), zi_k (by omega)]
  have e2 : σ1.1 1 2 = 0 := by rw [← hσ, zi_j (by omega), zi_j (by omega), zi_at]
  have e6 : σ1.1 1 6 = nI 0 := by rw [← hσ, zi_j (by omega), zi_at]; rfl
  have e8 : σ1.1 1 8 = nI 0 := by rw [← hσ, zi_at]; rfl
  have r3 : σ1.1 (20 + 3) = va_cpy (zz_f 2) (σ.1 (20 + 3)) 0 0 3 := by
    rw [← hσ, zi_k (by omega), zi_k (by omega), zi_k (by omega), zr_at, zi_k (by omega), zi_k (by omega), zi_k (by omega), zi_k (by omega)]
  have c : ∀ j, j < 3 → σ1.1 (20 + 3) j = zz_f 2 j := by
    intro j hj
    rw [r3]
    unfold va_cpy
    rw [if_pos ⟨Nat.zero_le _, by omega⟩, Nat.sub_zero, Nat.zero_add]
  have X : zd_X σ1 zd_G0 0 := by
    refine ⟨⟨⟨?_, ?_, ?_⟩, ⟨by rw [c 0 (by omega)]; rfl, by rw [c 1 (by omega)]; rfl, by rw [c 2 (by omega)]; rfl⟩, fun i hi => ?_, ⟨?_, fun i hi => ?_⟩, fun h hh => ?_⟩, e8⟩
    · rw [← hσ, zi_k (by omega), zi_k (by omega), zi_k (by omega), zr_k (by omega), zi_j (by omega), zi_k (by omega), zi_j (by omega), zi_at]; rfl
    · rw [← hσ, zi_k (by omega), zi_k (by omega), zi_k (by omega), zr_k (by omega), zi_j (by omega), zi_k (by omega), zi_at]; rfl
    · rw [← hσ, zi_k (by omega), zi_k (by omega), zi_k (by omega), zr_k (by omega), zi_at]; rfl
    · exact absurd (show i < 0 from hi) (by omega)
    · rw [← hσ, zi_k (by omega), zi_k (by omega), zi_k (by omega), zr_k (by omega), zi_k (by omega), zi_at]; rfl
    · exact absurd (show i < 0 from hi) (by omega)
    · exact absurd (show h < 0 from hh) (by omega)
  exact zd_textX (T.kk kx) (n + 1) 0 0 zd_G0 0 σ1 (by omega) (by omega) zd_G0_ok (by omega) (zd_KX.rf _) rfl e6 X (h σ1 kx e2)
theorem m_firstDraft {Q : zz_T → Prop} (hq : ∀ τ' : zz_T, zz_but (fun q => q = 4 ∨ q = 5) τ τ' → zd_M τ' zd_G0 0 → Q τ') : pX6_firstDraft τ Q := by
  have loop2 : ∀ (j i : Nat) (τ1 : zz_T), i + j = 4 → zz_but (fun q => q = 4 ∨ q = 5) τ τ1 → (∀ e, e < 70 → τ1.1 4 e = 0) → (∀ e, e < i → τ1.1 5 e = 0) → pX6_firstDraft_23 Q (j + 1) (nI i) τ1 := by
    intro j
    induction j with
    | zero =>
      intro i τ1 hi h1 h2 h3
      obtain rfl : i = 4 := by omega
      refine br_t (by decide) ⟨vp_in_nI (n := 34) (by decide) (by decide), vp_in_nI (n := 35) (by decide) (by decide), hq _ ((h1.i (Or.inl rfl)).i (Or.inl rfl)) ⟨fun e he => ?_, fun r hr => ?_⟩⟩
      · rw [show Int32.toNatClampNeg 34 = 34 from rfl, show Int32.toNatClampNeg 35 = 35 from rfl]
        by_cases q : e = 35
        · rw [q, zi_at]; rfl
        · rw [zi_j q]
          by_cases q4 : e = 34
          · rw [q4, zi_at]; rfl
          · rw [zi_j q4, h2 e he]
            unfold zd_G0
            rw [if_neg q4, if_neg q]; rfl
      · rw [zi_k (by omega), zi_k (by omega), h3 r hr, Nat.zero_testBit]; rfl
    | succ j ih =>
      intro i τ1 hi h1 h2 h3
      refine br_f (by rw [show (4 : Int32) = nI 4 from rfl, nI_leI (by omega) (by omega)]; omega) ⟨vp_in_nI (by omega) (by decide), ?_⟩
      rw [nI_1, nI_tn (by omega), vn_b0z]
      refine ih (i + 1) _ (by omega) (h1.i (Or.inr rfl)) (fun e he => by rw [zi_k (by omega)]; exact h2 e he) (fun e he => ?_)
      by_cases q : e = i
      · rw [q, zi_at]
      · rw [zi_j q]; exact h3 e (by omega)
  have loop : ∀ (j i : Nat) (τ1 : zz_T), i + j = 70 → zz_but (fun q => q = 4 ∨ q = 5) τ τ1 → (∀ e, e < i → τ1.1 4 e = 0) → pX6_firstDraft_2 Q (j + 1) (nI i) τ1 := by
    intro j
    induction j with
    | zero =>
      intro i τ1 hi h1 h2
      obtain rfl : i = 70 := by omega
      exact br_t (by decide) ⟨5, loop2 4 0 τ1 (by omega) h1 h2 (fun e he => by omega)⟩
    | succ j ih =>
      intro i τ1 hi h1 h2
      refine br_f (by rw [show (70 : Int32) = nI 70 from rfl, nI_leI (by omega) (by omega)]; omega) ⟨vp_in_nI (by omega) (by decide), ?_⟩
      rw [nI_1, nI_tn (by omega)]
      refine ih (i + 1) _ (by omega) (h1.i (Or.inl rfl)) (fun e he => ?_)
      by_cases q : e = i
      · rw [q, zi_at]
      · rw [zi_j q]; exact h2 e (by omega)
  exact ⟨71, loop 70 0 τ (by omega) (zz_but.rf _ _) (fun e he => by omega)⟩
theorem m_keepDraft {Q : zz_T → Prop} (hq : ∀ τ' : zz_T, zz_but (fun q => q = 1 ∨ q = 3) τ τ' → (∀ j, j < 70 → τ'.1 1 j = τ.1 4 j) → (∀ k, k < 2 → τ'.1 3 k = 0) → Q τ') : pX6_keepDraft τ Q := by
  have loop : ∀ (j i : Nat) (τ1 : zz_T), i + j = 70 → zz_but (fun q => q = 1 ∨ q = 3) τ τ1 → (∀ e, e < i → τ1.1 1 e = τ.1 4 e) → pX6_keepDraft_2 Q (j + 1) (nI i) τ1 := by
    intro j
    induction j with
    | zero =>
      intro i τ1 hi h1 h2
      obtain rfl : i = 70 := by omega
      refine br_t (by decide) ⟨vp_in_nI (n := 0) (by decide) (by decide), vp_in_nI (n := 1) (by decide) (by decide), hq _ ((h1.i (Or.inr rfl)).i (Or.inr rfl)) (fun j hj => ?_) (fun k hk => ?_)⟩
      · rw [zi_k (by omega), zi_k (by omega)]; exact h2 j hj
      · rw [show Int32.toNatClampNeg 0 = 0 from rfl, show Int32.toNatClampNeg 1 = 1 from rfl, vn_b0z]
        by_cases q : k = 1
        · rw [q, zi_at]
        · rw [zi_j q, show k = 0 by omega, zi_at]
    | succ j ih =>
      intro i τ1 hi h1 h2
      refine br_f (by rw [show (70 : Int32) = nI 70 from rfl, nI_leI (by omega) (by omega)]; omega) ⟨vp_in_nI (by omega) (by decide), vp_in_nI (by omega) (by decide), ?_⟩
      rw [nI_1, nI_tn (by omega)]
      refine ih (i + 1) _ (by omega) (h1.i (Or.inl rfl)) (fun e he => ?_)
      by_cases q : e = i
      · rw [q, zi_at, h1.1 4 (by omega)]
      · rw [zi_j q]; exact h2 e (by omega)
  exact ⟨71, loop 70 0 τ (by omega) (zz_but.rf _ _) (fun e he => by omega)⟩
theorem m_textIn {Q : Int32 → zz_T → Prop} (U : zt_U τ n b) (h : ∀ τ1 : zz_T, zd_KM τ τ1 → zd_TD τ1 Q (zd_tx b n (n + 1) 0 0 zd_G0 0)) : pX6_text τ Q := by
  unfold pX6_text
  refine m_firstDraft (fun τ1 b1 D => ?_)
  have k1 : zd_KM τ τ1 := ⟨fun q h1 h2 h3 => by rw [b1.1 q (by omega), zi_k h1, zi_k h1], fun j hj => by rw [b1.1 0 (by omega), zi_j (by omega), zi_j (by omega)]⟩
  have e11 : τ1.1 0 11 = 0 := by rw [b1.1 0 (by omega), zi_j (by omega), zi_at]
  have e7 : τ1.1 0 7 = nI 0 := by rw [b1.1 0 (by omega), zi_at]; rfl
  refine m_reads2 (U.kk k1) (Nat.zero_le _) e11 e7 (fun τ2 x d => ?_)
  exact ⟨n + 2, zd_textM (U.kk (k1.tr x.k)) (n + 1) 0 0 zd_G0 0 τ2 (by omega) zd_G0_ok (by omega) (zd_KM.rf _) d (D.kept (x.1 4 (by omega)) (x.1 5 (by omega))) (h τ2 (k1.tr x.k))⟩
theorem b_text (hs : sOK S) (X : RX σ S) (M : RM τ S) : zBi (pX5_text σ) (pX6_text τ) := by
  have T : zt_T σ (stn S) (stb S) := ⟨X.2.1.1, hs.2.1.1, fun i hi => ⟨hs.2.1.2 i hi, X.2.1.2.1 i hi⟩⟩
  have U : zt_U τ (stn S) (stb S) := ⟨M.2.1.1, hs.2.1.1, fun i hi => ⟨hs.2.1.2 i hi, M.2.1.2.1 i hi⟩⟩
  have P := zd_tx_P (n := stn S) (b := stb S) (stn S + 1) 0 0 zd_G0 0 (by omega) zd_G0_ok (by omega)
  have HX := fun Q => x_readInto (Q := Q) T
  have HM := fun Q => m_textIn (Q := Q) U
  revert P HX HM
  generalize zd_tx (stb S) (stn S) (stn S + 1) 0 0 zd_G0 0 = O
  intro P HX HM
  obtain ⟨PX, ⟨⟨a1, a2, a3⟩, bx, cx, dx⟩⟩ := id X
  obtain ⟨PM, ⟨⟨a1', a2', a3'⟩, bm, cm, dm⟩⟩ := id M
  unfold pX5_text
  cases O with
  | inl a =>
    have P1 : 1 ≤ a.1 := P.1
    have P2 : a.1 ≤ 5 := P.2.1
    refine ⟨(-10) - nI a.2, sTape S 0 (stb S) a.1, sTape_ok hs (by omega) (fun i hi => by omega) P2, HX _ (fun σ1 k1 e1 => ?_), HM _ (fun τ1 k1 => ?_)⟩
    · intro t σ2 k2 f1 f2
      have kk := k1.tr k2
      refine br_f (by rw [zi_j (by omega), f1]; exact fun z => by have := (nI_z (by omega)).mp z; omega) ⟨by rw [zi_j (by omega), f2], ?_⟩
      exact RX_tape hs X (fun q hq => by rw [zi_k (by omega)]; exact kk.1 q (by omega) (fun z => hq (Or.inr (Or.inr (by unfold cScr; omega))))) (by rw [zi_at]; rfl) (fun i hi => by omega) (by rw [zi_j (by omega)]; exact f1)
    · intro t τ2 k2 F
      have kk := k1.tr k2
      refine br_f (by rw [zi_j (by omega), F.1, fa_le, nI_i (by omega)]; show ¬ _ ≤ (0 : Int); omega) ⟨by rw [zi_j (by omega), F.2], ?_⟩
      have o : ∀ q, q = 1 ∨ q = 3 ∨ (13 ≤ q ∧ q ≤ 15) → (zz_i τ2 0 6 0).1 q = τ.1 q := fun q hq => by rw [zi_k (by omega)]; exact kk.1 q (by omega) (by omega) (by omega)
      refine ⟨by rw [o 1 (by omega)]; exact PM, ⟨by rw [zi_at]; rfl, fun i hi => absurd (show i < 0 from hi) (by omega), by rw [zi_j (by omega)]; exact F.1⟩, fun k hk => ?_, fun k hk => ?_, by rw [zi_j (by omega), kk.2 32 (by omega)]; exact dm⟩
      · rw [o 3 (by omega), o 1 (by omega)]; exact bm k hk
      · rw [o 13 (by omega), o 14 (by omega), o 15 (by omega)]; exact cm k hk
  | inr a =>
    have PA : gAll a.2 := P
    refine ⟨nI a.1, (a.2, (0, stb S, 0), (fun _ => false, sgi S), S.2.2.2), ⟨PA, ⟨Nat.zero_le _, fun i hi => absurd (show i < 0 from hi) (by omega)⟩, Nat.zero_le _, fun k hk q => (by cases q), hs.2.2.2.2.1, hs.2.2.2.2.2⟩, HX _ (fun σ1 k1 e1 => ?_), HM _ (fun τ1 k1 => ?_)⟩
    · intro σ2 k2 f1 xp
      have kk := k1.tr k2
      refine br_t (by rw [zi_j (by omega), f1, e1]) (px_copy PA.1 (xp.kept PA.1.1 (fun q x y => zi_k (by omega))) (by omega) (fun σ3 hb P3 => ⟨3, br_f (by decide) ⟨vp_in_nI (n := 0) (by decide) (by decide), br_f (by decide) ⟨vp_in_nI (n := 1) (by decide) (by decide), br_t (by decide) ⟨rfl, ?_⟩⟩⟩⟩))
      rw [show Int32.toNatClampNeg 0 = 0 from rfl, show Int32.toNatClampNeg (0 + 1) = 1 from rfl, vn_b0z]
      have o : ∀ q, ¬ (3 ≤ q ∧ q ≤ 19) → q ≠ 1 → q ≠ 41 → ¬ (20 ≤ q ∧ q ≤ 36) → (zz_i (zz_i σ3 41 0 0) 41 1 0).1 q = σ.1 q := fun q h1 h2 h3 h4 => by rw [zi_k h3, zi_k h3, hb.1 q h1, zi_k h2]; exact kk.1 q h2 h4
      refine ⟨P3.kept (g := a.2) PA.1.1 (fun q x y => by rw [zi_k (by omega), zi_k (by omega)]), ⟨?_, fun i hi => absurd (show i < 0 from hi) (by omega), ?_⟩, fun k hk => ⟨?_, fun q => by cases q⟩, fun k hk => ?_, ?_⟩
      · rw [zi_k (by omega), zi_k (by omega), hb.1 1 (by omega), zi_at]; rfl
      · rw [zi_k (by omega), zi_k (by omega), hb.1 1 (by omega), zi_j (by omega), f1, e1]; rfl
      · by_cases q : k = 1
        · rw [q, zi_at]; rfl
        · rw [zi_j q, show k = 0 by omega, zi_at]; rfl
      · rw [o (80 + 2 * k) (by omega) (by omega) (by omega) (by omega), o (81 + 2 * k) (by omega) (by omega) (by omega) (by omega)]
        exact cx k hk
      · rw [o 0 (by omega) (by omega) (by omega) (by omega)]; exact dx
    · intro τ2 k2 f1 D
      have kk := k1.tr k2
      refine br_t (by rw [zi_j (by omega), f1]; decide) (m_keepDraft (fun τ3 hb cp z => ⟨rfl, ?_⟩))
      have o : ∀ q, 13 ≤ q ∧ q ≤ 15 → τ3.1 q = τ.1 q := fun q hq => by rw [hb.1 q (by omega), zi_k (by omega)]; exact kk.1 q (by omega) (by omega) (by omega)
      refine ⟨?_, ⟨?_, fun i hi => absurd (show i < 0 from hi) (by omega), ?_⟩, fun k hk => ⟨z k hk, fun q => by cases q⟩, fun k hk => ?_, ?_⟩
      · refine (mP_iff (g := a.2) PA.1.1 PA.1.2.2.2.1.1).mpr (fun k hk => ?_)
        have h33 := PA.1.1
        have h49 := PA.1.2.2.2.1.1
        have h51 := PA.1.2.2.2.2.1
        have k70 : k < 70 := by unfold gLive at hk; omega
        rw [cp k k70, zi_k (by omega)]
        exact D k k70
      · rw [hb.1 0 (by omega), zi_at]; rfl
      · rw [hb.1 0 (by omega), zi_j (by omega), f1]; rfl
      · rw [o 13 (by omega), o 14 (by omega), o 15 (by omega)]; exact cm k hk
      · rw [hb.1 0 (by omega), zi_j (by omega), kk.2 32 (by omega)]; exact dm
end ZF
