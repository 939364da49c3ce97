section ZD
variable {σ σ' τ τ' : zz_T} {n p : Nat} {b : Nat → Nat} {G : Nat → Nat} {M : Nat}
def zd_ns (b : Nat → Nat) (n p1 : Nat) (G : Nat → Nat) (M : Nat) : zd_O := if zt_ok b n p1 = true then (if zt_s b n p1 = 2 then zd_lsp b n M (n + 1) p1 G else .inl (2, zt_f b n p1)) else .inl (1, zt_f b n p1)
theorem zd_linesX {p1 : Nat} {Q : Int32 → zz_T → Prop} (hG : zd_ok G M) (h7 : M.testBit 7 = true) (T : zt_T σ n b) (hp1 : p1 ≤ n) (x6 : σ.1 1 6 = nI p1) (X : zd_X σ G M) (hQ : zd_C σ Q (zd_ns b n p1 G M)) : pX4_readLines 1 20 σ Q := by
  unfold zd_ns at hQ
  unfold pX4_readLines
  refine x_stepTo (d := 2) T hp1 (by omega) x6 (fun k1 s2 σ1 y1 a2 a4 a5 a6 => br_f (by decide) ⟨n + 1, ?_⟩) (fun k1 σ1 y1 a2 a3 => br_t rfl ⟨zz_bo0, ?_⟩) (fun k1 s2 σ1 y1 a2 a3 => br_t rfl ⟨zz_bo0, ?_⟩)
  · rw [if_pos k1, if_pos s2] at hQ
    exact zd_loopX h7 T (n + 1) p1 G σ1 (by omega) hG hp1 k1 y1.k a2 (by rw [a4, s2]) a5 a6 (X.kept hG.1.1.1 y1.1 (y1.2 8 (by omega))) hQ
  · rw [if_neg (fun z => by rw [k1] at z; cases z)] at hQ
    exact hQ σ1 y1.k a2 a3
  · rw [if_pos k1, if_neg s2] at hQ
    exact hQ σ1 y1.k a2 a3
theorem zd_linesM {p1 : Nat} {Q : zz_T → Prop} (hG : zd_ok G M) (h7 : M.testBit 7 = true) (h49 : G 49 = 0) (U : zt_U τ n b) (hp1 : p1 ≤ n) (t11 : τ.1 0 11 = 0) (t7 : τ.1 0 7 = nI p1) (D : zd_M τ G M) (hQ : zd_D τ n b Q (zd_ns b n p1 G M)) : pX6_readLine_95 Q (nI 7) τ := by
  have n160 := U.2.1
  have he := zt_e_le (b := b) hp1
  have t49 : Int32.toNatClampNeg 49 = 49 := rfl
  have t37 : Int32.toNatClampNeg 37 = 37 := rfl
  have v49 : vp_in 49 70 := vp_in_nI (n := 49) (by decide) (by decide)
  have v37 : vp_in 37 70 := vp_in_nI (n := 37) (by decide) (by decide)
  unfold zd_ns at hQ
  refine m_95 U hp1 t11 t7 (fun k1 τ1 y1 F => ?_) (fun k1 τ1 y1 R => ?_)
  · rw [if_neg (fun z => by rw [k1] at z; cases z)] at hQ
    exact hQ τ1 y1.k F
  · rw [if_pos k1] at hQ
    unfold pX6_readLineOf
    refine br_t rfl ?_
    unfold pX6_readLines
    rw [t49, t37]
    have U1 := U.kk y1.k
    have flt : ∀ (cc ff : Nat) (v : Int32) (τ2 : zz_T), 0 < cc → cc ≤ 5 → zt_M τ1 τ2 → zt_F τ2 cc ff → (∀ τ' : zz_T, zd_KM τ τ' → zt_F τ' cc ff → Q τ') → vp_in 37 70 ∧ vp_in 49 70 ∧ ∃ n23, pX6_readLines_23 (zd_af Q) n23 (zz_i (zz_i τ2 4 37 v) 4 49 1) := by
      intro cc ff v τ2 h0 h5 y2 F hq
      have F' : zt_F (zz_i (zz_i τ2 4 37 v) 4 49 1) cc ff := by
        unfold zt_F
        rw [zi_k (by omega), zi_k (by omega)]
        exact F
      exact ⟨v37, v49, 1, m_lines_f F' h0 h5 (hq _ (((y1.k.tr y2.k).i (by omega)).i (by omega)) F')⟩
    have un : zd_lsp b n M (n + 1) p1 G = if zt_s b n p1 = 2 then (if G 49 < 12 then (if zt_v b n p1 ≤ 255 then (if zt_ok b n (zt_e b n p1) = true then zd_lsp b n M n (zt_e b n p1) (zd_l G (zt_v b n p1)) else .inl (1, zt_f b n (zt_e b n p1))) else .inl (3, zt_f b n p1)) else .inl (5, zt_f b n p1)) else (if zt_s b n p1 = 3 then .inr (G, M, zt_e b n p1) else .inl (2, zt_f b n p1)) := rfl
    refine m_num (lo := 0) (hi := 255) U1 hp1 R (by omega) (by omega) (fun s2 τ2 y2 F => ?_) (fun s2 rg τ2 y2 F => ?_) (fun s2 rg τ2 y2 d => ?_)
    · rw [if_neg s2] at hQ
      exact flt 2 _ _ τ2 (by omega) (by omega) y2 F hQ
    · rw [if_pos s2, un, if_pos s2, if_pos (by omega), if_neg (fun z => rg ⟨Nat.zero_le _, z⟩)] at hQ
      exact flt 3 _ _ τ2 (by omega) (by omega) y2 F hQ
    · rw [if_pos s2, un, if_pos s2, if_pos (by omega), if_pos rg.2] at hQ
      have adv := zt_adv hp1 (show zt_s b n p1 ≠ 0 by omega)
      rcases d with d | ⟨k2, F⟩
      · rw [if_pos d.1] at hQ
        have okG := zd_l_ok (v := zt_v b n p1) hG h7 (by omega) rg.2
        refine ⟨v37, v49, n + 1, zd_loopM h7 U n (zt_e b n p1) _ _ (by omega) okG he.2 d.1 (((y1.k.tr y2.k).i (by omega)).i (by omega)) ?_ ⟨fun i hi => ?_, fun r hr => ?_⟩ hQ⟩
        · unfold zt_R
          rw [zi_k (by omega), zi_k (by omega)]
          exact d
        · unfold zd_l
          rw [h49]
          by_cases i49 : i = 49
          · subst i49
            rw [zi_at, gu_at]
            rfl
          · rw [zi_j i49, gu_ne i49]
            by_cases i1 : i = 37
            · rw [i1, zi_at, gu_at]
            · rw [zi_j i1, gu_ne (by omega), y2.1 4 (by omega), y1.1 4 (by omega)]
              exact D.1 i hi
        · rw [zi_k (by omega), zi_k (by omega), y2.1 5 (by omega), y1.1 5 (by omega)]
          exact D.2 r hr
      · rw [if_neg (fun z => by rw [k2] at z; cases z)] at hQ
        exact flt 1 _ _ τ2 (by omega) (by omega) y2 F hQ
end ZD
