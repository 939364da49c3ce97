section ZE
variable {n : Nat} {b : Nat → Nat} {G : Nat → Nat} {M : Nat}
theorem zd_sp_P {p p1 lo hi : Nat} {F : Nat → Nat → Nat} (hp1 : p1 ≤ n) (hpp : p < p1) (hF : (lo ≤ zt_v b n p1 ∧ zt_v b n p1 ≤ hi) → zd_ok (F (zt_v b n p1)) M) : zd_P n p (zd_sp b n p1 lo hi F M) := by
  have hf1 := zt_f_le (b := b) hp1
  have he1 := zt_e_le (b := b) hp1
  have hf2 := zt_f_le (b := b) he1.2
  have he2 := zt_e_le (b := b) he1.2
  unfold zd_sp
  by_cases k1 : zt_ok b n p1 = true
  · rw [if_pos k1]
    by_cases s2 : zt_s b n p1 = 2
    · rw [if_pos s2]
      by_cases rg : lo ≤ zt_v b n p1 ∧ zt_v b n p1 ≤ hi
      · rw [if_pos rg]
        by_cases k2 : zt_ok b n (zt_e b n p1) = true
        · rw [if_pos k2]
          by_cases s3 : zt_s b n (zt_e b n p1) = 3
          · rw [if_pos s3]
            have adv := zt_adv he1.2 (show zt_s b n (zt_e b n p1) ≠ 0 by omega)
            exact ⟨hF rg, by show p < zt_e b n (zt_e b n p1); omega, he2.2⟩
          · rw [if_neg s3]
            exact ⟨by show 1 ≤ 2; omega, by show 2 ≤ 5; omega, hf2.2⟩
        · rw [if_neg k2]
          exact ⟨by show 1 ≤ 1; omega, by show 1 ≤ 5; omega, hf2.2⟩
      · rw [if_neg rg]
        exact ⟨by show 1 ≤ 3; omega, by show 3 ≤ 5; omega, hf1.2⟩
    · rw [if_neg s2]
      exact ⟨by show 1 ≤ 2; omega, by show 2 ≤ 5; omega, hf1.2⟩
  · rw [if_neg k1]
    exact ⟨by show 1 ≤ 1; omega, by show 1 ≤ 5; omega, hf1.2⟩
theorem zd_lsp_P {p : Nat} (h7 : M.testBit 7 = true) : ∀ (j q : Nat) (G : Nat → Nat), n - q < j → zd_ok G M → q ≤ n → p ≤ q → zd_P n p (zd_lsp b n M j q G) := by
  intro j
  induction j with
  | zero => intro q G hj; omega
  | succ j ih =>
    intro q G hj hG hq hpq
    have hf := zt_f_le (b := b) hq
    have he := zt_e_le (b := b) hq
    have hf2 := zt_f_le (b := b) he.2
    have un : zd_lsp b n M (j + 1) q G = if zt_s b n q = 2 then (if G 49 < 12 then (if zt_v b n q ≤ 255 then (if zt_ok b n (zt_e b n q) = true then zd_lsp b n M j (zt_e b n q) (zd_l G (zt_v b n q)) else .inl (1, zt_f b n (zt_e b n q))) else .inl (3, zt_f b n q)) else .inl (5, zt_f b n q)) else (if zt_s b n q = 3 then .inr (G, M, zt_e b n q) else .inl (2, zt_f b n q)) := rfl
    rw [un]
    by_cases s2 : zt_s b n q = 2
    · rw [if_pos s2]
      have adv := zt_adv hq (show zt_s b n q ≠ 0 by omega)
      by_cases c12 : G 49 < 12
      · rw [if_pos c12]
        by_cases rg : zt_v b n q ≤ 255
        · rw [if_pos rg]
          by_cases k2 : zt_ok b n (zt_e b n q) = true
          · rw [if_pos k2]
            exact ih (zt_e b n q) _ (by omega) (zd_l_ok hG h7 c12 rg) he.2 (by omega)
          · rw [if_neg k2]
            exact ⟨by show 1 ≤ 1; omega, by show 1 ≤ 5; omega, hf2.2⟩
        · rw [if_neg rg]
          exact ⟨by show 1 ≤ 3; omega, by show 3 ≤ 5; omega, hf.2⟩
      · rw [if_neg c12]
        exact ⟨by show 1 ≤ 5; omega, by show 5 ≤ 5; omega, hf.2⟩
    · rw [if_neg s2]
      by_cases s3 : zt_s b n q = 3
      · rw [if_pos s3]
        have adv := zt_adv hq (show zt_s b n q ≠ 0 by omega)
        exact ⟨hG, by show p < zt_e b n q; omega, he.2⟩
      · rw [if_neg s3]
        exact ⟨by show 1 ≤ 2; omega, by show 2 ≤ 5; omega, hf.2⟩
theorem zd_ns_P {p p1 : Nat} (hG : zd_ok G M) (h7 : M.testBit 7 = true) (hp1 : p1 ≤ n) (hpp : p < p1) : zd_P n p (zd_ns b n p1 G M) := by
  have hf1 := zt_f_le (b := b) hp1
  unfold zd_ns
  by_cases k1 : zt_ok b n p1 = true
  · rw [if_pos k1]
    by_cases s2 : zt_s b n p1 = 2
    · rw [if_pos s2]
      exact zd_lsp_P h7 (n + 1) p1 G (by omega) hG hp1 (by omega)
    · rw [if_neg s2]
      exact ⟨by show 1 ≤ 2; omega, by show 2 ≤ 5; omega, hf1.2⟩
  · rw [if_neg k1]
    exact ⟨by show 1 ≤ 1; omega, by show 1 ≤ 5; omega, hf1.2⟩
theorem zd_ru_ok {r v : Nat} (hG : zd_ok G M) (hr : r < 3) (rg : zd_lo r ≤ v ∧ v ≤ zd_hi r) : zd_ok (gu G (34 + r) v) M := by
  have gA : gAll (gu G (34 + r) v) := by
    refine gAll_gu hG.1 (by omega) (by omega) (by omega) ?_
    unfold zd_lo zd_hi at rg
    unfold gBnd
    rcases (show r = 0 ∨ r = 1 ∨ r = 2 by omega) with rfl | rfl | rfl
    · simp only [if_true] at rg; omega
    · simp only [Nat.one_ne_zero, if_false, if_true] at rg; omega
    · simp only [show ¬ (2 : Nat) = 0 by omega, show ¬ (2 : Nat) = 1 by omega, if_false] at rg; omega
  refine ⟨gA, by rw [gu_ne (by omega)]; exact hG.2.1, by rw [gu_ne (by omega)]; exact hG.2.2.1, fun j h1 h2 => ?_, hG.2.2.2.2.1, fun z => by rw [gu_ne (by omega)]; exact hG.2.2.2.2.2 z⟩
  rw [gu_ne (j := 33) (by omega)] at h1
  rw [gu_ne (by omega)]
  exact hG.2.2.2.1 j h1 h2
theorem zd_ln_P {p c : Nat} (hG : zd_ok G M) (hc : c < 8) (hp : p ≤ n) (h0 : zt_s b n p ≠ 0) : zd_P n p (zd_ln b n p G M c) := by
  have hf := zt_f_le (b := b) hp
  have he := zt_e_le (b := b) hp
  have adv := zt_adv hp h0
  unfold zd_ln
  by_cases c4 : c < 4
  · rw [if_pos c4]
    by_cases g3 : G 33 < 3
    · rw [if_pos g3]
      exact zd_sp_P he.2 adv (fun rg => zd_h_ok hG g3 (by omega) rg.2)
    · rw [if_neg g3]
      exact ⟨by show 1 ≤ 5; omega, by show 5 ≤ 5; omega, hf.2⟩
  · rw [if_neg c4]
    have okM := zd_met_ok (c := c) hG hc
    by_cases hb : M.testBit c = true
    · rw [if_pos hb]
      exact ⟨by show 1 ≤ 4; omega, by show 4 ≤ 5; omega, hf.2⟩
    · rw [if_neg hb]
      by_cases c7 : c = 7
      · rw [if_pos c7]
        exact zd_ns_P okM (by rw [c7, fb_bit_set, decide_eq_true rfl, Bool.or_true]) he.2 adv
      · rw [if_neg c7]
        exact zd_sp_P he.2 adv (fun rg => zd_ru_ok okM (by omega) rg)
end ZE
