section ZE
variable {σ τ : zz_T} {n : Nat} {b : Nat → Nat}
def zd_TD (τ : zz_T) (Q : Int32 → zz_T → Prop) : (Nat × Nat) ⊕ (Nat × (Nat → Nat)) → Prop
  | .inl a => ∀ (t : Nat) (τ' : zz_T), zd_KM τ τ' → zt_F τ' a.1 a.2 → pX6_text_44 Q (nI t) τ'
  | .inr a => ∀ τ' : zz_T, zd_KM τ τ' → τ'.1 0 11 = 0 → (∀ j, j < 70 → τ'.1 4 j = nI (a.2 j)) → pX6_text_44 Q (nI a.1) τ'
theorem zd_textM {Q : Int32 → zz_T → Prop} (U : zt_U τ n b) : ∀ (j t p : Nat) (G : Nat → Nat) (M : Nat) (τ1 : zz_T), n - p < j → zd_ok G M → p ≤ n → zd_KM τ τ1 → (zt_R τ1 n b p ∨ (zt_ok b n p = false ∧ zt_F τ1 1 (zt_f b n p))) → zd_M τ1 G M → zd_TD τ Q (zd_tx b n j t p G M) → pX6_text_20 Q (j + 1) (nI t) τ1 := by
  have n160 := U.2.1
  intro j
  induction j with
  | zero => intro t p G M τ1 hj; omega
  | succ j ih =>
    intro t p G M τ1 hj hG hp km d D hQ
    have un : zd_tx b n (j + 1) t p G M = if zt_ok b n p = true then (if zt_s b n p = 0 then .inr (t, G) else match zd_li b n p G M with | .inl a => .inl a | .inr a => zd_tx b n j (t + 1) a.2.2 a.1 a.2.1) else .inl (1, zt_f b n p) := rfl
    rw [un] at hQ
    have sl : zt_s b n p ≤ 4 := by
      unfold zt_s
      split
      · omega
      · exact (zt_sort_le _).2
    rcases d with R | ⟨k, F⟩
    · obtain ⟨k, r11, r9, r8, r7, r10⟩ := id R
      rw [if_pos k] at hQ
      refine br_t r11 ?_
      by_cases s0 : zt_s b n p = 0
      · rw [if_pos s0] at hQ
        exact br_t (by rw [r9, s0]; rfl) (hQ τ1 km r11 D.1)
      · rw [if_neg s0] at hQ
        refine br_f (by rw [r9]; exact fun z => s0 ((nI_z (by omega)).mp z)) ?_
        have P := zd_li_P hG hp s0
        have C : zd_D τ1 n b (fun s35 => pX6_text_20 Q (j + 1) (nI t + 1) s35) (zd_li b n p G M) := by
          revert P hQ
          cases zd_li b n p G M with
          | inl a =>
            intro hQ P τ2 y2 F
            have P1 : 1 ≤ a.1 := P.1
            have P2 : a.1 ≤ 5 := P.2.1
            rw [nI_1]
            exact br_f (by rw [F.1]; exact fun z => by have := (nI_z (by omega)).mp z; omega) (hQ (t + 1) τ2 (km.tr y2) F)
          | inr a =>
            intro hQ P τ2 y2 d2 D2
            have P1 : p < a.2.2 := P.2.1
            have P2 : a.2.2 ≤ n := P.2.2
            rw [nI_1]
            exact ih (t + 1) a.2.2 a.1 a.2.1 τ2 (by omega) P.1 P2 (km.tr y2) d2 D2 hQ
        exact zd_lineM hG (U.kk km) hp R D (fun c hc is => by rw [zd_li_y hc is] at C; exact C) (fun none => by rw [zd_li_n none] at C; exact C)
    · rw [if_neg (fun z => by rw [k] at z; cases z)] at hQ
      exact br_f (by rw [F.1]; decide) (hQ t τ1 km F)
end ZE
