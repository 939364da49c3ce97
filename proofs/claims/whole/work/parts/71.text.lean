section ZE
variable {σ τ : zz_T} {n : Nat} {b : Nat → Nat} {G : Nat → Nat} {M : Nat}
/-- the outcome of the line whose first token is at p -/
noncomputable def zd_li (b : Nat → Nat) (n p : Nat) (G : Nat → Nat) (M : Nat) : zd_O := @dite zd_O (∃ c, c < 8 ∧ zt_is b (zt_f b n p) (zt_e b n p) c) (Classical.propDecidable _) (fun h => zd_ln b n p G M (Classical.choose h)) (fun _ => .inl (2, zt_f b n p))
theorem zd_li_y {p c : Nat} (hc : c < 8) (h : zt_is b (zt_f b n p) (zt_e b n p) c) : zd_li b n p G M = zd_ln b n p G M c := by
  have ex : ∃ c, c < 8 ∧ zt_is b (zt_f b n p) (zt_e b n p) c := ⟨c, hc, h⟩
  unfold zd_li
  rw [dif_pos ex]
  rw [zt_is_one (Classical.choose_spec ex).1 hc (Classical.choose_spec ex).2 h]
theorem zd_li_n {p : Nat} (h : ∀ c, c < 8 → ¬ zt_is b (zt_f b n p) (zt_e b n p) c) : zd_li b n p G M = .inl (2, zt_f b n p) := by
  unfold zd_li
  rw [dif_neg (fun ⟨c, hc, z⟩ => h c hc z)]
theorem zd_li_P {p : Nat} (hG : zd_ok G M) (hp : p ≤ n) (h0 : zt_s b n p ≠ 0) : zd_P n p (zd_li b n p G M) := by
  by_cases h : ∃ c, c < 8 ∧ zt_is b (zt_f b n p) (zt_e b n p) c
  · obtain ⟨c, hc, z⟩ := h
    rw [zd_li_y hc z]
    exact zd_ln_P hG hc hp h0
  · rw [zd_li_n (fun c hc z => h ⟨c, hc, z⟩)]
    exact ⟨by show 1 ≤ 2; omega, by show 2 ≤ 5; omega, (zt_f_le (b := b) hp).2⟩
/-- the whole text: a fault, or how many lines and the draft -/
noncomputable def zd_tx (b : Nat → Nat) (n : Nat) : Nat → Nat → Nat → (Nat → Nat) → Nat → (Nat × Nat) ⊕ (Nat × (Nat → Nat))
  | 0, _, _, _, _ => .inl (1, 0)
  | j + 1, t, p, G, M => if zt_ok b n p = true then (if zt_s b n p = 0 then .inr (t, G) else match zd_li b n p G M with | .inl a => .inl a | .inr a => zd_tx b n j (t + 1) a.2.2 a.1 a.2.1) else .inl (1, zt_f b n p)
def zd_TC (σ : zz_T) (Q : Int32 → zz_T → Prop) : (Nat × Nat) ⊕ (Nat × (Nat → Nat)) → Prop
  | .inl a => ∀ (t : Nat) (σ' : zz_T), zd_KX σ σ' → σ'.1 1 2 = nI a.1 → σ'.1 1 3 = nI a.2 → Q (nI t) σ'
  | .inr a => ∀ σ' : zz_T, zd_KX σ σ' → σ'.1 1 2 = σ.1 1 2 → xP σ' 20 a.2 → Q (nI a.1) σ'
theorem zd_textX {Q : Int32 → zz_T → Prop} (T : zt_T σ n b) : ∀ (j t p : Nat) (G : Nat → Nat) (M : Nat) (σ1 : zz_T), n - p < j → t ≤ p → zd_ok G M → p ≤ n → zd_KX σ σ1 → σ1.1 1 2 = σ.1 1 2 → σ1.1 1 6 = nI p → zd_X σ1 G M → zd_TC σ Q (zd_tx b n j t p G M) → pX4_readInto_21 1 20 Q j (nI t) σ1 := by
  have n160 := T.2.1
  intro j
  induction j with
  | zero => intro t p G M σ1 hj; omega
  | succ j ih =>
    intro t p G M σ1 hj ht hG hp kx a2 a6 X hQ
    have un : zd_tx b n (j + 1) t p G M = if zt_ok b n p = true then (if zt_s b n p = 0 then .inr (t, G) else match zd_li b n p G M with | .inl a => .inl a | .inr a => zd_tx b n j (t + 1) a.2.2 a.1 a.2.1) else .inl (1, zt_f b n p) := rfl
    rw [un] at hQ
    refine br_f (by rw [show (160 : Int32) = nI 160 from rfl, nI_ltI (by omega) (by omega)]; omega) ?_
    have sl : zt_s b n p ≤ 4 := by
      unfold zt_s
      split
      · omega
      · exact (zt_sort_le _).2
    refine x_step (T.kk kx) hp a6 (fun k σ2 y2 b2 b4 b5 b6 => br_f (by decide) ?_) (fun k σ2 y2 b2 b3 => br_t rfl ?_)
    · rw [if_pos k] at hQ
      have k2 : zd_KX σ σ2 := kx.tr y2.k
      have e2 : σ2.1 1 2 = σ.1 1 2 := by rw [b2]; exact a2
      have X2 : zd_X σ2 G M := X.kept hG.1.1.1 y2.1 (y2.2 8 (by omega))
      by_cases s0 : zt_s b n p = 0
      · rw [if_pos s0] at hQ
        exact br_t (by rw [b4, s0]; rfl) (hQ σ2 k2 e2 X2.1)
      · rw [if_neg s0] at hQ
        refine br_f (by rw [b4]; exact fun z => s0 ((nI_z (by omega)).mp z)) ?_
        have P := zd_li_P hG hp s0
        have C : zd_C σ2 (fun r44 s44 => ((r44 = 0 → Q (nI t) s44) ∧ (¬ r44 = 0 → pX4_readInto_21 1 20 Q j (nI t + 1) s44))) (zd_li b n p G M) := by
          revert P hQ
          cases zd_li b n p G M with
          | inl a => exact fun hQ P σ3 y3 c1 c2 => br_t rfl (hQ t σ3 (k2.tr y3) c1 c2)
          | inr a =>
            intro hQ P σ3 y3 c1 c2 X3
            refine br_f (by decide) ?_
            rw [nI_1]
            have P1 : p < a.2.2 := P.2.1
            have P2 : a.2.2 ≤ n := P.2.2
            exact ih (t + 1) a.2.2 a.1 a.2.1 σ3 (by omega) (by omega) P.1 P.2.2 (k2.tr y3) (by rw [c1]; exact e2) c2 X3 hQ
        exact zd_lineX hG (T.kk k2) hp b5 b6 X2 (fun c hc is => by rw [zd_li_y hc is] at C; exact C) (fun none => by rw [zd_li_n none] at C; exact C)
    · rw [if_neg (fun z => by rw [k] at z; cases z)] at hQ
      exact hQ t σ2 (kx.tr y2.k) b2 b3
end ZE
