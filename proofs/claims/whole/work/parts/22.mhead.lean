/-! THE REFERENCE: a head, in a flat row -/
theorem m_within {z : Int} {m : Nat} {τ : zz_T} {Q : Int32 → zz_T → Prop} (hm : m < 2147483648) (h1 : -2147483648 ≤ z) (h2 : z < 2147483648) (h : Q (nI (min z.toNat m)) τ) : pX6_within (iI z) (nI m) τ Q := z_clip2 (P := fun x => Q x τ) hm h1 h2 h
theorem m_of {h c : Nat} {τ : zz_T} {Q : Int32 → zz_T → Prop} (hh : h < 3) (hc : c < 11) (hq : Q (τ.1 2 (11 * h + c)) τ) : pX6_of (nI h) (nI c) τ Q := by
  unfold pX6_of
  rw [show (11 : Int32) = nI 11 from rfl, pk_mul, nI_add, nI_tn (by omega)]
  exact ⟨vp_in_nI (by omega) (by decide), hq⟩
theorem m_heat {h d : Nat} {τ : zz_T} {Q : Int32 → zz_T → Prop} (hh : h < 3) (hd : d < 8) (hq : Q (τ.1 2 (11 * h + 3 + d)) τ) : pX6_heat (nI h) (nI d) τ Q := by
  unfold pX6_heat
  rw [show (11 : Int32) = nI 11 from rfl, show (3 : Int32) = nI 3 from rfl, pk_mul, nI_add, nI_add, nI_tn (by omega)]
  exact ⟨vp_in_nI (by omega) (by decide), hq⟩
theorem m_heatB {h d : Nat} {v : Int32} {τ : zz_T} {Q : zz_T → Prop} (hh : h < 3) (hd : d < 8) (hq : Q (zz_i τ 2 (11 * h + 3 + d) v)) : pX6_heatBecomes (nI h) (nI d) v τ Q := by
  unfold pX6_heatBecomes
  rw [show (11 : Int32) = nI 11 from rfl, show (3 : Int32) = nI 3 from rfl, pk_mul, nI_add, nI_add, nI_tn (by omega)]
  exact ⟨vp_in_nI (by omega) (by decide), hq⟩
theorem m_isIn {w d : Nat} {τ : zz_T} {Q : Int32 → zz_T → Prop} (hw : w < 256) (hd : d < 8) (hq : Q (if w.testBit d then 1 else 0) τ) : pX6_isIn (nI w) (nI d) τ Q := by
  unfold pX6_isIn
  rw [zb_1 w hw d hd]
  by_cases h : w.testBit d = true
  · rw [if_pos h] at hq ⊢
    exact br_t (by decide) ⟨zz_bo1, hq⟩
  · rw [if_neg h] at hq ⊢
    exact br_f (by decide) ⟨zz_bo0, hq⟩
theorem m_gets {h d w nx kd po : Nat} {f : Nat → Nat} {τ : zz_T} {Q : Int32 → zz_T → Prop} (hh : h < 3) (hd : d < 8) (hw : w < 256) (hn : nx < 256) (h0 : τ.1 2 (11 * h) = nI kd) (hkd : kd ≤ 3) (h1 : τ.1 2 (11 * h + 1) = nI po) (hpo : po ≤ 30) (h2 : τ.1 2 (11 * h + 3 + d) = nI (f d)) (hf : f d ≤ 99) (hq : Q (nI (zs_gn kd po f w nx d)) τ) : pX6_gets (nI h) (nI d) (nI w) (nI nx) τ Q := by
  have e4 : nI (f d) / 4 = iI ((f d / 4 : Nat) : Int) := by rw [← iI_nI]; exact pk_div (d := 4) (by omega) (by omega) (by omega)
  have key : ∀ mu : Nat, mu = (if w.testBit d then po else 0) → pX6_gets_22 Q (nI h) (nI d) (nI w) (nI nx) (nI po) (nI mu) τ := by
    intro mu emu
    have hmu : mu ≤ 30 := by rw [emu]; split <;> omega
    unfold pX6_gets_22
    refine m_of (c := 0) hh (by omega) ?_
    rw [Nat.add_zero, h0]
    have wi : ∀ (R : Int32 → zz_T → Prop), R (nI (mu - f d / 4)) τ → pX6_within (nI mu - nI (f d) / 4) 1000000 τ R := by
      intro R hR
      rw [e4, iI_nI mu, iI_sub]
      refine m_within (m := 1000000) (by omega) (by omega) (by omega) ?_
      rw [show min ((mu : Int) - ((f d / 4 : Nat) : Int)).toNat 1000000 = mu - f d / 4 by omega]
      exact hR
    unfold zs_gn at hq
    rcases (show kd = 0 ∨ kd = 1 ∨ kd = 2 ∨ kd = 3 by omega) with rfl | rfl | rfl | rfl
    · refine br_f (by decide) (br_f (by decide) (br_f (by decide) ?_))
      rw [emu]
      by_cases hb : w.testBit d = true
      · rw [if_pos hb]; simpa [hb] using hq
      · rw [if_neg hb]; simpa [hb] using hq
    · refine br_t (by decide) (m_heat hh hd ?_)
      rw [h2]
      refine wi _ ?_
      rw [emu]
      by_cases hb : w.testBit d = true
      · rw [if_pos hb]; simpa [hb] using hq
      · rw [if_neg hb, Nat.zero_sub]; simpa [hb] using hq
    · refine br_f (by decide) (br_t (by decide) ?_)
      have e108 : ∀ t0 : Int32, Q (nI (if t0 = 0 then mu - f d / 4 else mu - f d / 4 - 2)) τ → pX6_gets_108 Q (nI h) (nI d) (nI mu) t0 τ := by
        intro t0 hR
        unfold pX6_gets_108
        refine m_heat hh hd ?_
        rw [h2]
        refine wi _ ?_
        by_cases h00 : t0 = 0
        · rw [if_pos h00] at hR
          exact br_t h00 hR
        · rw [if_neg h00] at hR
          refine br_f h00 ?_
          rw [iI_nI (mu - f d / 4), show (2 : Int32) = iI 2 from rfl, iI_sub]
          refine m_within (m := 1000000) (by omega) (by omega) (by omega) ?_
          rw [show min (((mu - f d / 4 : Nat) : Int) - 2).toNat 1000000 = mu - f d / 4 - 2 by omega]
          exact hR
      have q0 : zs_both w d = false → pX6_gets_107 Q (nI h) (nI d) (nI mu) τ := by
        intro hs
        unfold pX6_gets_107
        refine e108 0 ?_
        rw [if_pos rfl, emu]
        by_cases hb : w.testBit d = true
        · rw [if_pos hb]; simpa [hb, hs] using hq
        · rw [if_neg hb, Nat.zero_sub]; simpa [hb] using hq
      by_cases hd0 : d = 0
      · exact br_t (by rw [hd0]; decide) (q0 (by rw [hd0]; rfl))
      · refine br_f (by rw [show (0 : Int32) = nI 0 from rfl, nI_leI (by omega) (by omega)]; omega) ?_
        by_cases hd7 : d = 7
        · exact br_t (by rw [hd7]; decide) (q0 (by rw [hd7]; simp [zs_both]))
        · refine br_f (by rw [show (7 : Int32) = nI 7 from rfl, nI_leI (by omega) (by omega)]; omega) ?_
          rw [show (1 : Int32) = nI 1 from rfl, pk_sub (by omega), nI_add]
          refine m_isIn hw (by omega) ?_
          by_cases hb1 : w.testBit (d - 1) = true
          · rw [if_pos hb1]
            refine br_f (by decide) (m_isIn hw (by omega) ?_)
            by_cases hb2 : w.testBit (d + 1) = true
            · rw [if_pos hb2]
              refine br_f (by decide) (e108 _ ?_)
              have hs : zs_both w d = true := by simp [zs_both, hb1, hb2]; omega
              rw [if_neg (by decide), emu]
              by_cases hb : w.testBit d = true
              · rw [if_pos hb]; simpa [hb, hs] using hq
              · rw [if_neg hb, Nat.zero_sub, Nat.zero_sub]; simpa [hb] using hq
            · rw [if_neg hb2]
              exact br_t (by decide) (q0 (by simp [zs_both, hb2]))
          · rw [if_neg hb1]
            exact br_t (by decide) (q0 (by simp [zs_both, hb1]))
    · refine br_f (by decide) (br_f (by decide) (br_t (by decide) (m_isIn hw hd ?_)))
      by_cases hb : w.testBit d = true
      · rw [if_pos hb]
        refine br_f (by decide) ?_
        rw [emu, if_pos hb]
        simpa [hb] using hq
      · rw [if_neg hb]
        refine br_t (by decide) (m_isIn hn hd ?_)
        rw [emu, if_neg hb]
        by_cases hx : nx.testBit d = true
        · rw [if_pos hx]
          refine br_f (by decide) ?_
          rw [show (3 : Int32) = nI 3 from rfl, pk_div (by omega) (by omega) (by omega), nI_add, Nat.zero_add]
          simpa [hb, hx] using hq
        · rw [if_neg hx]
          refine br_t (by decide) ?_
          simpa [hb, hx] using hq
  unfold pX6_gets
  refine m_of (c := 1) hh (by omega) ?_
  rw [h1]
  refine m_isIn hw hd ?_
  by_cases hb : w.testBit d = true
  · rw [if_pos hb]
    exact br_f (by decide) (key po (by rw [if_pos hb]))
  · rw [if_neg hb]
    exact br_t (by decide) (key 0 (by rw [if_neg hb]))
theorem m_bits_loop {w : Nat} {τ : zz_T} {Q : Int32 → zz_T → Prop} (hw : w < 256) (hq : Q (nI (zs_pc w)) τ) : ∀ (j d : Nat), d + j = 8 → pX6_bitsOf_4 Q (j + 1) (nI w) (nI (fb_sm (fun d => if w.testBit d then 1 else 0) d)) (nI d) τ := by
  intro j
  induction j with
  | zero =>
    intro d hd
    obtain rfl : d = 8 := by omega
    exact br_t (by decide) hq
  | succ j ih =>
    intro d hd
    refine br_f (by rw [show (8 : Int32) = nI 8 from rfl, nI_leI (by omega) (by omega)]; omega) ?_
    rw [zb_1 w hw d (by omega), nI_add, nI_1]
    exact ih (d + 1) (by omega)
theorem m_bitsOf {w : Nat} {τ : zz_T} {Q : Int32 → zz_T → Prop} (hw : w < 256) (hq : Q (nI (zs_pc w)) τ) : pX6_bitsOf (nI w) τ Q := ⟨9, m_bits_loop hw hq 8 0 rfl⟩
theorem m_blackOf {h mk : Nat} {t : Nat → Nat} {τ : zz_T} {Q : Int32 → zz_T → Prop} (hh : h < 3) (hm : τ.1 2 34 = nI mk) (hmk : mk ≤ 60) (ht : ∀ d, d < 8 → τ.1 2 (11 * h + 3 + d) = nI (t d)) (htl : ∀ d, d < 8 → t d ≤ 99) (hq : Q (nI (zs_bk mk t 8)) τ) : pX6_blackOf (nI h) τ Q := by
  have loop : ∀ (j d : Nat), d + j = 8 → pX6_blackOf_4 Q (j + 1) (nI h) (nI (zs_bk mk t d)) (nI d) τ := by
    intro j
    induction j with
    | zero =>
      intro d hd
      obtain rfl : d = 8 := by omega
      exact br_t (by decide) hq
    | succ j ih =>
      intro d hd
      refine br_f (by rw [show (8 : Int32) = nI 8 from rfl, nI_leI (by omega) (by omega)]; omega) (m_heat hh (by omega) ⟨vp_in_nI (n := 34) (by decide) (by decide), ?_⟩)
      have h2 := ih (d + 1) (by omega)
      have td := htl d (by omega)
      rw [show Int32.toNatClampNeg 34 = 34 from rfl, hm, ht d (by omega)]
      rw [zs_bk_succ] at h2
      unfold pX6_blackOf_32 pX6_flag
      rw [nI_1]
      by_cases hc : mk ≤ t d
      · rw [if_pos hc] at h2
        refine br_f (by rw [nI_ltI (by omega) (by omega)]; omega) (br_f (by decide) ?_)
        dsimp only
        rw [zb_s d (by omega), zs_bk_or]
        exact h2
      · rw [if_neg hc] at h2
        refine br_t (by rw [nI_ltI (by omega) (by omega)]; omega) (br_t rfl ?_)
        dsimp only
        rw [zb_0 d (by omega), fa_or, Nat.or_zero]
        exact h2
  exact ⟨9, loop 8 0 rfl⟩
