/-! MARK and COOL. What is wrong by a mark, dot by dot -/
def mk1 (v w : Nat) (t : Nat → Nat) (d : Nat) : Nat := if decide (v ≤ t d) = w.testBit d then 0 else 1
theorem zs_bk_bit (mk : Nat) (t : Nat → Nat) : ∀ n i, (zs_bk mk t n).testBit i = (decide (i < n) && decide (mk ≤ t i))
  | 0, i => by simp [zs_bk, fb_sm]
  | n + 1, i => by
    rw [zs_bk_succ]
    have lt := zs_bk_lt mk t n
    by_cases hc : mk ≤ t n
    · rw [if_pos hc, show zs_bk mk t n + 2 ^ n = 2 ^ n * 1 + zs_bk mk t n by omega, Nat.testBit_two_pow_mul_add 1 lt i]
      by_cases hi : i < n
      · rw [if_pos hi, zs_bk_bit mk t n i]
        simp [hi, Nat.lt_succ_of_lt hi]
      · rw [if_neg hi]
        by_cases e : i = n
        · subst e; simp [hc]
        · have : ¬ i < n + 1 := by omega
          simp only [this, decide_false, Bool.false_and]
          exact Bool.eq_false_iff.mpr (fun q => by have := Nat.testBit_one_eq_true_iff_self_eq_zero.mp q; omega)
    · rw [if_neg hc, Nat.add_zero, zs_bk_bit mk t n i]
      by_cases e : i = n
      · subst e; simp [hc]
      · have q : decide (i < n + 1) = decide (i < n) := by
          by_cases h : i < n
          · simp [h, Nat.lt_succ_of_lt h]
          · have : ¬ i < n + 1 := by omega
            simp [h, this]
        rw [q]
theorem gE_mk (v w : Nat) (t : Nat → Nat) : zs_pc (zs_bk v t 8 ^^^ w) = fb_sm (mk1 v w t) 8 := by
  refine fb_sm_cong (fun d hd => ?_)
  unfold mk1
  rw [Nat.testBit_xor, zs_bk_bit]
  simp only [hd, decide_true, Bool.true_and]
  cases decide (v ≤ t d) <;> cases w.testBit d <;> rfl
theorem x_fill {c n : Nat} {v : Int32} {σ : zz_T} {Q : zz_T → Prop} (hn : n < 100000) (hq : ∀ σ' : zz_T, zz_but (fun q => q = c) σ σ' → (∀ i, i < n → σ'.1 c i = v) → Q σ') : pJ7_fill_53178 c n v σ Q := by
  have loop : ∀ (j i : Nat) (σ1 : zz_T), i + j = n → zz_but (fun q => q = c) σ σ1 → (∀ e, e < i → σ1.1 c e = v) → pJ7_fill_53178_5 c n Q (j + 1) v (nI i) (nI n) σ1 := by
    intro j
    induction j with
    | zero =>
      intro i σ1 hi hb he
      obtain rfl : i = n := by omega
      exact br_t (nI_le (Nat.le_refl _) (by omega)) (hq σ1 hb he)
    | succ j ih =>
      intro i σ1 hi hb he
      refine br_f (nI_ge (by omega) (by omega)) ⟨vp_in_nI (by omega) (by omega), ?_⟩
      rw [nI_1, nI_tn (by omega)]
      refine ih (i + 1) _ (by omega) (hb.i rfl) (fun e h => ?_)
      by_cases q : e = i
      · subst q; rw [zi_at]
      · rw [zi_j q]; exact he e (by omega)
  exact ⟨n + 1, loop n 0 σ (by omega) (zz_but.rf _ _) (fun e h => absurd h (by omega))⟩
/-- the steps of the marks: y k stands at place k + 1; their sum up to v is what is wrong by mark v -/
def mkAt (σ : zz_T) (C : Nat → Nat) : Prop := ∃ y : Nat → Int, (∀ k, k ≤ 60 → σ.1 43 (k + 1) = iI (y k)) ∧ ∀ v, 1 ≤ v → v ≤ 60 → fb_si y v = (C v : Int)
theorem x_stepMarks {c1 w : Nat} {t : Nat → Nat} {C : Nat → Nat} {σ : zz_T} {Q : zz_T → Prop} (hc : c1 + 2 ≠ 43) (hw : w < 256) (ht : ∀ d, d < 8 → σ.1 (c1 + 2) d = nI (t d)) (htl : ∀ d, d < 8 → t d ≤ 99) (A : mkAt σ C) (hq : ∀ σ' : zz_T, zz_but (fun q => q = 43) σ σ' → mkAt σ' (fun v => C v + fb_sm (mk1 v w t) 8) → Q σ') : pX5_stepMarks c1 (nI w) σ Q := by
  have loop : ∀ (j d : Nat) (σ1 : zz_T), d + j = 8 → zz_but (fun q => q = 43) σ σ1 → mkAt σ1 (fun v => C v + fb_sm (mk1 v w t) d) → pX5_stepMarks_2 c1 Q (j + 1) (nI w) (nI d) σ1 := by
    intro j
    induction j with
    | zero =>
      intro d σ1 hd hb hA
      obtain rfl : d = 8 := by omega
      exact br_t (by decide) (hq σ1 hb hA)
    | succ j ih =>
      intro d σ1 hd hb hA
      have td := htl d (by omega)
      refine br_f (by rw [show (8 : Int32) = nI 8 from rfl, nI_leI (by omega) (by omega)]; omega) ⟨vp_in_nI (by omega) (by decide), ?_⟩
      rw [nI_tn (n := d) (by omega), hb.1 (c1 + 2) hc, ht d (by omega), show (60 : Int32) = nI 60 from rfl, z_min (by omega) (by omega), nI_1, nI_tn (by omega), zb_1 w hw d (by omega)]
      have via : vp_in (nI (min (t d) 60 + 1)) 62 := vp_in_nI (by omega) (by decide)
      obtain ⟨y, hy, hs⟩ := hA
      unfold pX5_stepMarks_67
      rw [nI_1]
      by_cases hbit : w.testBit d = true
      · rw [if_pos hbit]
        refine br_t rfl ⟨via, via, ih (d + 1) _ (by omega) (hb.i rfl) ⟨fun k => if k = min (t d) 60 then y (min (t d) 60) + 1 else y k, fun k hk => ?_, fun v h1 h2 => ?_⟩⟩
        · by_cases e : k = min (t d) 60
          · subst e
            dsimp only
            rw [zi_at, hy _ (by omega), if_pos rfl, show (1 : Int32) = iI 1 from rfl, iI_add]
          · dsimp only
            rw [zi_j (by omega), if_neg e]; exact hy k hk
        · have e : fb_si y v = ((C v + fb_sm (mk1 v w t) d : Nat) : Int) := hs v h1 h2
          show _ = ((C v + (fb_sm (mk1 v w t) d + mk1 v w t d) : Nat) : Int)
          rw [show mk1 v w t d = (if decide (v ≤ t d) = w.testBit d then 0 else 1) from rfl, hbit]
          by_cases q : min (t d) 60 < v
          · rw [fb_si_upd y _ q]
            have : ¬ v ≤ t d := by omega
            rw [show decide (v ≤ t d) = false by simp [this], if_neg (by decide)]
            omega
          · rw [fb_si_out y _ (by omega)]
            have : v ≤ t d := by omega
            rw [show decide (v ≤ t d) = true by simp [this], if_pos rfl]
            omega
      · rw [if_neg hbit]
        have hbit : w.testBit d = false := by simpa using hbit
        refine br_f (by decide) ⟨vp_in_nI (n := 1) (by decide) (by decide), vp_in_nI (n := 1) (by decide) (by decide), via, via, ih (d + 1) _ (by omega) ((hb.i rfl).i rfl) ?_⟩
        -- first +1 at place 1, then -1
        let y1 : Nat → Int := fun k => if k = 0 then y 0 + 1 else y k
        have hy1 : ∀ k, k ≤ 60 → (zz_i σ1 43 (Int32.toNatClampNeg 1) (σ1.1 43 (Int32.toNatClampNeg 1) + 1)).1 43 (k + 1) = iI (y1 k) := by
          intro k hk
          rw [show Int32.toNatClampNeg 1 = 1 from rfl]
          by_cases e : k = 0
          · subst e
            rw [zi_at]
            have := hy 0 (by omega)
            rw [Nat.zero_add] at this
            rw [this, show (1 : Int32) = iI 1 from rfl, iI_add]
            rfl
          · rw [zi_j (by omega), hy k hk]
            show iI (y k) = iI (if k = 0 then _ else y k)
            rw [if_neg e]
        refine ⟨fun k => if k = min (t d) 60 then y1 (min (t d) 60) - 1 else y1 k, fun k hk => ?_, fun v h1 h2 => ?_⟩
        · by_cases e : k = min (t d) 60
          · subst e
            dsimp only
            rw [zi_at, hy1 _ (by omega), if_pos rfl, show (1 : Int32) = iI 1 from rfl, iI_sub]
          · dsimp only
            rw [zi_j (by omega), if_neg e]; exact hy1 k hk
        · have e : fb_si y v = ((C v + fb_sm (mk1 v w t) d : Nat) : Int) := hs v h1 h2
          have e1 : fb_si y1 v = fb_si y v + 1 := by
            have := fb_si_upd y (y 0 + 1) (i := 0) (n := v) (by omega)
            rw [show y1 = (fun k => if k = 0 then y 0 + 1 else y k) from rfl, this]
            omega
          show _ = ((C v + (fb_sm (mk1 v w t) d + mk1 v w t d) : Nat) : Int)
          rw [show mk1 v w t d = (if decide (v ≤ t d) = w.testBit d then 0 else 1) from rfl, hbit]
          by_cases q : min (t d) 60 < v
          · rw [fb_si_upd y1 _ q]
            have : ¬ v ≤ t d := by omega
            rw [show decide (v ≤ t d) = false by simp [this], if_pos rfl]
            omega
          · rw [fb_si_out y1 _ (by omega)]
            have : v ≤ t d := by omega
            rw [show decide (v ≤ t d) = true by simp [this], if_neg (by decide)]
            omega
  exact ⟨9, loop 8 0 σ rfl (zz_but.rf _ _) A⟩
