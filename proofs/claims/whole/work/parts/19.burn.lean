/-- what a head is: kind, power, wrong, heats -/
def hx_is (σ : zz_T) (k kd po wr : Nat) (f : Nat → Nat) : Prop := σ.1 k 2 = nI kd ∧ σ.1 k 3 = nI po ∧ σ.1 k 4 = nI wr ∧ (∀ d, d < 8 → σ.1 (k + 1) d = nI (f d)) ∧ kd ≤ 3 ∧ po ≤ 30 ∧ wr ≤ 9999 ∧ ∀ d, d < 8 → f d ≤ 99
def rx_is (σ : zz_T) (k mk cl sp : Nat) : Prop := σ.1 k 0 = nI mk ∧ σ.1 k 1 = nI cl ∧ σ.1 k 2 = nI sp ∧ mk ≤ 60 ∧ cl ≤ 9 ∧ sp ≤ 3
theorem z_min {a m : Nat} (ha : a < 2147483648) (hm : m < 2147483648) : (if nI m < nI a then nI m else nI a) = nI (min a m) := by
  by_cases h : m < a
  · rw [if_pos ((nI_ltI hm ha).mpr h), Nat.min_eq_right (by omega)]
  · rw [if_neg (fun q => h ((nI_ltI hm ha).mp q)), Nat.min_eq_left (by omega)]
theorem z_max {a m : Nat} (ha : a < 2147483648) (hm : m < 2147483648) : (if nI a < nI m then nI m else nI a) = nI (max a m) := by
  by_cases h : a < m
  · rw [if_pos ((nI_ltI ha hm).mpr h), Nat.max_eq_right (by omega)]
  · rw [if_neg (fun q => h ((nI_ltI ha hm).mp q)), Nat.max_eq_left (by omega)]
/-- the state behind a burnt line -/
def hx_st (σ : zz_T) (k : Nat) (wr mk cl sp w : Nat) (t : Nat → Nat) : zz_T := zz_r (zz_i (zz_r σ (k + 2) (hx_u 8 t (σ.1 (k + 2)))) k 4 (nI (min (wr + zs_pc (zs_bk mk t 8 ^^^ w)) 9999))) (k + 1) (hx_u 8 (zs_cl cl sp t) (σ.1 (k + 1)))
theorem hx_burn {k c1 : Nat} {σ : zz_T} {Q : Int32 → zz_T → Prop} {kd po wr mk cl sp : Nat} {f : Nat → Nat} {w nx : Nat} (b : Bool) (H : hx_is σ k kd po wr f) (hr : rx_is σ (c1 + 3) mk cl sp) (hw : w < 256) (hn : nx < 256) (n0 : c1 + 3 ≠ k) (n1 : c1 + 3 ≠ k + 1) (n2 : c1 + 3 ≠ k + 2) (h : Q (nI (zs_bk mk (zs_ht kd po f w nx b) 8)) (hx_st σ k wr mk cl sp w (zs_ht kd po f w nx b))) : pX0_burnLine k c1 (nI w) (nI nx) (if b then 1 else 0) σ Q := by
  obtain ⟨hk, hp, hwr, hf, hkd, hpo, hwl, hfl⟩ := H
  obtain ⟨r0, r1, r2, hmk, hcl, hsp⟩ := hr
  have htl : ∀ d, zs_ht kd po f w nx b d ≤ 99 := fun d => zs_ht_le kd po f w nx b d
  have htv : ∀ d, d < 8 → (if (99 : Int32) < nI (f d) + nI (if b then zs_gn kd po f w nx d else 0) then 99 else nI (f d) + nI (if b then zs_gn kd po f w nx d else 0)) = nI (zs_ht kd po f w nx b d) := by
    intro d hd
    have h1 := hfl d hd
    have h2 : (if b then zs_gn kd po f w nx d else 0) ≤ 30 := by
      have := zs_gn_le (kd := kd) (po := po) (f := f) (w := w) (nx := nx) (d := d)
      split <;> omega
    rw [nI_add]
    exact z_min (m := 99) (by omega) (by omega)
  unfold hx_st at h
  generalize htd : zs_ht kd po f w nx b = t at htl htv h
  have loop : ∀ (j d : Nat), d + j = 8 → pX0_burnLine_6 k c1 Q (j + 1) (nI w) (nI nx) (if b then 1 else 0) (nI (zs_bk mk t d)) (nI d) (zz_r σ (k + 2) (hx_u d t (σ.1 (k + 2)))) := by
    intro j
    induction j with
    | zero =>
      intro d hd
      obtain rfl : d = 8 := by omega
      refine br_t (by decide) ?_
      rw [fb_xorI]
      refine zb_c _ (zs_xor_lt (zs_bk_lt mk t 8) hw) _ _ ⟨vp_in_nI (n := 1) (by decide) (by decide), vp_in_nI (n := 2) (by decide) (by decide), ?_⟩
      have pl := zs_pc_le (zs_bk mk t 8 ^^^ w)
      rw [zr_k (c := k) (by omega), hwr, nI_add, show (9999 : Int32) = nI 9999 from rfl, z_min (by omega) (by omega), zi_k n0, zr_k n2, show Int32.toNatClampNeg 1 = 1 from rfl, show Int32.toNatClampNeg 2 = 2 from rfl, r1, r2]
      refine hx_settle (t := t) hcl hsp (fun d _ => htl d) (fun i hi => ?_) ?_
      · rw [zi_k (by omega), zr_at, hx_ul hi]
      · rw [zi_k (by omega), zr_k (by omega)]
        exact h
    | succ j ih =>
      intro d hd
      have hd8 : d < 8 := by omega
      have hin : vp_in (nI d) 8 := vp_in_nI hd8 (by decide)
      have td : Int32.toNatClampNeg (nI d) = d := nI_tn (by omega)
      have key : pX0_burnLine_30 k c1 Q (pX0_burnLine_6 k c1 Q (j + 1)) (nI w) (nI nx) (if b then 1 else 0) (nI (zs_bk mk t d)) (nI d) (nI (if b then zs_gn kd po f w nx d else 0)) (zz_r σ (k + 2) (hx_u d t (σ.1 (k + 2)))) := by
        unfold pX0_burnLine_30 pX0_burnLine_79
        refine ⟨hin, hin, hin, vp_in_nI (n := 0) (by decide) (by decide), ?_⟩
        rw [td, zr_k (c := k + 1) (by omega), hf d hd8, htv d hd8, zi_at, zi_of_r, hx_us, zr_k n2, show Int32.toNatClampNeg 0 = 0 from rfl, r0, nI_1]
        have h2 := ih (d + 1) (by omega)
        have td9 := htl d
        rw [zs_bk_succ] at h2
        by_cases hc : mk ≤ t d
        · refine br_f ?_ ?_
          · rw [nI_ltI (by omega) (by omega)]; omega
          · rw [zb_s d hd8, zs_bk_or]
            rw [if_pos hc] at h2
            exact h2
        · refine br_t ?_ ?_
          · rw [nI_ltI (by omega) (by omega)]; omega
          · rw [if_neg hc] at h2
            exact h2
      refine br_f (by rw [show (8 : Int32) = nI 8 from rfl, nI_leI (by omega) (by omega)]; omega) ?_
      cases b with
      | false => exact br_t (by decide) key
      | true =>
        refine br_f (by decide) ?_
        refine hx_gain (f := f) (by rw [zr_k (by omega)]; exact hk) hkd (by rw [zr_k (by omega)]; exact hp) hpo (by rw [zr_k (by omega)]; exact hf d hd8) (hfl d hd8) hw hn hd8 ?_
        exact key
  have h0 := loop 8 0 rfl
  rw [hx_u0, zr_self] at h0
  exact ⟨9, h0⟩
