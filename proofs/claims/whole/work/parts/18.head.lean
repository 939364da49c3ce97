/-! THE CLASS: a head -/
theorem hx_gain {k : Nat} {σ : zz_T} {Q : Int32 → zz_T → Prop} {kd po : Nat} {f : Nat → Nat} {w nx d : Nat} (hk : σ.1 k 2 = nI kd) (hkd : kd ≤ 3) (hp : σ.1 k 3 = nI po) (hpo : po ≤ 30) (hf : σ.1 (k + 1) d = nI (f d)) (hfd : f d ≤ 99) (hw : w < 256) (hn : nx < 256) (hd : d < 8) (h : Q (nI (zs_gn kd po f w nx d)) σ) : pX0_gain k (nI d) (nI w) (nI nx) σ Q := by
  have hin : vp_in (nI d) 8 := vp_in_nI hd (by decide)
  have t : Int32.toNatClampNeg (nI d) = d := nI_tn (by omega)
  have e97 : ∀ z : Int, -1000 ≤ z → z ≤ 1000 → Q (nI z.toNat) σ → pX0_gain_97 k Q (iI z) σ := fun z h1 h2 q => z_clip (P := fun x => Q x σ) (by omega) (by omega) q
  have e4 : nI (f d) / 4 = iI ((f d / 4 : Nat) : Int) := by rw [← iI_nI]; exact pk_div (d := 4) (by omega) (by omega) (by omega)
  have epo : nI po = iI (po : Int) := iI_nI po
  have em : (-2 : Int32) = iI (-2) := rfl
  unfold pX0_gain
  rw [zb_1 w hw d hd, zb_1 nx hn d hd, hk, hp]
  unfold zs_gn at h
  by_cases hb : w.testBit d = true
  · rw [if_pos hb] at h ⊢
    refine br_f (by decide) ?_
    rcases (show kd = 0 ∨ kd = 1 ∨ kd = 2 ∨ kd = 3 by omega) with rfl | rfl | rfl | rfl
    · refine br_f (by decide) (br_f (by decide) ?_)
      unfold pX0_gain_71
      rw [hk]
      refine br_f (by decide) ?_
      rw [epo]
      exact e97 _ (by omega) (by omega) (by simpa using h)
    · refine br_t (by decide) ?_
      unfold pX0_gain_58 pX0_gain_71
      rw [t, hf, hk, e4, epo, iI_sub]
      refine ⟨hin, br_f (by decide) (e97 _ (by omega) (by omega) ?_)⟩
      rw [show ((po : Int) - ((f d / 4 : Nat) : Int)).toNat = po - f d / 4 by omega]
      exact h
    · refine br_f (by decide) (br_t (by decide) ?_)
      unfold pX0_gain_58 pX0_gain_71
      rw [t, hf, hk, e4, epo, iI_sub, zb_2 w hw d hd]
      refine ⟨hin, br_t (by decide) ?_⟩
      by_cases hs : zs_both w d = true
      · rw [if_pos hs]
        refine br_t (by decide) ?_
        rw [em, iI_add]
        refine e97 _ (by omega) (by omega) ?_
        rw [show ((po : Int) - ((f d / 4 : Nat) : Int) + -2).toNat = po - f d / 4 - 2 by omega]
        rw [if_neg (by decide), if_pos rfl, if_pos hs] at h
        exact h
      · rw [if_neg hs]
        refine br_f (by decide) (e97 _ (by omega) (by omega) ?_)
        rw [show ((po : Int) - ((f d / 4 : Nat) : Int)).toNat = po - f d / 4 by omega]
        rw [if_neg (by decide), if_pos rfl, if_neg hs] at h
        exact h
    · refine br_f (by decide) (br_f (by decide) ?_)
      unfold pX0_gain_71
      rw [hk]
      refine br_f (by decide) ?_
      rw [epo]
      exact e97 _ (by omega) (by omega) (by simpa using h)
  · rw [if_neg hb] at h ⊢
    refine br_t (by decide) ?_
    rcases (show kd = 3 ∨ kd ≠ 3 by omega) with rfl | hk3
    · refine br_t (by decide) ?_
      rw [if_pos rfl] at h
      by_cases hx : nx.testBit d = true
      · rw [if_pos hx] at h ⊢
        refine br_t (by decide) ?_
        rw [show (3 : Int32) = nI 3 from rfl, pk_div (by omega) (by omega) (by omega)]
        exact h
      · rw [if_neg hx] at h ⊢
        exact br_f (by decide) h
    · rw [if_neg hk3] at h
      refine br_f ?_ h
      rw [show (3 : Int32) = nI 3 from rfl, nI_eq (by omega) (by omega)]
      exact hk3
/-- heats, as they are behind the first n dots -/
def hx_u (n : Nat) (t : Nat → Nat) (g : Nat → Int32) : Nat → Int32 := fun j => if j < n then nI (t j) else g j
theorem hx_u0 (t : Nat → Nat) (g : Nat → Int32) : hx_u 0 t g = g := by funext j; simp [hx_u]
theorem hx_us (n : Nat) (t : Nat → Nat) (g : Nat → Int32) : upd (hx_u n t g) n (nI (t n)) = hx_u (n + 1) t g := by
  funext j
  simp only [hx_u, upd]
  by_cases h : j = n
  · subst h; simp
  · by_cases h2 : j < n
    · simp [h, h2, Nat.lt_succ_of_lt h2]
    · simp [h, h2, show ¬ j < n + 1 by omega]
theorem hx_ul {n j : Nat} {t : Nat → Nat} {g : Nat → Int32} (h : j < n) : hx_u n t g j = nI (t j) := by simp [hx_u, h]
theorem hx_settle_loop {k : Nat} {Q : zz_T → Prop} {cl sp : Nat} {t : Nat → Nat} (hcl : cl ≤ 9) (hsp : sp ≤ 3) (ht : ∀ d, d < 8 → t d ≤ 99) : ∀ (j d : Nat) (σ : zz_T), d + j = 8 → (∀ i, i < 8 → σ.1 (k + 2) i = nI (t i)) → ∀ g : Nat → Int32, σ.1 (k + 1) = hx_u d (zs_cl cl sp t) g → Q (zz_r σ (k + 1) (hx_u 8 (zs_cl cl sp t) g)) → pX0_settle_5 k Q (j + 1) (nI cl) (nI sp) (iI (if d = 0 then 0 else zs_fl sp t (d - 1))) (nI d) σ := by
  intro j
  induction j with
  | zero =>
    intro d σ hd hh g hg h
    obtain rfl : d = 8 := by omega
    rw [← hg, zr_self] at h
    exact br_t (by decide) h
  | succ j ih =>
    intro d σ hd hh g hg h
    have hin : vp_in (nI d) 8 := vp_in_nI (by omega) (by decide)
    have td : Int32.toNatClampNeg (nI d) = d := nI_tn (by omega)
    have fb : ∀ i, -38 ≤ zs_fl sp t i ∧ zs_fl sp t i ≤ 38 := by
      intro i
      unfold zs_fl
      split
      · have h1 := ht i (by omega)
        have h2 := ht (i + 1) (by omega)
        have b1 : -297 ≤ ((t i : Int) - (t (i + 1) : Int)) * (sp : Int) ∧ ((t i : Int) - (t (i + 1) : Int)) * (sp : Int) ≤ 297 := by
          rcases (show sp = 0 ∨ sp = 1 ∨ sp = 2 ∨ sp = 3 by omega) with rfl | rfl | rfl | rfl <;> omega
        generalize ((t i : Int) - (t (i + 1) : Int)) * (sp : Int) = z at b1
        rcases Int.le_total 0 z with q | q
        · have := Int.tdiv_eq_ediv_of_nonneg (b := 8) q
          omega
        · have e : z.tdiv 8 = -((-z).tdiv 8) := by rw [Int.neg_tdiv]; omega
          have := Int.tdiv_eq_ediv_of_nonneg (a := -z) (b := 8) (by omega)
          omega
      · omega
    have key : pX0_settle_47 k Q (pX0_settle_5 k Q (j + 1)) (nI cl) (nI sp) (iI (if d = 0 then 0 else zs_fl sp t (d - 1))) (nI d) (iI (zs_fl sp t d)) σ := by
      unfold pX0_settle_47
      refine ⟨hin, ?_⟩
      rw [td, hh d (by omega), iI_nI (t d), iI_nI cl, iI_add, iI_sub, iI_sub]
      have tdb := ht d (by omega)
      have b0 : -38 ≤ (if d = 0 then 0 else zs_fl sp t (d - 1)) ∧ (if d = 0 then 0 else zs_fl sp t (d - 1)) ≤ 38 := by
        split
        · omega
        · exact fb (d - 1)
      have b1 := fb d
      have fin : pX0_settle_94 k Q (pX0_settle_5 k Q (j + 1)) (nI cl) (nI sp) (nI d) (iI (zs_fl sp t d)) (nI d) (nI (zs_cl cl sp t d)) σ := by
        unfold pX0_settle_94
        refine ⟨hin, ?_⟩
        rw [td, nI_1]
        have h2 := ih (d + 1) (zz_i σ (k + 1) d (nI (zs_cl cl sp t d))) (by omega) (fun i hi => by rw [zi_k (by omega)]; exact hh i hi) g (by rw [zi_r, zr_at, hg, hx_us]) (by rw [zr_i]; exact h)
        rw [if_neg (by omega), Nat.add_sub_cancel] at h2
        exact h2
      rw [← iI_nI cl]
      refine z_clip2 (P := fun x => pX0_settle_94 k Q (pX0_settle_5 k Q (j + 1)) (nI cl) (nI sp) (nI d) (iI (zs_fl sp t d)) (nI d) x σ) (m := 99) (by omega) (by omega) (by omega) ?_
      exact fin
    refine br_f (by rw [show (8 : Int32) = nI 8 from rfl, nI_leI (by omega) (by omega)]; omega) ?_
    rw [nI_1]
    by_cases h7 : d = 7
    · refine br_t (by rw [h7]; decide) ?_
      have e : zs_fl sp t d = 0 := by simp [zs_fl, h7]
      rw [e] at key
      exact key
    · refine br_f (by rw [show (8 : Int32) = nI 8 from rfl, nI_leI (by omega) (by omega)]; omega) ⟨hin, vp_in_nI (by omega) (by decide), ?_⟩
      have h1 := ht d (by omega)
      have h2 := ht (d + 1) (by omega)
      have b1 : -297 ≤ ((t d : Int) - (t (d + 1) : Int)) * (sp : Int) ∧ ((t d : Int) - (t (d + 1) : Int)) * (sp : Int) ≤ 297 := by
        rcases (show sp = 0 ∨ sp = 1 ∨ sp = 2 ∨ sp = 3 by omega) with rfl | rfl | rfl | rfl <;> omega
      have e : zs_fl sp t d = (((t d : Int) - (t (d + 1) : Int)) * (sp : Int)).tdiv 8 := by simp [zs_fl, show d < 7 by omega]
      rw [td, nI_tn (n := d + 1) (by omega), hh d (by omega), hh (d + 1) (by omega), iI_nI (t d), iI_nI (t (d + 1)), iI_nI sp, iI_sub, iI_mul, show (8 : Int32) = iI 8 from rfl, iI_div (by omega) (by omega) (by omega) (by omega), ← e, ← iI_nI sp]
      exact key
theorem hx_settle {k : Nat} {σ : zz_T} {Q : zz_T → Prop} {cl sp : Nat} {t : Nat → Nat} (hcl : cl ≤ 9) (hsp : sp ≤ 3) (ht : ∀ d, d < 8 → t d ≤ 99) (hh : ∀ i, i < 8 → σ.1 (k + 2) i = nI (t i)) (h : Q (zz_r σ (k + 1) (hx_u 8 (zs_cl cl sp t) (σ.1 (k + 1))))) : pX0_settle k (nI cl) (nI sp) σ Q :=
  ⟨9, hx_settle_loop hcl hsp ht 8 0 σ rfl hh (σ.1 (k + 1)) (hx_u0 _ _).symm h⟩
