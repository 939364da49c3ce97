/-- a stretch of a flat row, n places from s on -/
def hu (s n : Nat) (t : Nat → Nat) (a : Nat → Int32) : Nat → Int32 := fun k => if s ≤ k ∧ k < s + n then nI (t (k - s)) else a k
theorem hu_0 (s : Nat) (t : Nat → Nat) (a : Nat → Int32) : hu s 0 t a = a := by
  funext k; simp only [hu]; rw [if_neg (by omega)]
theorem hu_s (s n : Nat) (t : Nat → Nat) (a : Nat → Int32) : upd (hu s n t a) (s + n) (nI (t n)) = hu s (n + 1) t a := by
  funext k
  simp only [hu, upd]
  by_cases h : k = s + n
  · subst h
    rw [if_pos rfl, if_pos (by omega), Nat.add_sub_cancel_left]
  · rw [if_neg h]
    by_cases h2 : s ≤ k ∧ k < s + n
    · rw [if_pos h2, if_pos (by omega)]
    · rw [if_neg h2, if_neg (by omega)]
theorem hu_in {s n d : Nat} {t : Nat → Nat} {a : Nat → Int32} (h : d < n) : hu s n t a (s + d) = nI (t d) := by
  simp only [hu]; rw [if_pos (by omega), Nat.add_sub_cancel_left]
theorem hu_out {s n k : Nat} {t : Nat → Nat} {a : Nat → Int32} (h : k < s ∨ s + n ≤ k) : hu s n t a k = a k := by
  simp only [hu]; rw [if_neg (by omega)]
theorem hu_hu (s n : Nat) (t u : Nat → Nat) (a : Nat → Int32) : hu s n u (hu s n t a) = hu s n u a := by
  funext k
  simp only [hu]
  by_cases h : s ≤ k ∧ k < s + n
  · rw [if_pos h, if_pos h]
  · rw [if_neg h, if_neg h, if_neg h]
theorem zs_fl_b {sp : Nat} {t : Nat → Nat} (hsp : sp ≤ 3) (ht : ∀ d, d < 8 → t d ≤ 99) (i : Nat) : -38 ≤ zs_fl sp t i ∧ zs_fl sp t i ≤ 38 := by
  unfold zs_fl
  split
  · have h1 := ht i (by omega)
    have h2 := ht (i + 1) (by omega)
    have b1 : -297 ≤ ((t i : Int) - (t (i + 1) : Int)) * (sp : Int) ∧ ((t i : Int) - (t (i + 1) : Int)) * (sp : Int) ≤ 297 := by
      rcases (show sp = 0 ∨ sp = 1 ∨ sp = 2 ∨ sp = 3 by omega) with rfl | rfl | rfl | rfl <;> omega
    generalize ((t i : Int) - (t (i + 1) : Int)) * (sp : Int) = z at b1
    rcases Int.le_total 0 z with q | q
    · have := Int.tdiv_eq_ediv_of_nonneg (b := 8) q
      omega
    · have e : z.tdiv 8 = -((-z).tdiv 8) := by rw [Int.neg_tdiv]; omega
      have := Int.tdiv_eq_ediv_of_nonneg (a := -z) (b := 8) (by omega)
      omega
  · omega
theorem m_cools {h cl sp : Nat} {t : Nat → Nat} {τ : zz_T} {Q : zz_T → Prop} (hh : h < 3) (hcl : τ.1 2 35 = nI cl) (hsp : τ.1 2 36 = nI sp) (bcl : cl ≤ 9) (bsp : sp ≤ 3) (ht : ∀ d, d < 8 → τ.1 2 (11 * h + 3 + d) = nI (t d)) (htl : ∀ d, d < 8 → t d ≤ 99) (hq : ∀ τ' : zz_T, zz_but (fun q => q = 2 ∨ q = 10) τ τ' → τ'.1 2 = hu (11 * h + 3) 8 (zs_cl cl sp t) (τ.1 2) → Q τ') : pX6_cools (nI h) τ Q := by
  have fb := zs_fl_b bsp htl
  -- the third loop: heats become
  have loopC : ∀ (j d : Nat) (τ1 : zz_T), d + j = 8 → zz_but (fun q => q = 2 ∨ q = 10) τ τ1 → τ1.1 2 = hu (11 * h + 3) d (zs_cl cl sp t) (τ.1 2) → (∀ i, i < 8 → τ1.1 10 i = iI (zs_lf cl sp t i)) → pX6_cools_101 Q (j + 1) (nI h) (nI d) τ1 := by
    intro j
    induction j with
    | zero =>
      intro d τ1 hd hb h2 h10
      obtain rfl : d = 8 := by omega
      exact br_t (by decide) (hq τ1 hb h2)
    | succ j ih =>
      intro d τ1 hd hb h2 h10
      refine br_f (by rw [show (8 : Int32) = nI 8 from rfl, nI_leI (by omega) (by omega)]; omega) ⟨vp_in_nI (by omega) (by decide), ?_⟩
      rw [nI_tn (by omega), h10 d (by omega), nI_1]
      have bl : -1000 ≤ zs_lf cl sp t d ∧ zs_lf cl sp t d ≤ 1000 := by
        have h1 := htl d (by omega)
        have h3 := fb d
        have h4 := fb (d - 1)
        unfold zs_lf
        split <;> omega
      refine m_within (m := 99) (by omega) (by omega) (by omega) (m_heatB hh (by omega) ?_)
      refine ih (d + 1) _ (by omega) (hb.i (by omega)) ?_ (fun i hi => by rw [zi_k (by omega)]; exact h10 i hi)
      rw [zi_r, zr_at, h2]
      exact hu_s _ _ (zs_cl cl sp t) _
  have loopB : ∀ (j d : Nat) (τ1 : zz_T), d + j = 7 → zz_but (fun q => q = 10) τ τ1 → (∀ i, i < 8 → τ1.1 10 i = iI ((t i : Int) - cl + (if i = 0 then 0 else if i ≤ d then zs_fl sp t (i - 1) else 0) - (if i < d then zs_fl sp t i else 0))) → pX6_cools_36 Q (j + 1) (nI h) (nI d) τ1 := by
    intro j
    induction j with
    | zero =>
      intro d τ1 hd hb h10
      obtain rfl : d = 7 := by omega
      refine br_t (by decide) ⟨9, loopC 8 0 τ1 rfl (hb.mono (fun q hq => by omega)) (by rw [hu_0]; exact hb.1 2 (by omega)) (fun i hi => ?_)⟩
      rw [h10 i hi]
      congr 1
      unfold zs_lf
      by_cases hi7 : i = 7
      · subst hi7
        have : zs_fl sp t 7 = 0 := by simp [zs_fl]
        rw [this]
        simp
        omega
      · rw [if_pos (show i ≤ 7 by omega), if_pos (show i < 7 by omega)]
        split <;> omega
    | succ j ih =>
      intro d τ1 hd hb h10
      have e2 : τ1.1 2 = τ.1 2 := hb.1 2 (by omega)
      have b1 := htl d (by omega)
      have b2 := htl (d + 1) (by omega)
      refine br_f (by rw [nI_1, show (8 : Int32) = nI 8 from rfl, nI_leI (by omega) (by omega)]; omega) (m_heat hh (by omega) ?_)
      rw [nI_1]
      refine m_heat hh (by omega) ⟨vp_in_nI (n := 36) (by decide) (by decide), vp_in_nI (by omega) (by decide), vp_in_nI (by omega) (by decide), vp_in_nI (by omega) (by decide), vp_in_nI (by omega) (by decide), ?_⟩
      have bz : -297 ≤ ((t d : Int) - (t (d + 1) : Int)) * (sp : Int) ∧ ((t d : Int) - (t (d + 1) : Int)) * (sp : Int) ≤ 297 := by
        rcases (show sp = 0 ∨ sp = 1 ∨ sp = 2 ∨ sp = 3 by omega) with rfl | rfl | rfl | rfl <;> omega
      have efl : (nI (t d) - nI (t (d + 1))) * nI sp / 8 = iI (zs_fl sp t d) := by
        rw [iI_nI (t d), iI_nI (t (d + 1)), iI_nI sp, iI_sub, iI_mul, show (8 : Int32) = iI 8 from rfl, iI_div (by omega) (by omega) (by omega) (by omega)]
        simp [zs_fl, show d < 7 by omega]
      rw [nI_tn (n := d) (by omega), nI_tn (n := d + 1) (by omega), show Int32.toNatClampNeg 36 = 36 from rfl, e2, hsp, ht d (by omega), ht (d + 1) (by omega), efl, zi_j (by omega), h10 d (by omega), h10 (d + 1) (by omega), iI_sub, iI_add]
      refine ih (d + 1) _ (by omega) ((hb.i rfl).i rfl) (fun i hi => ?_)
      by_cases i1 : i = d + 1
      · subst i1
        rw [zi_at]
        congr 1
        rw [if_neg (by omega), if_neg (by omega), if_neg (by omega), if_neg (by omega), if_pos (by omega), if_neg (by omega), Nat.add_sub_cancel]
        omega
      · rw [zi_j i1]
        by_cases i0 : i = d
        · subst i0
          rw [zi_at]
          congr 1
          rw [if_neg (show ¬ i < i by omega), if_pos (show i < i + 1 by omega), if_pos (show i ≤ i by omega), if_pos (show i ≤ i + 1 by omega)]
          omega
        · rw [zi_j i0, h10 i hi]
          congr 1
          have q1 : (i ≤ d + 1) = (i ≤ d) := by simp; omega
          have q2 : (i < d + 1) = (i < d) := by simp; omega
          simp only [q1, q2]
  have loopA : ∀ (j d : Nat) (τ1 : zz_T), d + j = 8 → zz_but (fun q => q = 10) τ τ1 → (∀ i, i < d → τ1.1 10 i = iI ((t i : Int) - cl)) → pX6_cools_2 Q (j + 1) (nI h) (nI d) τ1 := by
    intro j
    induction j with
    | zero =>
      intro d τ1 hd hb h10
      obtain rfl : d = 8 := by omega
      refine br_t (by decide) ⟨8, loopB 7 0 τ1 rfl hb (fun i hi => ?_)⟩
      rw [h10 i hi]
      congr 1
      rw [if_neg (show ¬ i < 0 by omega)]
      split
      · omega
      · rw [if_neg (by omega)]; omega
    | succ j ih =>
      intro d τ1 hd hb h10
      have e2 : τ1.1 2 = τ.1 2 := hb.1 2 (by omega)
      refine br_f (by rw [show (8 : Int32) = nI 8 from rfl, nI_leI (by omega) (by omega)]; omega) (m_heat hh (by omega) ⟨vp_in_nI (n := 35) (by decide) (by decide), vp_in_nI (by omega) (by decide), ?_⟩)
      rw [nI_tn (n := d) (by omega), show Int32.toNatClampNeg 35 = 35 from rfl, e2, hcl, ht d (by omega), iI_nI (t d), iI_nI cl, iI_sub, nI_1]
      refine ih (d + 1) _ (by omega) (hb.i rfl) (fun i hi => ?_)
      by_cases i0 : i = d
      · subst i0; rw [zi_at]
      · rw [zi_j i0]; exact h10 i (by omega)
  exact ⟨9, loopA 8 0 τ rfl (zz_but.rf _ _) (fun i hi => absurd hi (by omega))⟩
