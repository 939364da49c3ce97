theorem zo_lI {n : Nat} (h : n < 2 ^ 63) : (lN n).toInt = (n : Int) := lg_ofNat_toInt h
theorem zo_wide {n : Nat} (h : n < 2147483648) : (nI n).toInt64 = lN n := by
  rw [fa_eq64, Int32.toInt_toInt64, nI_i h, zo_lI (by omega)]
theorem zo_z {n : Nat} (h : n < 2 ^ 63) : lN n = 0 ↔ n = 0 := fb_lN_inj (b := 0) h (by decide)
theorem zo_rem {a b : Nat} (ha : a < 2 ^ 62) (hb : b < 2 ^ 62) (h0 : 0 < b) : lN a - lN a / lN b * lN b = lN (a % b) := by
  have hd : (lN a / lN b).toInt = ((a / b : Nat) : Int) := by
    have l : a / b ≤ a := Nat.div_le_self a b
    rw [Int64.toInt_div, zo_lI (by omega), zo_lI (by omega)]
    have e : (a : Int).tdiv (b : Int) = ((a / b : Nat) : Int) := rfl
    rw [e]
    generalize a / b = q at l ⊢
    exact fb_bmodL (by omega) (by omega)
  have hd2 : lN a / lN b = lN (a / b) := by
    have l : a / b ≤ a := Nat.div_le_self a b
    rw [fa_eq64, hd, zo_lI (by omega)]
  have lm : a / b * b ≤ a := Nat.div_mul_le_self a b
  have e := Nat.div_add_mod a b
  rw [hd2, lN_mul, lN_sub lm]
  congr 1
  rw [Nat.mul_comm] at e
  omega
/-- the steps of the greatest common divisor -/
theorem zo_half {a b m : Nat} (hb : b < 2 ^ (m + 1)) (h0 : 0 < b) (h1 : 0 < a % b) : b % (a % b) < 2 ^ m := by
  have l1 := Nat.mod_lt a h0
  have l2 := Nat.mod_lt b h1
  have e := Nat.div_add_mod b (a % b)
  have q : 1 ≤ b / (a % b) := (Nat.le_div_iff_mul_le h1).mpr (by omega)
  have q2 : a % b * 1 ≤ a % b * (b / (a % b)) := Nat.mul_le_mul_left _ q
  have : 2 ^ (m + 1) = 2 * 2 ^ m := by rw [Nat.pow_succ, Nat.mul_comm]
  omega
theorem zo_g {a b : Nat} (h : 0 < b) : Nat.gcd b (a % b) = Nat.gcd a b := by
  rw [Nat.gcd_comm b, ← Nat.gcd_rec, Nat.gcd_comm]
theorem x_part {s al : Nat} {x4 : Int32} {σ : zz_T} {Q : Int64 → zz_T → Prop} (hs : s < 2 ^ 40) (ha : al < 2 ^ 40) (h0 : 0 < al) (hq : Q (if x4 = 0 then lN s / lN (Nat.gcd al s) else lN al / lN (Nat.gcd al s)) σ) : pX5_part (lN s) (lN al) x4 σ Q := by
  have gp : 0 < Nat.gcd al s := Nat.gcd_pos_of_pos_left s h0
  have gl : Nat.gcd al s ≤ al := Nat.gcd_le_left s h0
  have fin : pX5_part_45 Q (lN s) (lN al) x4 (lN (Nat.gcd al s)) σ := by
    have gz : ¬ lN (Nat.gcd al s) = 0 := fun q => by have := (zo_z (by omega)).mp q; omega
    refine ⟨fun q => ⟨gz, ?_⟩, fun q => ⟨gz, ?_⟩⟩
    · rw [if_pos q] at hq; exact hq
    · rw [if_neg q] at hq; exact hq
  have loop : ∀ (m i a b : Nat), a < 2 ^ 62 → b < 2 ^ 62 → b < 2 ^ m → i + 2 * m + 2 ≤ 200 → Nat.gcd a b = Nat.gcd al s → ∃ n, pX5_part_9 Q n (lN s) (lN al) x4 (lN a) (lN b) (nI i) σ := by
    intro m
    induction m with
    | zero =>
      intro i a b ha hb hm hi hg
      obtain rfl : b = 0 := by omega
      refine ⟨1, br_f (by rw [show (200 : Int32) = nI 200 from rfl, nI_leI (by omega) (by omega)]; omega) (br_t ((lg_cmp_eq _ _).mpr rfl) ?_)⟩
      rw [Nat.gcd_zero_right] at hg
      rw [hg]
      exact fin
    | succ m ih =>
      intro i a b ha hb hm hi hg
      have h200 : ∀ i, i < 200 → ¬ (200 : Int32) ≤ nI i := fun i hi => by rw [show (200 : Int32) = nI 200 from rfl, nI_leI (by omega) (by omega)]; omega
      by_cases hz : b = 0
      · subst hz
        refine ⟨1, br_f (h200 i (by omega)) (br_t ((lg_cmp_eq _ _).mpr rfl) ?_)⟩
        rw [Nat.gcd_zero_right] at hg
        rw [hg]
        exact fin
      · have l1 := Nat.mod_lt a (show 0 < b by omega)
        have nz : ¬ lN b = 0 := fun q => hz ((zo_z (by omega)).mp q)
        have e1 := zo_g (a := a) (show 0 < b by omega)
        by_cases hr : a % b = 0
        · refine ⟨2, br_f (h200 i (by omega)) (br_f (fun q => nz ((lg_cmp_eq _ _).mp q)) ⟨nz, ?_⟩)⟩
          rw [zo_rem ha hb (by omega), hr, nI_1]
          refine br_f (h200 (i + 1) (by omega)) (br_t ((lg_cmp_eq _ _).mpr rfl) ?_)
          rw [hr, Nat.gcd_zero_right, hg] at e1
          rw [e1]
          exact fin
        · have l2 := Nat.mod_lt b (show 0 < a % b by omega)
          have nz2 : ¬ lN (a % b) = 0 := fun q => hr ((zo_z (by omega)).mp q)
          have e2 := zo_g (a := b) (show 0 < a % b by omega)
          obtain ⟨n, hn⟩ := ih (i + 2) (a % b) (b % (a % b)) (by omega) (by omega) (zo_half hm (by omega) (by omega)) (by omega) (by rw [e2, e1, hg])
          refine ⟨n + 2, br_f (h200 i (by omega)) (br_f (fun q => nz ((lg_cmp_eq _ _).mp q)) ⟨nz, ?_⟩)⟩
          rw [zo_rem ha hb (by omega), nI_1]
          refine br_f (h200 (i + 1) (by omega)) (br_f (fun q => nz2 ((lg_cmp_eq _ _).mp q)) ⟨nz2, ?_⟩)
          rw [zo_rem hb (by omega) (by omega), nI_1]
          exact hn
  exact loop 40 0 al s (by omega) (by omega) hs (by omega) rfl
theorem m_lowest {s al : Nat} {x4 : Int32} {σ : zz_T} {Q : Int64 → zz_T → Prop} (hs : s < 2 ^ 40) (ha : al < 2 ^ 40) (h0 : 0 < al) (hq : Q (if x4 = 0 then lN s / lN (Nat.gcd al s) else lN al / lN (Nat.gcd al s)) σ) : pX6_lowest (lN s) (lN al) x4 σ Q := by
  have gp : 0 < Nat.gcd al s := Nat.gcd_pos_of_pos_left s h0
  have gl : Nat.gcd al s ≤ al := Nat.gcd_le_left s h0
  have gz : ¬ lN (Nat.gcd al s) = 0 := fun q => by have := (zo_z (by omega)).mp q; omega
  have loop : ∀ (m a b : Nat), a < 2 ^ 62 → b < 2 ^ 62 → b < 2 ^ m → Nat.gcd a b = Nat.gcd al s → ∀ (P : Int64 → zz_T → Prop), P (lN (Nat.gcd al s)) σ → ∃ n, pX6_common_6 P n (lN a) (lN b) σ := by
    intro m
    induction m with
    | zero =>
      intro a b ha hb hm hg P hP
      obtain rfl : b = 0 := by omega
      refine ⟨1, br_t ((lg_cmp_eq _ _).mpr rfl) ?_⟩
      rw [Nat.gcd_zero_right] at hg
      rw [hg]
      exact hP
    | succ m ih =>
      intro a b ha hb hm hg P hP
      by_cases hz : b = 0
      · subst hz
        refine ⟨1, br_t ((lg_cmp_eq _ _).mpr rfl) ?_⟩
        rw [Nat.gcd_zero_right] at hg
        rw [hg]
        exact hP
      · have l1 := Nat.mod_lt a (show 0 < b by omega)
        have nz : ¬ lN b = 0 := fun q => hz ((zo_z (by omega)).mp q)
        have e1 := zo_g (a := a) (show 0 < b by omega)
        by_cases hr : a % b = 0
        · refine ⟨2, br_f (fun q => nz ((lg_cmp_eq _ _).mp q)) ⟨nz, ?_⟩⟩
          rw [zo_rem ha hb (by omega), hr]
          refine br_t ((lg_cmp_eq _ _).mpr rfl) ?_
          rw [hr, Nat.gcd_zero_right, hg] at e1
          rw [e1]
          exact hP
        · have l2 := Nat.mod_lt b (show 0 < a % b by omega)
          have nz2 : ¬ lN (a % b) = 0 := fun q => hr ((zo_z (by omega)).mp q)
          have e2 := zo_g (a := b) (show 0 < a % b by omega)
          obtain ⟨n, hn⟩ := ih (a % b) (b % (a % b)) (by omega) (by omega) (zo_half hm (by omega) (by omega)) (by rw [e2, e1, hg]) P hP
          refine ⟨n + 2, br_f (fun q => nz ((lg_cmp_eq _ _).mp q)) ⟨nz, ?_⟩⟩
          rw [zo_rem ha hb (by omega)]
          refine br_f (fun q => nz2 ((lg_cmp_eq _ _).mp q)) ⟨nz2, ?_⟩
          rw [zo_rem hb (by omega) (by omega)]
          exact hn
  unfold pX6_lowest pX6_common
  refine loop 40 al s (by omega) (by omega) hs rfl _ ⟨fun q => ⟨gz, ?_⟩, fun q => ⟨gz, ?_⟩⟩
  · rw [if_pos q] at hq; exact hq
  · rw [if_neg q] at hq; exact hq
/-! weights -/
def zo_w (v k : Nat) : Nat → Nat
  | 0 => 1
  | i + 1 => zo_w v k i * (if k.testBit i then v else 10 - v)
def zo_p (k : Nat) (n : Nat) : Nat := fb_sm (fun d => if k.testBit d then 1 else 0) n
theorem zo_p_le (k : Nat) (n : Nat) : zo_p k n ≤ n := by
  have := fb_sm_bound (f := fun d => if k.testBit d then 1 else 0) (c := 1) (n := n) (fun k _ => by split <;> omega)
  unfold zo_p; omega
theorem zo_w_le {v : Nat} (hv : v ≤ 10) (k : Nat) : ∀ i, zo_w v k i ≤ 10 ^ i
  | 0 => Nat.le_refl _
  | i + 1 => by
    have h := zo_w_le hv k i
    show zo_w v k i * (if k.testBit i then v else 10 - v) ≤ 10 ^ i * 10
    exact Nat.mul_le_mul h (by split <;> omega)
theorem zo_w_eq (v k : Nat) : ∀ i, zo_w v k i = v ^ zo_p k i * (10 - v) ^ (i - zo_p k i)
  | 0 => rfl
  | i + 1 => by
    have h := zo_w_eq v k i
    have l := zo_p_le k i
    have e : zo_p k (i + 1) = zo_p k i + (if k.testBit i then 1 else 0) := rfl
    show zo_w v k i * (if k.testBit i then v else 10 - v) = _
    rw [h, e]
    cases k.testBit i
    · simp only [Bool.false_eq_true, if_false, Nat.add_zero]
      rw [show i + 1 - zo_p k i = (i - zo_p k i) + 1 by omega, Nat.pow_succ, Nat.mul_assoc]
    · simp only [if_true]
      rw [show i + 1 - (zo_p k i + 1) = i - zo_p k i by omega, Nat.pow_succ, Nat.mul_right_comm]
theorem zo_p_8 {k n : Nat} (hk : k < 2 ^ n) (hn : n ≤ 6) : zs_pc k = zo_p k n := by
  unfold zs_pc zo_p
  rw [show (8 : Nat) = n + (8 - n) by omega, fb_sm_split]
  have : fb_sm (fun d => if k.testBit (n + d) then 1 else 0) (8 - n) = fb_sm (fun _ => 0) (8 - n) := fb_sm_cong (fun d _ => by
    rw [Nat.testBit_lt_two_pow (Nat.lt_of_lt_of_le hk (Nat.pow_le_pow_right (by omega) (by omega)))]; rfl)
  rw [this, fb_sm_const]
  omega
theorem x_raised {a j : Nat} {σ : zz_T} {Q : Int64 → zz_T → Prop} (ha : a ≤ 10) (hj : j ≤ 10) (hq : Q (lN (a ^ j)) σ) : pX5_raised (nI a) (nI j) σ Q := by
  have loop : ∀ (d i : Nat), i + d = j → pX5_raised_5 Q (d + 1) (nI a) (nI j) (lN (a ^ i)) (nI i) σ := by
    intro d
    induction d with
    | zero =>
      intro i hi
      obtain rfl : i = j := by omega
      exact br_t (nI_le (Nat.le_refl _) (by omega)) hq
    | succ d ih =>
      intro i hi
      refine br_f (nI_ge (by omega) (by omega)) ?_
      rw [zo_wide (by omega), lN_mul, ← Nat.pow_succ, nI_1]
      exact ih (i + 1) (by omega)
  exact ⟨j + 1, loop j 0 (by omega)⟩
theorem x_weightOf {k n v : Nat} {σ : zz_T} {Q : Int64 → zz_T → Prop} (hn : n ≤ 6) (hk : k < 2 ^ n) (hv : v ≤ 10) (hq : Q (lN (zo_w v k n)) σ) : pX5_weightOf (nI k) (nI v) (nI n) σ Q := by
  have k64 : 2 ^ n ≤ 2 ^ 6 := Nat.pow_le_pow_right (by omega) hn
  have l := zo_p_le k n
  unfold pX5_weightOf
  refine zb_c k (by omega) _ _ ?_
  rw [zo_p_8 hk hn]
  refine x_raised hv (by omega) ?_
  rw [show (10 : Int32) = nI 10 from rfl, pk_sub hv, pk_sub l]
  refine x_raised (by omega) (by omega) ?_
  rw [lN_mul, ← zo_w_eq]
  exact hq
