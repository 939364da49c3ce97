section ZR
variable {S : zSt} {σ τ τ1 : zz_T}
/-- the fault of one place -/
def zrd_e (S : zSt) (k lane : Nat) (p : Int) : Nat := if sth S k = false then 1 else if sla S k = lane then (if 0 ≤ p ∧ p < (ssz S k : Int) then 0 else 2) else 3
def zrd_E (S : zSt) (k lane : Nat) (p : Int) : Nat := if zrd_e S k lane p = 0 then zrd_e S k lane (p + 1) else zrd_e S k lane p
theorem zrd_e_le (S : zSt) (k lane : Nat) (p : Int) : zrd_e S k lane p ≤ 3 := by
  unfold zrd_e
  repeat' split
  all_goals omega
theorem zrd_E_le (S : zSt) (k lane : Nat) (p : Int) : zrd_E S k lane p ≤ 3 := by
  unfold zrd_E
  split
  · exact zrd_e_le _ _ _ _
  · exact zrd_e_le _ _ _ _
theorem zrd_e0 {k lane : Nat} {p : Int} (h : zrd_e S k lane p = 0) : sth S k = true ∧ sla S k = lane ∧ 0 ≤ p ∧ p < (ssz S k : Int) := by
  unfold zrd_e at h
  split at h
  · omega
  · next q =>
    split at h
    · next q2 =>
      split at h
      · next q3 => exact ⟨by cases hz : sth S k with | true => rfl | false => exact absurd hz q, q2, q3.1, q3.2⟩
      · omega
    · omega
theorem x_faultOf {k lane : Nat} {P : Int32} {Q : Int32 → zz_T → Prop} (hs : sOK S) (X : RX σ S) (hk : k < 4) (hl : lane ≤ 2) (hq : Q (nI (zrd_e S k lane P.toInt)) σ) : pX3_faultOf (80 + 2 * k) (nI lane) P σ Q := by
  obtain ⟨c1, c2⟩ := X.2.2.2.1 k hk
  unfold zrd_e at hq
  unfold pX3_faultOf pX3_faultOf_31
  cases hz : sth S k with
  | false =>
    rw [hz, if_pos rfl] at hq
    rw [hz] at c1
    exact br_t c1 hq
  | true =>
    rw [hz, if_neg (by decide)] at hq
    rw [hz] at c1 c2
    obtain ⟨c2, c3, c4⟩ := c2 rfl
    obtain ⟨l1, l2⟩ := hs.2.2.2.2.1 k hk hz
    refine br_f (by rw [c1]; decide) ?_
    rw [c2, c3]
    by_cases e : sla S k = lane
    · rw [if_pos e] at hq
      refine br_t (by rw [e]) ?_
      by_cases n0 : P.toInt < 0
      · rw [if_neg (by omega)] at hq
        exact br_t (by rw [fa_lt]; exact n0) hq
      · refine br_f (by rw [fa_lt]; exact n0) ?_
        by_cases n1 : P.toInt < (ssz S k : Int)
        · rw [if_pos ⟨by omega, n1⟩] at hq
          exact br_t (by rw [fa_lt, nI_i (by omega)]; exact n1) hq
        · rw [if_neg (fun q => n1 q.2)] at hq
          exact br_f (by rw [fa_lt, nI_i (by omega)]; exact n1) hq
    · rw [if_neg e] at hq
      exact br_f (fun q => e ((nI_eq (by omega) (by omega)).mp q)) hq
theorem zrd_P {f : Int32} {i : Nat} (hi : i < 21) (hA : i = 0 ∨ (0 ≤ f.toInt ∧ f.toInt < 40)) : (f + 2 * nI i).toInt = f.toInt + 2 * (i : Int) := by
  have r := fb_rng f
  have e : (2 : Int32) * nI i = nI (2 * i) := pk_mul 2 i
  rw [e]
  rw [fb_addI, nI_i (by omega)]
  · omega
  · rw [nI_i (by omega)]; omega
  · rw [nI_i (by omega)]; omega
theorem x_pair {k lane i : Nat} {f : Int32} {Q : Int32 → zz_T → Prop} (hs : sOK S) (X : RX σ S) (hk : k < 4) (hl : lane ≤ 2) (hi : i < 21) (hA : i = 0 ∨ (0 ≤ f.toInt ∧ f.toInt < 40)) (hq : Q (nI (zrd_E S k lane (f.toInt + 2 * (i : Int)))) σ) : pX3_pairFault (80 + 2 * k) (nI lane) f (nI i) σ Q := by
  have eP := zrd_P hi hA
  unfold pX3_pairFault
  unfold zrd_E at hq
  refine x_faultOf hs X hk hl ?_
  rw [eP]
  have b := zrd_e_le S k lane (f.toInt + 2 * (i : Int))
  by_cases e : zrd_e S k lane (f.toInt + 2 * (i : Int)) = 0
  · rw [if_pos e] at hq
    refine br_t (by rw [e]; rfl) (x_faultOf hs X hk hl ?_)
    obtain ⟨z1, z2, z3, z4⟩ := zrd_e0 e
    have l2 := (hs.2.2.2.2.1 k hk z1).2
    have e1 : (f + 2 * nI i + 1).toInt = f.toInt + 2 * (i : Int) + 1 := by
      rw [fb_addI, eP]
      · rfl
      · rw [eP]; show _ ≤ _ + (1 : Int); omega
      · rw [eP]; show _ + (1 : Int) < _; omega
    rw [e1]
    exact hq
  · rw [if_neg e] at hq
    exact br_f (fun q => e ((nI_z (by omega)).mp q)) hq
/-- the reference looks at the two places of a pair -/
theorem m_pair {k lane i : Nat} {f x4 x6 : Int32} {K : Int32 → Int32 → Int32 → Int32 → Int32 → Int32 → Int32 → zz_T → Prop} {Q : Int32 → zz_T → Prop} (hs : sOK S) (M : RM τ S) (hk : k < 4) (hl : lane ≤ 2) (hi : i < 21) (hq : pX6_read_164 Q K (nI k) (nI lane) f x4 (nI (zrd_E S k lane (f.toInt + 2 * (i : Int)))) x6 (nI i) τ) : pX6_read_77 Q K 3 (nI k) (nI lane) f x4 0 x6 (nI i) 0 τ := by
  obtain ⟨c1, c2⟩ := M.2.2.2.1 k hk
  have vi : vp_in (nI k) 4 := vp_in_nI (by omega) (by decide)
  have tk : Int32.toNatClampNeg (nI k) = k := nI_tn (by omega)
  have r := fb_rng f
  have step : ∀ (m x : Nat), x ≤ 1 → pX6_read_77 Q K m (nI k) (nI lane) f x4 (nI (zrd_e S k lane (f.toInt + 2 * (i : Int) + (x : Int)))) x6 (nI i) (nI (x + 1)) τ → pX6_read_77 Q K (m + 1) (nI k) (nI lane) f x4 0 x6 (nI i) (nI x) τ := by
    intro m x hx hz
    unfold zrd_e at hz
    have eX : (((Int32.toInt64 f) + (Int32.toInt64 (2 * nI i))) + (Int32.toInt64 (nI x))).toInt = f.toInt + 2 * (i : Int) + (x : Int) := by
      have e : (2 : Int32) * nI i = nI (2 * i) := pk_mul 2 i
      have e1 : ((Int32.toInt64 f) + (Int32.toInt64 (2 * nI i))).toInt = f.toInt + 2 * (i : Int) := by
        rw [e, zo_wide (by omega), fb_addL, Int32.toInt_toInt64, zo_lI (by omega)]
        · omega
        · rw [Int32.toInt_toInt64, zo_lI (by omega)]; omega
        · rw [Int32.toInt_toInt64, zo_lI (by omega)]; omega
      rw [zo_wide (n := x) (by omega), fb_addL, e1, zo_lI (by omega)]
      · rw [e1, zo_lI (by omega)]; omega
      · rw [e1, zo_lI (by omega)]; omega
    refine br_f (by rw [show (2 : Int32) = nI 2 from rfl, nI_leI (by omega) (by omega)]; omega) (br_t rfl ⟨vi, ?_⟩)
    unfold pX6_read_156 pX6_read_151 pX6_read_156
    rw [tk, nI_1]
    cases hz2 : sth S k with
    | false =>
      rw [hz2, if_pos rfl] at hz
      rw [hz2] at c1
      exact br_t c1 hz
    | true =>
      rw [hz2, if_neg (by decide)] at hz
      rw [hz2, if_pos rfl] at c1
      rw [hz2] at c2
      obtain ⟨c2, c3⟩ := c2 rfl
      obtain ⟨l1, l2⟩ := hs.2.2.2.2.1 k hk hz2
      refine br_f (by rw [c1]; exact nI_ne4 (by omega)) ⟨vi, ?_⟩
      rw [c1, c2]
      by_cases e : sla S k = lane
      · rw [if_pos e] at hz
        refine br_t (by rw [e]) ?_
        by_cases n0 : f.toInt + 2 * (i : Int) + (x : Int) < 0
        · rw [if_neg (by omega)] at hz
          exact br_t ((lg_cmp_lt _ _).mpr (by rw [fa_lt64, eX]; exact n0)) hz
        · refine br_f (fun q => n0 (by have := (lg_cmp_lt _ _).mp q; rw [fa_lt64, eX] at this; exact this)) ⟨vi, ?_⟩
          have eS : (lg_cmp (((Int32.toInt64 f) + (Int32.toInt64 (2 * nI i))) + (Int32.toInt64 (nI x))) (Int32.toInt64 (nI (ssz S k)))) < 0 ↔ f.toInt + 2 * (i : Int) + (x : Int) < (ssz S k : Int) := by
            rw [lg_cmp_lt, fa_lt64, eX, Int32.toInt_toInt64, nI_i (by omega)]
          by_cases n1 : f.toInt + 2 * (i : Int) + (x : Int) < (ssz S k : Int)
          · rw [if_pos ⟨by omega, n1⟩] at hz
            exact br_t (eS.mpr n1) hz
          · rw [if_neg (fun q => n1 q.2)] at hz
            exact br_f (fun q => n1 (eS.mp q)) hz
      · rw [if_neg e] at hz
        exact br_f (fun q => e ((nI_eq (by omega) (by omega)).mp q)) hz
  have b := zrd_e_le S k lane (f.toInt + 2 * (i : Int))
  unfold zrd_E at hq
  refine step 2 0 (by omega) ?_
  rw [show ((0 : Nat) : Int) = 0 from rfl, Int.add_zero]
  by_cases e : zrd_e S k lane (f.toInt + 2 * (i : Int)) = 0
  · rw [if_pos e] at hq
    rw [e]
    refine step 1 1 (by omega) ?_
    exact br_t (by decide) hq
  · rw [if_neg e] at hq
    exact br_f (by decide) (br_f (fun q => e ((nI_z (by omega)).mp q)) hq)
end ZR
