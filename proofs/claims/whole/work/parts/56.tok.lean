/-! THE TAPE'S TOKENS -/
def zt_sort (c : Nat) : Nat := if 97 ≤ c ∧ c ≤ 122 then 1 else if 48 ≤ c ∧ c ≤ 57 then 2 else if c = 59 then 3 else 4
def zt_run (P : Nat → Bool) : Nat → Nat → Nat
  | 0, p => p
  | j + 1, p => if P p then zt_run P j (p + 1) else p
theorem zt_run_le (P : Nat → Bool) : ∀ j p, p ≤ zt_run P j p ∧ zt_run P j p ≤ p + j
  | 0, p => ⟨Nat.le_refl _, Nat.le_refl _⟩
  | j + 1, p => by
    have h := zt_run_le P j (p + 1)
    show p ≤ (if P p then zt_run P j (p + 1) else p) ∧ (if P p then zt_run P j (p + 1) else p) ≤ p + (j + 1)
    split <;> omega
def zt_f (b : Nat → Nat) (n p : Nat) : Nat := zt_run (fun q => decide (b q = 32)) (n - p) p
def zt_s (b : Nat → Nat) (n p : Nat) : Nat := if n ≤ zt_f b n p then 0 else zt_sort (b (zt_f b n p))
def zt_e (b : Nat → Nat) (n p : Nat) : Nat := if n ≤ zt_f b n p then zt_f b n p else if zt_sort (b (zt_f b n p)) = 3 then zt_f b n p + 1 else zt_run (fun q => decide (zt_sort (b q) = zt_sort (b (zt_f b n p)))) (n - (zt_f b n p + 1)) (zt_f b n p + 1)
def zt_ok (b : Nat → Nat) (n p : Nat) : Bool := decide (zt_s b n p ≠ 4) && decide (zt_s b n p = 2 → zt_e b n p - zt_f b n p ≤ 3)
theorem zt_f_le {b : Nat → Nat} {n p : Nat} (h : p ≤ n) : p ≤ zt_f b n p ∧ zt_f b n p ≤ n := by
  have := zt_run_le (fun q => decide (b q = 32)) (n - p) p
  unfold zt_f
  omega
theorem zt_e_le {b : Nat → Nat} {n p : Nat} (h : p ≤ n) : zt_f b n p ≤ zt_e b n p ∧ zt_e b n p ≤ n := by
  have hf := zt_f_le (b := b) h
  unfold zt_e
  split
  · omega
  · split
    · omega
    · have := zt_run_le (fun q => decide (zt_sort (b q) = zt_sort (b (zt_f b n p)))) (n - (zt_f b n p + 1)) (zt_f b n p + 1)
      omega
theorem zt_sort_le (c : Nat) : 1 ≤ zt_sort c ∧ zt_sort c ≤ 4 := by
  unfold zt_sort
  repeat' split
  all_goals omega
section ZT
variable {σ σ' τ τ' : zz_T}
theorem x_sortOf {c : Nat} {Q : Int32 → zz_T → Prop} (hc : c < 128) (hq : Q (nI (zt_sort c)) σ) : pX4_sortOf 1 (nI c) σ Q := by
  unfold pX4_sortOf pX4_sortOf_14 pX4_sortOf_28
  unfold zt_sort at hq
  have l97 : nI c < 97 ↔ c < 97 := nI_ltI (b := 97) (by omega) (by omega)
  have l122 : (122 : Int32) < nI c ↔ 122 < c := nI_ltI (a := 122) (by omega) (by omega)
  have l48 : nI c < 48 ↔ c < 48 := nI_ltI (b := 48) (by omega) (by omega)
  have l57 : (57 : Int32) < nI c ↔ 57 < c := nI_ltI (a := 57) (by omega) (by omega)
  have e59 : nI c = 59 ↔ c = 59 := nI_eq (b := 59) (by omega) (by omega)
  have tail : (¬ (97 ≤ c ∧ c ≤ 122)) → ((nI c < 48 → ((nI c = 59 → Q 3 σ) ∧ (¬ nI c = 59 → Q 4 σ))) ∧ (¬ nI c < 48 → ((57 < nI c → ((nI c = 59 → Q 3 σ) ∧ (¬ nI c = 59 → Q 4 σ))) ∧ (¬ 57 < nI c → Q 2 σ)))) := by
    intro n1
    rw [if_neg n1] at hq
    have t2 : (¬ (48 ≤ c ∧ c ≤ 57)) → ((nI c = 59 → Q 3 σ) ∧ (¬ nI c = 59 → Q 4 σ)) := by
      intro n2
      rw [if_neg n2] at hq
      refine ⟨fun q => ?_, fun q => ?_⟩
      · rw [if_pos (e59.mp q)] at hq; exact hq
      · rw [if_neg (fun z => q (e59.mpr z))] at hq; exact hq
    refine ⟨fun q => t2 (by have := l48.mp q; omega), fun q => ⟨fun q2 => t2 (by have := l57.mp q2; omega), fun q2 => ?_⟩⟩
    rw [if_pos ⟨by have : ¬ c < 48 := fun z => q (l48.mpr z); omega, by have : ¬ 57 < c := fun z => q2 (l57.mpr z); omega⟩] at hq
    exact hq
  refine ⟨fun q => tail (by have := l97.mp q; omega), fun q => ⟨fun q2 => tail (by have := l122.mp q2; omega), fun q2 => ?_⟩⟩
  rw [if_pos ⟨by have : ¬ c < 97 := fun z => q (l97.mpr z); omega, by have : ¬ 122 < c := fun z => q2 (l122.mpr z); omega⟩] at hq
  exact hq
/-- only what the tape notes has changed -/
def zt_X (σ σ' : zz_T) : Prop := (∀ q, q ≠ 1 → σ'.1 q = σ.1 q) ∧ ∀ j, j = 1 ∨ 7 ≤ j → σ'.1 1 j = σ.1 1 j
theorem zt_X.rf (σ : zz_T) : zt_X σ σ := ⟨fun _ _ => rfl, fun _ _ => rfl⟩
theorem zt_X.tr {a b c : zz_T} (h : zt_X a b) (h2 : zt_X b c) : zt_X a c := ⟨fun q hq => by rw [h2.1 q hq, h.1 q hq], fun j hj => by rw [h2.2 j hj, h.2 j hj]⟩
theorem zt_X.i {a b : zz_T} {j : Nat} {v : Int32} (h : zt_X a b) (hj : ¬ (j = 1 ∨ 7 ≤ j)) : zt_X a (zz_i b 1 j v) := ⟨fun q hq => by rw [zi_k hq]; exact h.1 q hq, fun i hi => by rw [zi_j (fun e => hj (by omega))]; exact h.2 i hi⟩
/-- the tape holds n bytes b -/
def zt_T (σ : zz_T) (n : Nat) (b : Nat → Nat) : Prop := σ.1 1 1 = nI n ∧ n ≤ 160 ∧ (∀ i, i < n → b i < 128 ∧ σ.1 2 i = nI (b i))
theorem zt_T.kept {n : Nat} {b : Nat → Nat} (h : zt_T σ n b) (x : zt_X σ σ') : zt_T σ' n b := ⟨by rw [x.2 1 (by omega)]; exact h.1, h.2.1, fun i hi => by rw [x.1 2 (by omega)]; exact h.2.2 i hi⟩
theorem x_step {n p : Nat} {b : Nat → Nat} {Q : Int32 → zz_T → Prop} (T : zt_T σ n b) (hp : p ≤ n) (h6 : σ.1 1 6 = nI p) (hy : zt_ok b n p = true → ∀ σ' : zz_T, zt_X σ σ' → σ'.1 1 2 = σ.1 1 2 → σ'.1 1 4 = nI (zt_s b n p) → σ'.1 1 5 = nI (zt_f b n p) → σ'.1 1 6 = nI (zt_e b n p) → Q 1 σ') (hn : zt_ok b n p = false → ∀ σ' : zz_T, zt_X σ σ' → σ'.1 1 2 = 1 → σ'.1 1 3 = nI (zt_f b n p) → Q 0 σ') : pX4_step 1 σ Q := by
  have n160 := T.2.1
  -- spaces
  have sp : ∀ (j p : Nat) (σ1 : zz_T), p + j = n → zt_X σ σ1 → σ1.1 1 2 = σ.1 1 2 → σ1.1 1 6 = nI p → (∀ σ2 : zz_T, zt_X σ σ2 → σ2.1 1 2 = σ.1 1 2 → σ2.1 1 6 = nI (zt_run (fun q => decide (b q = 32)) j p) → pX4_step_38 1 Q σ2) → pX4_step_0 1 Q (j + 1) σ1 := by
    intro j
    induction j with
    | zero =>
      intro p σ1 hj x e2 e6 K
      have T1 := T.kept x
      refine br_t (by rw [T1.1, e6]; exact nI_le (by omega) (by omega)) (K σ1 x e2 e6)
    | succ j ih =>
      intro p σ1 hj x e2 e6 K
      have T1 := T.kept x
      have tb := T1.2.2 p (by omega)
      refine br_f (by rw [T1.1, e6]; exact nI_ge (by omega) (by omega)) ?_
      rw [e6, nI_tn (by omega)]
      refine ⟨vp_in_nI (by omega) (by decide), ?_⟩
      show ((σ1.1 2 p = 32 → _) ∧ (¬ σ1.1 2 p = 32 → _))
      rw [tb.2]
      have e32 : nI (b p) = 32 ↔ b p = 32 := nI_eq (b := 32) (by omega) (by omega)
      have un : zt_run (fun q => decide (b q = 32)) (j + 1) p = if decide (b p = 32) then zt_run (fun q => decide (b q = 32)) j (p + 1) else p := rfl
      by_cases h : b p = 32
      · refine br_t (e32.mpr h) ?_
        rw [nI_1]
        refine ih (p + 1) _ (by omega) (x.i (by omega)) (by rw [zi_j (by omega)]; exact e2) (by rw [zi_at]) (fun σ2 x2 e22 e62 => K σ2 x2 e22 ?_)
        rw [e62, un, decide_eq_true h]
        rfl
      · refine br_f (fun q => h (e32.mp q)) (K σ1 x e2 ?_)
        rw [e6, un, decide_eq_false h]
        rfl
  have hf := zt_f_le (b := b) hp
  have he := zt_e_le (b := b) hp
  -- the end of a token: whole or not
  have done : ∀ σ3 : zz_T, zt_X σ σ3 → σ3.1 1 2 = σ.1 1 2 → σ3.1 1 4 = nI (zt_s b n p) → σ3.1 1 5 = nI (zt_f b n p) → σ3.1 1 6 = nI (zt_e b n p) → zt_s b n p ≤ 4 → pX4_step_143 1 Q σ3 := by
    intro σ3 x e2 e4 e5 e6 l4
    unfold pX4_step_143 pX4_step_176 pX4_step_172 pX4_step_177 pX4_step_190
    have good : zt_ok b n p = true → (((1 : Int32) = 0 → pX4_refuse 1 1 σ3 (fun r184 s184 => ((r184 = 0 → (zz_bo 0 ∧ Q 0 s184)) ∧ (¬ r184 = 0 → (zz_bo 1 ∧ Q 1 s184))))) ∧ (¬ (1 : Int32) = 0 → (zz_bo 1 ∧ Q 1 σ3))) := fun h => br_f (by decide) ⟨zz_bo1, hy h σ3 x e2 e4 e5 e6⟩
    have bad : zt_ok b n p = false → (((0 : Int32) = 0 → pX4_refuse 1 1 σ3 (fun r184 s184 => ((r184 = 0 → (zz_bo 0 ∧ Q 0 s184)) ∧ (¬ r184 = 0 → (zz_bo 1 ∧ Q 1 s184))))) ∧ (¬ (0 : Int32) = 0 → (zz_bo 1 ∧ Q 1 σ3))) := fun h => br_t rfl ⟨zz_bo0, br_t rfl ⟨zz_bo0, hn h _ ((x.i (by omega)).i (by omega)) (by rw [zi_j (by omega), zi_at]) (by rw [zi_at, zi_j (by omega)]; exact e5)⟩⟩
    rw [e4, e5, e6]
    have s4 : nI (zt_s b n p) = 4 ↔ zt_s b n p = 4 := nI_eq (b := 4) (by omega) (by omega)
    have s2 : nI (zt_s b n p) = 2 ↔ zt_s b n p = 2 := nI_eq (b := 2) (by omega) (by omega)
    have l3 : (3 : Int32) < nI (zt_e b n p) - nI (zt_f b n p) ↔ 3 < zt_e b n p - zt_f b n p := by
      rw [pk_sub he.1]
      exact nI_ltI (a := 3) (by omega) (by omega)
    have ok : zt_ok b n p = true ↔ (zt_s b n p ≠ 4 ∧ (zt_s b n p = 2 → zt_e b n p - zt_f b n p ≤ 3)) := by
      unfold zt_ok
      rw [Bool.and_eq_true, decide_eq_true_eq, decide_eq_true_eq]
    have nok : (¬ (zt_s b n p ≠ 4 ∧ (zt_s b n p = 2 → zt_e b n p - zt_f b n p ≤ 3))) → zt_ok b n p = false := fun h => by
      cases hz : zt_ok b n p with
      | false => rfl
      | true => exact absurd (ok.mp hz) h
    refine ⟨fun q => bad (nok (fun z => z.1 (s4.mp q))), fun q => ⟨fun q2 => ⟨fun q3 => bad (nok (fun z => ?_)), fun q3 => good (ok.mpr ⟨fun z => q (s4.mpr z), fun _ => ?_⟩)⟩, fun q2 => good (ok.mpr ⟨fun z => q (s4.mpr z), fun z => absurd (s2.mpr z) q2⟩)⟩⟩
    · have a1 := z.2 (s2.mp q2)
      have a2 := l3.mp q3
      omega
    · have : ¬ 3 < zt_e b n p - zt_f b n p := fun z => q3 (l3.mpr z)
      omega
  refine ⟨n - p + 1, sp (n - p) p σ (by omega) (zt_X.rf σ) rfl h6 (fun σ2 x2 e2 e6 => ?_)⟩
  have e6 : σ2.1 1 6 = nI (zt_f b n p) := e6
  have T2 := T.kept x2
  unfold pX4_step_38
  rw [e6, zi_j (by omega), zi_j (by omega), e6, T2.1]
  by_cases hE : n ≤ zt_f b n p
  · refine br_f (by rw [nI_ltI (by omega) (by omega)]; omega) ⟨zz_bo1, hy ?_ _ ((x2.i (by omega)).i (by omega)) ?_ ?_ ?_ ?_⟩
    · unfold zt_ok zt_s
      rw [if_pos hE]
      rfl
    · rw [zi_j (by omega), zi_j (by omega)]; exact e2
    · rw [zi_at]
      unfold zt_s
      rw [if_pos hE]
      rfl
    · rw [zi_j (by omega), zi_at]
    · rw [zi_j (by omega), zi_j (by omega), e6]
      unfold zt_e
      rw [if_pos hE]
  · have fb := T2.2.2 (zt_f b n p) (by omega)
    refine br_t (by rw [nI_ltI (by omega) (by omega)]; omega) ⟨vp_in_nI (by omega) (by decide), ?_⟩
    rw [nI_tn (by omega), zi_k (by omega)]
    show pX4_sortOf 1 (σ2.1 2 (zt_f b n p)) _ _
    rw [fb.2]
    refine x_sortOf fb.1 ?_
    have es : zt_s b n p = zt_sort (b (zt_f b n p)) := by unfold zt_s; rw [if_neg hE]
    have sl := zt_sort_le (b (zt_f b n p))
    rw [zi_j (by omega), zi_j (by omega), e6, nI_1]
    by_cases h3 : zt_sort (b (zt_f b n p)) = 3
    · have ee : zt_e b n p = zt_f b n p + 1 := by unfold zt_e; rw [if_neg hE, if_pos h3]
      refine ⟨1, br_t (by rw [zi_j (by omega), zi_at, h3]; rfl) (done _ (((x2.i (by omega)).i (by omega)).i (by omega)) ?_ ?_ ?_ ?_ (by omega))⟩
      · rw [zi_j (by omega), zi_j (by omega), zi_j (by omega)]; exact e2
      · rw [zi_j (by omega), zi_at, es]
      · rw [zi_j (by omega), zi_j (by omega), zi_at]
      · rw [zi_at, ee]
    · have ee : zt_e b n p = zt_run (fun q => decide (zt_sort (b q) = zt_sort (b (zt_f b n p)))) (n - (zt_f b n p + 1)) (zt_f b n p + 1) := by unfold zt_e; rw [if_neg hE, if_neg h3]
      have run : ∀ (j q : Nat) (σ3 : zz_T), q + j = n → zt_X σ σ3 → σ3.1 1 2 = σ.1 1 2 → σ3.1 1 4 = nI (zt_s b n p) → σ3.1 1 5 = nI (zt_f b n p) → σ3.1 1 6 = nI q → zt_run (fun q => decide (zt_sort (b q) = zt_sort (b (zt_f b n p)))) j q = zt_e b n p → pX4_step_91 1 Q (j + 1) σ3 := by
        intro j
        induction j with
        | zero =>
          intro q σ3 hj x a2 a4 a5 a6 hr
          have T3 := T.kept x
          have hr : q = zt_e b n p := hr
          refine br_f (by rw [a4, es]; exact fun z => h3 ((nI_eq (b := 3) (by omega) (by omega)).mp z)) (br_t (by rw [T3.1, a6]; exact nI_le (by omega) (by omega)) (done σ3 x a2 a4 a5 (by rw [a6, hr]) (by omega)))
        | succ j ih =>
          intro q σ3 hj x a2 a4 a5 a6 hr
          have T3 := T.kept x
          have tb := T3.2.2 q (by omega)
          have un : zt_run (fun q => decide (zt_sort (b q) = zt_sort (b (zt_f b n p)))) (j + 1) q = if decide (zt_sort (b q) = zt_sort (b (zt_f b n p))) then zt_run (fun q => decide (zt_sort (b q) = zt_sort (b (zt_f b n p)))) j (q + 1) else q := rfl
          rw [un] at hr
          refine br_f (by rw [a4, es]; exact fun z => h3 ((nI_eq (b := 3) (by omega) (by omega)).mp z)) (br_f (by rw [T3.1, a6]; exact nI_ge (by omega) (by omega)) ?_)
          rw [a6, nI_tn (by omega)]
          refine ⟨vp_in_nI (by omega) (by decide), ?_⟩
          show pX4_sortOf 1 (σ3.1 2 q) _ _
          rw [tb.2]
          refine x_sortOf tb.1 ?_
          rw [a4, es]
          have sl2 := zt_sort_le (b q)
          by_cases h : zt_sort (b q) = zt_sort (b (zt_f b n p))
          · rw [decide_eq_true h] at hr
            refine br_t (by rw [h]) ?_
            rw [a6, nI_1]
            exact ih (q + 1) _ (by omega) (x.i (by omega)) (by rw [zi_j (by omega)]; exact a2) (by rw [zi_j (by omega)]; exact a4) (by rw [zi_j (by omega)]; exact a5) (by rw [zi_at]) hr
          · rw [decide_eq_false h] at hr
            exact br_f (fun z => h ((nI_eq (by omega) (by omega)).mp z)) (done σ3 x a2 a4 a5 (by rw [a6]; exact congrArg nI hr) (by omega))
      refine ⟨n - (zt_f b n p + 1) + 1, run (n - (zt_f b n p + 1)) (zt_f b n p + 1) _ (by omega) (((x2.i (by omega)).i (by omega)).i (by omega)) ?_ ?_ ?_ (by rw [zi_at]) ee.symm⟩
      · rw [zi_j (by omega), zi_j (by omega), zi_j (by omega)]; exact e2
      · rw [zi_j (by omega), zi_at, es]
      · rw [zi_j (by omega), zi_j (by omega), zi_at]
end ZT
