/-! NUMBERS, STOPS: fault (code, place) or value and place -/
def zt_v (b : Nat → Nat) (n p : Nat) : Nat := zt_val b (zt_f b n p) (zt_e b n p - zt_f b n p)
theorem zt_dig {b : Nat → Nat} {n p : Nat} (hs : zt_s b n p = 2) : ∀ i, zt_f b n p ≤ i → i < zt_e b n p → 48 ≤ b i ∧ b i ≤ 57 := by
  have nE : ¬ n ≤ zt_f b n p := fun h => by unfold zt_s at hs; rw [if_pos h] at hs; omega
  have es : zt_sort (b (zt_f b n p)) = 2 := by unfold zt_s at hs; rw [if_neg nE] at hs; exact hs
  have run : ∀ (j q : Nat), ∀ i, q ≤ i → i < zt_run (fun q => decide (zt_sort (b q) = zt_sort (b (zt_f b n p)))) j q → zt_sort (b i) = 2 := by
    intro j
    induction j with
    | zero => intro q i h1 h2; have : i < q := h2; omega
    | succ j ih =>
      intro q i h1 h2
      have un : zt_run (fun q => decide (zt_sort (b q) = zt_sort (b (zt_f b n p)))) (j + 1) q = if decide (zt_sort (b q) = zt_sort (b (zt_f b n p))) then zt_run (fun q => decide (zt_sort (b q) = zt_sort (b (zt_f b n p)))) j (q + 1) else q := rfl
      rw [un] at h2
      by_cases h : zt_sort (b q) = zt_sort (b (zt_f b n p))
      · rw [decide_eq_true h] at h2
        by_cases e : i = q
        · rw [e, h, es]
        · exact ih (q + 1) i (by omega) h2
      · rw [decide_eq_false h] at h2
        have : i < q := h2
        omega
  intro i h1 h2
  refine zt_s2.mp ?_
  by_cases e : i = zt_f b n p
  · rw [e]; exact es
  · have ee : zt_e b n p = zt_run (fun q => decide (zt_sort (b q) = zt_sort (b (zt_f b n p)))) (n - (zt_f b n p + 1)) (zt_f b n p + 1) := by unfold zt_e; rw [if_neg nE, if_neg (by omega)]
    rw [ee] at h2
    exact run _ _ i (by omega) h2
theorem zt_v_lt {b : Nat → Nat} {n p : Nat} (hk : zt_ok b n p = true) (hs : zt_s b n p = 2) : zt_v b n p < 1000 := by
  have ok : zt_s b n p ≠ 4 ∧ (zt_s b n p = 2 → zt_e b n p - zt_f b n p ≤ 3) := by
    unfold zt_ok at hk
    rw [Bool.and_eq_true, decide_eq_true_eq, decide_eq_true_eq] at hk
    exact hk
  have l := ok.2 hs
  have d := zt_dig hs
  have v := zt_val_le (b := b) (f := zt_f b n p) (zt_e b n p - zt_f b n p) l (fun i hi => (d _ (by omega) (by omega)).2)
  have p3 : 10 ^ (zt_e b n p - zt_f b n p) ≤ 10 ^ 3 := Nat.pow_le_pow_right (by omega) l
  unfold zt_v
  omega
section ZN
variable {σ τ : zz_T} {n p : Nat} {b : Nat → Nat}
/-- the class: the next token must be of a sort -/
theorem x_stepTo {d : Nat} {Q : Int32 → zz_T → Prop} (T : zt_T σ n b) (hp : p ≤ n) (hd : d ≤ 4) (h6 : σ.1 1 6 = nI p) (hy : zt_ok b n p = true → zt_s b n p = d → ∀ σ' : zz_T, zt_X σ σ' → σ'.1 1 2 = σ.1 1 2 → σ'.1 1 4 = nI d → σ'.1 1 5 = nI (zt_f b n p) → σ'.1 1 6 = nI (zt_e b n p) → Q 1 σ') (h1 : zt_ok b n p = false → ∀ σ' : zz_T, zt_X σ σ' → σ'.1 1 2 = nI 1 → σ'.1 1 3 = nI (zt_f b n p) → Q 0 σ') (h2 : zt_ok b n p = true → zt_s b n p ≠ d → ∀ σ' : zz_T, zt_X σ σ' → σ'.1 1 2 = nI 2 → σ'.1 1 3 = nI (zt_f b n p) → Q 0 σ') : pX4_stepTo 1 (nI d) σ Q := by
  unfold pX4_stepTo pX4_stepTo_23
  refine x_step T hp h6 (fun k σ' x e2 e4 e5 e6 => br_f (by decide) ?_) (fun k σ' x e2 e3 => br_t rfl ⟨zz_bo0, h1 k σ' x e2 e3⟩)
  have sl : zt_s b n p ≤ 4 := by
    unfold zt_s
    split
    · omega
    · exact (zt_sort_le _).2
  by_cases e : zt_s b n p = d
  · exact br_t (by rw [e4, e]) ⟨zz_bo1, hy k e σ' x e2 (by rw [e4, e]) e5 e6⟩
  · refine br_f (by rw [e4]; exact fun z => e ((nI_eq (by omega) (by omega)).mp z)) ⟨zz_bo0, br_t rfl ⟨zz_bo0, h2 k e _ ((x.i (by omega)).i (by omega)) (by rw [zi_j (by omega), zi_at]; rfl) (by rw [zi_at, zi_j (by omega)]; exact e5)⟩⟩
/-- the class takes the number of the token at p -/
theorem x_take {lo hi : Nat} {Q : Int32 → zz_T → Prop} (T : zt_T σ n b) (hp : p ≤ n) (hl : lo ≤ 1000) (hh : hi ≤ 1000) (hk : zt_ok b n p = true) (hs : zt_s b n p = 2) (h5 : σ.1 1 5 = nI (zt_f b n p)) (h6 : σ.1 1 6 = nI (zt_e b n p)) (hy : (lo ≤ zt_v b n p ∧ zt_v b n p ≤ hi) → ∀ σ' : zz_T, (∀ q, q ≠ 1 → σ'.1 q = σ.1 q) → (∀ j, j ≠ 7 → σ'.1 1 j = σ.1 1 j) → σ'.1 1 7 = nI (zt_v b n p) → Q 1 σ') (hn : ¬ (lo ≤ zt_v b n p ∧ zt_v b n p ≤ hi) → ∀ σ' : zz_T, (∀ q, q ≠ 1 → σ'.1 q = σ.1 q) → (∀ j, j ≠ 2 → j ≠ 3 → j ≠ 7 → σ'.1 1 j = σ.1 1 j) → σ'.1 1 2 = nI 3 → σ'.1 1 3 = nI (zt_f b n p) → Q 0 σ') : pX4_takeNumber 1 (nI lo) (nI hi) σ Q := by
  have n160 := T.2.1
  have he := zt_e_le (b := b) hp
  have vl := zt_v_lt hk hs
  have dg := zt_dig hs
  have ok : zt_s b n p ≠ 4 ∧ (zt_s b n p = 2 → zt_e b n p - zt_f b n p ≤ 3) := by
    unfold zt_ok at hk
    rw [Bool.and_eq_true, decide_eq_true_eq, decide_eq_true_eq] at hk
    exact hk
  have l3 := ok.2 hs
  have loop : ∀ (j d : Nat) (σ1 : zz_T), d + j = zt_e b n p - zt_f b n p → (∀ q, q ≠ 1 → σ1.1 q = σ.1 q) → (∀ j, j ≠ 7 → σ1.1 1 j = σ.1 1 j) → σ1.1 1 7 = nI (zt_val b (zt_f b n p) d) → pX4_takeNumber_10 1 Q (j + 1) (nI lo) (nI hi) (nI (zt_f b n p + d)) σ1 := by
    intro j
    induction j with
    | zero =>
      intro d σ1 hd x1 x2 e7
      obtain rfl : d = zt_e b n p - zt_f b n p := by omega
      have e7 : σ1.1 1 7 = nI (zt_v b n p) := e7
      refine br_t (by rw [x2 6 (by omega), h6]; exact nI_le (by omega) (by omega)) ?_
      unfold pX4_takeNumber_61 pX4_takeNumber_69
      rw [e7]
      have bad : ¬ (lo ≤ zt_v b n p ∧ zt_v b n p ≤ hi) → pX4_refuse 1 3 σ1 (fun r63 s63 => ((r63 = 0 → (zz_bo 0 ∧ Q 0 s63)) ∧ (¬ r63 = 0 → (zz_bo 1 ∧ Q 1 s63)))) := fun h => ⟨zz_bo0, br_t rfl ⟨zz_bo0, hn h _ (fun q hq => by rw [zi_k hq, zi_k hq]; exact x1 q hq) (fun j a1 a2 a3 => by rw [zi_j a2, zi_j a1]; exact x2 j a3) (by rw [zi_j (by omega), zi_at]; rfl) (by rw [zi_at, zi_j (by omega), x2 5 (by omega)]; exact h5)⟩⟩
      refine ⟨fun q => bad (fun z => ?_), fun q => ⟨fun q2 => ⟨zz_bo1, hy ⟨?_, (nI_leI (by omega) (by omega)).mp q2⟩ σ1 x1 x2 e7⟩, fun q2 => bad (fun z => q2 ((nI_leI (by omega) (by omega)).mpr z.2))⟩⟩
      · have := (nI_ltI (by omega) (by omega)).mp q
        omega
      · have : ¬ zt_v b n p < lo := fun z => q ((nI_ltI (by omega) (by omega)).mpr z)
        omega
    | succ j ih =>
      intro d σ1 hd x1 x2 e7
      have tb := T.2.2 (zt_f b n p + d) (by omega)
      have dd := dg (zt_f b n p + d) (by omega) (by omega)
      refine br_f (by rw [x2 6 (by omega), h6]; exact nI_ge (by omega) (by omega)) ⟨vp_in_nI (by omega) (by decide), ?_⟩
      rw [nI_tn (by omega), e7]
      have e2 : σ1.1 (1 + 1) (zt_f b n p + d) = nI (b (zt_f b n p + d)) := by
        show σ1.1 2 _ = _
        rw [x1 2 (by omega)]
        exact tb.2
      rw [e2, show (10 : Int32) = nI 10 from rfl, show (48 : Int32) = nI 48 from rfl, pk_mul, nI_add, pk_sub (by omega), nI_1]
      refine ih (d + 1) _ (by omega) (fun q hq => by rw [zi_k hq]; exact x1 q hq) (fun j a => by rw [zi_j a]; exact x2 j a) ?_
      rw [zi_at]
      show nI _ = nI (10 * zt_val b (zt_f b n p) d + (b (zt_f b n p + d) - 48))
      congr 1
      omega
  unfold pX4_takeNumber
  rw [zi_j (by omega), h5]
  refine ⟨zt_e b n p - zt_f b n p + 1, loop (zt_e b n p - zt_f b n p) 0 _ (by omega) (fun q hq => zi_k hq) (fun j a => zi_j a) (by rw [zi_at]; rfl)⟩
/-- the reference has the token at p -/
def zt_R (τ : zz_T) (n : Nat) (b : Nat → Nat) (p : Nat) : Prop := zt_ok b n p = true ∧ τ.1 0 11 = 0 ∧ τ.1 0 9 = nI (zt_s b n p) ∧ τ.1 0 8 = nI (zt_f b n p) ∧ τ.1 0 7 = nI (zt_e b n p) ∧ (zt_s b n p = 2 → τ.1 0 10 = nI (zt_v b n p))
/-- the reference has a fault -/
def zt_F (τ : zz_T) (c f : Nat) : Prop := τ.1 0 11 = nI c ∧ τ.1 0 12 = nI f
theorem m_reads2 {Q : zz_T → Prop} (T : zt_U τ n b) (hp : p ≤ n) (h11 : τ.1 0 11 = 0) (h7 : τ.1 0 7 = nI p) (hq : ∀ τ' : zz_T, zt_M τ τ' → (zt_R τ' n b p ∨ (zt_ok b n p = false ∧ zt_F τ' 1 (zt_f b n p))) → Q τ') : pX6_reads τ Q :=
  m_reads T hp h11 h7 (fun k τ' x a1 a2 a3 a4 a5 => hq τ' x (Or.inl ⟨k, a1, a2, a3, a4, fun q => (a5 q).1⟩)) (fun k τ' x a1 a2 => hq τ' x (Or.inr ⟨k, a1, a2⟩))
theorem m_num {lo hi : Nat} {Q : Int32 → zz_T → Prop} (T : zt_U τ n b) (hp : p ≤ n) (R : zt_R τ n b p) (hl : lo ≤ 1000) (hh : hi ≤ 1000) (h2 : zt_s b n p ≠ 2 → ∀ τ' : zz_T, zt_M τ τ' → zt_F τ' 2 (zt_f b n p) → Q 0 τ') (h3 : zt_s b n p = 2 → ¬ (lo ≤ zt_v b n p ∧ zt_v b n p ≤ hi) → ∀ τ' : zz_T, zt_M τ τ' → zt_F τ' 3 (zt_f b n p) → Q 0 τ') (hy : zt_s b n p = 2 → (lo ≤ zt_v b n p ∧ zt_v b n p ≤ hi) → ∀ τ' : zz_T, zt_M τ τ' → (zt_R τ' n b (zt_e b n p) ∨ (zt_ok b n (zt_e b n p) = false ∧ zt_F τ' 1 (zt_f b n (zt_e b n p)))) → Q (nI (zt_v b n p)) τ') : pX6_readNumber (nI lo) (nI hi) τ Q := by
  obtain ⟨k, r11, r9, r8, r7, r10⟩ := R
  have n160 := T.2.1
  have he := zt_e_le (b := b) hp
  have sl : zt_s b n p ≤ 4 := by
    unfold zt_s
    split
    · omega
    · exact (zt_sort_le _).2
  have fault : ∀ (τ1 : zz_T) (c : Nat), 0 < c → c ≤ 5 → zt_F τ1 c (zt_f b n p) → Q 0 τ1 → pX6_readNumber_49 Q τ1 := by
    intro τ1 c hc hc5 F hQ
    have ne : ¬ τ1.1 0 11 = 0 := by rw [F.1]; exact fun z => by have := (nI_z (by omega)).mp z; omega
    exact br_f ne (m_reads_f F.1 hc hc5 hQ)
  unfold pX6_readNumber pX6_readNumber_21
  refine br_t r11 ?_
  by_cases e : zt_s b n p = 2
  · refine br_t (by rw [r9, e]; rfl) (m_req (ok := true) (e := 2) r11 r8 (fun _ => ?_) (fun q => by cases q))
    have vl := zt_v_lt k e
    unfold pX6_readNumber_25
    refine br_t r11 ?_
    rw [r10 e]
    have iff : zIn (nI (zt_v b n p)) (nI lo) (nI hi) ↔ (lo ≤ zt_v b n p ∧ zt_v b n p ≤ hi) := by
      rw [zIn_d (by omega) (by omega)]
      constructor
      · rintro ⟨j, a1, a2, ej⟩
        have := (nI_eq (a := zt_v b n p) (b := j) (by omega) (by omega)).mp ej
        omega
      · intro h
        exact ⟨_, h.1, h.2, rfl⟩
    by_cases h : lo ≤ zt_v b n p ∧ zt_v b n p ≤ hi
    · refine m_in_y rfl rfl (iff.mpr h) (m_req (ok := true) (e := 3) r11 r8 (fun _ => ?_) (fun q => by cases q))
      unfold pX6_readNumber_49 pX6_readNumber_64
      refine br_t r11 ?_
      rw [r10 e]
      exact m_reads2 T he.2 r11 r7 (fun τ' x d => hy e h τ' x d)
    · exact m_in_n rfl rfl (fun z => h (iff.mp z)) (m_req (ok := false) (e := 3) r11 r8 (fun q => by cases q) (fun _ τ1 x1 f1 f2 => fault τ1 3 (by omega) (by omega) ⟨f1, f2⟩ (h3 e h τ1 x1 ⟨f1, f2⟩)))
  · refine br_f (by rw [r9]; exact fun z => e ((nI_eq (b := 2) (by omega) (by omega)).mp z)) (m_req (ok := false) (e := 2) r11 r8 (fun q => by cases q) (fun _ τ1 x1 f1 f2 => ?_))
    unfold pX6_readNumber_25
    have ne : ¬ τ1.1 0 11 = 0 := by rw [f1]; decide
    exact br_f ne (fault τ1 2 (by omega) (by omega) ⟨f1, f2⟩ (h2 e τ1 x1 ⟨f1, f2⟩))
end ZN
