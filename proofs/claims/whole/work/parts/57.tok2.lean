def zt_val (b : Nat → Nat) (f : Nat) : Nat → Nat
  | 0 => 0
  | d + 1 => 10 * zt_val b f d + (b (f + d) - 48)
theorem zt_in {c a z : Nat} (hc : c < 128) (ha : a < 1000) (hz : z < 1000) : zIn (nI c) (nI a) (nI z) ↔ a ≤ c ∧ c ≤ z := by
  rw [zIn_d (by omega) (by omega)]
  constructor
  · rintro ⟨j, h1, h2, e⟩
    have := (nI_eq (a := c) (b := j) (by omega) (by omega)).mp e
    omega
  · intro h
    exact ⟨c, h.1, h.2, rfl⟩
theorem zt_in_none : ¬ zIn (-1) 97 122 ∧ ¬ zIn (-1) 48 57 := by unfold zIn; decide
theorem zt_s1 {c : Nat} : zt_sort c = 1 ↔ 97 ≤ c ∧ c ≤ 122 := by
  unfold zt_sort
  repeat' split
  all_goals omega
theorem zt_s2 {c : Nat} : zt_sort c = 2 ↔ 48 ≤ c ∧ c ≤ 57 := by
  unfold zt_sort
  repeat' split
  all_goals omega
theorem zt_s3 {c : Nat} : zt_sort c = 3 ↔ c = 59 := by
  unfold zt_sort
  repeat' split
  all_goals omega
section ZT
variable {σ σ' τ τ' : zz_T}
def zt_M (τ τ' : zz_T) : Prop := (∀ q, q ≠ 0 → τ'.1 q = τ.1 q) ∧ ∀ j, j = 6 ∨ 13 ≤ j → τ'.1 0 j = τ.1 0 j
theorem zt_M.rf (τ : zz_T) : zt_M τ τ := ⟨fun _ _ => rfl, fun _ _ => rfl⟩
theorem zt_M.tr {a b c : zz_T} (h : zt_M a b) (h2 : zt_M b c) : zt_M a c := ⟨fun q hq => by rw [h2.1 q hq, h.1 q hq], fun j hj => by rw [h2.2 j hj, h.2 j hj]⟩
theorem zt_M.i {a b : zz_T} {j : Nat} {v : Int32} (h : zt_M a b) (hj : ¬ (j = 6 ∨ 13 ≤ j)) : zt_M a (zz_i b 0 j v) := ⟨fun q hq => by rw [zi_k hq]; exact h.1 q hq, fun i hi => by rw [zi_j (fun e => hj (by omega))]; exact h.2 i hi⟩
def zt_U (τ : zz_T) (n : Nat) (b : Nat → Nat) : Prop := τ.1 0 6 = nI n ∧ n ≤ 160 ∧ (∀ i, i < n → b i < 128 ∧ τ.1 6 i = nI (b i))
theorem zt_U.kept {n : Nat} {b : Nat → Nat} (h : zt_U τ n b) (x : zt_M τ τ') : zt_U τ' n b := ⟨by rw [x.2 6 (by omega)]; exact h.1, h.2.1, fun i hi => by rw [x.1 6 (by omega)]; exact h.2.2 i hi⟩
theorem m_byteAt {n p : Nat} {b : Nat → Nat} {Q : Int32 → zz_T → Prop} (T : zt_U τ n b) (hp : p ≤ 1000) (h0 : n ≤ p → Q (-1) τ) (h1 : p < n → Q (nI (b p)) τ) : pX6_byteAt (nI p) τ Q := by
  have n160 := T.2.1
  unfold pX6_byteAt
  rw [T.1]
  by_cases h : n ≤ p
  · exact br_t (nI_le h (by omega)) (h0 h)
  · refine br_f (nI_ge (by omega) (by omega)) ⟨vp_in_nI (by omega) (by decide), ?_⟩
    rw [nI_tn (by omega), (T.2.2 p (by omega)).2]
    exact h1 (by omega)
theorem m_req {ok : Bool} {e f : Nat} {Q : zz_T → Prop} (h11 : τ.1 0 11 = 0) (h8 : τ.1 0 8 = nI f) (hy : ok = true → Q τ) (hn : ok = false → ∀ τ' : zz_T, zt_M τ τ' → τ'.1 0 11 = nI e → τ'.1 0 12 = nI f → Q τ') : pX6_requires (if ok then 1 else 0) (nI e) τ Q := by
  cases ok with
  | true => exact br_f (by decide) (hy rfl)
  | false => exact br_t rfl (br_t h11 (hn rfl _ (((zt_M.rf τ).i (by omega)).i (by omega)) (by rw [zi_j (by omega), zi_at]) (by rw [zi_at, zi_j (by omega)]; exact h8)))
theorem zt_val_le {b : Nat → Nat} {f : Nat} : ∀ d, d ≤ 3 → (∀ i, i < d → b (f + i) ≤ 57) → zt_val b f d < 10 ^ d
  | 0, _, _ => Nat.one_pos
  | d + 1, hd, h => by
    have a := zt_val_le d (by omega) (fun i hi => h i (by omega))
    have c := h d (by omega)
    show 10 * zt_val b f d + (b (f + d) - 48) < 10 ^ (d + 1)
    rw [Nat.pow_succ]
    omega
theorem m_reads {n p : Nat} {b : Nat → Nat} {Q : zz_T → Prop} (T : zt_U τ n b) (hp : p ≤ n) (h11 : τ.1 0 11 = 0) (h7 : τ.1 0 7 = nI p) (hy : zt_ok b n p = true → ∀ τ' : zz_T, zt_M τ τ' → τ'.1 0 11 = 0 → τ'.1 0 9 = nI (zt_s b n p) → τ'.1 0 8 = nI (zt_f b n p) → τ'.1 0 7 = nI (zt_e b n p) → (zt_s b n p = 2 → τ'.1 0 10 = nI (zt_val b (zt_f b n p) (zt_e b n p - zt_f b n p)) ∧ ∀ i, zt_f b n p ≤ i → i < zt_e b n p → 48 ≤ b i ∧ b i ≤ 57) → Q τ') (hn : zt_ok b n p = false → ∀ τ' : zz_T, zt_M τ τ' → τ'.1 0 11 = 1 → τ'.1 0 12 = nI (zt_f b n p) → Q τ') : pX6_reads τ Q := by
  have n160 := T.2.1
  have hf := zt_f_le (b := b) hp
  have he := zt_e_le (b := b) hp
  have ok : zt_ok b n p = true ↔ (zt_s b n p ≠ 4 ∧ (zt_s b n p = 2 → zt_e b n p - zt_f b n p ≤ 3)) := by
    unfold zt_ok
    rw [Bool.and_eq_true, decide_eq_true_eq, decide_eq_true_eq]
  have nok : (¬ (zt_s b n p ≠ 4 ∧ (zt_s b n p = 2 → zt_e b n p - zt_f b n p ≤ 3))) → zt_ok b n p = false := fun h => by
    cases hz : zt_ok b n p with
    | false => rfl
    | true => exact absurd (ok.mp hz) h
  -- behind the spaces
  have tok : ∀ τ2 : zz_T, zt_M τ τ2 → τ2.1 0 11 = 0 → τ2.1 0 7 = nI (zt_f b n p) → pX6_byteAt ((zz_i τ2 0 8 (τ2.1 0 7)).1 0 7) (zz_i τ2 0 8 (τ2.1 0 7)) (fun r47 s47 => ((0 ≤ r47 → pX6_in (Int32.toInt64 r47) 97 122 s47 (fun r71 s71 => ((r71 = 0 → pX6_in (Int32.toInt64 r47) 48 57 s71 (fun r124 s124 => ((r124 = 0 → ((r47 = 59 → pX6_reads_260 Q 1 (zz_i s124 0 9 3)) ∧ (¬ r47 = 59 → pX6_reads_260 Q 0 (zz_i s124 0 9 3)))) ∧ (¬ r124 = 0 → ∃ n140, pX6_reads_140 Q n140 (zz_i (zz_i s124 0 9 2) 0 10 0))))) ∧ (¬ r71 = 0 → ∃ n82, pX6_reads_82 Q n82 (zz_i s71 0 9 1))))) ∧ (¬ 0 ≤ r47 → Q (zz_i s47 0 9 0)))) := by
    intro τ2 x2 e11 e7
    rw [zi_j (by omega), e7]
    have x3 : zt_M τ (zz_i τ2 0 8 (nI (zt_f b n p))) := x2.i (by omega)
    have a8 : (zz_i τ2 0 8 (nI (zt_f b n p))).1 0 8 = nI (zt_f b n p) := by rw [zi_at]
    have a7 : (zz_i τ2 0 8 (nI (zt_f b n p))).1 0 7 = nI (zt_f b n p) := by rw [zi_j (by omega)]; exact e7
    have a11 : (zz_i τ2 0 8 (nI (zt_f b n p))).1 0 11 = 0 := by rw [zi_j (by omega)]; exact e11
    generalize zz_i τ2 0 8 (nI (zt_f b n p)) = τ3 at x3 a8 a7 a11
    have T3 := T.kept x3
    refine m_byteAt T3 (by omega) (fun hE => ?_) (fun hE => ?_)
    · refine br_f (by decide) (hy ?_ _ (x3.i (by omega)) (by rw [zi_j (by omega)]; exact a11) ?_ (by rw [zi_j (by omega)]; exact a8) ?_ (fun q => ?_))
      · unfold zt_ok zt_s
        rw [if_pos hE]
        rfl
      · rw [zi_at]
        unfold zt_s
        rw [if_pos hE]
        rfl
      · rw [zi_j (by omega), a7]
        unfold zt_e
        rw [if_pos hE]
      · unfold zt_s at q
        rw [if_pos hE] at q
        omega
    · have fb := T3.2.2 (zt_f b n p) hE
      have nE : ¬ n ≤ zt_f b n p := by omega
      have es : zt_s b n p = zt_sort (b (zt_f b n p)) := by unfold zt_s; rw [if_neg nE]
      refine br_t (by rw [fa_le, nI_i (by omega)]; show (0 : Int) ≤ _; omega) ?_
      -- where a run ends, from its first place on
      have er : zt_sort (b (zt_f b n p)) ≠ 3 → zt_e b n p = zt_run (fun q => decide (zt_sort (b q) = zt_sort (b (zt_f b n p)))) (n - zt_f b n p) (zt_f b n p) := fun h3 => by
        unfold zt_e
        rw [if_neg nE, if_neg h3]
        obtain ⟨d, hd⟩ : ∃ d, n - zt_f b n p = d + 1 := ⟨n - zt_f b n p - 1, by omega⟩
        rw [hd, show n - (zt_f b n p + 1) = d by omega]
        show _ = if decide (zt_sort (b (zt_f b n p)) = zt_sort (b (zt_f b n p))) then zt_run (fun q => decide (zt_sort (b q) = zt_sort (b (zt_f b n p)))) d (zt_f b n p + 1) else zt_f b n p
        rw [decide_eq_true rfl]
        rfl
      by_cases i1 : 97 ≤ b (zt_f b n p) ∧ b (zt_f b n p) ≤ 122
      · -- a name
        have s1 := zt_s1.mpr i1
        refine m_in_y (a := 97) (b := 122) rfl rfl ((zt_in (a := 97) (z := 122) fb.1 (by omega) (by omega)).mpr i1) (br_f (by decide) ?_)
        have good : zt_ok b n p = true := ok.mpr ⟨by omega, fun q => by omega⟩
        have run : ∀ (j q : Nat) (τ4 : zz_T), q + j = n → zt_M τ τ4 → τ4.1 0 11 = 0 → τ4.1 0 9 = 1 → τ4.1 0 8 = nI (zt_f b n p) → τ4.1 0 7 = nI q → zt_run (fun q => decide (zt_sort (b q) = zt_sort (b (zt_f b n p)))) j q = zt_e b n p → pX6_reads_82 Q (j + 1) τ4 := by
          intro j
          induction j with
          | zero =>
            intro q τ4 hj x c11 c9 c8 c7 hr
            have T4 := T.kept x
            have hr : q = zt_e b n p := hr
            unfold pX6_reads_82
            rw [c7]
            refine m_byteAt T4 (by omega) (fun _ => ?_) (fun z => by omega)
            exact m_in_n (a := 97) (b := 122) rfl rfl zt_in_none.1 (br_t rfl (hy good τ4 x c11 (by rw [c9, es, s1]; rfl) c8 (by rw [c7, hr]) (fun z => by omega)))
          | succ j ih =>
            intro q τ4 hj x c11 c9 c8 c7 hr
            have T4 := T.kept x
            have un : zt_run (fun q => decide (zt_sort (b q) = zt_sort (b (zt_f b n p)))) (j + 1) q = if decide (zt_sort (b q) = zt_sort (b (zt_f b n p))) then zt_run (fun q => decide (zt_sort (b q) = zt_sort (b (zt_f b n p)))) j (q + 1) else q := rfl
            rw [un] at hr
            have tb := T4.2.2 q (by omega)
            unfold pX6_reads_82
            rw [c7]
            refine m_byteAt T4 (by omega) (fun z => by omega) (fun _ => ?_)
            by_cases h : zt_sort (b q) = zt_sort (b (zt_f b n p))
            · rw [decide_eq_true h] at hr
              refine m_in_y (a := 97) (b := 122) rfl rfl ((zt_in (a := 97) (z := 122) tb.1 (by omega) (by omega)).mpr (zt_s1.mp (by omega))) (br_f (by decide) ?_)
              rw [c7, nI_1]
              exact ih (q + 1) _ (by omega) (x.i (by omega)) (by rw [zi_j (by omega)]; exact c11) (by rw [zi_j (by omega)]; exact c9) (by rw [zi_j (by omega)]; exact c8) (by rw [zi_at]) hr
            · rw [decide_eq_false h] at hr
              have hr : q = zt_e b n p := hr
              exact m_in_n (a := 97) (b := 122) rfl rfl (fun z => h (by rw [s1]; exact zt_s1.mpr ((zt_in (a := 97) (z := 122) tb.1 (by omega) (by omega)).mp z))) (br_t rfl (hy good τ4 x c11 (by rw [c9, es, s1]; rfl) c8 (by rw [c7, hr]) (fun z => by omega)))
        exact ⟨n - zt_f b n p + 1, run (n - zt_f b n p) (zt_f b n p) _ (by omega) (x3.i (by omega)) (by rw [zi_j (by omega)]; exact a11) (by rw [zi_at]) (by rw [zi_j (by omega)]; exact a8) (by rw [zi_j (by omega)]; exact a7) (er (by omega)).symm⟩
      · refine m_in_n (a := 97) (b := 122) rfl rfl (fun z => i1 ((zt_in (a := 97) (z := 122) fb.1 (by omega) (by omega)).mp z)) (br_t rfl ?_)
        by_cases i2 : 48 ≤ b (zt_f b n p) ∧ b (zt_f b n p) ≤ 57
        · -- a number
          have s2 := zt_s2.mpr i2
          refine m_in_y (a := 48) (b := 57) rfl rfl ((zt_in (a := 48) (z := 57) fb.1 (by omega) (by omega)).mpr i2) (br_f (by decide) ?_)
          have stop : ∀ (q : Nat) (τ4 : zz_T), zt_M τ τ4 → τ4.1 0 11 = 0 → τ4.1 0 9 = 2 → τ4.1 0 8 = nI (zt_f b n p) → τ4.1 0 7 = nI q → τ4.1 0 10 = nI (zt_val b (zt_f b n p) (min (q - zt_f b n p) 3)) → (∀ i, zt_f b n p ≤ i → i < q → 48 ≤ b i ∧ b i ≤ 57) → q = zt_e b n p → ((3 < ((τ4.1 0 7) - (τ4.1 0 8)) → pX6_reads_236 Q 0 τ4) ∧ (¬ 3 < ((τ4.1 0 7) - (τ4.1 0 8)) → pX6_reads_236 Q 1 τ4)) := by
            intro q τ4 x c11 c9 c8 c7 c10 dg hr
            subst hr
            rw [c7, c8, pk_sub he.1]
            have l3 : (3 : Int32) < nI (zt_e b n p - zt_f b n p) ↔ 3 < zt_e b n p - zt_f b n p := nI_ltI (a := 3) (by omega) (by omega)
            refine ⟨fun z => ?_, fun z => ?_⟩
            · have z := l3.mp z
              exact m_req (ok := false) (e := 1) c11 c8 (fun q => by cases q) (fun _ τ5 x5 f1 f2 => hn (nok (fun y => by have := y.2 (by omega); omega)) τ5 (x.tr x5) f1 f2)
            · have z : ¬ 3 < zt_e b n p - zt_f b n p := fun y => z (l3.mpr y)
              refine m_req (ok := true) (e := 1) c11 c8 (fun _ => hy (ok.mpr ⟨by omega, fun _ => by omega⟩) τ4 x c11 (by rw [c9, es, s2]; rfl) c8 c7 (fun _ => ⟨?_, dg⟩)) (fun q => by cases q)
              rw [c10, Nat.min_eq_left (by omega)]
          have run : ∀ (j q : Nat) (τ4 : zz_T), q + j = n → zt_f b n p ≤ q → zt_M τ τ4 → τ4.1 0 11 = 0 → τ4.1 0 9 = 2 → τ4.1 0 8 = nI (zt_f b n p) → τ4.1 0 7 = nI q → τ4.1 0 10 = nI (zt_val b (zt_f b n p) (min (q - zt_f b n p) 3)) → (∀ i, zt_f b n p ≤ i → i < q → 48 ≤ b i ∧ b i ≤ 57) → zt_run (fun q => decide (zt_sort (b q) = zt_sort (b (zt_f b n p)))) j q = zt_e b n p → pX6_reads_140 Q (j + 1) τ4 := by
            intro j
            induction j with
            | zero =>
              intro q τ4 hj hfq x c11 c9 c8 c7 c10 dg hr
              have T4 := T.kept x
              unfold pX6_reads_140
              rw [c7]
              refine m_byteAt T4 (by omega) (fun _ => ?_) (fun z => by omega)
              exact m_in_n (a := 48) (b := 57) rfl rfl zt_in_none.2 (br_t rfl (stop q τ4 x c11 c9 c8 c7 c10 dg hr))
            | succ j ih =>
              intro q τ4 hj hfq x c11 c9 c8 c7 c10 dg hr
              have T4 := T.kept x
              have un : zt_run (fun q => decide (zt_sort (b q) = zt_sort (b (zt_f b n p)))) (j + 1) q = if decide (zt_sort (b q) = zt_sort (b (zt_f b n p))) then zt_run (fun q => decide (zt_sort (b q) = zt_sort (b (zt_f b n p)))) j (q + 1) else q := rfl
              rw [un] at hr
              have tb := T4.2.2 q (by omega)
              unfold pX6_reads_140
              rw [c7]
              refine m_byteAt T4 (by omega) (fun z => by omega) (fun _ => ?_)
              by_cases h : zt_sort (b q) = zt_sort (b (zt_f b n p))
              · rw [decide_eq_true h] at hr
                have dq := zt_s2.mp (show zt_sort (b q) = 2 by omega)
                have dg2 : ∀ i, zt_f b n p ≤ i → i < q + 1 → 48 ≤ b i ∧ b i ≤ 57 := fun i h1 h2 => by
                  by_cases e : i = q
                  · rw [e]; exact dq
                  · exact dg i h1 (by omega)
                refine m_in_y (a := 48) (b := 57) rfl rfl ((zt_in (a := 48) (z := 57) tb.1 (by omega) (by omega)).mpr dq) (br_f (by decide) ?_)
                have next : ∀ t : Nat, t = zt_val b (zt_f b n p) (min (q + 1 - zt_f b n p) 3) → pX6_reads_201 Q (pX6_reads_140 Q (j + 1)) (nI t) τ4 := by
                  intro t ht
                  unfold pX6_reads_201
                  rw [zi_j (by omega), c7, nI_1]
                  exact ih (q + 1) _ (by omega) (by omega) ((x.i (by omega)).i (by omega)) (by rw [zi_j (by omega), zi_j (by omega)]; exact c11) (by rw [zi_j (by omega), zi_j (by omega)]; exact c9) (by rw [zi_j (by omega), zi_j (by omega)]; exact c8) (by rw [zi_at]) (by rw [zi_j (by omega), zi_at, ht]) dg2 hr
                rw [c7, c8, pk_sub hfq]
                have l3 : (3 : Int32) ≤ nI (q - zt_f b n p) ↔ 3 ≤ q - zt_f b n p := nI_leI (a := 3) (by omega) (by omega)
                refine ⟨fun z => ?_, fun z => ?_⟩
                · have z := l3.mp z
                  rw [c10]
                  exact next _ (by rw [Nat.min_eq_right (by omega), Nat.min_eq_right (by omega)])
                · have z : ¬ 3 ≤ q - zt_f b n p := fun y => z (l3.mpr y)
                  refine m_byteAt T4 (by omega) (fun y => by omega) (fun _ => ?_)
                  rw [c10, Nat.min_eq_left (by omega), show (10 : Int32) = nI 10 from rfl, show (48 : Int32) = nI 48 from rfl, pk_mul, nI_add, pk_sub (by omega)]
                  refine next _ ?_
                  rw [Nat.min_eq_left (by omega), show q + 1 - zt_f b n p = (q - zt_f b n p) + 1 by omega]
                  show _ = 10 * zt_val b (zt_f b n p) (q - zt_f b n p) + (b (zt_f b n p + (q - zt_f b n p)) - 48)
                  rw [show zt_f b n p + (q - zt_f b n p) = q by omega]
                  omega
              · rw [decide_eq_false h] at hr
                exact m_in_n (a := 48) (b := 57) rfl rfl (fun z => h (by rw [s2]; exact zt_s2.mpr ((zt_in (a := 48) (z := 57) tb.1 (by omega) (by omega)).mp z))) (br_t rfl (stop q τ4 x c11 c9 c8 c7 c10 dg hr))
          refine ⟨n - zt_f b n p + 1, run (n - zt_f b n p) (zt_f b n p) _ (by omega) (Nat.le_refl _) ((x3.i (by omega)).i (by omega)) (by rw [zi_j (by omega), zi_j (by omega)]; exact a11) (by rw [zi_j (by omega), zi_at]) (by rw [zi_j (by omega), zi_j (by omega)]; exact a8) (by rw [zi_j (by omega), zi_j (by omega)]; exact a7) ?_ (fun i h1 h2 => by omega) (er (by omega)).symm⟩
          rw [zi_at, Nat.sub_self]
          rfl
        · refine m_in_n (a := 48) (b := 57) rfl rfl (fun z => i2 ((zt_in (a := 48) (z := 57) fb.1 (by omega) (by omega)).mp z)) (br_t rfl ?_)
          unfold pX6_reads_260
          have e59 : nI (b (zt_f b n p)) = 59 ↔ b (zt_f b n p) = 59 := nI_eq (b := 59) (by omega) (by omega)
          have y11 : (zz_i τ3 0 9 3).1 0 11 = 0 := by rw [zi_j (by omega)]; exact a11
          have y8 : (zz_i τ3 0 9 3).1 0 8 = nI (zt_f b n p) := by rw [zi_j (by omega)]; exact a8
          have y7 : (zz_i τ3 0 9 3).1 0 7 = nI (zt_f b n p) := by rw [zi_j (by omega)]; exact a7
          have y9 : (zz_i τ3 0 9 3).1 0 9 = 3 := by rw [zi_at]
          have x4 : zt_M τ (zz_i τ3 0 9 3) := x3.i (by omega)
          by_cases h : b (zt_f b n p) = 59
          · have s3 := zt_s3.mpr h
            refine br_t (e59.mpr h) (m_req (ok := true) (e := 1) y11 y8 (fun _ => ?_) (fun q => by cases q))
            rw [y7, nI_1]
            refine hy (ok.mpr ⟨by omega, fun q => by omega⟩) _ (x4.i (by omega)) (by rw [zi_j (by omega)]; exact y11) (by rw [zi_j (by omega), y9, es, s3]; rfl) (by rw [zi_j (by omega)]; exact y8) ?_ (fun q => by omega)
            rw [zi_at]
            unfold zt_e
            rw [if_neg nE, if_pos s3]
          · have s4 : zt_sort (b (zt_f b n p)) = 4 := by
              unfold zt_sort
              rw [if_neg i1, if_neg i2, if_neg h]
            refine br_f (fun q => h (e59.mp q)) (m_req (ok := false) (e := 1) y11 y8 (fun q => by cases q) (fun _ τ5 x5 f1 f2 => ?_))
            exact hn (nok (fun y => y.1 (by omega))) _ ((x4.tr x5).i (by omega)) (by rw [zi_j (by omega)]; exact f1) (by rw [zi_j (by omega)]; exact f2)
  have sp : ∀ (j p' : Nat) (τ1 : zz_T), p' + j = n → zt_M τ τ1 → τ1.1 0 11 = 0 → τ1.1 0 7 = nI p' → zt_run (fun q => decide (b q = 32)) j p' = zt_f b n p → pX6_reads_8 Q (j + 1) τ1 := by
    intro j
    induction j with
    | zero =>
      intro p' τ1 hj x e11 e7 hr
      have T1 := T.kept x
      have hr : p' = zt_f b n p := hr
      unfold pX6_reads_8
      rw [e7]
      refine m_byteAt T1 (by omega) (fun _ => ?_) (fun z => by omega)
      have z := tok τ1 x e11 (by rw [e7, hr])
      exact br_f (by decide) z
    | succ j ih =>
      intro p' τ1 hj x e11 e7 hr
      have T1 := T.kept x
      have tb := T1.2.2 p' (by omega)
      have un : zt_run (fun q => decide (b q = 32)) (j + 1) p' = if decide (b p' = 32) then zt_run (fun q => decide (b q = 32)) j (p' + 1) else p' := rfl
      rw [un] at hr
      have e32 : nI (b p') = 32 ↔ b p' = 32 := nI_eq (b := 32) (by omega) (by omega)
      unfold pX6_reads_8
      rw [e7]
      refine m_byteAt T1 (by omega) (fun z => by omega) (fun _ => ?_)
      by_cases h : b p' = 32
      · rw [decide_eq_true h] at hr
        refine br_t (e32.mpr h) ?_
        rw [e7, nI_1]
        exact ih (p' + 1) _ (by omega) (x.i (by omega)) (by rw [zi_j (by omega)]; exact e11) (by rw [zi_at]) hr
      · rw [decide_eq_false h] at hr
        have hr : p' = zt_f b n p := hr
        have z := tok τ1 x e11 (by rw [e7, hr])
        exact br_f (fun q => h (e32.mp q)) z
  unfold pX6_reads
  exact br_t (by rw [h11]; decide) ⟨n - p + 1, sp (n - p) p τ (by omega) (zt_M.rf τ) h11 h7 rfl⟩
/-- once there is a fault, nothing is read -/
theorem m_reads_f {e : Nat} {Q : zz_T → Prop} (h11 : τ.1 0 11 = nI e) (h0 : 0 < e) (he : e ≤ 5) (hq : Q τ) : pX6_reads τ Q := by
  unfold pX6_reads
  exact br_f (by rw [h11, fa_le, nI_i (by omega)]; show ¬ _ ≤ (0 : Int); omega) hq
end ZT
