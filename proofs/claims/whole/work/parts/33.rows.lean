section ZW
variable {S : zSt} {σ τ : zz_T}
theorem x_sumAll {c nh : Nat} {p : Nat} {f : Nat → Nat} {Q : Int32 → zz_T → Prop} (L : (Int32 → zz_T → Prop) → Nat → Int32 → Int32 → zz_T → Prop) (h3 : nh ≤ 3) (hq : Q (nI (fb_sm f nh)) σ) (h0 : ∀ (n : Nat) (a : Int32), Q a σ → L Q (n + 1) a (nI nh) σ) (hs : ∀ (n h : Nat) (a : Int32), h < nh → L Q n (a + nI (f h)) (nI h + 1) σ → L Q (n + 1) a (nI h) σ) : ∃ n, L Q n 0 0 σ := by
  have loop : ∀ (j h : Nat), h + j = nh → L Q (j + 1) (nI (fb_sm f h)) (nI h) σ := by
    intro j
    induction j with
    | zero =>
      intro h hj
      obtain rfl : h = nh := by omega
      exact h0 0 _ hq
    | succ j ih =>
      intro h hj
      refine hs (j + 1) h _ (by omega) ?_
      rw [nI_add, nI_1]
      exact ih (h + 1) (by omega)
  exact ⟨nh + 1, loop nh 0 (by omega)⟩
theorem b_rule (hs : sOK S) (X : RX σ S) (M : RM τ S) (x1 : Int32) : zBi (pX5_rule x1 σ) (pX6_rule x1 τ) := by
  have h3 := hs.1.1.1
  have hr := hs.1.2.2
  unfold pX5_rule pX6_rule
  have m1 := fun (τ' : zz_T) (m : mP (τ'.1 1) (sg S)) (k : Nat) (hk : gLive (sg S) k) => (mP_iff h3 hs.1.1.2.2.2.1.1).mp m k hk
  by_cases h : zIn x1 0 7
  · obtain ⟨c, hc, rfl⟩ := (zIn_c (n := 7) (by omega)).mp h
    rcases (show c = 0 ∨ c = 1 ∨ c = 2 ∨ c = 3 ∨ c = 4 ∨ c = 5 ∨ c = 6 ∨ c = 7 by omega) with rfl | rfl | rfl | rfl | rfl | rfl | rfl | rfl
    · refine ⟨nI (sg S 33), S, hs, br_t rfl ⟨X.1.1.1, X⟩, m_startsR hs M (fun τ' hk m2 m _ _ => br_t rfl ⟨vp_in_nI (n := 33) (by decide) (by decide), m.1.1, M.keep hk⟩)⟩
    · refine ⟨nI (sg S 49), S, hs, br_f (by decide) (br_t rfl ⟨X.1.1.2.1, X⟩), m_startsR hs M (fun τ' hk m2 m _ _ => br_f (by decide) (br_t rfl ⟨vp_in_nI (n := 49) (by decide) (by decide), m.1.2.1, M.keep hk⟩))⟩
    · refine ⟨nI (sg S 50), S, hs, br_f (by decide) (br_f (by decide) (br_t rfl ⟨X.1.1.2.2, X⟩)), m_startsR hs M (fun τ' hk m2 m _ _ => br_f (by decide) (br_f (by decide) (br_t rfl ⟨vp_in_nI (n := 50) (by decide) (by decide), m.1.2.2, M.keep hk⟩)))⟩
    · refine ⟨nI (sg S 34), S, hs, br_f (by decide) (br_f (by decide) (br_f (by decide) (br_t rfl ⟨vp_in_nI (n := 0) (by decide) (by decide), X.1.2.1.1, X⟩))), m_startsR hs M (fun τ' hk m2 m _ _ => br_f (by decide) (br_f (by decide) (br_f (by decide) (br_t rfl ⟨vp_in_nI (n := 34) (by decide) (by decide), m.2.1.1, M.keep hk⟩))))⟩
    · refine ⟨nI (sg S 35), S, hs, br_f (by decide) (br_f (by decide) (br_f (by decide) (br_f (by decide) (br_t rfl ⟨vp_in_nI (n := 1) (by decide) (by decide), X.1.2.1.2.1, X⟩)))), m_startsR hs M (fun τ' hk m2 m _ _ => br_f (by decide) (br_f (by decide) (br_f (by decide) (br_f (by decide) (br_t rfl ⟨vp_in_nI (n := 35) (by decide) (by decide), m.2.1.2.1, M.keep hk⟩)))))⟩
    · refine ⟨nI (sg S 36), S, hs, br_f (by decide) (br_f (by decide) (br_f (by decide) (br_f (by decide) (br_f (by decide) (br_t rfl ⟨vp_in_nI (n := 2) (by decide) (by decide), X.1.2.1.2.2, X⟩))))), m_startsR hs M (fun τ' hk m2 m _ _ => br_f (by decide) (br_f (by decide) (br_f (by decide) (br_f (by decide) (br_f (by decide) (br_t rfl ⟨vp_in_nI (n := 36) (by decide) (by decide), m.2.1.2.2, M.keep hk⟩))))))⟩
    · refine ⟨nI (fb_sm (gW0 (sg S)) (sg S 33)), S, hs, br_f (by decide) (br_f (by decide) (br_f (by decide) (br_f (by decide) (br_f (by decide) (br_f (by decide) (br_t rfl ?_)))))), m_startsR hs M (fun τ' hk m2 m _ _ => br_f (by decide) (br_f (by decide) (br_f (by decide) (br_f (by decide) (br_f (by decide) (br_f (by decide) (br_t rfl (m_sumOf (c := 2) (by omega) h3 m2.1.1 (fun h hh => (m2.2.2.2.2 h hh).2.2.1) ⟨rfl, M.keep hk⟩))))))))⟩
      refine x_sumAll (c := 0) (p := 0) (pX1_wrongOfAll_4 3) h3 ⟨rfl, X⟩ (fun n a ha => br_t (by rw [X.1.1.1]; exact nI_le (by omega) (by omega)) ha) (fun n h a hh hl => br_f (by rw [X.1.1.1]; exact nI_ge hh (by omega)) ⟨vp_in_nI (by omega) (by decide), ?_⟩)
      rw [nI_tn (by omega), (X.1.2.2.2.2 h hh).2.2.1]
      exact hl
    · refine ⟨nI (gL (sg S) (sg S 50 + 0)), S, hs, br_f (by decide) (br_f (by decide) (br_f (by decide) (br_f (by decide) (br_f (by decide) (br_f (by decide) (br_f (by decide) (br_t rfl (px_wantedIn (i := 0) hs.1.1 (by omega) X.1 (by omega) ⟨rfl, X⟩)))))))), m_startsR hs M (fun τ' hk m2 m _ _ => br_f (by decide) (br_f (by decide) (br_f (by decide) (br_f (by decide) (br_f (by decide) (br_f (by decide) (br_f (by decide) (br_t rfl ⟨vp_in_nI (n := 50) (by decide) (by decide), ?_⟩))))))))⟩
      rw [show Int32.toNatClampNeg 50 = 50 from rfl, m2.1.2.2]
      exact m_lineAt hs.1.1 m2.1.2.1 m2.2.2.1 (by omega) ⟨rfl, M.keep hk⟩
  · have n : ∀ c, c ≤ 7 → ¬ x1 = nI c := fun c hc q => h ((zIn_c (n := 7) (by omega)).mpr ⟨c, hc, q⟩)
    exact ⟨-1, S, hs, br_f (n 0 (by omega)) (br_f (n 1 (by omega)) (br_f (n 2 (by omega)) (br_f (n 3 (by omega)) (br_f (n 4 (by omega)) (br_f (n 5 (by omega)) (br_f (n 6 (by omega)) (br_f (n 7 (by omega)) ⟨rfl, X⟩))))))), m_startsR hs M (fun τ' hk m2 m _ _ => br_f (n 0 (by omega)) (br_f (n 1 (by omega)) (br_f (n 2 (by omega)) (br_f (n 3 (by omega)) (br_f (n 4 (by omega)) (br_f (n 5 (by omega)) (br_f (n 6 (by omega)) (br_f (n 7 (by omega)) ⟨rfl, M.keep hk⟩))))))))⟩
theorem b_count (hs : sOK S) (X : RX σ S) (M : RM τ S) (x1 : Int32) : zBi (pX5_count x1 σ) (pX6_count x1 τ) := by
  have h3 := hs.1.1.1
  have h12 := hs.1.1.2.2.2.1.1
  unfold pX5_count pX5_count_65
  -- the reference's loop over the lines comes first
  have mg : ∀ (Q : Int32 → zz_T → Prop), (∀ τ' : zz_T, mK τ τ' → RM τ' S → mP (τ'.1 2) (sg S) → ((x1 = 0 → vp_in 51 210 ∧ Q (τ'.1 1 (Int32.toNatClampNeg 51)) τ') ∧ (¬ x1 = 0 → ((x1 = 1 → vp_in 0 2 ∧ pX6_flag (τ'.1 3 (Int32.toNatClampNeg 0)) τ' (fun r94 s94 => vp_in 1 2 ∧ pX6_flag (s94.1 3 (Int32.toNatClampNeg 1)) s94 (fun r103 s103 => Q (r94 + r103) s103))) ∧ (¬ x1 = 1 → ((x1 = 2 → Q (τ'.1 0 6) τ') ∧ (¬ x1 = 2 → ((x1 = 3 → vp_in 0 4 ∧ (((τ'.1 13 (Int32.toNatClampNeg 0)) = (-4) → Q (-4) τ') ∧ (¬ (τ'.1 13 (Int32.toNatClampNeg 0)) = (-4) → vp_in 0 4 ∧ Q (τ'.1 14 (Int32.toNatClampNeg 0)) τ'))) ∧ (¬ x1 = 3 → ((x1 = 4 → pX6_sumOf 1 τ' (fun r138 s138 => Q r138 s138)) ∧ (¬ x1 = 4 → ((x1 = 5 → Q (nI (fb_sm (fun i => zs_pc (sg S (37 + i))) (sg S 49))) τ') ∧ (¬ x1 = 5 → Q (-1) τ'))))))))))))) → pX6_count x1 τ Q := by
    intro Q hQ
    refine m_startsR hs M (fun τ' hk m2 m1 _ _ => ⟨sg S 49 + 1, ?_⟩)
    have loop : ∀ (j i : Nat), i + j = sg S 49 → pX6_count_8 Q (j + 1) x1 (nI (fb_sm (fun i => zs_pc (sg S (37 + i))) i)) (nI i) τ' := by
      intro j
      induction j with
      | zero =>
        intro i hi
        obtain rfl : i = sg S 49 := by omega
        exact ⟨vp_in_nI (n := 49) (by decide) (by decide), br_t (by rw [show Int32.toNatClampNeg 49 = 49 from rfl, m1.1.2.1]; exact nI_le (by omega) (by omega)) (hQ τ' hk (M.keep hk) m2)⟩
      | succ j ih =>
        intro i hi
        refine ⟨vp_in_nI (n := 49) (by decide) (by decide), br_f (by rw [show Int32.toNatClampNeg 49 = 49 from rfl, m1.1.2.1]; exact nI_ge (by omega) (by omega)) ?_⟩
        rw [show (37 : Int32) = nI 37 from rfl, nI_add, nI_tn (by omega), m1.2.2.1 i (by omega)]
        refine ⟨vp_in_nI (by omega) (by decide), m_bitsOf (hs.1.1.2.2.2.1.2 i (by omega)) ?_⟩
        rw [nI_add, nI_1]
        exact ih (i + 1) (by omega)
    exact loop (sg S 49) 0 (by omega)
  by_cases h : zIn x1 0 5
  · obtain ⟨c, hc, rfl⟩ := (zIn_c (n := 5) (by omega)).mp h
    rcases (show c = 0 ∨ c = 1 ∨ c = 2 ∨ c = 3 ∨ c = 4 ∨ c = 5 by omega) with rfl | rfl | rfl | rfl | rfl | rfl
    · exact ⟨nI (sg S 51), S, hs, br_t rfl ⟨X.1.2.2.2.1.1, X⟩, mg _ (fun τ' hk m m2 => br_t rfl ⟨vp_in_nI (n := 51) (by decide) (by decide), m.1.2.2.2.1.1, m⟩)⟩
    · have e0 := (X.2.2.1 0 (by omega)).1
      have e1 := (X.2.2.1 1 (by omega)).1
      refine ⟨(if skp S 0 then 1 else 0) + (if skp S 1 then 1 else 0), S, hs, br_f (by decide) (br_t rfl ⟨vp_in_nI (n := 0) (by decide) (by decide), ?_⟩), mg _ (fun τ' hk m m2 => br_f (by decide) (br_t rfl ⟨vp_in_nI (n := 0) (by decide) (by decide), ?_⟩))⟩
      · rw [show Int32.toNatClampNeg 0 = 0 from rfl, show Int32.toNatClampNeg 1 = 1 from rfl, e0, e1]
        cases skp S 0 <;> cases skp S 1
        · exact br_t rfl ⟨vp_in_nI (n := 1) (by decide) (by decide), br_t rfl ⟨rfl, X⟩⟩
        · exact br_t rfl ⟨vp_in_nI (n := 1) (by decide) (by decide), br_f (by decide) ⟨rfl, X⟩⟩
        · exact br_f (by decide) ⟨vp_in_nI (n := 1) (by decide) (by decide), br_t rfl ⟨rfl, X⟩⟩
        · exact br_f (by decide) ⟨vp_in_nI (n := 1) (by decide) (by decide), br_f (by decide) ⟨rfl, X⟩⟩
      · have f0 := (m.2.2.1 0 (by omega)).1
        have f1 := (m.2.2.1 1 (by omega)).1
        unfold pX6_flag
        dsimp only
        rw [show Int32.toNatClampNeg 0 = 0 from rfl, show Int32.toNatClampNeg 1 = 1 from rfl, f0, f1]
        cases skp S 0 <;> cases skp S 1
        · exact br_t rfl ⟨vp_in_nI (n := 1) (by decide) (by decide), br_t rfl ⟨rfl, m⟩⟩
        · exact br_t rfl ⟨vp_in_nI (n := 1) (by decide) (by decide), br_f (by decide) ⟨rfl, m⟩⟩
        · exact br_f (by decide) ⟨vp_in_nI (n := 1) (by decide) (by decide), br_t rfl ⟨rfl, m⟩⟩
        · exact br_f (by decide) ⟨vp_in_nI (n := 1) (by decide) (by decide), br_f (by decide) ⟨rfl, m⟩⟩
    · exact ⟨nI (stn S), S, hs, br_f (by decide) (br_f (by decide) (br_t rfl ⟨X.2.1.1, X⟩)), mg _ (fun τ' hk m m2 => br_f (by decide) (br_f (by decide) (br_t rfl ⟨m.2.1.1, m⟩)))⟩
    · have e0 := X.2.2.2.1 0 (by omega)
      refine ⟨if sth S 0 then nI (ssz S 0) else (-4), S, hs, br_f (by decide) (br_f (by decide) (br_f (by decide) (br_t rfl ⟨vp_in_nI (n := 0) (by decide) (by decide), ?_⟩))), mg _ (fun τ' hk m m2 => br_f (by decide) (br_f (by decide) (br_f (by decide) (br_t rfl ⟨vp_in_nI (n := 0) (by decide) (by decide), ?_⟩))))⟩
      · rw [show Int32.toNatClampNeg 0 = 0 from rfl]
        cases ht : sth S 0 with
        | false => rw [ht] at e0; exact br_t e0.1 ⟨rfl, X⟩
        | true => rw [ht] at e0; exact br_f (by rw [e0.1]; decide) ⟨vp_in_nI (n := 0) (by decide) (by decide), (e0.2 rfl).2.1, X⟩
      · have f0 := m.2.2.2.1 0 (by omega)
        rw [show Int32.toNatClampNeg 0 = 0 from rfl]
        cases ht : sth S 0 with
        | false => rw [ht] at f0; exact br_t f0.1 ⟨rfl, m⟩
        | true =>
          rw [ht] at f0
          refine br_f ?_ ⟨vp_in_nI (n := 0) (by decide) (by decide), (f0.2 rfl).1, m⟩
          rw [f0.1]
          have := (hs.2.2.2.2.1 0 (by omega) ht).1
          intro q
          rcases (show sla S 0 = 0 ∨ sla S 0 = 1 ∨ sla S 0 = 2 by omega) with e | e | e <;> rw [e] at q <;> exact absurd q (by decide)
    · refine ⟨nI (fb_sm (fun h => sg S (11 * h + 1)) (sg S 33)), S, hs, br_f (by decide) (br_f (by decide) (br_f (by decide) (br_f (by decide) (br_t rfl ?_)))), mg _ (fun τ' hk m m2 => br_f (by decide) (br_f (by decide) (br_f (by decide) (br_f (by decide) (br_t rfl (m_sumOf (c := 1) (by omega) h3 m2.1.1 (fun h hh => (m2.2.2.2.2 h hh).2.1) ⟨rfl, m⟩))))))⟩
      refine x_sumAll (c := 0) (p := 0) (pX1_powerOfAll_4 3) h3 ⟨rfl, X⟩ (fun n a ha => br_t (by rw [X.1.1.1]; exact nI_le (by omega) (by omega)) ha) (fun n h a hh hl => br_f (by rw [X.1.1.1]; exact nI_ge hh (by omega)) ⟨vp_in_nI (by omega) (by decide), ?_⟩)
      rw [nI_tn (by omega), (X.1.2.2.2.2 h hh).2.1]
      exact hl
    · refine ⟨nI (fb_sm (fun i => zs_pc (sg S (37 + i))) (sg S 49)), S, hs, br_f (by decide) (br_f (by decide) (br_f (by decide) (br_f (by decide) (br_f (by decide) (br_t rfl ?_))))), mg _ (fun τ' hk m m2 => br_f (by decide) (br_f (by decide) (br_f (by decide) (br_f (by decide) (br_f (by decide) (br_t rfl ⟨rfl, m⟩))))))⟩
      have loop : ∀ (j i : Nat), i + j = sg S 49 → pX1_wantedOfAll_4 3 (fun r128 s128 => r128 = nI (fb_sm (fun i => zs_pc (sg S (37 + i))) (sg S 49)) ∧ RX s128 S) (j + 1) (nI (fb_sm (fun i => zs_pc (sg S (37 + i))) i)) (nI i) σ := by
        intro j
        induction j with
        | zero =>
          intro i hi
          obtain rfl : i = sg S 49 := by omega
          exact br_t (by rw [X.1.1.2.1]; exact nI_le (by omega) (by omega)) ⟨rfl, X⟩
        | succ j ih =>
          intro i hi
          refine br_f (by rw [X.1.1.2.1]; exact nI_ge (by omega) (by omega)) ⟨vp_in_nI (by omega) (by decide), ?_⟩
          rw [nI_tn (by omega), X.1.2.2.1 i (by omega)]
          refine zb_c _ (hs.1.1.2.2.2.1.2 i (by omega)) _ _ ?_
          rw [nI_add, nI_1]
          exact ih (i + 1) (by omega)
      exact ⟨sg S 49 + 1, loop (sg S 49) 0 (by omega)⟩
  · have n : ∀ c, c ≤ 5 → ¬ x1 = nI c := fun c hc q => h ((zIn_c (n := 5) (by omega)).mpr ⟨c, hc, q⟩)
    exact ⟨-1, S, hs, br_f (n 0 (by omega)) (br_f (n 1 (by omega)) (br_f (n 2 (by omega)) (br_f (n 3 (by omega)) (br_f (n 4 (by omega)) (br_f (n 5 (by omega)) ⟨rfl, X⟩))))), mg _ (fun τ' hk m m2 => br_f (n 0 (by omega)) (br_f (n 1 (by omega)) (br_f (n 2 (by omega)) (br_f (n 3 (by omega)) (br_f (n 4 (by omega)) (br_f (n 5 (by omega)) ⟨rfl, m⟩))))))⟩
end ZW
