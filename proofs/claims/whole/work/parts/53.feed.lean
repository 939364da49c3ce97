theorem vn_byte : ∀ v, v < 128 → vp_nar .byte (Int32.toInt8 (nI v)).toInt32 = nI v := by decide +kernel
section ZT
variable {S : zSt} {σ σ' τ τ' : zz_T}
def sTape (S : zSt) (n : Nat) (b : Nat → Nat) (fa : Nat) : zSt := (S.1, (n, b, fa), S.2.2)
theorem sTape_ok {n fa : Nat} {b : Nat → Nat} (hs : sOK S) (hn : n ≤ 160) (hb : ∀ i, i < n → b i < 128) (hf : fa ≤ 5) : sOK (sTape S n b fa) := ⟨hs.1, ⟨hn, hb⟩, hf, hs.2.2.2⟩
theorem RX_tape {n fa : Nat} {b : Nat → Nat} (hs : sOK S) (X : RX σ S) (hb : ∀ q, ¬ (q = 1 ∨ q = 2 ∨ cScr q) → σ'.1 q = σ.1 q) (h1 : σ'.1 1 1 = nI n) (h2 : ∀ i, i < n → σ'.1 2 i = nI (b i)) (h3 : σ'.1 1 2 = nI fa) : RX σ' (sTape S n b fa) := by
  obtain ⟨P, ⟨⟨a1, a2, a3⟩, c, d, e⟩⟩ := X
  have o : ∀ q, q = 0 ∨ (2 < q ∧ q < 20) ∨ (39 < q ∧ q < 43) ∨ 45 < q → σ'.1 q = σ.1 q := fun q hq => hb q (by unfold cScr; omega)
  refine ⟨P.kept hs.1.1.1 (fun q x y => o q (by omega)), ⟨h1, h2, h3⟩, fun k hk => ⟨by rw [o _ (by omega)]; exact (c k hk).1, fun q => ((c k hk).2 q).kept (hs.2.2.2.1 k hk q).1.1 (fun u x y => o u (by omega))⟩, fun k hk => ?_, by rw [o _ (by omega)]; exact e⟩
  rw [o (80 + 2 * k) (by omega), o (81 + 2 * k) (by omega)]
  exact d k hk
theorem RM_tape {n fa : Nat} {b : Nat → Nat} (M : RM τ S) (hb : ∀ q, ¬ (q = 6 ∨ mScr q) → τ'.1 q = τ.1 q) (h1 : τ'.1 0 6 = nI n) (h2 : ∀ i, i < n → τ'.1 6 i = nI (b i)) (h3 : τ'.1 0 11 = nI fa) (h4 : τ'.1 0 32 = τ.1 0 32) : RM τ' (sTape S n b fa) := by
  obtain ⟨P, ⟨⟨a1, a2, a3⟩, c, d, e⟩⟩ := M
  have o : ∀ q, q = 1 ∨ (3 ≤ q ∧ q ≤ 5) ∨ (13 ≤ q ∧ q ≤ 15) → τ'.1 q = τ.1 q := fun q hq => hb q (by unfold mScr; omega)
  refine ⟨by rw [o 1 (by omega)]; exact P, ⟨h1, h2, h3⟩, fun k hk => ?_, fun k hk => ?_, by rw [h4]; exact e⟩
  · rw [o 3 (by omega), o 1 (by omega)]; exact c k hk
  · rw [o 13 (by omega), o 14 (by omega), o 15 (by omega)]; exact d k hk
theorem b_feed (hs : sOK S) (X : RX σ S) (M : RM τ S) (x1 : Int32) : zBi (pX5_feed x1 σ) (pX6_feed x1 τ) := by
  have a := X.2.1
  have c := M.2.1
  have n1 := hs.2.1.1
  unfold pX5_feed pX6_feed
  by_cases h : zIn x1 0 127
  · obtain ⟨v, hv, rfl⟩ := (zIn_c (n := 127) (by omega)).mp h
    by_cases hn : stn S = 160
    · refine ⟨-3, S, hs, x_out_y h (br_t rfl (br_f ?_ ⟨rfl, X⟩)), m_in_y rfl rfl h (br_f (by decide) (br_t ?_ ⟨rfl, M⟩))⟩
      · rw [a.1, hn]; decide
      · rw [c.1, hn]; rfl
    · refine ⟨nI (stn S + 1), sTape S (stn S + 1) (fun i => if i = stn S then v else stb S i) (sfa S), sTape_ok hs (by omega) (fun i hi => ?_) hs.2.2.1, x_out_y h (br_t rfl (br_t ?_ ?_)), m_in_y rfl rfl h (br_f (by decide) (br_f ?_ ?_))⟩
      · split
        · omega
        · exact hs.2.1.2 i (by omega)
      · rw [a.1, show (160 : Int32) = nI 160 from rfl, nI_ltI (by omega) (by omega)]; omega
      · rw [vn_byte v (by omega), a.1, nI_tn (by omega)]
        refine ⟨vp_in_nI (by omega) (by decide), ?_⟩
        rw [zi_at, zi_k (by omega), a.1, nI_1]
        refine ⟨rfl, RX_tape hs X (fun q hq => by rw [zi_k (by omega), zi_k (by omega)]) (by rw [zi_at]) (fun i hi => ?_) (by rw [zi_j (by omega), zi_k (by omega)]; exact a.2.2)⟩
        rw [zi_k (by omega)]
        by_cases e : i = stn S
        · rw [if_pos e, e, zi_at]
        · rw [if_neg e, zi_j e]; exact a.2.1 i (by omega)
      · rw [c.1]
        exact fun q => hn ((nI_eq (b := 160) (by omega) (by omega)).mp q)
      · rw [c.1, nI_tn (by omega)]
        refine ⟨vp_in_nI (by omega) (by decide), ?_⟩
        rw [zi_at, zi_k (by omega), c.1, nI_1]
        refine ⟨rfl, RM_tape M (fun q hq => by rw [zi_k (fun e => hq (by unfold mScr; omega)), zi_k (by omega)]) (by rw [zi_at]) (fun i hi => ?_) (by rw [zi_j (by omega), zi_k (by omega)]; exact c.2.2) (by rw [zi_j (by omega), zi_k (by omega)])⟩
        rw [zi_k (by omega)]
        by_cases e : i = stn S
        · rw [if_pos e, e, zi_at]
        · rw [if_neg e, zi_j e]; exact c.2.1 i (by omega)
  · exact ⟨-1, S, hs, x_out_n h (br_f (by decide) ⟨rfl, X⟩), m_in_n rfl rfl h (br_t rfl ⟨rfl, M⟩)⟩
theorem b_end (hs : sOK S) (X : RX σ S) (M : RM τ S) (x1 : Int32) : zBi (pX5_end x1 σ) (pX6_end x1 τ) := by
  have a := X.2.1
  have c := M.2.1
  have n1 := hs.2.1.1
  unfold pX5_end pX6_end
  rw [a.1, c.1]
  by_cases h : zIn x1 0 (nI (stn S))
  · obtain ⟨v, hv, rfl⟩ := (zIn_c (by omega)).mp h
    refine ⟨nI (stn S), sTape S v (stb S) (sfa S), sTape_ok hs (by omega) (fun i hi => hs.2.1.2 i (by omega)) hs.2.2.1, x_out_y h (br_t rfl ⟨a.1, ?_⟩), m_in_y rfl rfl h (br_f (by decide) ⟨c.1, ?_⟩)⟩
    · exact RX_tape hs X (fun q hq => by rw [zi_k (by omega)]) (by rw [zi_at]) (fun i hi => by rw [zi_k (by omega)]; exact a.2.1 i (by omega)) (by rw [zi_j (by omega)]; exact a.2.2)
    · exact RM_tape M (fun q hq => by rw [zi_k (fun e => hq (by unfold mScr; omega))]) (by rw [zi_at]) (fun i hi => by rw [zi_k (by omega)]; exact c.2.1 i (by omega)) (by rw [zi_j (by omega)]; exact c.2.2) (by rw [zi_j (by omega)])
  · exact ⟨-1, S, hs, x_out_n h (br_f (by decide) ⟨rfl, X⟩), m_in_n rfl rfl h (br_t rfl ⟨rfl, M⟩)⟩
end ZT
