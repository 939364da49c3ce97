/-! CALLS that read or change one place -/
def gBnd (g : Nat → Nat) (k v : Nat) : Prop := (k < 33 → (k % 11 = 0 → v ≤ 3) ∧ (k % 11 = 1 → v ≤ 30) ∧ (k % 11 = 2 → v ≤ 9999) ∧ (3 ≤ k % 11 → v ≤ 99)) ∧ (k = 34 → 1 ≤ v ∧ v ≤ 60) ∧ (k = 35 → v ≤ 9) ∧ (k = 36 → v ≤ 3) ∧ (37 ≤ k ∧ k < 49 → v < 256) ∧ (k = 50 → v ≤ 9999) ∧ (52 ≤ k → ((k - 52) % 3 = 0 → v ≤ 40) ∧ ((k - 52) % 3 = 1 → v < g 33) ∧ ((k - 52) % 3 = 2 → v < 256))
theorem gAll_gu {g : Nat → Nat} {k v : Nat} (hg : gAll g) (h1 : k ≠ 33) (h2 : k ≠ 49) (h3 : k ≠ 51) (hb : gBnd g k v) : gAll (gu g k v) := by
  obtain ⟨⟨a, b, c, ⟨d1, d2⟩, ⟨e1, e2⟩⟩, ⟨f1, f2⟩, f3⟩ := hg
  obtain ⟨q0, q34, q35, q36, q37, q50, q52⟩ := hb
  have e33 : gu g k v 33 = g 33 := gu_ne (fun x => h1 x.symm)
  have e49 : gu g k v 49 = g 49 := gu_ne (fun x => h2 x.symm)
  have e51 : gu g k v 51 = g 51 := gu_ne (fun x => h3 x.symm)
  unfold gAll gOK gDY gF0 gW0
  rw [e33, e49, e51]
  refine ⟨⟨a, fun h hh => ⟨?_, ?_⟩, ⟨?_, ?_, ?_, ?_⟩, ⟨d1, fun i hi => ?_⟩, ⟨e1, fun i hi => ⟨?_, ?_, ?_⟩⟩⟩, ⟨fun h hh => ⟨?_, fun d hd => ?_⟩, ?_⟩, ?_⟩
  · by_cases e : 11 * h = k
    · rw [e, gu_at]; exact (q0 (by omega)).1 (by omega)
    · rw [gu_ne e]; exact (b h hh).1
  · by_cases e : 11 * h + 1 = k
    · rw [e, gu_at]; exact (q0 (by omega)).2.1 (by omega)
    · rw [gu_ne e]; exact (b h hh).2
  · by_cases e : 34 = k
    · rw [e, gu_at]; exact (q34 e.symm).1
    · rw [gu_ne e]; exact c.1
  · by_cases e : 34 = k
    · rw [e, gu_at]; exact (q34 e.symm).2
    · rw [gu_ne e]; exact c.2.1
  · by_cases e : 35 = k
    · rw [e, gu_at]; exact q35 e.symm
    · rw [gu_ne e]; exact c.2.2.1
  · by_cases e : 36 = k
    · rw [e, gu_at]; exact q36 e.symm
    · rw [gu_ne e]; exact c.2.2.2
  · by_cases e : 37 + i = k
    · rw [e, gu_at]; exact q37 (by omega)
    · rw [gu_ne e]; exact d2 i hi
  · by_cases e : 52 + 3 * i = k
    · rw [e, gu_at]; exact (q52 (by omega)).1 (by omega)
    · rw [gu_ne e]; exact (e2 i hi).1
  · by_cases e : 53 + 3 * i = k
    · rw [e, gu_at]; exact (q52 (by omega)).2.1 (by omega)
    · rw [gu_ne e]; exact (e2 i hi).2.1
  · by_cases e : 54 + 3 * i = k
    · rw [e, gu_at]; exact (q52 (by omega)).2.2 (by omega)
    · rw [gu_ne e]; exact (e2 i hi).2.2
  · by_cases e : 11 * h + 2 = k
    · rw [e, gu_at]; exact (q0 (by omega)).2.2.1 (by omega)
    · rw [gu_ne e]; exact (f1 h hh).1
  · by_cases e : 11 * h + 3 + d = k
    · rw [e, gu_at]; exact (q0 (by omega)).2.2.2 (by omega)
    · rw [gu_ne e]; exact (f1 h hh).2 d hd
  · by_cases e : 50 = k
    · rw [e, gu_at]; have := q50 e.symm; omega
    · rw [gu_ne e]; exact f2
  · by_cases e : 50 = k
    · rw [e, gu_at]; exact q50 e.symm
    · rw [gu_ne e]; exact f3
theorem gAll_49 {g : Nat → Nat} {v : Nat} (hg : gAll g) (hv : v ≤ 12) (hl : ∀ i, i < v → g (37 + i) < 256) : gAll (gu g 49 v) := by
  obtain ⟨⟨a, b, c, ⟨d1, d2⟩, ⟨e1, e2⟩⟩, ⟨f1, f2⟩, f3⟩ := hg
  unfold gAll gOK gDY gF0 gW0
  rw [gu_ne (j := 33) (by omega), gu_at, gu_ne (j := 51) (by omega), gu_ne (j := 34) (by omega), gu_ne (j := 35) (by omega), gu_ne (j := 36) (by omega), gu_ne (j := 50) (by omega)]
  refine ⟨⟨a, fun h hh => ?_, c, ⟨hv, fun i hi => ?_⟩, ⟨e1, fun i hi => ?_⟩⟩, ⟨fun h hh => ⟨?_, fun d hd => ?_⟩, f2⟩, f3⟩
  · rw [gu_ne (by omega), gu_ne (by omega)]; exact b h hh
  · rw [gu_ne (by omega)]; exact hl i hi
  · rw [gu_ne (by omega), gu_ne (by omega), gu_ne (by omega)]; exact e2 i hi
  · rw [gu_ne (by omega)]; exact (f1 h hh).1
  · rw [gu_ne (by omega)]; exact (f1 h hh).2 d hd
theorem gAll_51 {g : Nat → Nat} {v : Nat} (hg : gAll g) (hv : v ≤ 6) (hl : ∀ i, i < v → g (52 + 3 * i) ≤ 40 ∧ g (53 + 3 * i) < g 33 ∧ g (54 + 3 * i) < 256) : gAll (gu g 51 v) := by
  obtain ⟨⟨a, b, c, ⟨d1, d2⟩, ⟨e1, e2⟩⟩, ⟨f1, f2⟩, f3⟩ := hg
  unfold gAll gOK gDY gF0 gW0
  rw [gu_ne (j := 33) (by omega), gu_at, gu_ne (j := 49) (by omega), gu_ne (j := 34) (by omega), gu_ne (j := 35) (by omega), gu_ne (j := 36) (by omega), gu_ne (j := 50) (by omega)]
  refine ⟨⟨a, fun h hh => ?_, c, ⟨d1, fun i hi => ?_⟩, ⟨hv, fun i hi => ?_⟩⟩, ⟨fun h hh => ⟨?_, fun d hd => ?_⟩, f2⟩, f3⟩
  · rw [gu_ne (by omega), gu_ne (by omega)]; exact b h hh
  · rw [gu_ne (by omega)]; exact d2 i hi
  · rw [gu_ne (by omega), gu_ne (by omega), gu_ne (by omega)]; exact hl i hi
  · rw [gu_ne (by omega)]; exact (f1 h hh).1
  · rw [gu_ne (by omega)]; exact (f1 h hh).2 d hd
/-- one place of the printer becomes v, on both sides -/
theorem RX_set {S : zSt} {σ : zz_T} {k v : Nat} (hs : sOK S) (X : RX σ S) (hk : k < 70) (hg : gAll (gu (sg S) k v)) (hl : ∀ j, gLive (gu (sg S) k v) j → j = k ∨ gLive (sg S) j) : RX (zz_i σ (3 + (zloc k).1) (zloc k).2 (nI v)) (gu (sg S) k v, S.2) := by
  have z := zloc_le k hk
  refine ⟨xP_set hs.1.1.1 hs.1.1.2.2.2.1.1 hs.1.1.2.2.2.2.1 hg.1.1 hg.1.2.2.2.1.1 hk X.1 hl, X.2.keep hs (fun q hq => zi_k (fun e => hq (by omega)))⟩
theorem RM_set {S : zSt} {τ : zz_T} {k v : Nat} (hs : sOK S) (M : RM τ S) (hk : k < 70) (hg : gAll (gu (sg S) k v)) (hl : ∀ j, gLive (gu (sg S) k v) j → j = k ∨ gLive (sg S) j) : RM (zz_i τ 1 k (nI v)) (gu (sg S) k v, S.2) := by
  refine ⟨?_, M.2.keep (fun q hq => zi_k (by omega)) (fun j hj => zi_j (by omega)) (fun j hj => by rw [zi_k (by omega)])⟩
  rw [zi_r, zr_at]
  exact mP_set hs.1.1.1 hs.1.1.2.2.2.1.1 hg.1.1 hg.1.2.2.2.1.1 M.1 hl
theorem RX_at {S : zSt} {σ : zz_T} {k : Nat} (hs : sOK S) (X : RX σ S) (hl : gLive (sg S) k) : σ.1 (3 + (zloc k).1) (zloc k).2 = nI (sg S k) := (xP_iff hs.1.1.1 hs.1.1.2.2.2.1.1).mp X.1 k hl
theorem RM_at {S : zSt} {τ : zz_T} {k : Nat} (hs : sOK S) (M : RM τ S) (hl : gLive (sg S) k) : τ.1 1 k = nI (sg S k) := (mP_iff hs.1.1.1 hs.1.1.2.2.2.1.1).mp M.1 k hl
theorem gLive_gu {g : Nat → Nat} {k v : Nat} (h1 : k ≠ 33) (h2 : k ≠ 49) (h3 : k ≠ 51) : ∀ j, gLive (gu g k v) j → j = k ∨ gLive g j := by
  intro j hj
  unfold gLive at hj ⊢
  rw [gu_ne (fun x => h1 x.symm), gu_ne (fun x => h2 x.symm), gu_ne (fun x => h3 x.symm)] at hj
  exact Or.inr hj
theorem m_becomes {τ : zz_T} {Q : Int32 → zz_T → Prop} {k : Nat} {v : Int32} (hk : k < 70) (hq : Q (τ.1 1 k) (zz_i τ 1 k v)) : pX6_becomes (nI k) v τ Q := by
  unfold pX6_becomes
  rw [nI_tn (by omega)]
  exact ⟨vp_in_nI (by omega) (by decide), vp_in_nI (by omega) (by decide), hq⟩
section ZE
variable {S : zSt} {σ τ : zz_T} (hs : sOK S) (X : RX σ S) (M : RM τ S)
theorem b_fault (hs : sOK S) (X : RX σ S) (M : RM τ S) : zBi (pX5_fault σ) (pX6_fault τ) := ⟨nI (sfa S), S, hs, ⟨X.2.1.2.2, X⟩, ⟨M.2.1.2.2, M⟩⟩
theorem b_torn (hs : sOK S) (X : RX σ S) (M : RM τ S) : zBi (pX5_torn σ) (pX6_torn τ) := ⟨nI (sto S), S, hs, ⟨X.2.2.2.2, X⟩, ⟨M.2.2.2.2, M⟩⟩
theorem b_line (hs : sOK S) (X : RX σ S) (M : RM τ S) (x1 : Int32) : zBi (pX5_line x1 σ) (pX6_line x1 τ) := by
  have h12 := hs.1.1.2.2.2.1.1
  by_cases h : zIn x1 0 (nI (sg S 49) - 1)
  · obtain ⟨i, hi, rfl⟩ := (zIn_n (by omega)).mp h
    refine ⟨nI (sg S (37 + i)), S, hs, x_noLine_y X.1.1.2.1 h (br_t rfl ⟨vp_in_nI (by omega) (by decide), ?_, X⟩), m_isLine_y M.1.1.2.1 h (br_f (by decide) ?_)⟩
    · rw [nI_tn (by omega)]; exact X.1.2.2.1 i hi
    · rw [show (37 : Int32) = nI 37 from rfl, nI_add, nI_tn (by omega)]
      exact ⟨vp_in_nI (by omega) (by decide), M.1.2.2.1 i hi, M⟩
  · exact ⟨-1, S, hs, x_noLine_n X.1.1.2.1 h (br_f (by decide) ⟨rfl, X⟩), m_isLine_n M.1.1.2.1 h (br_t rfl ⟨rfl, M⟩)⟩
theorem b_cut (hs : sOK S) (X : RX σ S) (M : RM τ S) (x1 : Int32) : zBi (pX5_cut x1 σ) (pX6_cut x1 τ) := by
  have h12 := hs.1.1.2.2.2.1.1
  unfold pX5_cut pX6_cut
  rw [show Int32.toNatClampNeg 49 = 49 from rfl, X.1.1.2.1, M.1.1.2.1]
  by_cases h : zIn x1 0 (nI (sg S 49))
  · obtain ⟨v, hv, rfl⟩ := (zIn_c (by omega)).mp h
    have hg : gAll (gu (sg S) 49 v) := gAll_49 hs.1 (by omega) (fun i hi => hs.1.1.2.2.2.1.2 i (by omega))
    have hl : ∀ j, gLive (gu (sg S) 49 v) j → j = 49 ∨ gLive (sg S) j := by
      intro j hj
      unfold gLive at hj ⊢
      rw [gu_at, gu_ne (j := 33) (by omega), gu_ne (j := 51) (by omega)] at hj
      omega
    refine ⟨nI (sg S 49), _, hs.g hg, x_out_y h (br_t rfl ⟨X.1.1.2.1, RX_set hs X (k := 49) (by omega) hg hl⟩), ⟨vp_in_nI (n := 49) (by decide) (by decide), m_in_y rfl rfl h (br_f (by decide) (m_becomes (k := 49) (by omega) ⟨M.1.1.2.1, RM_set hs M (by omega) hg hl⟩))⟩⟩
  · exact ⟨-1, S, hs, x_out_n h (br_f (by decide) ⟨rfl, X⟩), ⟨vp_in_nI (n := 49) (by decide) (by decide), m_in_n rfl rfl h (br_t rfl ⟨rfl, M⟩)⟩⟩
theorem b_forget (hs : sOK S) (X : RX σ S) (M : RM τ S) (x1 : Int32) : zBi (pX5_forget x1 σ) (pX6_forget x1 τ) := by
  have h6 := hs.1.1.2.2.2.2.1
  unfold pX5_forget pX6_forget
  rw [show Int32.toNatClampNeg 51 = 51 from rfl, X.1.2.2.2.1.1, M.1.2.2.2.1.1]
  by_cases h : zIn x1 0 (nI (sg S 51))
  · obtain ⟨v, hv, rfl⟩ := (zIn_c (by omega)).mp h
    have hg : gAll (gu (sg S) 51 v) := gAll_51 hs.1 (by omega) (fun i hi => hs.1.1.2.2.2.2.2 i (by omega))
    have hl : ∀ j, gLive (gu (sg S) 51 v) j → j = 51 ∨ gLive (sg S) j := by
      intro j hj
      unfold gLive at hj ⊢
      rw [gu_at, gu_ne (j := 33) (by omega), gu_ne (j := 49) (by omega)] at hj
      omega
    refine ⟨nI (sg S 51), _, hs.g hg, x_out_y h (br_t rfl ⟨X.1.2.2.2.1.1, RX_set hs X (k := 51) (by omega) hg hl⟩), ⟨vp_in_nI (n := 51) (by decide) (by decide), m_in_y rfl rfl h (br_f (by decide) (m_becomes (k := 51) (by omega) ⟨M.1.2.2.2.1.1, RM_set hs M (by omega) hg hl⟩))⟩⟩
  · exact ⟨-1, S, hs, x_out_n h (br_f (by decide) ⟨rfl, X⟩), ⟨vp_in_nI (n := 51) (by decide) (by decide), m_in_n rfl rfl h (br_t rfl ⟨rfl, M⟩)⟩⟩
theorem zloc_h {h c : Nat} (hh : h < 3) (hc : c < 3) : zloc (11 * h + c) = (8 + 3 * h, 2 + c) := by
  unfold zloc
  rw [if_pos (by omega), if_pos (by omega), show (11 * h + c) / 11 = h by omega, show (11 * h + c) % 11 = c by omega]
theorem zloc_d {h d : Nat} (hh : h < 3) (hd : d < 8) : zloc (11 * h + 3 + d) = (8 + 3 * h + 1, d) := by
  unfold zloc
  rw [if_pos (by omega), if_neg (by omega), show (11 * h + 3 + d) / 11 = h by omega, show (11 * h + 3 + d) % 11 - 3 = d by omega]
theorem zloc_l {i : Nat} (hi : i < 12) : zloc (37 + i) = (2, i) := by
  unfold zloc
  rw [if_neg (by omega), if_neg (by omega), if_neg (by omega), if_pos (by omega), show 37 + i - 37 = i by omega]
theorem zloc_s {i c : Nat} (hc : c < 3) : zloc (52 + c + 3 * i) = (5 + c, i) := by
  unfold zloc
  rw [if_neg (by omega), if_neg (by omega), if_neg (by omega), if_neg (by omega), if_neg (by omega), if_neg (by omega), if_neg (by omega), show (52 + c + 3 * i - 52) % 3 = c by omega, show (52 + c + 3 * i - 52) / 3 = i by omega]
theorem b_set (hs : sOK S) (X : RX σ S) (M : RM τ S) (x1 x2 : Int32) : zBi (pX5_set x1 x2 σ) (pX6_set x1 x2 τ) := by
  have h12 := hs.1.1.2.2.2.1.1
  unfold pX5_set pX5_lineRefused pX5_lineRefused_19 pX6_set
  by_cases h : zIn x1 0 (nI (sg S 49) - 1)
  · by_cases h2 : zIn x2 0 255
    · obtain ⟨i, hi, rfl⟩ := (zIn_n (by omega)).mp h
      obtain ⟨v, hv, rfl⟩ := (zIn_c (n := 255) (by omega)).mp h2
      have hg : gAll (gu (sg S) (37 + i) v) := gAll_gu hs.1 (by omega) (by omega) (by omega) (by unfold gBnd; omega)
      have hl := gLive_gu (g := sg S) (k := 37 + i) (v := v) (by omega) (by omega) (by omega)
      have a := RX_set hs X (k := 37 + i) (by omega) hg hl
      rw [zloc_l (by omega)] at a
      refine ⟨nI (sg S (37 + i)), _, hs.g hg, x_noLine_y X.1.1.2.1 h (br_t rfl (x_out_y h2 (br_t rfl ⟨zz_bo0, br_t rfl ⟨vp_in_nI (by omega) (by decide), vp_in_nI (by omega) (by decide), ?_⟩⟩))), m_isLine_y M.1.1.2.1 h (br_f (by decide) (m_in_y rfl rfl h2 (br_f (by decide) ?_)))⟩
      · rw [nI_tn (by omega)]; exact ⟨X.1.2.2.1 i hi, a⟩
      · rw [show (37 : Int32) = nI 37 from rfl, nI_add]
        exact m_becomes (by omega) ⟨M.1.2.2.1 i hi, RM_set hs M (by omega) hg hl⟩
    · exact ⟨-1, S, hs, x_noLine_y X.1.1.2.1 h (br_t rfl (x_out_n h2 (br_f (by decide) ⟨zz_bo1, br_f (by decide) ⟨rfl, X⟩⟩))), m_isLine_y M.1.1.2.1 h (br_f (by decide) (m_in_n rfl rfl h2 (br_t rfl ⟨rfl, M⟩)))⟩
  · exact ⟨-1, S, hs, x_noLine_n X.1.1.2.1 h (br_f (by decide) ⟨zz_bo1, br_f (by decide) ⟨rfl, X⟩⟩), m_isLine_n M.1.1.2.1 h (br_t rfl ⟨rfl, M⟩)⟩
end ZE
