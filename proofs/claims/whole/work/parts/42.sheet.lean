section ZQ
variable {S : zSt} {σ σ' τ τ' τ1 : zz_T}
def sShe (S : zSt) (k la sz : Nat) (f : Nat → Int32) : zSt := (S.1, S.2.1, S.2.2.1, (fun i => if i = k then true else sth S i, fun i => if i = k then la else sla S i, fun i => if i = k then sz else ssz S i, fun i => if i = k then f else sce S i), S.2.2.2.2)
theorem sShe_ok {k la sz : Nat} {f : Nat → Int32} (hs : sOK S) (h1 : la ≤ 2) (h2 : sz ≤ 40) : sOK (sShe S k la sz f) := by
  refine ⟨hs.1, hs.2.1, hs.2.2.1, hs.2.2.2.1, fun i hi q => ?_, hs.2.2.2.2.2⟩
  show (if i = k then la else sla S i) ≤ 2 ∧ (if i = k then sz else ssz S i) ≤ 40
  have q : (if i = k then true else sth S i) = true := q
  by_cases e : i = k
  · rw [if_pos e, if_pos e]; exact ⟨h1, h2⟩
  · rw [if_neg e] at q
    rw [if_neg e, if_neg e]; exact hs.2.2.2.2.1 i hi q
theorem RX_she {k la sz : Nat} {f : Nat → Int32} (hs : sOK S) (X : RX σ S) (hk : k < 4) (hb : ∀ q, q ≠ 80 + 2 * k → q ≠ 81 + 2 * k → σ'.1 q = σ.1 q) (h1 : σ'.1 (80 + 2 * k) 1 = 1) (h2 : σ'.1 (80 + 2 * k) 2 = nI la) (h3 : σ'.1 (80 + 2 * k) 3 = nI sz) (h4 : ∀ i, i < sz → σ'.1 (81 + 2 * k) i = f i) : RX σ' (sShe S k la sz f) := by
  obtain ⟨P, ⟨⟨a1, a2, a3⟩, b, c, d⟩⟩ := X
  refine ⟨P.kept hs.1.1.1 (fun q x y => hb q (by omega) (by omega)), ⟨?_, fun i hi => ?_, ?_⟩, fun i hi => ?_, fun i hi => ?_, ?_⟩
  · rw [hb 1 (by omega) (by omega)]; exact a1
  · rw [hb 2 (by omega) (by omega)]; exact a2 i hi
  · rw [hb 1 (by omega) (by omega)]; exact a3
  · rw [hb 41 (by omega) (by omega)]
    exact ⟨(b i hi).1, fun q => ((b i hi).2 q).kept (hs.2.2.2.1 i hi q).1.1 (fun u x y => hb u (by omega) (by omega))⟩
  · have e1 : sth (sShe S k la sz f) i = if i = k then true else sth S i := rfl
    have e2 : sla (sShe S k la sz f) i = if i = k then la else sla S i := rfl
    have e3 : ssz (sShe S k la sz f) i = if i = k then sz else ssz S i := rfl
    have e4 : sce (sShe S k la sz f) i = if i = k then f else sce S i := rfl
    rw [e1, e2, e3, e4]
    by_cases e : i = k
    · subst e
      rw [if_pos (rfl : i = i), if_pos (rfl : i = i), if_pos (rfl : i = i), if_pos (rfl : i = i)]
      exact ⟨h1, fun _ => ⟨h2, h3, h4⟩⟩
    · rw [if_neg e, if_neg e, if_neg e, if_neg e, hb (80 + 2 * i) (by omega) (by omega), hb (81 + 2 * i) (by omega) (by omega)]
      exact c i hi
  · rw [hb 0 (by omega) (by omega)]; exact d
theorem RM_she {k la sz : Nat} {f : Nat → Int32} (hs : sOK S) (M : RM τ S) (hk : k < 4) (hb : ∀ q, q ≠ 13 → q ≠ 14 → q ≠ 15 → τ'.1 q = τ.1 q) (o : ∀ i, i ≠ k → τ'.1 13 i = τ.1 13 i ∧ τ'.1 14 i = τ.1 14 i) (o2 : ∀ i, (i < 40 * k ∨ 40 * k + 40 ≤ i) → τ'.1 15 i = τ.1 15 i) (h2 : τ'.1 13 k = nI la) (h3 : τ'.1 14 k = nI sz) (h4 : ∀ i, i < sz → τ'.1 15 (40 * k + i) = f i) : RM τ' (sShe S k la sz f) := by
  obtain ⟨P, ⟨⟨a1, a2, a3⟩, b, c, d⟩⟩ := M
  refine ⟨by rw [hb 1 (by omega) (by omega) (by omega)]; exact P, ⟨?_, fun i hi => ?_, ?_⟩, fun i hi => ?_, fun i hi => ?_, ?_⟩
  · rw [hb 0 (by omega) (by omega) (by omega)]; exact a1
  · rw [hb 6 (by omega) (by omega) (by omega)]; exact a2 i hi
  · rw [hb 0 (by omega) (by omega) (by omega)]; exact a3
  · rw [hb 3 (by omega) (by omega) (by omega), hb 1 (by omega) (by omega) (by omega)]
    exact b i hi
  · have e1 : sth (sShe S k la sz f) i = if i = k then true else sth S i := rfl
    have e2 : sla (sShe S k la sz f) i = if i = k then la else sla S i := rfl
    have e3 : ssz (sShe S k la sz f) i = if i = k then sz else ssz S i := rfl
    have e4 : sce (sShe S k la sz f) i = if i = k then f else sce S i := rfl
    rw [e1, e2, e3, e4]
    by_cases e : i = k
    · subst e
      rw [if_pos (rfl : i = i), if_pos (rfl : i = i), if_pos (rfl : i = i), if_pos (rfl : i = i)]
      exact ⟨h2, fun _ => ⟨h3, h4⟩⟩
    · rw [if_neg e, if_neg e, if_neg e, if_neg e, (o i e).1, (o i e).2]
      refine ⟨(c i hi).1, fun q => ⟨((c i hi).2 q).1, fun j hj => ?_⟩⟩
      have l := (hs.2.2.2.2.1 i hi q).2
      rw [o2 _ (by omega)]
      exact ((c i hi).2 q).2 j hj
  · rw [hb 0 (by omega) (by omega) (by omega)]; exact d
theorem b_sheet (hs : sOK S) (X : RX σ S) (M : RM τ S) (x1 x2 x3 : Int32) : zBi (pX5_sheet x1 x2 x3 σ) (pX6_sheet x1 x2 x3 τ) := by
  unfold pX5_sheet pX6_sheet
  by_cases h : zIn x1 0 3
  · obtain ⟨k, hk, rfl⟩ := (zIn_c (n := 3) (by omega)).mp h
    have vi : vp_in (nI k) 4 := vp_in_nI (by omega) (by decide)
    have tk : Int32.toNatClampNeg (nI k) = k := nI_tn (by omega)
    by_cases h2 : zIn x2 0 2
    · obtain ⟨la, hla, rfl⟩ := (zIn_c (n := 2) (by omega)).mp h2
      by_cases h4 : x3 ≤ 40
      · by_cases h5 : 0 ≤ x3
        · obtain ⟨sz, hsz, rfl⟩ := (zIn_c (x := x3) (n := 40) (by omega)).mp ⟨by rw [fa_le] at h5; rw [fa_lt]; omega, h4⟩
          refine ⟨1, sShe S k la sz (fun _ => 0), sShe_ok hs hla hsz, x_noSheet_y h (br_t rfl (x_out_y h2 (br_t rfl (br_t h4 (br_t h5 ⟨vi, ?_⟩))))), m_in_y rfl rfl h (br_f (by decide) (m_in_y rfl rfl h2 (br_f (by decide) ⟨zz_bo1, br_f (by decide) (br_t h4 (br_t h5 ⟨vi, vi, 41, ?_⟩))⟩)))⟩
          · rw [tk]
            refine x_fill (by omega) (fun σ1 hb1 h0 => ⟨rfl, ?_⟩)
            have e81 : 80 + 2 * k + 1 = 81 + 2 * k := by omega
            rw [e81] at hb1 h0
            refine RX_she hs X (by omega) (fun q n1 n2 => ?_) ?_ ?_ ?_ (fun i hi => h0 i (by omega))
            · rw [hb1.1 q n2, zi_k n1, zi_k n1, zi_k n1]
            · rw [hb1.1 _ (by omega), zi_j (by omega), zi_j (by omega), zi_at]
            · rw [hb1.1 _ (by omega), zi_j (by omega), zi_at]
            · rw [hb1.1 _ (by omega), zi_at]
          · rw [tk]
            have loop : ∀ (j i : Nat) (τ1 : zz_T), i + j = 40 → (∀ q, q ≠ 15 → τ1.1 q = (zz_i (zz_i τ 13 k (nI la)) 14 k (nI sz)).1 q) → (∀ e, e < i → τ1.1 15 (40 * k + e) = 0) → (∀ e, (e < 40 * k ∨ 40 * k + 40 ≤ e) → τ1.1 15 e = τ.1 15 e) → pX6_sheet_40 (fun x s => x = 1 ∧ RM s (sShe S k la sz (fun _ => 0))) (j + 1) (nI k) (nI i) τ1 := by
              intro j
              induction j with
              | zero =>
                intro i τ1 hi g1 g2 g3
                obtain rfl : i = 40 := by omega
                refine br_t (by decide) ⟨rfl, RM_she hs M (by omega) (fun q n1 n2 n3 => by rw [g1 q n3, zi_k n2, zi_k n1]) (fun i hi => ⟨?_, ?_⟩) g3 ?_ ?_ (fun i hi => g2 i (by omega))⟩
                · rw [g1 13 (by omega), zi_k (by omega), zi_j hi]
                · rw [g1 14 (by omega), zi_j hi, zi_k (by omega)]
                · rw [g1 13 (by omega), zi_k (by omega), zi_at]
                · rw [g1 14 (by omega), zi_at]
              | succ j ih =>
                intro i τ1 hi g1 g2 g3
                refine br_f (by rw [show (40 : Int32) = nI 40 from rfl, nI_leI (by omega) (by omega)]; omega) ?_
                rw [show (40 : Int32) = nI 40 from rfl, pk_mul, nI_add, nI_1, nI_tn (by omega)]
                refine ⟨vp_in_nI (by omega) (by decide), ih (i + 1) _ (by omega) (fun q hq => by rw [zi_k hq]; exact g1 q hq) (fun e he => ?_) (fun e he => by rw [zi_j (by omega)]; exact g3 e he)⟩
                by_cases q : e = i
                · subst q; rw [zi_at]
                · rw [zi_j (by omega)]; exact g2 e (by omega)
            refine loop 40 0 _ (by omega) (fun q hq => rfl) (fun e he => by omega) (fun e he => ?_)
            rw [zi_k (by omega), zi_k (by omega)]
        · exact ⟨-14, S, hs, x_noSheet_y h (br_t rfl (x_out_y h2 (br_t rfl (br_t h4 (br_f h5 ⟨rfl, X⟩))))), m_in_y rfl rfl h (br_f (by decide) (m_in_y rfl rfl h2 (br_f (by decide) ⟨zz_bo1, br_f (by decide) (br_t h4 (br_f h5 ⟨rfl, M⟩))⟩)))⟩
      · exact ⟨-1, S, hs, x_noSheet_y h (br_t rfl (x_out_y h2 (br_t rfl (br_f h4 ⟨rfl, X⟩)))), m_in_y rfl rfl h (br_f (by decide) (m_in_y rfl rfl h2 (br_f (by decide) ⟨zz_bo1, br_f (by decide) (br_f h4 ⟨rfl, M⟩)⟩)))⟩
    · exact ⟨-1, S, hs, x_noSheet_y h (br_t rfl (x_out_n h2 (br_f (by decide) ⟨rfl, X⟩))), m_in_y rfl rfl h (br_f (by decide) (m_in_n rfl rfl h2 (br_t rfl ⟨zz_bo0, br_t rfl ⟨rfl, M⟩⟩)))⟩
  · exact ⟨-1, S, hs, x_noSheet_n h (br_f (by decide) ⟨rfl, X⟩), m_in_n rfl rfl h (br_t rfl ⟨zz_bo0, br_t rfl ⟨rfl, M⟩⟩)⟩
theorem b_lay (hs : sOK S) (X : RX σ S) (M : RM τ S) (x1 x2 x3 : Int32) : zBi (pX5_lay x1 x2 x3 σ) (pX6_lay x1 x2 x3 τ) := by
  unfold pX5_lay pX6_lay
  by_cases h : zIn x1 0 3
  · obtain ⟨k, hk, rfl⟩ := (zIn_c (n := 3) (by omega)).mp h
    have vi : vp_in (nI k) 4 := vp_in_nI (by omega) (by decide)
    have tk : Int32.toNatClampNeg (nI k) = k := nI_tn (by omega)
    have cx := X.2.2.2.1 k (by omega)
    have cm := M.2.2.2.1 k (by omega)
    rw [tk]
    have h02 : zIn 0 0 2 := by unfold zIn; decide
    cases hq : sth S k with
    | false =>
      rw [hq] at cx cm
      exact ⟨-11, S, hs, x_noSheet_y h (br_t rfl ⟨vi, br_t cx.1 (br_f (by decide) ⟨by decide, X⟩)⟩), m_in_y rfl rfl h (br_f (by decide) (m_in_y (x := 0) rfl rfl h02 (br_f (by decide) ⟨zz_bo1, br_f (by decide) ⟨vi, br_t cm.1 ⟨rfl, M⟩⟩⟩)))⟩
    | true =>
      rw [hq] at cx cm
      obtain ⟨c1, c2⟩ := cx
      obtain ⟨c2, c3, c4⟩ := c2 rfl
      obtain ⟨m1, m2⟩ := cm
      obtain ⟨m2, m3⟩ := m2 rfl
      obtain ⟨l1, l2⟩ := hs.2.2.2.2.1 k (by omega) hq
      rw [if_pos rfl] at m1
      have n4 : ¬ τ.1 13 k = (-4) := by rw [m1]; exact nI_ne4 (by omega)
      have eB : (τ.1 14 k - 1).toInt64 = (nI (ssz S k) - 1).toInt64 := by rw [m2]
      by_cases h2 : zIn x2 0 (nI (ssz S k) - 1)
      · obtain ⟨i, hi, rfl⟩ := (zIn_n (by omega)).mp h2
        have ti : Int32.toNatClampNeg (nI i) = i := nI_tn (by omega)
        have v40 : vp_in (nI i) 40 := vp_in_nI (by omega) (by decide)
        have e15 : (40 : Int32) * nI k + nI i = nI (40 * k + i) := by rw [show (40 : Int32) = nI 40 from rfl, pk_mul, nI_add]
        have v160 : vp_in (nI (40 * k + i)) 160 := vp_in_nI (by omega) (by decide)
        have n0 : ¬ nI i < 0 := by rw [fa_lt, nI_i (by omega)]; show ¬ (i : Int) < 0; omega
        have ns : nI i < nI (ssz S k) := by rw [fa_lt, nI_i (by omega), nI_i (by omega)]; omega
        have done : ∀ v : Int32, (RX (zz_i σ (80 + 2 * k + 1) i v) (sShe S k (sla S k) (ssz S k) (fun j => if j = i then v else sce S k j))) ∧ RM (zz_i τ 15 (40 * k + i) v) (sShe S k (sla S k) (ssz S k) (fun j => if j = i then v else sce S k j)) := by
          intro v
          have e81 : 80 + 2 * k + 1 = 81 + 2 * k := by omega
          rw [e81]
          refine ⟨RX_she hs X (by omega) (fun q n1 n2 => zi_k n2) ?_ ?_ ?_ (fun j hj => ?_), RM_she hs M (by omega) (fun q n1 n2 n3 => by rw [zi_k n3]) (fun j hj => ⟨by rw [zi_k (by omega)], by rw [zi_k (by omega)]⟩) (fun j hj => by rw [zi_j (by omega)]) ?_ ?_ (fun j hj => ?_)⟩
          · rw [zi_k (by omega)]; exact c1
          · rw [zi_k (by omega)]; exact c2
          · rw [zi_k (by omega)]; exact c3
          · by_cases e : j = i
            · rw [if_pos e, e, zi_at]
            · rw [if_neg e, zi_j e]; exact c4 j hj
          · rw [zi_k (by omega)]; exact m1
          · rw [zi_k (by omega)]; exact m2
          · by_cases e : j = i
            · rw [if_pos e, e, zi_at]
            · rw [if_neg e, zi_j (by omega)]; exact m3 j hj
        rw [e15, nI_tn (n := 40 * k + i) (by omega)]
        have fin : ∀ v : Int32, (∀ Q : zz_T → Prop, Q (zz_i σ (80 + 2 * k + 1) i v) → pX3_put (80 + 2 * k) (nI i) x3 σ Q) → (∀ Q : Int32 → zz_T → Prop, Q 1 (zz_i τ 15 (40 * k + i) v) → ((τ.1 13 k = 0 → vp_in (nI (40 * k + i)) 160 ∧ Q 1 (zz_i τ 15 (40 * k + i) (Int32.toInt8 x3).toInt32)) ∧ (¬ τ.1 13 k = 0 → vp_in (nI k) 4 ∧ ((τ.1 13 k = 1 → vp_in (nI (40 * k + i)) 160 ∧ Q 1 (zz_i τ 15 (40 * k + i) (Int32.toInt16 x3).toInt32)) ∧ (¬ τ.1 13 k = 1 → vp_in (nI (40 * k + i)) 160 ∧ Q 1 (zz_i τ 15 (40 * k + i) x3)))))) → zBi (pX5_lay (nI k) (nI i) x3 σ) (pX6_lay (nI k) (nI i) x3 τ) := by
          intro v f1 f2
          unfold pX5_lay pX6_lay
          rw [tk, e15, nI_tn (n := 40 * k + i) (by omega)]
          exact ⟨1, sShe S k (sla S k) (ssz S k) (fun j => if j = i then v else sce S k j), sShe_ok hs l1 l2, x_noSheet_y h (br_t rfl ⟨vi, br_f (by rw [c1]; decide) (br_t rfl (br_f n0 (br_t (by rw [c3]; exact ns) (br_t rfl (f1 (fun s => (1 : Int32) = 1 ∧ RX s (sShe S k (sla S k) (ssz S k) (fun j => if j = i then v else sce S k j))) ⟨rfl, (done v).1⟩)))))⟩), m_in_y rfl rfl h (br_f (by decide) (m_in_y (x := 0) rfl rfl h02 (br_f (by decide) ⟨zz_bo1, br_f (by decide) ⟨vi, br_f n4 ⟨vi, m_in_y rfl eB h2 (br_f (by decide) ⟨vi, f2 (fun x s => x = 1 ∧ RM s (sShe S k (sla S k) (ssz S k) (fun j => if j = i then v else sce S k j))) ⟨rfl, (done v).2⟩⟩)⟩⟩⟩)))⟩
        have z : zBi (pX5_lay (nI k) (nI i) x3 σ) (pX6_lay (nI k) (nI i) x3 τ) := by
          rcases (show sla S k = 0 ∨ sla S k = 1 ∨ sla S k = 2 by omega) with e | e | e
          · rw [e] at c2 m1
            exact fin _ (fun Q q => br_t c2 ⟨v40, by rw [ti]; exact q⟩) (fun Q q => br_t m1 ⟨v160, q⟩)
          · rw [e] at c2 m1
            exact fin _ (fun Q q => br_f (by rw [c2]; decide) (br_t c2 ⟨v40, by rw [ti]; exact q⟩)) (fun Q q => br_f (by rw [m1]; decide) ⟨vi, br_t m1 ⟨v160, q⟩⟩)
          · rw [e] at c2 m1
            exact fin _ (fun Q q => br_f (by rw [c2]; decide) (br_f (by rw [c2]; decide) ⟨v40, by rw [ti]; exact q⟩)) (fun Q q => br_f (by rw [m1]; decide) ⟨vi, br_f (by rw [m1]; decide) ⟨v160, q⟩⟩)
        unfold pX5_lay pX6_lay at z
        rw [tk, e15, nI_tn (n := 40 * k + i) (by omega)] at z
        exact z
      · have key : pX3_faultOf (80 + 2 * k) (σ.1 (80 + 2 * k) 2) x2 σ (fun r25 s25 => ((r25 = 0 → pX3_put (80 + 2 * k) x2 x3 s25 (fun s45 => (1 : Int32) = -12 ∧ RX s45 S)) ∧ (¬ r25 = 0 → ((-10) - r25 : Int32) = -12 ∧ RX s25 S))) := by
          refine br_f (by rw [c1]; decide) (br_t rfl ?_)
          by_cases n0 : x2 < 0
          · exact br_t n0 (br_f (by decide) ⟨by decide, X⟩)
          · refine br_f n0 (br_f (fun q => h2 ((zIn_n (by omega)).mpr ⟨x2.toInt.toNat, ?_⟩)) (br_f (by decide) ⟨by decide, X⟩))
            rw [c3, fa_lt, nI_i (by omega)] at q
            have p0 : ¬ x2.toInt < 0 := fun z => n0 (by rw [fa_lt]; exact z)
            refine ⟨by omega, ?_⟩
            rw [fa_eq, nI_i (by omega)]
            omega
        exact ⟨-12, S, hs, x_noSheet_y h (br_t rfl ⟨vi, key⟩), m_in_y rfl rfl h (br_f (by decide) (m_in_y (x := 0) rfl rfl h02 (br_f (by decide) ⟨zz_bo1, br_f (by decide) ⟨vi, br_f n4 ⟨vi, m_in_n rfl eB h2 (br_t rfl ⟨rfl, M⟩)⟩⟩⟩)))⟩
  · exact ⟨-1, S, hs, x_noSheet_n h (br_f (by decide) ⟨rfl, X⟩), m_in_n rfl rfl h (br_t rfl ⟨zz_bo0, br_t rfl ⟨rfl, M⟩⟩)⟩
end ZQ
