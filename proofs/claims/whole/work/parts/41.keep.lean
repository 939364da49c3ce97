theorem vn_b1 : vp_nar .boolean 1 = 1 := by decide
section ZK
variable {S : zSt} {σ τ τ1 : zz_T}
def sKeep (S : zSt) (k : Nat) : zSt := (S.1, S.2.1, (fun i => if i = k then true else skp S i, fun i => if i = k then S.1 else sgi S i), S.2.2.2)
theorem sKeep_ok {k : Nat} (hs : sOK S) : sOK (sKeep S k) := by
  refine ⟨hs.1, hs.2.1, hs.2.2.1, fun i hi q => ?_, hs.2.2.2.2.1, hs.2.2.2.2.2⟩
  show gAll (if i = k then S.1 else sgi S i)
  by_cases e : i = k
  · rw [if_pos e]; exact hs.1
  · rw [if_neg e]
    refine hs.2.2.2.1 i hi ?_
    have q : (if i = k then true else skp S i) = true := q
    rw [if_neg e] at q
    exact q
theorem m_copies {Q : zz_T → Prop} {a b : Nat} (ha : a + 70 ≤ 210) (hb : b + 70 ≤ 210) (hd : a + 70 ≤ b ∨ b + 70 ≤ a) (hq : ∀ τ' : zz_T, zz_but (fun q => q = 1) τ τ' → (∀ j, j < 70 → τ'.1 1 (a + j) = τ.1 1 (b + j)) → (∀ j, (j < a ∨ a + 70 ≤ j) → τ'.1 1 j = τ.1 1 j) → Q τ') : pX6_copies (nI a) (nI b) τ Q := by
  have loop : ∀ (j i : Nat) (τ1 : zz_T), i + j = 70 → zz_but (fun q => q = 1) τ τ1 → (∀ e, e < i → τ1.1 1 (a + e) = τ.1 1 (b + e)) → (∀ e, (e < a ∨ a + i ≤ e) → τ1.1 1 e = τ.1 1 e) → pX6_copies_2 Q (j + 1) (nI a) (nI b) (nI i) τ1 := by
    intro j
    induction j with
    | zero =>
      intro i τ1 hi h1 h2 h3
      obtain rfl : i = 70 := by omega
      exact br_t (by decide) (hq τ1 h1 h2 h3)
    | succ j ih =>
      intro i τ1 hi h1 h2 h3
      refine br_f (by rw [show (70 : Int32) = nI 70 from rfl, nI_leI (by omega) (by omega)]; omega) ?_
      rw [nI_add, nI_add, nI_1, nI_tn (by omega), nI_tn (by omega)]
      refine ⟨vp_in_nI (by omega) (by decide), vp_in_nI (by omega) (by decide), ?_⟩
      refine ih (i + 1) _ (by omega) (h1.i rfl) (fun e he => ?_) (fun e he => ?_)
      · by_cases q : e = i
        · subst q
          rw [zi_at, h3 _ (by omega)]
        · rw [zi_j (by omega)]
          exact h2 e (by omega)
      · rw [zi_j (by omega)]
        exact h3 e (by omega)
  exact ⟨71, loop 70 0 τ (by omega) (zz_but.rf _ _) (fun e he => by omega) (fun e he => rfl)⟩
theorem m_flag {b : Bool} {Q : Int32 → zz_T → Prop} (hq : Q (if b then 1 else 0) τ) : pX6_flag (if b then 1 else 0) τ Q := by
  cases b
  · exact br_t rfl hq
  · exact br_f (by decide) hq
theorem b_keep (hs : sOK S) (X : RX σ S) (M : RM τ S) (x1 : Int32) : zBi (pX5_keep x1 σ) (pX6_keep x1 τ) := by
  unfold pX5_keep pX6_keep
  by_cases h : zIn x1 0 1
  · obtain ⟨k, hk, rfl⟩ := (zIn_c (n := 1) (by omega)).mp h
    have vi : vp_in (nI k) 2 := vp_in_nI (by omega) (by decide)
    have tk : Int32.toNatClampNeg (nI k) = k := nI_tn (by omega)
    obtain ⟨P, ⟨⟨a1, a2, a3⟩, b, c, d⟩⟩ := X
    obtain ⟨P', ⟨⟨a1', a2', a3'⟩, b', c', d'⟩⟩ := M
    refine ⟨(if skp S k then 1 else 0), sKeep S k, sKeep_ok hs, x_out_y h (br_t rfl ⟨vi, ?_⟩), m_in_y rfl rfl h (br_f (by decide) ⟨vi, ?_⟩)⟩
    · have key : pX5_keep_25 (fun x s => x = (if skp S k then 1 else 0) ∧ RX s (sKeep S k)) (nI k) (if skp S k then 1 else 0) σ := by
        unfold pX5_keep_25
        rw [tk]
        refine ⟨vi, px_copy hs.1.1 P (by omega) (fun σ1 hb1 P1 => ⟨vi, rfl, ?_, ?_⟩)⟩
        · exact P.kept hs.1.1.1 (fun q x y => by rw [zi_k (by omega)]; exact hb1.1 q (by omega))
        · refine ⟨⟨?_, fun i hi => ?_, ?_⟩, fun i hi => ?_, fun i hi => ?_, ?_⟩
          · rw [zi_k (by omega), hb1.1 1 (by omega)]; exact a1
          · rw [zi_k (by omega), hb1.1 2 (by omega)]; exact a2 i hi
          · rw [zi_k (by omega), hb1.1 1 (by omega)]; exact a3
          · have e1 : skp (sKeep S k) i = if i = k then true else skp S i := rfl
            have e2 : sgi (sKeep S k) i = if i = k then sg S else sgi S i := rfl
            rw [e1, e2]
            by_cases e : i = k
            · subst e
              rw [if_pos (rfl : i = i), if_pos (rfl : i = i), zi_at, vn_b1]
              exact ⟨rfl, fun _ => P1.kept (g := sg S) hs.1.1.1 (fun q x y => zi_k (by omega))⟩
            · rw [if_neg e, if_neg e, zi_j (by omega), hb1.1 41 (by omega)]
              exact ⟨(b i hi).1, fun q => ((b i hi).2 q).kept (hs.2.2.2.1 i hi q).1.1 (fun u x y => by rw [zi_k (by omega)]; exact hb1.1 u (by omega))⟩
          · rw [zi_k (by omega), zi_k (by omega), hb1.1 (80 + 2 * i) (by omega), hb1.1 (81 + 2 * i) (by omega)]
            exact c i hi
          · rw [zi_k (by omega), hb1.1 0 (by omega)]; exact d
      rw [tk, (b k (by omega)).1]
      revert key
      cases skp S k
      · intro key; exact br_t rfl key
      · intro key; exact br_f (by decide) key
    · rw [tk, (b' k (by omega)).1]
      refine m_flag ⟨vi, ?_⟩
      rw [nI_1, show (70 : Int32) = nI 70 from rfl, pk_mul, vn_b1]
      refine m_copies (b := 0) (by omega) (by omega) (by omega) (fun τ1 hb1 cp ot => ⟨rfl, ?_, ?_⟩)
      · refine P'.kept hs.1.1 (fun j hj => ?_)
        rw [ot j (by omega), zi_k (by omega)]
      · refine ⟨⟨?_, fun i hi => ?_, ?_⟩, fun i hi => ?_, fun i hi => ?_, ?_⟩
        · rw [hb1.1 0 (by omega), zi_k (by omega)]; exact a1'
        · rw [hb1.1 6 (by omega), zi_k (by omega)]; exact a2' i hi
        · rw [hb1.1 0 (by omega), zi_k (by omega)]; exact a3'
        · have e1 : skp (sKeep S k) i = if i = k then true else skp S i := rfl
          have e2 : sgi (sKeep S k) i = if i = k then sg S else sgi S i := rfl
          rw [e1, e2, hb1.1 3 (by omega)]
          by_cases e : i = k
          · subst e
            rw [if_pos (rfl : i = i), if_pos (rfl : i = i), zi_at]
            refine ⟨rfl, fun _ => P'.kept hs.1.1 (fun j hj => ?_)⟩
            show τ1.1 1 (70 * (i + 1) + j) = _
            rw [cp j hj, zi_k (by omega), Nat.zero_add]
          · rw [if_neg e, if_neg e, zi_j (by omega)]
            refine ⟨(b' i hi).1, fun q => ((b' i hi).2 q).kept (hs.2.2.2.1 i hi q).1 (fun j hj => ?_)⟩
            show τ1.1 1 (70 * (i + 1) + j) = τ.1 1 (70 * (i + 1) + j)
            rw [ot _ (by omega), zi_k (by omega)]
        · rw [hb1.1 13 (by omega), hb1.1 14 (by omega), hb1.1 15 (by omega), zi_k (by omega), zi_k (by omega), zi_k (by omega)]
          exact c' i hi
        · rw [hb1.1 0 (by omega), zi_k (by omega)]; exact d'
  · exact ⟨-1, S, hs, x_out_n h (br_f (by decide) ⟨rfl, X⟩), m_in_n rfl rfl h (br_t rfl ⟨rfl, M⟩)⟩
theorem b_back (hs : sOK S) (X : RX σ S) (M : RM τ S) (x1 : Int32) : zBi (pX5_back x1 σ) (pX6_back x1 τ) := by
  unfold pX5_back pX6_back
  by_cases h : zIn x1 0 1
  · obtain ⟨k, hk, rfl⟩ := (zIn_c (n := 1) (by omega)).mp h
    have vi : vp_in (nI k) 2 := vp_in_nI (by omega) (by decide)
    have tk : Int32.toNatClampNeg (nI k) = k := nI_tn (by omega)
    have bx := X.2.2.1 k (by omega)
    have bm := M.2.2.1 k (by omega)
    cases hq : skp S k with
    | false =>
      rw [hq] at bx bm
      refine ⟨-2, S, hs, x_out_y h (br_t rfl ⟨vi, br_t (by rw [tk]; exact bx.1) ⟨rfl, X⟩⟩), m_in_y rfl rfl h (br_f (by decide) ⟨vi, br_t (by rw [tk]; exact bm.1) ⟨rfl, M⟩⟩)⟩
    | true =>
      rw [hq] at bx bm
      have hg := hs.2.2.2.1 k (by omega) hq
      refine ⟨nI (sgi S k 50), (sgi S k, S.2), hs.g hg, x_out_y h (br_t rfl ⟨vi, br_f (by rw [tk, bx.1]; decide) ⟨vi, ?_⟩⟩), m_in_y rfl rfl h (br_f (by decide) ⟨vi, br_f (by rw [tk, bm.1]; decide) ?_⟩)⟩
      · rw [tk]
        refine px_copy hg.1 (bx.2 rfl) (by omega) (fun σ1 hb1 P1 => ⟨P1.1.2.2, P1, X.2.keep hs (fun q x => hb1.1 q (by omega))⟩)
      · rw [nI_1, show (70 : Int32) = nI 70 from rfl, pk_mul]
        refine m_copies (a := 0) (by omega) (by omega) (by omega) (fun τ1 hb1 cp ot => ⟨vp_in_nI (n := 50) (by decide) (by decide), ?_⟩)
        have P1 : mP (τ1.1 1) (sgi S k) := (bm.2 rfl).kept hg.1 (fun j hj => by have := cp j hj; rw [Nat.zero_add] at this; exact this)
        exact ⟨P1.1.2.2, P1, M.2.keep (fun q x => hb1.1 q (by omega)) (fun j hj => ot j (by omega)) (fun j x => by rw [hb1.1 0 (by omega)])⟩
  · exact ⟨-1, S, hs, x_out_n h (br_f (by decide) ⟨rfl, X⟩), m_in_n rfl rfl h (br_t rfl ⟨rfl, M⟩)⟩
end ZK
