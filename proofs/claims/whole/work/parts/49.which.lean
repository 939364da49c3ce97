section ZW
variable {S : zSt} {σ τ τ1 : zz_T}
theorem m_isSoWith {h c v : Nat} {Q : Int32 → zz_T → Prop} (hs : sOK S) (M : RM τ S) (hk : mK τ τ1) (hh : h < sg S 33) (hc : c ≤ 1) (hv : v ≤ (if c = 0 then 3 else 30)) (hq : ∀ τ' : zz_T, mK τ τ' → (∀ h', h' < sg S 33 → ∀ n, n < 41 → τ'.1 11 (3 * n + h') = nI (zq_B (sg S) (gu (sg S) (11 * h + c) v) h' n)) → τ'.1 12 = τ1.1 12 → Q (if zq_f (sg S) h c v then 1 else 0) τ') : pX6_isSoWith (nI (11 * h + c)) (nI v) τ1 Q := by
  have h3 := hs.1.1.1
  have h6 := hs.1.1.2.2.2.2.1
  have hr := hs.1.2.2
  obtain ⟨gv, sim⟩ := zq_sim (v := v) hs.1 hh hc hv
  generalize hG : gu (sg S) (11 * h + c) v = G at gv sim hq
  have G33 : G 33 = sg S 33 := sim.2.1
  have M1 := M.keep hk
  have main := zq_main (g := sg S) (h := h) (c := c) (v := v) hs.1.1 (by omega) hc
  rw [hG] at main
  rw [← main] at hq
  have rowE : gR G (sg S 50) none = gR (sg S) (sg S 50) none := by
    funext i
    unfold gR
    rw [sim.2.2.2.2.2, sim.2.2.2.2.2]
  unfold pX6_isSoWith
  refine m_starts (fun τ2 hb2 e2 h02 h13 hA => ⟨vp_in_nI (by omega) (by decide), 42, ?_⟩)
  rw [nI_tn (by omega)]
  have k2 : mK τ τ2 := hk.tr (mK.of hb2.1 (fun q hq => by unfold mScr; omega) (fun j hj => h02 j (by omega) (by omega) (by omega) (by omega) (by omega)))
  have m2 : mP (τ2.1 2) (sg S) := M1.1.kept hs.1.1 e2
  have P0 : fl_dy ((zz_i τ2 2 (11 * h + c) (nI v)).1 2) G (gF0 (sg S)) (gW0 (sg S)) (sg S 50) := by
    have m5 : mP ((zz_i τ2 2 (11 * h + c) (nI v)).1 2) G := by
      rw [zi_r, zr_at, ← hG]
      rw [← hG] at gv
      exact mP_set h3 hs.1.1.2.2.2.1.1 gv.1.1 gv.1.2.2.2.1.1 m2 (gLive_gu (by omega) (by omega) (by omega))
    obtain ⟨⟨a1, a2, a3⟩, b, d, e, f⟩ := m5
    have e50 : G 50 = sg S 50 := by rw [← hG]; exact gu_ne (by omega)
    refine ⟨⟨a1, a2, by rw [a3, e50]⟩, b, d, e, fun h' hh' => ?_⟩
    rw [G33] at f hh'
    obtain ⟨f1, f2, f4, f5⟩ := f h' hh'
    refine ⟨f1, f2, ?_, fun d hd => ?_⟩
    · rw [f4]
      show nI (G (11 * h' + 2)) = nI (sg S (11 * h' + 2))
      rw [← hG, gu_ne (by omega)]
    · rw [f5 d hd]
      show nI (G (11 * h' + 3 + d)) = nI (sg S (11 * h' + 3 + d))
      rw [← hG, gu_ne (by omega)]
  have D0 : gDY G (gF0 (sg S)) (gW0 (sg S)) (sg S 50) := ⟨fun h' hh' => hs.1.2.1.1 h' (by omega), by omega⟩
  have k3 : mK τ (zz_i τ2 2 (11 * h + c) (nI v)) := ⟨fun q hq => by rw [zi_k (fun x => hq (by unfold mScr; omega))]; exact k2.1 q hq, by rw [zi_k (by omega)]; exact k2.2.1, by rw [zi_k (by omega)]; exact k2.2.2.1, by rw [zi_k (by omega)]; exact k2.2.2.2⟩
  have e12 : (zz_i τ2 2 (11 * h + c) (nI v)).1 12 = τ1.1 12 := by rw [zi_k (by omega), hb2.1 12 (by omega)]
  -- what is seen, one by one
  have last : ∀ τ4 : zz_T, mK τ τ4 → (∀ h', h' < sg S 33 → ∀ n, n < 41 → τ4.1 11 (3 * n + h') = nI (zq_B (sg S) G h' n)) → τ4.1 12 = τ1.1 12 → ∃ n, pX6_isSoWith_74 Q n 1 0 τ4 := by
    intro τ4 k4 hl e4
    have M4 := (M.keep k4).1
    have q := hq τ4 k4 hl e4
    have loop : ∀ (j s : Nat), s + j = sg S 51 → pX6_isSoWith_74 Q (j + 1) (if zq_r (sg S) (zq_B (sg S) G) s then 1 else 0) (nI s) τ4 := by
      intro j
      induction j with
      | zero =>
        intro s hs2
        obtain rfl : s = sg S 51 := by omega
        refine ⟨vp_in_nI (n := 51) (by decide) (by decide), br_t (by rw [show Int32.toNatClampNeg 51 = 51 from rfl, M4.2.2.2.1.1]; exact nI_le (Nat.le_refl _) (by omega)) ⟨?_, q⟩⟩
        cases zq_r (sg S) (zq_B (sg S) G) (sg S 51)
        · exact zz_bo0
        · exact zz_bo1
      | succ j ih =>
        intro s hs2
        obtain ⟨c1, c2, c3⟩ := M4.2.2.2.1.2 s (by omega)
        obtain ⟨b1, b2, b3⟩ := hs.1.1.2.2.2.2.2 s (by omega)
        have ihs := ih (s + 1) (by omega)
        have es : zq_r (sg S) (zq_B (sg S) G) (s + 1) = (zq_r (sg S) (zq_B (sg S) G) s && decide (zq_B (sg S) G (sg S (53 + 3 * s)) (sg S (52 + 3 * s)) = sg S (54 + 3 * s))) := rfl
        refine ⟨vp_in_nI (n := 51) (by decide) (by decide), br_f (by rw [show Int32.toNatClampNeg 51 = 51 from rfl, M4.2.2.2.1.1]; exact nI_ge (by omega) (by omega)) ?_⟩
        unfold pX6_isSoWith_139 pX6_isSoWith_140
        rw [nI_1]
        cases hz : zq_r (sg S) (zq_B (sg S) G) s with
        | false =>
          rw [hz, Bool.false_and] at es
          rw [es] at ihs
          exact br_t rfl ihs
        | true =>
          rw [hz, Bool.true_and] at es
          refine br_f (by decide) ?_
          have i52 : (52 : Int32) + 3 * nI s = nI (52 + 3 * s) := by rw [show (52 : Int32) = nI 52 from rfl, show (3 : Int32) = nI 3 from rfl, pk_mul, nI_add]
          have i53 : nI (52 + 3 * s) + 1 = nI (53 + 3 * s) := by rw [nI_1, show 52 + 3 * s + 1 = 53 + 3 * s by omega]
          have i54 : nI (52 + 3 * s) + 2 = nI (54 + 3 * s) := by rw [show (2 : Int32) = nI 2 from rfl, nI_add, show 52 + 3 * s + 2 = 54 + 3 * s by omega]
          rw [i52, i53, i54, nI_tn (n := 52 + 3 * s) (by omega), nI_tn (n := 53 + 3 * s) (by omega), nI_tn (n := 54 + 3 * s) (by omega), c1, c2, c3]
          have i11 : (3 : Int32) * nI (sg S (52 + 3 * s)) + nI (sg S (53 + 3 * s)) = nI (3 * sg S (52 + 3 * s) + sg S (53 + 3 * s)) := by rw [show (3 : Int32) = nI 3 from rfl, pk_mul, nI_add]
          rw [i11, nI_tn (n := 3 * sg S (52 + 3 * s) + sg S (53 + 3 * s)) (by omega), hl _ b2 _ (by omega)]
          refine ⟨vp_in_nI (by omega) (by decide), vp_in_nI (by omega) (by decide), vp_in_nI (by omega) (by decide), vp_in_nI (by omega) (by decide), ?_⟩
          have lt := zq_B_lt (sg S) G (sg S (53 + 3 * s)) (sg S (52 + 3 * s))
          by_cases e : zq_B (sg S) G (sg S (53 + 3 * s)) (sg S (52 + 3 * s)) = sg S (54 + 3 * s)
          · refine br_t (by rw [e]) ?_
            rw [decide_eq_true e] at es
            rw [es] at ihs
            exact ihs
          · refine br_f (fun z => e ((nI_eq (by omega) (by omega)).mp z)) ?_
            rw [decide_eq_false e] at es
            rw [es] at ihs
            exact ihs
    exact ⟨sg S 51 + 1, loop (sg S 51) 0 (by omega)⟩
  -- the rows
  have rows : ∀ (j i : Nat) (τ4 : zz_T), i + j = 41 → mK τ τ4 → τ4.1 12 = τ1.1 12 → τ4.1 0 13 = (-4) → (∃ wm bm ho wr wb, wm ≤ 24 * i ∧ ho ≤ 99 ∧ mAc τ4 (G 33) wm bm ho wr wb) → fl_dy (τ4.1 2) G (fun h => hF G h (gR G (sg S 50) none) (gF0 (sg S) h) i) (fun h => hW G h (gR G (sg S 50) none) (gF0 (sg S) h) (gW0 (sg S) h) i) (sg S 50 + i) → (∀ h', h' < sg S 33 → ∀ n, n < i → τ4.1 11 (3 * n + h') = nI (zq_B (sg S) G h' n)) → pX6_isSoWith_13 Q (j + 1) (nI i) τ4 := by
    intro j
    induction j with
    | zero =>
      intro i τ4 hi k4 e4 h13' hA' P hl
      obtain rfl : i = 41 := by omega
      exact br_t (by decide) (last τ4 k4 hl e4)
    | succ j ih =>
      intro i τ4 hi k4 e4 h13' hA' P hl
      obtain ⟨wm, bm, ho, wr, wb, hwm, hho, A⟩ := hA'
      refine br_f (by rw [show (40 : Int32) = nI 40 from rfl, nI_ltI (by omega) (by omega)]; omega) ?_
      refine m_rows1 gv.1 D0 (by omega) (by omega) P h13' A (by omega) hho (fun τ5 k5 hb5 P5 h135 hA5 h8 h05 => ?_)
      obtain ⟨wm', bm', ho', wr', hwm', hho', A'⟩ := hA5
      have copy : ∀ (d o : Nat) (τ6 : zz_T), o + d = sg S 33 → zz_but (fun q => q = 11) τ5 τ6 → (∀ h', h' < sg S 33 → ∀ n, n < i → τ6.1 11 (3 * n + h') = nI (zq_B (sg S) G h' n)) → (∀ h', h' < o → τ6.1 11 (3 * i + h') = nI (zq_B (sg S) G h' i)) → pX6_isSoWith_27 Q (pX6_isSoWith_13 Q (j + 1)) (d + 1) (nI i) (nI o) τ6 := by
        intro d
        induction d with
        | zero =>
          intro o τ6 ho hb6 g1 g2
          obtain rfl : o = sg S 33 := by omega
          have r2 : τ6.1 2 = τ5.1 2 := hb6.1 2 (by omega)
          refine ⟨vp_in_nI (n := 33) (by decide) (by decide), br_t (by rw [show Int32.toNatClampNeg 33 = 33 from rfl, r2, P5.1.1, G33]; exact nI_le (Nat.le_refl _) (by omega)) ?_⟩
          rw [nI_1]
          have k6 : mK τ τ6 := (k4.tr k5).tr (mK.of hb6.1 (fun q hq => by unfold mScr; omega) (fun j hj => by rw [hb6.1 0 (by omega)]))
          refine ih (i + 1) τ6 (by omega) k6 (by rw [hb6.1 12 (by omega), hb5.1 12 (by unfold mRo; omega)]; exact e4) (by rw [hb6.1 0 (by omega)]; exact h135) ⟨wm', bm', ho', wr', (fun h => wb h + hE G h (gR G (sg S 50) none) (gF0 (sg S) h) i), by omega, hho', ?_⟩ (by rw [r2]; exact P5) (fun h' hh' n hn => ?_)
          · unfold mAc
            rw [hb6.1 0 (by omega), hb6.1 7 (by omega)]
            exact A'
          · by_cases e : n = i
            · rw [e]; exact g2 h' hh'
            · exact g1 h' hh' n (by omega)
        | succ d ihd =>
          intro o τ6 ho hb6 g1 g2
          have r2 : τ6.1 2 = τ5.1 2 := hb6.1 2 (by omega)
          have r8 : τ6.1 8 = τ5.1 8 := hb6.1 8 (by omega)
          refine ⟨vp_in_nI (n := 33) (by decide) (by decide), br_f (by rw [show Int32.toNatClampNeg 33 = 33 from rfl, r2, P5.1.1, G33]; exact nI_ge (by omega) (by omega)) ?_⟩
          have i11 : (3 : Int32) * nI i + nI o = nI (3 * i + o) := by rw [show (3 : Int32) = nI 3 from rfl, pk_mul, nI_add]
          rw [i11, nI_tn (n := 3 * i + o) (by omega), nI_tn (n := o) (by omega), nI_1, r8, h8 o (by omega)]
          refine ⟨vp_in_nI (by omega) (by decide), vp_in_nI (by omega) (by decide), ?_⟩
          refine ihd (o + 1) _ (by omega) (hb6.i rfl) (fun h' hh' n hn => by rw [zi_j (by omega)]; exact g1 h' hh' n hn) (fun h' hh' => ?_)
          by_cases e : h' = o
          · rw [e, zi_at, rowE]
            rfl
          · rw [zi_j (by omega)]
            exact g2 h' (by omega)
      refine ⟨sg S 33 + 1, copy (sg S 33) 0 τ5 (by omega) (zz_but.rf _ _) (fun h' hh' n hn => ?_) (fun h' hh' => by omega)⟩
      rw [hb5.1 11 (by unfold mRo; omega)]
      exact hl h' hh' n hn
  obtain ⟨A1, A2, A3, A4, A5⟩ := hA (sg S 33) h3
  exact rows 41 0 _ (by omega) k3 e12 (by rw [zi_k (by omega)]; exact h13) ⟨0, 0, 0, 0, _, by omega, by omega, by rw [zi_k (by omega)]; exact A1, by rw [zi_k (by omega)]; exact A2, by rw [zi_k (by omega)]; exact A3, by rw [zi_k (by omega)]; exact A4, fun h' hh' => by rw [zi_k (by omega)]; exact A5 h' (by omega)⟩ P0 (fun h' hh' n hn => by omega)
theorem b_which (hs : sOK S) (X : RX σ S) (M : RM τ S) (c : Nat) (hc : c ≤ 1) (x1 : Int32) : ∃ r : Int32, pX5_noHead x1 σ (fun r2 s2 => ((r2 = 0 → pX5_asSeenBy x1 (nI c) s2 (fun x s => x = r ∧ RX s S)) ∧ (¬ r2 = 0 → (-1) = r ∧ RX s2 S))) ∧ pX6_which x1 (nI c) (nI (if c = 0 then 3 else 30)) τ (fun x s => x = r ∧ RM s S) := by
  have h3 := hs.1.1.1
  unfold pX6_which
  by_cases h : zIn x1 0 (nI (sg S 33) - 1)
  · obtain ⟨k, hk, rfl⟩ := (zIn_n (by omega)).mp h
    refine ⟨nI (zq_m (zq_f (sg S) k c) ((if c = 0 then 3 else 30) + 1)), x_noHead_y X.1.1.1 h (br_t rfl (x_asSeenBy hs X hk hc (fun σ2 hc2 _ => ⟨rfl, X.keep hc2 hs⟩))), m_isHead_y M.1.1.1 h (br_f (by decide) ?_)⟩
    generalize hmo : (if c = 0 then 3 else 30) = most
    have bm : most ≤ 30 := by rw [← hmo]; split <;> omega
    have loop : ∀ (j v : Nat) (τ2 : zz_T), v + j = most + 1 → mK τ τ2 → pX6_which_16 (fun x s => x = nI (zq_m (zq_f (sg S) k c) (most + 1)) ∧ RM s S) (j + 1) (nI k) (nI c) (nI most) (nI (zq_m (zq_f (sg S) k c) v)) (nI v) τ2 := by
      intro j
      induction j with
      | zero =>
        intro v τ2 hv k2
        obtain rfl : v = most + 1 := by omega
        exact br_t (nI_lt (by omega) (by omega)) ⟨rfl, M.keep k2⟩
      | succ j ih =>
        intro v τ2 hv k2
        refine br_f (nI_nlt (by omega) (by omega)) ?_
        have ix : (11 : Int32) * nI k + nI c = nI (11 * k + c) := by rw [show (11 : Int32) = nI 11 from rfl, pk_mul, nI_add]
        rw [ix]
        refine m_isSoWith hs M k2 hk hc (by rw [hmo]; omega) (fun τ3 k3 _ _ => m_flag ?_)
        rw [zq_step (by omega), nI_1]
        exact ih (v + 1) τ3 (by omega) k3
    exact ⟨most + 2, loop (most + 1) 0 τ (by omega) (mK.rf τ)⟩
  · exact ⟨-1, x_noHead_n X.1.1.1 h (br_f (by decide) ⟨rfl, X⟩), m_isHead_n M.1.1.1 h (br_t rfl ⟨rfl, M⟩)⟩
theorem b_kinds (hs : sOK S) (X : RX σ S) (M : RM τ S) (x1 : Int32) : zBi (pX5_kinds x1 σ) (pX6_kinds x1 τ) := by
  obtain ⟨r, a, b⟩ := b_which hs X M 0 (by omega) x1
  exact ⟨r, S, hs, a, b⟩
theorem b_powers (hs : sOK S) (X : RX σ S) (M : RM τ S) (x1 : Int32) : zBi (pX5_powers x1 σ) (pX6_powers x1 τ) := by
  obtain ⟨r, a, b⟩ := b_which hs X M 1 (by omega) x1
  exact ⟨r, S, hs, a, b⟩
end ZW
