section ZM
variable {S : zSt} {σ τ τ1 : zz_T}
/-- heats do not hang on the mark -/
theorem hF_mark {g g2 : Nat → Nat} {h : Nat} {R : Nat → zRow} {f0 : Nat → Nat} (e0 : g2 (11 * h) = g (11 * h)) (e1 : g2 (11 * h + 1) = g (11 * h + 1)) (e5 : g2 35 = g 35) (e6 : g2 36 = g 36) : ∀ i, hF g2 h R f0 i = hF g h R f0 i
  | 0 => rfl
  | i + 1 => by
    show (if (R i).2.2.2 then (fun _ => 0) else gC g2 h (hF g2 h R f0 i) (R i).1 (R i).2.1 (R i).2.2.1) = (if (R i).2.2.2 then (fun _ => 0) else gC g h (hF g h R f0 i) (R i).1 (R i).2.1 (R i).2.2.1)
    rw [hF_mark e0 e1 e5 e6 i]
    unfold gC gT
    rw [e0, e1, e5, e6]
/-- the reference: MARK (c 0), COOL (1) -/
theorem m_best {c n w lo most : Nat} {val : Nat → Nat} (hs : sOK S) (M : RM τ S) (hc : c ≤ 1) (hn : n ≤ 60) (hw : w ≤ 1) (hlo : lo = if c = 0 then 1 else 0) (hmo : most = if c = 0 then 60 else 9) (hval : ∀ v, lo ≤ v → v ≤ most → gN (gu (sg S) (34 + c) v) (gR (gu (sg S) (34 + c) v) (sg S 50) none) (gF0 (gu (sg S) (34 + c) v)) n = val (v - lo)) : pX6_startsJudging 1000000 τ (fun s26 => pX6_lowOf (nI c) s26 (fun r30 s30 => ∃ n35, pX6_best_35 (fun x s => x = jAns (jd val (fun i => nI (lo + i)) (-4) 1000000 (most + 1 - lo)) w ∧ RM s S) n35 (nI c) (nI n) (nI w) r30 s30)) := by
  have h3 := hs.1.1.1
  have hr := hs.1.2.2
  have bm : most ≤ 60 ∧ lo ≤ 1 ∧ lo ≤ most := by rw [hmo, hlo]; split <;> omega
  refine m_startsJudging (m0 := 1000000) (mK.rf τ) (fun τ1 J0 => ?_)
  have loop : ∀ (j v : Nat) (τ3 : zz_T), lo + v + j = most + 1 → Jm τ τ3 (jd val (fun i => nI (lo + i)) (-4) 1000000 v).1 (jd val (fun i => nI (lo + i)) (-4) 1000000 v).2 → pX6_best_35 (fun x s => x = jAns (jd val (fun i => nI (lo + i)) (-4) 1000000 (most + 1 - lo)) w ∧ RM s S) (j + 1) (nI c) (nI n) (nI w) (nI (lo + v)) τ3 := by
    intro j
    induction j with
    | zero =>
      intro v τ3 hv J
      obtain rfl : v = most + 1 - lo := by omega
      have fin := m_judged (Q := fun x s => x = jAns (jd val (fun i => nI (lo + i)) (-4) 1000000 (most + 1 - lo)) w ∧ RM s S) hw J ⟨rfl, M.keep J.1⟩
      unfold pX6_best_35 pX6_mostOf
      rcases (show c = 0 ∨ c = 1 by omega) with rfl | rfl
      · rw [if_pos rfl] at hmo
        refine br_t rfl (br_t ?_ fin)
        rw [show (60 : Int32) = nI 60 from rfl, nI_ltI (by omega) (by omega)]; omega
      · rw [if_neg (by decide)] at hmo
        refine br_f (by decide) (br_t rfl (br_t ?_ fin))
        rw [show (9 : Int32) = nI 9 from rfl, nI_ltI (by omega) (by omega)]; omega
    | succ j ih =>
      intro v τ3 hv J
      have hgv : gAll (gu (sg S) (34 + c) (lo + v)) := by
        refine gAll_gu hs.1 (by omega) (by omega) (by omega) ?_
        rcases (show c = 0 ∨ c = 1 by omega) with rfl | rfl
        · rw [if_pos rfl] at hmo hlo; unfold gBnd; omega
        · rw [if_neg (by decide)] at hmo hlo; unfold gBnd; omega
      have body : pX6_starts τ3 (fun s45 => vp_in (34 + nI c) 70 ∧ pX6_wrongIn (nI n) (zz_i s45 2 (Int32.toNatClampNeg (34 + nI c)) (nI (lo + v))) (fun r64 s64 => pX6_judges (nI (lo + v)) r64 s64 (fun s67 => pX6_best_35 (fun x s => x = jAns (jd val (fun i => nI (lo + i)) (-4) 1000000 (most + 1 - lo)) w ∧ RM s S) (j + 1) (nI c) (nI n) (nI w) (nI (lo + v) + 1) s67))) := by
        refine m_startsJ hs M J (fun τ4 J4 m2 m1 h13 hA => ?_)
        rw [show (34 : Int32) = nI 34 from rfl, nI_add, nI_tn (by omega)]
        refine ⟨vp_in_nI (by omega) (by decide), ?_⟩
        have J5 : Jm τ (zz_i τ4 2 (34 + c) (nI (lo + v))) (jd val (fun i => nI (lo + i)) (-4) 1000000 v).1 (jd val (fun i => nI (lo + i)) (-4) 1000000 v).2 := ⟨⟨fun q hq => by rw [zi_k (fun x => hq (by unfold mScr; omega))]; exact J4.1.1 q hq, by rw [zi_k (by omega)]; exact J4.1.2.1, by rw [zi_k (by omega)]; exact J4.1.2.2.1, by rw [zi_k (by omega)]; exact J4.1.2.2.2⟩, by rw [zi_k (by omega)]; exact J4.2.1, by rw [zi_k (by omega)]; exact J4.2.2⟩
        have m5 : mP ((zz_i τ4 2 (34 + c) (nI (lo + v))).1 2) (gu (sg S) (34 + c) (lo + v)) := by
          rw [zi_r, zr_at]
          exact mP_set h3 hs.1.1.2.2.2.1.1 hgv.1.1 hgv.1.2.2.2.1.1 m2 (gLive_gu (by omega) (by omega) (by omega))
        have e33 : gu (sg S) (34 + c) (lo + v) 33 = sg S 33 := gu_ne (by omega)
        have e50 : gu (sg S) (34 + c) (lo + v) 50 = sg S 50 := gu_ne (by omega)
        obtain ⟨A1, A2, A3, A4, A5⟩ := hA (sg S 33) h3
        unfold pX6_wrongIn
        refine m_rowsJ (wt := none) hgv.1 hgv.2.1 (by rw [e50]; omega) (by omega) J5 m5 (Or.inl ⟨by rw [zi_k (by omega)]; exact h13, rfl⟩) ⟨by rw [zi_k (by omega)]; exact A1, by rw [zi_k (by omega)]; exact A2, by rw [zi_k (by omega)]; exact A3, by rw [zi_k (by omega)]; exact A4, fun h hh => by rw [zi_k (by omega)]; exact A5 h (by omega)⟩ (fun τ6 J6 e14 e7 => ?_)
        have ev := hval (lo + v) (by omega) (by omega)
        rw [Nat.add_sub_cancel_left] at ev
        have vl := gN_le hgv.1.1 (gR (gu (sg S) (34 + c) (lo + v)) (sg S 50) none) (gF0 (gu (sg S) (34 + c) (lo + v))) n
        rw [ev] at vl
        rw [e14, e50, ev]
        refine m_judge (val := val) (code := fun i => nI (lo + i)) (by omega) (by omega) J6 (fun τ7 J7 => ?_)
        rw [nI_1]
        exact ih (v + 1) τ7 (by omega) J7
      unfold pX6_best_35 pX6_mostOf
      rcases (show c = 0 ∨ c = 1 by omega) with rfl | rfl
      · rw [if_pos rfl] at hmo
        refine br_t rfl (br_f ?_ body)
        rw [show (60 : Int32) = nI 60 from rfl, nI_ltI (by omega) (by omega)]; omega
      · rw [if_neg (by decide)] at hmo
        refine br_f (by decide) (br_t rfl (br_f ?_ body))
        rw [show (9 : Int32) = nI 9 from rfl, nI_ltI (by omega) (by omega)]; omega
  have l0 := loop (most + 1 - lo) 0 τ1 (by omega) J0
  unfold pX6_lowOf
  rcases (show c = 0 ∨ c = 1 by omega) with rfl | rfl
  · rw [if_pos rfl] at hlo
    subst hlo
    exact br_t rfl ⟨_, l0⟩
  · rw [if_neg (by decide)] at hlo
    subst hlo
    exact br_f (by decide) ⟨_, l0⟩
theorem x_cool {n w : Nat} {val : Nat → Nat} (hs : sOK S) (X : RX σ S) (hn : n ≤ 60) (hw : w ≤ 1) (hval : ∀ v, v ≤ 9 → gN (gu (sg S) 35 v) (gR (gu (sg S) 35 v) (sg S 50) none) (gF0 (gu (sg S) 35 v)) n = val v) : pX5_bestCool (nI n) (nI w) σ (fun x s => x = (if w = 0 then (jd val nI 0 1000000 10).1 else nI (jd val nI 0 1000000 10).2) ∧ RX s S) := by
  have h3 := hs.1.1.1
  have hr := hs.1.2.2
  have loop : ∀ (j v : Nat) (σ3 : zz_T), v + j = 10 → cK σ σ3 → pX5_bestCool_9 (fun x s => x = (if w = 0 then (jd val nI 0 1000000 10).1 else nI (jd val nI 0 1000000 10).2) ∧ RX s S) (j + 1) (nI n) (nI w) (nI (jd val nI 0 1000000 v).2) (jd val nI 0 1000000 v).1 (nI v) σ3 := by
    intro j
    induction j with
    | zero =>
      intro v σ3 hv hc3
      obtain rfl : v = 10 := by omega
      refine br_t (by decide) ?_
      rcases (show w = 0 ∨ w = 1 by omega) with rfl | rfl
      · exact br_t rfl ⟨rfl, X.keep hc3 hs⟩
      · exact br_f (by decide) ⟨rfl, X.keep hc3 hs⟩
    | succ j ih =>
      intro v σ3 hv hc3
      have hgv : gAll (gu (sg S) 35 v) := gAll_gu hs.1 (by omega) (by omega) (by omega) (by unfold gBnd; omega)
      refine br_f (by rw [show (9 : Int32) = nI 9 from rfl, nI_ltI (by omega) (by omega)]; omega) ?_
      refine x_trial_0 hs.1.1 (xP_cK hs.1.1 X.1 hc3) (fun σ4 hc4 P4 => ⟨vp_in_nI (n := 1) (by decide) (by decide), ?_⟩)
      have P5 : xP (zz_i σ4 23 1 (nI v)) 20 (gu (sg S) 35 v) := xP_set (p := 20) (k := 35) h3 hs.1.1.2.2.2.1.1 hs.1.1.2.2.2.2.1 hgv.1.1 hgv.1.2.2.2.1.1 (by omega) P4 (gLive_gu (by omega) (by omega) (by omega))
      have e50 : gu (sg S) 35 v 50 = sg S 50 := gu_ne (by omega)
      have c5 : cK σ (zz_i σ4 23 1 (nI v)) := fun q hq => by rw [zi_k (fun e => hq (by unfold cScr; omega))]; exact (hc3.tr hc4) q hq
      refine x_wrongInTrial hgv.1 hgv.2.1 (by rw [e50]; omega) hn (jd_le _ _ _ _ _) c5 P5 (fun x σ6 hc6 hx => ?_)
      have vl := gN_le hgv.1.1 (gR (gu (sg S) 35 v) (sg S 50) none) (gF0 (gu (sg S) 35 v)) n
      rw [e50, hval v (by omega)] at hx
      rw [hval v (by omega)] at vl
      refine jd_step (val := val) (code := nI) (c0 := 0) (m0 := 1000000) (n := v) (x := x) (P := fun a b => pX5_bestCool_59 (fun x s => x = (if w = 0 then (jd val nI 0 1000000 10).1 else nI (jd val nI 0 1000000 10).2) ∧ RX s S) (pX5_bestCool_9 (fun x s => x = (if w = 0 then (jd val nI 0 1000000 10).1 else nI (jd val nI 0 1000000 10).2) ∧ RX s S) (j + 1)) (nI n) (nI w) a b (nI v) σ6) (by omega) hx (by omega) ?_
      unfold pX5_bestCool_59
      rw [nI_1]
      exact ih (v + 1) σ6 (by omega) hc6
  exact ⟨11, loop 10 0 σ (by omega) (cK.rf σ)⟩
theorem x_mark {n w : Nat} {val : Nat → Nat} (hs : sOK S) (X : RX σ S) (hn : n ≤ 60) (hw : w ≤ 1) (hval : ∀ v, 1 ≤ v → v ≤ 60 → gN (gu (sg S) 34 v) (gR (gu (sg S) 34 v) (sg S 50) none) (gF0 (gu (sg S) 34 v)) n = val (v - 1)) : pX5_bestMark (nI n) (nI w) σ (fun x s => x = (if w = 0 then (jd val (fun i => nI (1 + i)) 0 1000000 60).1 else nI (jd val (fun i => nI (1 + i)) 0 1000000 60).2) ∧ RX s S) := by
  have h3 := hs.1.1.1
  have hr := hs.1.2.2
  generalize hRd : gR (sg S) (sg S 50) none = R
  -- what is wrong by a mark in a row, of a head
  have one : ∀ v, 1 ≤ v → v ≤ 60 → gN (gu (sg S) 34 v) (gR (gu (sg S) 34 v) (sg S 50) none) (gF0 (gu (sg S) 34 v)) n = fb_sm (fun i => fb_sm (fun h => fb_sm (mk1 v (R i).1 (hT (sg S) h R (gF0 (sg S) h) i)) 8) (sg S 33)) n := by
    intro v _ _
    have gl : ∀ r, gL (gu (sg S) 34 v) r = gL (sg S) r := fun r => by
      unfold gL
      rw [gu_ne (j := 49) (by omega), gu_ne (j := 37 + r % sg S 49) (by omega)]
    have rE : gR (gu (sg S) 34 v) (sg S 50) none = R := by
      rw [← hRd]
      funext i
      unfold gR
      rw [gl, gl]
    rw [rE]
    unfold gN
    refine fb_sm_cong (fun i _ => ?_)
    unfold gS
    rw [gu_ne (j := 33) (by omega)]
    refine fb_sm_cong (fun h hh => ?_)
    unfold hE gE gB
    rw [gE_mk, gu_at]
    refine fb_sm_cong (fun d hd => ?_)
    have eF : ∀ i, hF (gu (sg S) 34 v) h R (gF0 (gu (sg S) 34 v) h) i = hF (sg S) h R (gF0 (gu (sg S) 34 v) h) i := hF_mark (gu_ne (by omega)) (gu_ne (by omega)) (gu_ne (by omega)) (gu_ne (by omega))
    -- heats beyond the eighth dot are read by no one
    have low : ∀ (i : Nat) (f f' : Nat → Nat), (∀ d, d < 8 → f d = f' d) → ∀ d, d < 8 → hF (sg S) h R f i d = hF (sg S) h R f' i d := by
      intro i
      induction i with
      | zero => intro f f' hf d hd; exact hf d hd
      | succ i ih =>
        intro f f' hf d hd
        show (if (R i).2.2.2 then (fun _ => 0) else gC (sg S) h (hF (sg S) h R f i) (R i).1 (R i).2.1 (R i).2.2.1) d = (if (R i).2.2.2 then (fun _ => 0) else gC (sg S) h (hF (sg S) h R f' i) (R i).1 (R i).2.1 (R i).2.2.1) d
        split
        · rfl
        · have ht : ∀ e, e < 8 → gT (sg S) h (hF (sg S) h R f i) (R i).1 (R i).2.1 (R i).2.2.1 e = gT (sg S) h (hF (sg S) h R f' i) (R i).1 (R i).2.1 (R i).2.2.1 e := fun e he => by
            unfold gT zs_ht zs_gn
            rw [ih f f' hf e he]
          unfold gC zs_cl zs_lf zs_fl
          rw [ht d hd]
          have a1 : ∀ (z : Int), (if d = 0 then (0 : Int) else if d - 1 < 7 then (((gT (sg S) h (hF (sg S) h R f i) (R i).1 (R i).2.1 (R i).2.2.1 (d - 1) : Nat) : Int) - ((gT (sg S) h (hF (sg S) h R f i) (R i).1 (R i).2.1 (R i).2.2.1 (d - 1 + 1) : Nat) : Int)) * (sg S 36 : Int) |>.tdiv 8 else 0) = (if d = 0 then (0 : Int) else if d - 1 < 7 then (((gT (sg S) h (hF (sg S) h R f' i) (R i).1 (R i).2.1 (R i).2.2.1 (d - 1) : Nat) : Int) - ((gT (sg S) h (hF (sg S) h R f' i) (R i).1 (R i).2.1 (R i).2.2.1 (d - 1 + 1) : Nat) : Int)) * (sg S 36 : Int) |>.tdiv 8 else 0) := by
            intro _
            by_cases hd0 : d = 0
            · rw [if_pos hd0, if_pos hd0]
            · rw [if_neg hd0, if_neg hd0, ht (d - 1) (by omega), show d - 1 + 1 = d by omega, ht d hd]
          rw [a1 0]
          by_cases hd7 : d < 7
          · rw [if_pos hd7, if_pos hd7, ht (d + 1) (by omega)]
          · rw [if_neg hd7, if_neg hd7]
    have eT : ∀ d, d < 8 → gT (gu (sg S) 34 v) h (hF (gu (sg S) 34 v) h R (gF0 (gu (sg S) 34 v) h) i) (R i).1 (R i).2.1 (R i).2.2.1 d = hT (sg S) h R (gF0 (sg S) h) i d := by
      intro d hd
      rw [eF i]
      unfold hT gT zs_ht zs_gn
      rw [gu_ne (j := 11 * h) (by omega), gu_ne (j := 11 * h + 1) (by omega), low i (gF0 (gu (sg S) 34 v) h) (gF0 (sg S) h) (fun e he => gu_ne (by omega)) d hd]
    unfold mk1
    rw [eT d hd]
  have loop96 : ∀ (C : Nat → Nat) (σ3 : zz_T), cK σ σ3 → mkAt σ3 C → (∀ v, 1 ≤ v → v ≤ 60 → C v = val (v - 1)) → (∀ v, v ≤ 59 → val v ≤ 1440) → ∃ m, pX5_bestMark_96 (fun x s => x = (if w = 0 then (jd val (fun i => nI (1 + i)) 0 1000000 60).1 else nI (jd val (fun i => nI (1 + i)) 0 1000000 60).2) ∧ RX s S) m (nI w) 1000000 0 0 1 σ3 := by
    intro C σ3 hc3 hA hC hvl
    obtain ⟨y, hy, hsum⟩ := hA
    have loop : ∀ (j v : Nat), v + j = 60 → pX5_bestMark_96 (fun x s => x = (if w = 0 then (jd val (fun i => nI (1 + i)) 0 1000000 60).1 else nI (jd val (fun i => nI (1 + i)) 0 1000000 60).2) ∧ RX s S) (j + 1) (nI w) (nI (jd val (fun i => nI (1 + i)) 0 1000000 v).2) (jd val (fun i => nI (1 + i)) 0 1000000 v).1 (iI (fb_si y v)) (nI (1 + v)) σ3 := by
      intro j
      induction j with
      | zero =>
        intro v hv
        obtain rfl : v = 60 := by omega
        refine br_t (by decide) ?_
        rcases (show w = 0 ∨ w = 1 by omega) with rfl | rfl
        · exact br_t rfl ⟨rfl, X.keep hc3 hs⟩
        · exact br_f (by decide) ⟨rfl, X.keep hc3 hs⟩
      | succ j ih =>
        intro v hv
        refine br_f (by rw [show (60 : Int32) = nI 60 from rfl, nI_ltI (by omega) (by omega)]; omega) ⟨vp_in_nI (by omega) (by decide), ?_⟩
        have e1 : fb_si y v + y v = ((val v : Nat) : Int) := by
          have := hsum (v + 1) (by omega) (by omega)
          rw [hC (v + 1) (by omega) (by omega), Nat.add_sub_cancel] at this
          exact this
        rw [nI_tn (by omega), show 1 + v = v + 1 by omega, hy v (by omega), iI_add, e1, ← iI_nI]
        have l := hvl v (by omega)
        refine jd_step (val := val) (code := fun i => nI (1 + i)) (c0 := 0) (m0 := 1000000) (n := v) (x := val v) (P := fun a b => pX5_bestMark_128 (fun x s => x = (if w = 0 then (jd val (fun i => nI (1 + i)) 0 1000000 60).1 else nI (jd val (fun i => nI (1 + i)) 0 1000000 60).2) ∧ RX s S) (pX5_bestMark_96 (fun x s => x = (if w = 0 then (jd val (fun i => nI (1 + i)) 0 1000000 60).1 else nI (jd val (fun i => nI (1 + i)) 0 1000000 60).2) ∧ RX s S) (j + 1)) (nI w) a b (nI (val v)) (nI (v + 1)) σ3) (by omega) (Or.inl rfl) (by omega) ?_ |> fun z => (by rw [show 1 + v = v + 1 by omega] at z; exact z)
        unfold pX5_bestMark_128
        rw [nI_1]
        have z := ih (v + 1) (by omega)
        rw [show fb_si y (v + 1) = ((val v : Nat) : Int) from e1, ← iI_nI, show 1 + (v + 1) = v + 1 + 1 by omega] at z
        exact z
    have l0 := loop 60 0 (by omega)
    exact ⟨61, l0⟩
  unfold pX5_bestMark
  refine x_fill (by omega) (fun σ1 hb1 hz => ?_)
  have c1 : cK σ σ1 := cK.of hb1 (fun q hq => by unfold cScr; omega)
  have kept43 : ∀ (a b : zz_T) (C : Nat → Nat), b.1 43 = a.1 43 → mkAt a C → mkAt b C := fun a b C e h => by
    obtain ⟨y, hy, hsum⟩ := h
    exact ⟨y, fun k hk => by rw [e]; exact hy k hk, hsum⟩
  refine px_copy hs.1.1 (xP_cK hs.1.1 X.1 c1) (by omega) (fun σ2 hb2 P2 => ?_)
  have c2 : cK σ σ2 := c1.tr (cK.of hb2 (fun q hq => by unfold cScr; omega))
  have A2 : mkAt σ2 (fun v => fb_sm (fun i => fb_sm (fun h => fb_sm (mk1 v (R i).1 (hT (sg S) h R (gF0 (sg S) h) i)) 8) (sg S 33)) 0) := by
    refine ⟨fun _ => 0, fun k hk => ?_, fun v _ _ => ?_⟩
    · rw [hb2.1 43 (by omega), hz (k + 1) (by omega)]; rfl
    · show _ = ((0 : Nat) : Int)
      have : ∀ m, fb_si (fun _ => (0 : Int)) m = 0 := by
        intro m
        induction m with
        | zero => rfl
        | succ m ih => rw [fb_si_succ, ih]; rfl
      rw [this]; rfl
  have tl : ∀ h i d, hT (sg S) h R (gF0 (sg S) h) i d ≤ 99 := fun h i d => hT_le _ _ _ _ _ _
  have inner : ∀ (K : Int32 → Int32 → Int32 → zz_T → Prop) (Q : Int32 → zz_T → Prop) (i : Nat) (C : Nat → Nat), i < n → ∀ (j h : Nat) (σ3 : zz_T), h + j = sg S 33 → cK σ σ3 → px_dy σ3 20 (sg S) (fun h => hF (sg S) h R (gF0 (sg S) h) (i + 1)) (fun h => hW (sg S) h R (gF0 (sg S) h) (gW0 (sg S) h) (i + 1)) (sg S 50 + (i + 1)) → (∀ h, h < sg S 33 → ∀ d, d < 8 → σ3.1 (28 + 3 * h + 2) d = nI (hT (sg S) h R (gF0 (sg S) h) i d)) → mkAt σ3 (fun v => C v + fb_sm (fun h => fb_sm (mk1 v (R i).1 (hT (sg S) h R (gF0 (sg S) h) i)) 8) h) → (∀ σ4 : zz_T, cK σ σ4 → px_dy σ4 20 (sg S) (fun h => hF (sg S) h R (gF0 (sg S) h) (i + 1)) (fun h => hW (sg S) h R (gF0 (sg S) h) (gW0 (sg S) h) (i + 1)) (sg S 50 + (i + 1)) → mkAt σ4 (fun v => C v + fb_sm (fun h => fb_sm (mk1 v (R i).1 (hT (sg S) h R (gF0 (sg S) h) i)) 8) (sg S 33)) → K (nI n) (nI w) (nI (i + 1)) σ4) → pX5_bestMark_38 Q K (j + 1) (nI n) (nI w) (nI i) (nI h) σ3 := by
    intro K Q i C hi j
    induction j with
    | zero =>
      intro h σ3 hj hc3 P3 hot A3 hK
      obtain rfl : h = sg S 33 := by omega
      refine br_t (by rw [P3.1.1]; exact nI_le (by omega) (by omega)) ?_
      rw [nI_1]
      exact hK σ3 hc3 P3 A3
    | succ j ih =>
      intro h σ3 hj hc3 P3 hot A3 hK
      have hlt : h < sg S 33 := by omega
      refine br_f (by rw [P3.1.1]; exact nI_ge hlt (by omega)) ⟨vp_in_nI (by omega) (by decide), ?_⟩
      refine px_wantedIn hs.1.1 (by omega) (xP_cK hs.1.1 X.1 hc3) (by omega) ?_
      rw [nI_tn (by omega), show gL (sg S) (sg S 50 + i) = (R i).1 by rw [← hRd]; rfl]
      refine x_stepMarks (t := hT (sg S) h R (gF0 (sg S) h) i) (by omega) (by rw [← hRd]; exact gL_lt hs.1.1 _) (hot h hlt) (fun d _ => tl h i d) A3 (fun σ4 hb4 A4 => ?_)
      rw [nI_1]
      refine ih (h + 1) σ4 (by omega) (hc3.tr (cK.of hb4 (fun q hq => by unfold cScr; omega))) (P3.kept h3 (fun q x y => hb4.1 q (by omega))) (fun a ha d hd => by rw [hb4.1 _ (by omega)]; exact hot a ha d hd) ?_ hK
      obtain ⟨y, hy, hsum⟩ := A4
      refine ⟨y, hy, fun v h1 h2 => ?_⟩
      rw [hsum v h1 h2]
      show ((C v + fb_sm (fun h => fb_sm (mk1 v (R i).1 (hT (sg S) h R (gF0 (sg S) h) i)) 8) h + fb_sm (mk1 v (R i).1 (hT (sg S) h R (gF0 (sg S) h) i)) 8 : Nat) : Int) = ((C v + (fb_sm (fun h => fb_sm (mk1 v (R i).1 (hT (sg S) h R (gF0 (sg S) h) i)) 8) h + fb_sm (mk1 v (R i).1 (hT (sg S) h R (gF0 (sg S) h) i)) 8) : Nat) : Int)
      rw [Nat.add_assoc]
  have outer : ∀ (j i : Nat) (σ3 : zz_T), i + j = n → cK σ σ3 → px_dy σ3 20 (sg S) (fun h => hF (sg S) h R (gF0 (sg S) h) i) (fun h => hW (sg S) h R (gF0 (sg S) h) (gW0 (sg S) h) i) (sg S 50 + i) → mkAt σ3 (fun v => fb_sm (fun i => fb_sm (fun h => fb_sm (mk1 v (R i).1 (hT (sg S) h R (gF0 (sg S) h) i)) 8) (sg S 33)) i) → pX5_bestMark_21 (fun x s => x = (if w = 0 then (jd val (fun i => nI (1 + i)) 0 1000000 60).1 else nI (jd val (fun i => nI (1 + i)) 0 1000000 60).2) ∧ RX s S) (j + 1) (nI n) (nI w) (nI i) σ3 := by
    intro j
    induction j with
    | zero =>
      intro i σ3 hi hc3 P3 A3
      obtain rfl : i = n := by omega
      refine br_t (nI_le (Nat.le_refl _) (by omega)) (loop96 _ σ3 hc3 A3 (fun v h1 h2 => by rw [← one v h1 h2]; exact hval v h1 h2) (fun v hv => ?_))
      have g1 : gu (sg S) 34 (v + 1) 33 ≤ 3 := by rw [gu_ne (by omega)]; exact h3
      have q := gN_le g1 (gR (gu (sg S) 34 (v + 1)) (sg S 50) none) (gF0 (gu (sg S) 34 (v + 1))) i
      rw [hval (v + 1) (by omega) (by omega), Nat.add_sub_cancel] at q
      omega
    | succ j ih =>
      intro i σ3 hi hc3 P3 A3
      refine br_f (nI_ge (by omega) (by omega)) ?_
      refine px_burnRow true hs.1.1 (hs.1.2.1.run R (by omega)) P3 (fun σ4 hb4 P4 hot _ => ?_)
      have e1 : gL (sg S) (sg S 50 + i) = (R i).1 := by rw [← hRd]; rfl
      have e2 : gL (sg S) (sg S 50 + i + 1) = (R i).2.1 := by rw [← hRd]; rfl
      have e3 : (R i).2.2.1 = true := by rw [← hRd]; rfl
      have e4 : (R i).2.2.2 = false := by rw [← hRd]; rfl
      rw [e1, e2] at P4 hot
      have zF : (fun h => hF (sg S) h R (gF0 (sg S) h) (i + 1)) = (fun h => gC (sg S) h (hF (sg S) h R (gF0 (sg S) h) i) (R i).1 (R i).2.1 true) := by
        funext h
        show (if (R i).2.2.2 then (fun _ => 0) else gC (sg S) h (hF (sg S) h R (gF0 (sg S) h) i) (R i).1 (R i).2.1 (R i).2.2.1) = _
        rw [e4, e3]; rfl
      have zW : (fun h => hW (sg S) h R (gF0 (sg S) h) (gW0 (sg S) h) (i + 1)) = (fun h => min (hW (sg S) h R (gF0 (sg S) h) (gW0 (sg S) h) i + gE (sg S) h (hF (sg S) h R (gF0 (sg S) h) i) (R i).1 (R i).2.1 true) 9999) := by
        funext h
        show min (hW (sg S) h R (gF0 (sg S) h) (gW0 (sg S) h) i + gE (sg S) h (hF (sg S) h R (gF0 (sg S) h) i) (R i).1 (R i).2.1 (R i).2.2.1) 9999 = _
        rw [e3]
      have c4 : cK σ σ4 := hc3.tr (cK.of hb4 (fun q hq => by unfold cScr; omega))
      refine ⟨sg S 33 + 1, inner _ _ i (fun v => fb_sm (fun i => fb_sm (fun h => fb_sm (mk1 v (R i).1 (hT (sg S) h R (gF0 (sg S) h) i)) 8) (sg S 33)) i) (by omega) (sg S 33) 0 σ4 (by omega) c4 ?_ (fun h hh d hd => ?_) (kept43 σ3 σ4 _ (hb4.1 43 (by omega)) A3) (fun σ5 hc5 P5 A5 => ih (i + 1) σ5 (by omega) hc5 P5 A5)⟩
      · rw [zF, zW]; exact P4
      · have q := hot h hh d hd
        have e5 : hT (sg S) h R (gF0 (sg S) h) i d = gT (sg S) h (hF (sg S) h R (gF0 (sg S) h) i) (R i).1 (R i).2.1 true d := by
          unfold hT; rw [e3]
        rw [e5]
        exact q
  exact ⟨n + 1, outer n 0 σ2 (by omega) c2 P2 A2⟩
theorem b_best (hs : sOK S) (X : RX σ S) (M : RM τ S) (x1 x2 x3 : Int32) : zBi (pX5_best x1 x2 x3 σ) (pX6_best x1 x2 x3 τ) := by
  have h3 := hs.1.1.1
  unfold pX5_best pX6_best
  by_cases h : zIn x1 0 1
  · obtain ⟨c, hc, rfl⟩ := (zIn_c (n := 1) (by omega)).mp h
    by_cases h2 : zIn x2 0 60
    · obtain ⟨n, hn, rfl⟩ := (zIn_c (n := 60) (by omega)).mp h2
      by_cases h4 : zIn x3 0 1
      · obtain ⟨w, hw, rfl⟩ := (zIn_c (n := 1) (by omega)).mp h4
        have vl : ∀ (v : Nat), gN (gu (sg S) (34 + c) v) (gR (gu (sg S) (34 + c) v) (sg S 50) none) (gF0 (gu (sg S) (34 + c) v)) n ≤ 1440 := fun v => by
          have g1 : gu (sg S) (34 + c) v 33 ≤ 3 := by rw [gu_ne (by omega)]; exact h3
          have := gN_le g1 (gR (gu (sg S) (34 + c) v) (sg S 50) none) (gF0 (gu (sg S) (34 + c) v)) n
          omega
        have fin : ∀ (lo k : Nat) (val : Nat → Nat), (∀ v, val v ≤ 1440) → lo ≤ 1 → k ≤ 60 → (if w = 0 then (jd val (fun i => nI (lo + i)) 0 1000000 (k + 1)).1 else nI (jd val (fun i => nI (lo + i)) 0 1000000 (k + 1)).2) = jAns (jd val (fun i => nI (lo + i)) (-4) 1000000 (k + 1)) w := by
          intro lo k val hv hlo hk
          rw [jd_c (c1 := (-4)) (by have := hv 0; omega) k]
          unfold jAns
          have cn : ¬ (jd val (fun i => nI (lo + i)) (-4) 1000000 (k + 1)).1 = (-4) := by
            have := jd_code (val := val) (code := fun i => nI (lo + i % 100)) (c0 := (-4)) (m0 := 1000000) (fun z => ¬ z = (-4)) (by have := hv 0; omega) (fun i => nI_ne4 (by omega)) k
            have e2 : ∀ j, j ≤ 61 → jd val (fun i => nI (lo + i)) (-4) 1000000 j = jd val (fun i => nI (lo + i % 100)) (-4) 1000000 j := by
              intro j
              induction j with
              | zero => intro _; rfl
              | succ j ih =>
                intro hj
                show (if val j < (jd val (fun i => nI (lo + i)) (-4) 1000000 j).2 then (nI (lo + j), val j) else jd val (fun i => nI (lo + i)) (-4) 1000000 j) = (if val j < (jd val (fun i => nI (lo + i % 100)) (-4) 1000000 j).2 then (nI (lo + j % 100), val j) else jd val (fun i => nI (lo + i % 100)) (-4) 1000000 j)
                rw [ih (by omega), Nat.mod_eq_of_lt (by omega : j < 100)]
            rw [e2 _ (by omega)]
            exact this
          rw [if_neg cn]
        rcases (show c = 0 ∨ c = 1 by omega) with rfl | rfl
        · have xm := x_mark (w := w) (val := fun v => gN (gu (sg S) 34 (v + 1)) (gR (gu (sg S) 34 (v + 1)) (sg S 50) none) (gF0 (gu (sg S) 34 (v + 1))) n) hs X hn hw (fun v h1 h2 => by show _ = gN (gu (sg S) 34 (v - 1 + 1)) _ _ n; rw [Nat.sub_add_cancel h1])
          have mm := m_best (c := 0) (w := w) (lo := 1) (most := 60) (val := fun v => gN (gu (sg S) 34 (v + 1)) (gR (gu (sg S) 34 (v + 1)) (sg S 50) none) (gF0 (gu (sg S) 34 (v + 1))) n) hs M (by omega) hn hw rfl rfl (fun v h1 h2 => by show _ = gN (gu (sg S) 34 (v - 1 + 1)) _ _ n; rw [Nat.sub_add_cancel h1])
          have f := fin 1 59 (fun v => gN (gu (sg S) 34 (v + 1)) (gR (gu (sg S) 34 (v + 1)) (sg S 50) none) (gF0 (gu (sg S) 34 (v + 1))) n) (fun v => vl (v + 1)) (by omega) (by omega)
          rw [f] at xm
          exact ⟨_, S, hs, x_out_y h (br_t rfl (x_badRows_y h2 (br_t rfl (x_out_y h4 (br_t rfl (br_t rfl xm)))))), m_isPart_y h (br_f (by decide) (m_isFar_y h2 (br_f (by decide) (m_isPart_y h4 (br_f (by decide) mm)))))⟩
        · have xm := x_cool (w := w) (val := fun v => gN (gu (sg S) 35 v) (gR (gu (sg S) 35 v) (sg S 50) none) (gF0 (gu (sg S) 35 v)) n) hs X hn hw (fun v h1 => rfl)
          have mm := m_best (c := 1) (w := w) (lo := 0) (most := 9) (val := fun v => gN (gu (sg S) 35 v) (gR (gu (sg S) 35 v) (sg S 50) none) (gF0 (gu (sg S) 35 v)) n) hs M (by omega) hn hw rfl rfl (fun v h1 h2 => rfl)
          have f := fin 0 9 (fun v => gN (gu (sg S) 35 v) (gR (gu (sg S) 35 v) (sg S 50) none) (gF0 (gu (sg S) 35 v)) n) (fun v => vl v) (by omega) (by omega)
          have e0 : (fun i => nI (0 + i)) = nI := by funext i; rw [Nat.zero_add]
          rw [e0] at f mm
          rw [f] at xm
          exact ⟨_, S, hs, x_out_y h (br_t rfl (x_badRows_y h2 (br_t rfl (x_out_y h4 (br_t rfl (br_f (by decide) xm)))))), m_isPart_y h (br_f (by decide) (m_isFar_y h2 (br_f (by decide) (m_isPart_y h4 (br_f (by decide) mm)))))⟩
      · exact ⟨-1, S, hs, x_out_y h (br_t rfl (x_badRows_y h2 (br_t rfl (x_out_n h4 (br_f (by decide) ⟨rfl, X⟩))))), m_isPart_y h (br_f (by decide) (m_isFar_y h2 (br_f (by decide) (m_isPart_n h4 (br_t rfl ⟨rfl, M⟩)))))⟩
    · exact ⟨-1, S, hs, x_out_y h (br_t rfl (x_badRows_n h2 (br_f (by decide) ⟨rfl, X⟩))), m_isPart_y h (br_f (by decide) (m_isFar_n h2 (br_t rfl ⟨rfl, M⟩)))⟩
  · exact ⟨-1, S, hs, x_out_n h (br_f (by decide) ⟨rfl, X⟩), m_isPart_n h (br_t rfl ⟨rfl, M⟩)⟩
end ZM
