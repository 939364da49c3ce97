theorem px_zero1 {p e : Nat} {σ σ' : zz_T} {g : Nat → Nat} {F : Nat → Nat → Nat} {Wr : Nat → Nat} {r : Nat} (h3 : g 33 ≤ 3) (he : e < g 33) (H : px_dy σ p g (fun h => if h < e then (fun _ => 0) else F h) Wr r) (hb : zz_but (fun q => q = p + 8 + 3 * e + 1) σ σ') (h0 : ∀ i, i < 8 → σ'.1 (p + 8 + 3 * e + 1) i = 0) : px_dy σ' p g (fun h => if h < e + 1 then (fun _ => 0) else F h) Wr r := by
  obtain ⟨⟨a1, a2, a3⟩, ⟨b1, b2, b3⟩, c, ⟨d1, d2⟩, f⟩ := H
  refine ⟨⟨?_, ?_, ?_⟩, ⟨?_, ?_, ?_⟩, fun i hi => ?_, ⟨?_, fun i hi => ?_⟩, fun h hh => ?_⟩
  · rw [hb.1 p (by omega)]; exact a1
  · rw [hb.1 p (by omega)]; exact a2
  · rw [hb.1 p (by omega)]; exact a3
  · rw [hb.1 (p + 3) (by omega)]; exact b1
  · rw [hb.1 (p + 3) (by omega)]; exact b2
  · rw [hb.1 (p + 3) (by omega)]; exact b3
  · rw [hb.1 (p + 2) (by omega)]; exact c i hi
  · rw [hb.1 (p + 4) (by omega)]; exact d1
  · rw [hb.1 (p + 5) (by omega), hb.1 (p + 6) (by omega), hb.1 (p + 7) (by omega)]; exact d2 i hi
  · obtain ⟨f1, f2, f3, f4⟩ := f h hh
    refine ⟨?_, ?_, ?_, fun d hd => ?_⟩
    · rw [hb.1 (p + 8 + 3 * h) (by omega)]; exact f1
    · rw [hb.1 (p + 8 + 3 * h) (by omega)]; exact f2
    · rw [hb.1 (p + 8 + 3 * h) (by omega)]; exact f3
    · by_cases q : h = e
      · subst q
        rw [h0 d hd]
        dsimp only
        rw [if_pos (by omega)]
        rfl
      · rw [hb.1 (p + 8 + 3 * h + 1) (by omega), f4 d hd]
        dsimp only
        by_cases q2 : h < e
        · rw [if_pos q2, if_pos (by omega)]
        · rw [if_neg q2, if_neg (by omega)]
theorem px_loseHeat {p : Nat} {σ : zz_T} {Q : zz_T → Prop} {g : Nat → Nat} {F : Nat → Nat → Nat} {Wr : Nat → Nat} {r : Nat} (hg : gOK g) (H : px_dy σ p g F Wr r) (hq : ∀ σ' : zz_T, zz_but (fun q => p ≤ q ∧ q ≤ p + 16) σ σ' → px_dy σ' p g (fun _ _ => 0) Wr r → Q σ') : pX1_loseHeat p σ Q := by
  have h3 := hg.1
  have loop : ∀ (j e : Nat) (σ1 : zz_T), e + j = g 33 → zz_but (fun q => p ≤ q ∧ q ≤ p + 16) σ σ1 → px_dy σ1 p g (fun h => if h < e then (fun _ => 0) else F h) Wr r → pX1_loseHeat_2 p Q (j + 1) (nI e) σ1 := by
    intro j
    induction j with
    | zero =>
      intro e σ1 hj hb H1
      obtain rfl : e = g 33 := by omega
      refine br_t (by rw [H1.1.1]; exact nI_le (by omega) (by omega)) (hq σ1 hb ?_)
      refine ⟨H1.1, H1.2.1, H1.2.2.1, H1.2.2.2.1, fun h hh => ?_⟩
      have := H1.2.2.2.2 h hh
      dsimp only at this
      rw [if_pos hh] at this
      exact this
    | succ j ih =>
      intro e σ1 hj hb H1
      refine br_f (by rw [H1.1.1]; exact nI_ge (by omega) (by omega)) ⟨vp_in_nI (by omega) (by decide), ?_⟩
      rw [nI_tn (n := e) (by omega)]
      refine x_fill (by omega) (fun σ2 hb2 h0 => ?_)
      rw [nI_1]
      exact ih (e + 1) σ2 (by omega) (hb.tr (hb2.mono (fun k hk => by omega))) (px_zero1 h3 (by omega) H1 hb2 h0)
  refine ⟨g 33 + 1, loop (g 33) 0 σ (by omega) (zz_but.rf _ _) ?_⟩
  refine ⟨H.1, H.2.1, H.2.2.1, H.2.2.2.1, fun h hh => ?_⟩
  dsimp only
  rw [if_neg (by omega)]
  exact H.2.2.2.2 h hh
/-- rows, with rest behind line q -/
theorem x_wrongIfResting {σ0 σ1 : zz_T} {Q : Int32 → zz_T → Prop} {g : Nat → Nat} {F : Nat → Nat → Nat} {Wr : Nat → Nat} {r n lim i : Nat} (hg : gOK g) (hd : gDY g F Wr r) (hr : r < 100000) (hn : n ≤ 60) (hl : lim ≤ 1000000) (hi : i < g 49) (hc : cK σ0 σ1) (N : px_dy σ1 3 g F Wr r) (hq : ∀ (x : Nat) (σ2 : zz_T), cK σ0 σ2 → (x = gN g (gR g r (some i)) F n ∨ (lim ≤ x ∧ x ≤ gN g (gR g r (some i)) F n)) → Q (nI x) σ2) : pX5_wrongIfResting (nI i) (nI n) (nI lim) σ1 Q := by
  have h12 := hg.2.2.2.1.1
  have loop : ∀ (j e : Nat) (σ2 : zz_T), e + j = n → TrialAt σ0 g (gR g r (some i)) F Wr r e σ2 → pX5_wrongIfResting_17 Q (j + 1) (nI i) (nI n) (nI lim) (nI (gN g (gR g r (some i)) F e)) (nI e) σ2 := by
    intro j
    induction j with
    | zero =>
      intro e σ2 he T
      obtain rfl : e = n := by omega
      exact br_t (nI_le (Nat.le_refl _) (by omega)) (hq _ σ2 T.1 (Or.inl rfl))
    | succ j ih =>
      intro e σ2 he T
      have b1 := gN_le hg.1 (gR g r (some i)) F e
      refine br_f (nI_ge (by omega) (by omega)) ?_
      by_cases hlim : lim ≤ gN g (gR g r (some i)) F e
      · refine br_t (nI_le hlim (by omega)) (hq _ σ2 T.1 (Or.inr ⟨hlim, ?_⟩))
        have := fb_sm_mono (gS g (gR g r (some i)) F) e (n - e)
        rw [show e + (n - e) = n by omega] at this
        exact this
      · refine br_f (fun q => hlim ((nI_leI (by omega) (by omega)).mp q)) ?_
        obtain ⟨hc2, P⟩ := T
        have hd2 : gDY g (fun h => hF g h (gR g r (some i)) (F h) e) (fun h => hW g h (gR g r (some i)) (F h) (Wr h) e) (r + e) := hd.run _ (by omega)
        refine px_lineIn (i := 0) P.1.2.1 P.1.2.2 h12 (by omega) (by omega) (fun z => by omega) (fun _ => ?_)
        rw [Nat.add_zero]
        have lt := Nat.mod_lt (r + e) (show 0 < g 49 by omega)
        by_cases hw : (r + e) % g 49 = i
        · refine br_t (by rw [hw]) ?_
          unfold pX5_wrongIfResting_46
          refine px_burnRow true hg hd2 P (fun σ3 hb hP hot h7 => ?_)
          refine br_f (by decide) ?_
          refine px_loseHeat hg hP (fun σ4 hb4 hP4 => ?_)
          unfold pX5_wrongIfResting_73
          rw [nI_1, nI_add]
          refine ih (e + 1) σ4 (by omega) ⟨(hc2.tr (cK.of hb (fun q x => by unfold cScr; omega))).tr (cK.of hb4 (fun q x => by unfold cScr; omega)), ?_⟩
          have eF : ∀ h, hF g h (gR g r (some i)) (F h) (e + 1) = (fun _ => 0) := fun h => by
            show (if decide ((r + e) % g 49 = i) = true then _ else _) = _
            rw [if_pos (by simp [hw])]
          simp only [eF]
          exact hP4
        · refine br_f (fun q => hw ((nI_eq (by omega) (by omega)).mp q)) ?_
          unfold pX5_wrongIfResting_46
          refine px_burnRow true hg hd2 P (fun σ3 hb hP hot h7 => ?_)
          refine br_t rfl ?_
          unfold pX5_wrongIfResting_73
          rw [nI_1, nI_add]
          refine ih (e + 1) σ3 (by omega) ⟨hc2.tr (cK.of hb (fun q x => by unfold cScr; omega)), ?_⟩
          have eF : ∀ h, hF g h (gR g r (some i)) (F h) (e + 1) = gC g h (hF g h (gR g r (some i)) (F h) e) (gL g (r + e)) (gL g (r + e + 1)) true := fun h => by
            show (if decide ((r + e) % g 49 = i) = true then _ else _) = _
            rw [if_neg (by simp [hw])]
            rfl
          simp only [eF]
          exact hP
  unfold pX5_wrongIfResting
  exact x_trial_0 hg N (fun σ2 hc2 P2 => ⟨n + 1, loop n 0 σ2 (by omega) ⟨hc.tr hc2, P2⟩⟩)
section ZP
variable {S : zSt} {σ τ τ1 : zz_T}
def gVr (g : Nat → Nat) (n i : Nat) : Nat := gN g (gR g (g 50) (some i)) (gF0 g) n
theorem gVr_le {g : Nat → Nat} (h : g 33 ≤ 3) {n : Nat} (hn : n ≤ 60) (i : Nat) : gVr g n i ≤ 1440 := by
  have := gN_le h (gR g (g 50) (some i)) (gF0 g) n
  unfold gVr; omega
theorem b_rest (hs : sOK S) (X : RX σ S) (M : RM τ S) (x1 x2 : Int32) : zBi (pX5_rest x1 x2 σ) (pX6_rest x1 x2 τ) := by
  have h3 := hs.1.1.1
  have h12 := hs.1.1.2.2.2.1.1
  have hr := hs.1.2.2
  unfold pX5_rest pX6_rest
  by_cases h : zIn x1 0 60
  · obtain ⟨n, hn, rfl⟩ := (zIn_c (n := 60) (by omega)).mp h
    by_cases h2 : zIn x2 0 1
    · obtain ⟨w, hw, rfl⟩ := (zIn_c (n := 1) (by omega)).mp h2
      have v0 := gV_le (g := sg S) h3 hn
      have vi := gVr_le (g := sg S) h3 hn
      generalize hval : (fun i => gVr (sg S) n i) = val
      have hv : ∀ i, val i = gVr (sg S) n i := fun i => by rw [← hval]
      have jl : ∀ a, (jd val nI (-4) (gV (sg S) n) a).2 ≤ 1440 := fun a => by
        have q1 := jd_le val nI (-4) (gV (sg S) n) a
        omega
      refine ⟨jAns (jd val nI (-4) (gV (sg S) n) (sg S 49)) w, S, hs, x_badRows_y h (br_t rfl (x_out_y h2 (br_t rfl ?_))), m_isFar_y h (br_f (by decide) (m_isPart_y h2 (br_f (by decide) (m_J0 hs M hn (fun τ1 J0 => ⟨sg S 49 + 1, ?_⟩)))))⟩
      · refine x_trial_0 hs.1.1 X.1 (fun σ2 hc2 P2 => ?_)
        refine x_wrongInTrial (lim := 1000000) hs.1.1 hs.1.2.1 (by omega) hn (by omega) hc2 P2 (fun x σ3 hc3 hx => ?_)
        have ex : x = gV (sg S) n := by
          have e : gN (sg S) (gR (sg S) (sg S 50) none) (gF0 (sg S)) n = gV (sg S) n := rfl
          rw [e] at hx
          omega
        subst ex
        have outer : ∀ (j a : Nat) (σ4 : zz_T), a + j = sg S 49 → cK σ σ4 → pX5_rest_44 (fun x s => x = jAns (jd val nI (-4) (gV (sg S) n) (sg S 49)) w ∧ RX s S) (j + 1) (nI n) (nI w) (nI (jd val nI (-4) (gV (sg S) n) a).2) (jd val nI (-4) (gV (sg S) n) a).1 (nI a) σ4 := by
          intro j
          induction j with
          | zero =>
            intro a σ4 hj hc4
            obtain rfl : a = sg S 49 := by omega
            refine br_t (by rw [(xP_cK hs.1.1 X.1 hc4).1.2.1]; exact nI_le (by omega) (by omega)) ?_
            unfold pX5_rest_96 jAns
            have RX4 := X.keep hc4 hs
            by_cases hN : (jd val nI (-4) (gV (sg S) n) (sg S 49)).1 = (-4)
            · rw [if_pos hN]
              rcases (show w = 0 ∨ w = 1 by omega) with rfl | rfl
              · exact br_t rfl ⟨hN, RX4⟩
              · exact br_f (by decide) (br_t hN ⟨hN, RX4⟩)
            · rw [if_neg hN]
              rcases (show w = 0 ∨ w = 1 by omega) with rfl | rfl
              · exact br_t rfl ⟨rfl, RX4⟩
              · exact br_f (by decide) (br_f hN ⟨rfl, RX4⟩)
          | succ j ih =>
            intro a σ4 hj hc4
            have P4 := xP_cK hs.1.1 X.1 hc4
            refine br_f (by rw [P4.1.2.1]; exact nI_ge (by omega) (by omega)) ?_
            have l4 := jl a
            refine x_wrongIfResting (lim := (jd val nI (-4) (gV (sg S) n) a).2) hs.1.1 hs.1.2.1 (by omega) hn (by omega) (by omega) hc4 P4 (fun x σ6 hc6 hx => ?_)
            refine jd_step (val := val) (code := nI) (c0 := (-4)) (m0 := gV (sg S) n) (n := a) (x := x) (P := fun u v => pX5_rest_79 (fun x s => x = jAns (jd val nI (-4) (gV (sg S) n) (sg S 49)) w ∧ RX s S) (pX5_rest_44 (fun x s => x = jAns (jd val nI (-4) (gV (sg S) n) (sg S 49)) w ∧ RX s S) (j + 1)) (nI n) (nI w) u v (nI a) σ6) (by omega) ?_ (by rw [hv]; have := vi a; omega) ?_
            · rw [hv]; exact hx
            · unfold pX5_rest_79
              rw [nI_1]
              exact ih (a + 1) σ6 (by omega) hc6
        exact ⟨sg S 49 + 1, outer (sg S 49) 0 σ3 (by omega) hc3⟩
      · have outer : ∀ (j a : Nat) (τ4 : zz_T), a + j = sg S 49 → Jm τ τ4 (jd val nI (-4) (gV (sg S) n) a).1 (jd val nI (-4) (gV (sg S) n) a).2 → pX6_rest_31 (fun x s => x = jAns (jd val nI (-4) (gV (sg S) n) (sg S 49)) w ∧ RM s S) (j + 1) (nI n) (nI w) (nI a) τ4 := by
          intro j
          induction j with
          | zero =>
            intro a τ4 hj J
            obtain rfl : a = sg S 49 := by omega
            exact ⟨vp_in_nI (n := 49) (by decide) (by decide), br_t (by rw [show Int32.toNatClampNeg 49 = 49 from rfl, (M.keep J.1).1.1.2.1]; exact nI_le (by omega) (by omega)) (m_judged hw J ⟨rfl, M.keep J.1⟩)⟩
          | succ j ih =>
            intro a τ4 hj J
            refine ⟨vp_in_nI (n := 49) (by decide) (by decide), br_f (by rw [show Int32.toNatClampNeg 49 = 49 from rfl, (M.keep J.1).1.1.2.1]; exact nI_ge (by omega) (by omega)) (m_startsJ hs M J (fun τ5 J5 m2 m1 h13 hA => ?_))⟩
            obtain ⟨A1, A2, A3, A4, A5⟩ := hA (sg S 33) h3
            unfold pX6_wrongIn
            have J6 : Jm τ (zz_i τ5 0 13 (nI a)) (jd val nI (-4) (gV (sg S) n) a).1 (jd val nI (-4) (gV (sg S) n) a).2 := ⟨⟨fun q hq => by rw [zi_k (fun x => hq (by unfold mScr; omega))]; exact J5.1.1 q hq, by rw [zi_j (by omega)]; exact J5.1.2.1, by rw [zi_j (by omega)]; exact J5.1.2.2.1, by rw [zi_j (by omega)]; exact J5.1.2.2.2⟩, by rw [zi_j (by omega)]; exact J5.2.1, by rw [zi_j (by omega)]; exact J5.2.2⟩
            refine m_rowsJ (wt := some a) hs.1.1 hs.1.2.1 (by omega) (by omega) J6 (by rw [zi_k (by omega)]; exact m2) (Or.inr ⟨a, by rw [zi_at], by omega, by omega, rfl⟩) ⟨by rw [zi_j (by omega)]; exact A1, by rw [zi_j (by omega)]; exact A2, by rw [zi_j (by omega)]; exact A3, by rw [zi_j (by omega)]; exact A4, fun h hh => by rw [zi_k (by omega)]; exact A5 h (by omega)⟩ (fun τ7 J7 e14 e7 => ?_)
            have ev : gN (sg S) (gR (sg S) (sg S 50) (some a)) (gF0 (sg S)) n = val a := (hv a).symm
            rw [e14, ev]
            refine m_judge (val := val) (code := nI) (by omega) (by rw [hv]; have := vi a; omega) J7 (fun τ8 J8 => ?_)
            rw [nI_1]
            exact ih (a + 1) τ8 (by omega) J8
        exact outer (sg S 49) 0 τ1 (by omega) J0
    · exact ⟨-1, S, hs, x_badRows_y h (br_t rfl (x_out_n h2 (br_f (by decide) ⟨rfl, X⟩))), m_isFar_y h (br_f (by decide) (m_isPart_n h2 (br_t rfl ⟨rfl, M⟩)))⟩
  · exact ⟨-1, S, hs, x_badRows_n h (br_f (by decide) ⟨rfl, X⟩), m_isFar_n h (br_t rfl ⟨rfl, M⟩)⟩
end ZP
