section ZP
variable {S : zSt} {σ τ τ1 : zz_T}
/-- two lines change places -/
def gsw (g : Nat → Nat) (a b : Nat) : Nat → Nat := gu (gu g (37 + a) (g (37 + b))) (37 + b) (g (37 + a))
theorem gsw_all {g : Nat → Nat} {a b : Nat} (hg : gAll g) (ha : a < g 49) (hb : b < g 49) : gAll (gsw g a b) := by
  have h12 := hg.1.2.2.2.1.1
  have la := hg.1.2.2.2.1.2 a ha
  have lb := hg.1.2.2.2.1.2 b hb
  exact gAll_gu (gAll_gu hg (by omega) (by omega) (by omega) (by unfold gBnd; omega)) (by omega) (by omega) (by omega) (by unfold gBnd; omega)
theorem gsw_eq {g : Nat → Nat} {a b : Nat} (h : g (37 + a) = g (37 + b)) : gsw g a b = g := by
  funext k
  unfold gsw gu
  by_cases h1 : k = 37 + b
  · rw [if_pos h1, h1, h]
  · rw [if_neg h1]
    by_cases h2 : k = 37 + a
    · rw [if_pos h2, h2, h]
    · rw [if_neg h2]
/-- what is wrong in n rows of g -/
def gV (g : Nat → Nat) (n : Nat) : Nat := gN g (gR g (g 50) none) (gF0 g) n
theorem gV_le {g : Nat → Nat} (h : g 33 ≤ 3) {n : Nat} (hn : n ≤ 60) : gV g n ≤ 1440 := by
  have := gN_le h (gR g (g 50) none) (gF0 g) n
  unfold gV; omega
/-- judging pairs -/
def js (g : Nat → Nat) (n : Nat) : Nat → Int32 × Nat
  | 0 => ((-4), gV g n)
  | a + 1 => jd (fun t => gV (gsw g a (a + 1 + t)) n) (fun t => nI (100 * a + (a + 1 + t))) (js g n a).1 (js g n a).2 (g 49 - (a + 1))
theorem js_le (g : Nat → Nat) (n : Nat) : ∀ a, (js g n a).2 ≤ gV g n
  | 0 => Nat.le_refl _
  | a + 1 => Nat.le_trans (jd_le _ _ _ _ _) (js_le g n a)
theorem m_J0 {n : Nat} {Q : zz_T → Prop} (hs : sOK S) (M : RM τ S) (hn : n ≤ 60) (hq : ∀ τ' : zz_T, Jm τ τ' (-4) (gV (sg S) n) → Q τ') : pX6_starts τ (fun s17 => pX6_wrongIn (nI n) s17 (fun r23 s23 => pX6_startsJudging r23 s23 Q)) := by
  have hr := hs.1.2.2
  refine m_startsR hs M (fun τ1 hk m2 m1 h13 hA => ?_)
  unfold pX6_wrongIn
  refine m_rowsR hs (by omega) hk m2 h13 hA (fun τ2 hk2 hb hP hA2 h8 h13' => ?_)
  rw [hA2.1]
  exact m_startsJudging hk2 hq
theorem b_swap (hs : sOK S) (X : RX σ S) (M : RM τ S) (x1 x2 : Int32) : zBi (pX5_swap x1 x2 σ) (pX6_swap x1 x2 τ) := by
  have h3 := hs.1.1.1
  have h12 := hs.1.1.2.2.2.1.1
  have hr := hs.1.2.2
  unfold pX5_swap pX6_swap
  by_cases h : zIn x1 0 60
  · obtain ⟨n, hn, rfl⟩ := (zIn_c (n := 60) (by omega)).mp h
    by_cases h2 : zIn x2 0 1
    · obtain ⟨w, hw, rfl⟩ := (zIn_c (n := 1) (by omega)).mp h2
      have v0 := gV_le (g := sg S) h3 hn
      have jl : ∀ a t, (jd (fun t => gV (gsw (sg S) a (a + 1 + t)) n) (fun t => nI (100 * a + (a + 1 + t))) (js (sg S) n a).1 (js (sg S) n a).2 t).2 ≤ 1440 := fun a t => by
        have q1 := jd_le (fun t => gV (gsw (sg S) a (a + 1 + t)) n) (fun t => nI (100 * a + (a + 1 + t))) (js (sg S) n a).1 (js (sg S) n a).2 t
        have q2 := js_le (sg S) n a
        omega
      refine ⟨jAns (js (sg S) n (sg S 49)) w, S, hs, x_badRows_y h (br_t rfl (x_out_y h2 (br_t rfl ?_))), m_isFar_y h (br_f (by decide) (m_isPart_y h2 (br_f (by decide) (m_J0 hs M hn (fun τ1 J0 => ⟨sg S 49 + 1, ?_⟩)))))⟩
      · refine x_trial_0 hs.1.1 X.1 (fun σ2 hc2 P2 => ?_)
        refine x_wrongInTrial (lim := 1000000) hs.1.1 hs.1.2.1 (by omega) hn (by omega) hc2 P2 (fun x σ3 hc3 hx => ?_)
        have ex : x = gV (sg S) n := by
          have e : gN (sg S) (gR (sg S) (sg S 50) none) (gF0 (sg S)) n = gV (sg S) n := rfl
          rw [e] at hx
          omega
        subst ex
        have inner : ∀ (Q : Int32 → zz_T → Prop) (K : Int32 → Int32 → Int32 → Int32 → Int32 → zz_T → Prop) (a : Nat), a < sg S 49 → ∀ (j t : Nat) (σ4 : zz_T), a + 1 + t + j = sg S 49 → cK σ σ4 → (∀ σ5 : zz_T, cK σ σ5 → K (nI n) (nI w) (nI (js (sg S) n (a + 1)).2) (js (sg S) n (a + 1)).1 (nI (a + 1)) σ5) → pX5_swap_62 Q K (j + 1) (nI n) (nI w) (nI (jd (fun t => gV (gsw (sg S) a (a + 1 + t)) n) (fun t => nI (100 * a + (a + 1 + t))) (js (sg S) n a).1 (js (sg S) n a).2 t).2) (jd (fun t => gV (gsw (sg S) a (a + 1 + t)) n) (fun t => nI (100 * a + (a + 1 + t))) (js (sg S) n a).1 (js (sg S) n a).2 t).1 (nI a) (nI (a + 1 + t)) σ4 := by
          intro Q K a ha j
          induction j with
          | zero =>
            intro t σ4 hj hc4 hK
            have et : t = sg S 49 - (a + 1) := by omega
            refine br_t (by rw [(xP_cK hs.1.1 X.1 hc4).1.2.1]; exact nI_le (by omega) (by omega)) ?_
            rw [nI_1, et]
            exact hK σ4 hc4
          | succ j ih =>
            intro t σ4 hj hc4 hK
            have P4 := xP_cK hs.1.1 X.1 hc4
            refine br_f (by rw [P4.1.2.1]; exact nI_ge (by omega) (by omega)) ?_
            have ga := gsw_all (a := a) (b := a + 1 + t) hs.1 ha (by omega)
            have vb := gV_le (g := gsw (sg S) a (a + 1 + t)) ga.1.1 hn
            have next : ∀ (x : Nat) (σ6 : zz_T), cK σ σ6 → (x = gV (gsw (sg S) a (a + 1 + t)) n ∨ ((jd (fun t => gV (gsw (sg S) a (a + 1 + t)) n) (fun t => nI (100 * a + (a + 1 + t))) (js (sg S) n a).1 (js (sg S) n a).2 t).2 ≤ x ∧ x ≤ gV (gsw (sg S) a (a + 1 + t)) n)) → ((nI (jd (fun t => gV (gsw (sg S) a (a + 1 + t)) n) (fun t => nI (100 * a + (a + 1 + t))) (js (sg S) n a).1 (js (sg S) n a).2 t).2 ≤ nI x → pX5_swap_105 Q K (pX5_swap_62 Q K (j + 1)) (nI n) (nI w) (nI (jd (fun t => gV (gsw (sg S) a (a + 1 + t)) n) (fun t => nI (100 * a + (a + 1 + t))) (js (sg S) n a).1 (js (sg S) n a).2 t).2) (jd (fun t => gV (gsw (sg S) a (a + 1 + t)) n) (fun t => nI (100 * a + (a + 1 + t))) (js (sg S) n a).1 (js (sg S) n a).2 t).1 (nI a) (nI (a + 1 + t)) σ6) ∧ (¬ nI (jd (fun t => gV (gsw (sg S) a (a + 1 + t)) n) (fun t => nI (100 * a + (a + 1 + t))) (js (sg S) n a).1 (js (sg S) n a).2 t).2 ≤ nI x → pX5_swap_105 Q K (pX5_swap_62 Q K (j + 1)) (nI n) (nI w) (nI x) (nI (100 * a + (a + 1 + t))) (nI a) (nI (a + 1 + t)) σ6)) := by
              intro x σ6 hc6 hx
              refine jd_step (val := fun t => gV (gsw (sg S) a (a + 1 + t)) n) (code := fun t => nI (100 * a + (a + 1 + t))) (c0 := (js (sg S) n a).1) (m0 := (js (sg S) n a).2) (n := t) (x := x) (P := fun u v => pX5_swap_105 Q K (pX5_swap_62 Q K (j + 1)) (nI n) (nI w) u v (nI a) (nI (a + 1 + t)) σ6) (by have := js_le (sg S) n a; omega) hx (by show gV _ n < _; omega) ?_
              unfold pX5_swap_105
              rw [nI_1]
              exact ih (t + 1) σ6 (by omega) hc6 hK
            unfold pX5_wrongIfSwapped
            have via : vp_in (nI a) 12 := vp_in_nI (by omega) (by decide)
            have vib : vp_in (nI (a + 1 + t)) 12 := vp_in_nI (by omega) (by decide)
            have ta : Int32.toNatClampNeg (nI a) = a := nI_tn (by omega)
            have tb : Int32.toNatClampNeg (nI (a + 1 + t)) = a + 1 + t := nI_tn (by omega)
            have la := hs.1.1.2.2.2.1.2 a ha
            have lb := hs.1.1.2.2.2.1.2 (a + 1 + t) (by omega)
            have qa : σ4.1 5 a = nI (sg S (37 + a)) := P4.2.2.1 a ha
            have qb : σ4.1 5 (a + 1 + t) = nI (sg S (37 + (a + 1 + t))) := P4.2.2.1 (a + 1 + t) (by omega)
            rw [ta, tb, show (100 : Int32) = nI 100 from rfl, pk_mul, nI_add]
            refine ⟨via, vib, ?_⟩
            rw [qa, qb]
            by_cases hE : sg S (37 + a) = sg S (37 + (a + 1 + t))
            · refine br_t (by rw [hE]) ?_
              have vE : gV (gsw (sg S) a (a + 1 + t)) n = gV (sg S) n := by rw [gsw_eq hE]
              refine next _ σ4 hc4 (Or.inr ⟨Nat.le_refl _, ?_⟩)
              rw [vE]
              have q1 := jd_le (fun t => gV (gsw (sg S) a (a + 1 + t)) n) (fun t => nI (100 * a + (a + 1 + t))) (js (sg S) n a).1 (js (sg S) n a).2 t
              have q2 := js_le (sg S) n a
              omega
            · refine br_f (fun q => hE ((nI_eq (by omega) (by omega)).mp q)) ?_
              refine x_trial_0 hs.1.1 P4 (fun σ5 hc5 P5 => ⟨vib, via, via, vib, ?_⟩)
              have N5 := xP_cK hs.1.1 P4 hc5
              have ra : σ5.1 5 a = nI (sg S (37 + a)) := N5.2.2.1 a ha
              have rb : σ5.1 5 (a + 1 + t) = nI (sg S (37 + (a + 1 + t))) := N5.2.2.1 (a + 1 + t) (by omega)
              rw [zi_k (c := 5) (k := 22) (by omega), ra, rb]
              have g1 : gAll (gu (sg S) (37 + a) (sg S (37 + (a + 1 + t)))) := gAll_gu hs.1 (by omega) (by omega) (by omega) (by unfold gBnd; omega)
              have s1 := xP_set (p := 20) (k := 37 + a) (v := sg S (37 + (a + 1 + t))) h3 h12 hs.1.1.2.2.2.2.1 g1.1.1 g1.1.2.2.2.1.1 (by omega) P5 (gLive_gu (by omega) (by omega) (by omega))
              have s2 := xP_set (p := 20) (k := 37 + (a + 1 + t)) (v := sg S (37 + a)) g1.1.1 g1.1.2.2.2.1.1 g1.1.2.2.2.2.1 ga.1.1 ga.1.2.2.2.1.1 (by omega) s1 (gLive_gu (by omega) (by omega) (by omega))
              rw [zloc_l (i := a) (by omega), zloc_l (i := a + 1 + t) (by omega)] at s2
              have c6 : cK σ (zz_i (zz_i σ5 22 a (nI (sg S (37 + (a + 1 + t))))) 22 (a + 1 + t) (nI (sg S (37 + a)))) := fun q hq => by rw [zi_k (fun e => hq (by unfold cScr; omega)), zi_k (fun e => hq (by unfold cScr; omega))]; exact (hc4.tr hc5) q hq
              have e50 : gsw (sg S) a (a + 1 + t) 50 = sg S 50 := by unfold gsw; rw [gu_ne (by omega), gu_ne (by omega)]
              refine x_wrongInTrial (lim := (jd (fun t => gV (gsw (sg S) a (a + 1 + t)) n) (fun t => nI (100 * a + (a + 1 + t))) (js (sg S) n a).1 (js (sg S) n a).2 t).2) ga.1 ga.2.1 (by rw [e50]; omega) hn (by have := jl a t; omega) c6 s2 (fun x σ7 hc7 hx => ?_)
              exact next x σ7 hc7 hx
        have outer : ∀ (j a : Nat) (σ4 : zz_T), a + j = sg S 49 → cK σ σ4 → pX5_swap_44 (fun x s => x = jAns (js (sg S) n (sg S 49)) w ∧ RX s S) (j + 1) (nI n) (nI w) (nI (js (sg S) n a).2) (js (sg S) n a).1 (nI a) σ4 := by
          intro j
          induction j with
          | zero =>
            intro a σ4 hj hc4
            obtain rfl : a = sg S 49 := by omega
            refine br_t (by rw [(xP_cK hs.1.1 X.1 hc4).1.2.1]; exact nI_le (by omega) (by omega)) ?_
            unfold pX5_swap_128 jAns
            have RX4 := X.keep hc4 hs
            by_cases hN : (js (sg S) n (sg S 49)).1 = (-4)
            · rw [if_pos hN]
              rcases (show w = 0 ∨ w = 1 by omega) with rfl | rfl
              · exact br_t rfl ⟨hN, RX4⟩
              · exact br_f (by decide) (br_t hN ⟨hN, RX4⟩)
            · rw [if_neg hN]
              rcases (show w = 0 ∨ w = 1 by omega) with rfl | rfl
              · exact br_t rfl ⟨rfl, RX4⟩
              · exact br_f (by decide) (br_f hN ⟨rfl, RX4⟩)
          | succ j ih =>
            intro a σ4 hj hc4
            refine br_f (by rw [(xP_cK hs.1.1 X.1 hc4).1.2.1]; exact nI_ge (by omega) (by omega)) ⟨sg S 49 - (a + 1) + 1, ?_⟩
            rw [nI_1]
            exact inner _ _ a (by omega) (sg S 49 - (a + 1)) 0 σ4 (by omega) hc4 (fun σ5 hc5 => ih (a + 1) σ5 (by omega) hc5)
        exact ⟨sg S 49 + 1, outer (sg S 49) 0 σ3 (by omega) hc3⟩
      · have inner : ∀ (Q : Int32 → zz_T → Prop) (K : Int32 → Int32 → Int32 → zz_T → Prop) (a : Nat), a < sg S 49 → ∀ (j t : Nat) (τ4 : zz_T), a + 1 + t + j = sg S 49 → Jm τ τ4 (jd (fun t => gV (gsw (sg S) a (a + 1 + t)) n) (fun t => nI (100 * a + (a + 1 + t))) (js (sg S) n a).1 (js (sg S) n a).2 t).1 (jd (fun t => gV (gsw (sg S) a (a + 1 + t)) n) (fun t => nI (100 * a + (a + 1 + t))) (js (sg S) n a).1 (js (sg S) n a).2 t).2 → (∀ τ5 : zz_T, Jm τ τ5 (js (sg S) n (a + 1)).1 (js (sg S) n (a + 1)).2 → K (nI n) (nI w) (nI (a + 1)) τ5) → pX6_swap_47 Q K (j + 1) (nI n) (nI w) (nI a) (nI (a + 1 + t)) τ4 := by
          intro Q K a ha j
          induction j with
          | zero =>
            intro t τ4 hj J hK
            have et : t = sg S 49 - (a + 1) := by omega
            refine ⟨vp_in_nI (n := 49) (by decide) (by decide), br_t (by rw [show Int32.toNatClampNeg 49 = 49 from rfl, (M.keep J.1).1.1.2.1]; exact nI_le (by omega) (by omega)) ?_⟩
            rw [nI_1]
            rw [et] at J
            exact hK τ4 J
          | succ j ih =>
            intro t τ4 hj J hK
            have ga := gsw_all (a := a) (b := a + 1 + t) hs.1 ha (by omega)
            have vb := gV_le (g := gsw (sg S) a (a + 1 + t)) ga.1.1 hn
            refine ⟨vp_in_nI (n := 49) (by decide) (by decide), br_f (by rw [show Int32.toNatClampNeg 49 = 49 from rfl, (M.keep J.1).1.1.2.1]; exact nI_ge (by omega) (by omega)) (m_startsJ hs M J (fun τ5 J5 m2 m1 h13 hA => ?_))⟩
            rw [show (37 : Int32) = nI 37 from rfl, show (100 : Int32) = nI 100 from rfl, pk_mul, nI_add, nI_add, nI_add, nI_tn (n := 37 + a) (by omega), nI_tn (n := 37 + (a + 1 + t)) (by omega), zi_k (c := 1) (k := 2) (by omega), m1.2.2.1 a ha, m1.2.2.1 (a + 1 + t) (by omega)]
            refine ⟨vp_in_nI (by omega) (by decide), vp_in_nI (by omega) (by decide), vp_in_nI (by omega) (by decide), vp_in_nI (by omega) (by decide), ?_⟩
            have la := hs.1.1.2.2.2.1.2 a ha
            have lb := hs.1.1.2.2.2.1.2 (a + 1 + t) (by omega)
            have g1 : gAll (gu (sg S) (37 + a) (sg S (37 + (a + 1 + t)))) := gAll_gu hs.1 (by omega) (by omega) (by omega) (by unfold gBnd; omega)
            have q1 := mP_set (k := 37 + a) (v := sg S (37 + (a + 1 + t))) h3 h12 g1.1.1 g1.1.2.2.2.1.1 m2 (gLive_gu (by omega) (by omega) (by omega))
            have q2 := mP_set (k := 37 + (a + 1 + t)) (v := sg S (37 + a)) g1.1.1 g1.1.2.2.2.1.1 ga.1.1 ga.1.2.2.2.1.1 q1 (gLive_gu (by omega) (by omega) (by omega))
            have m6 : mP ((zz_i (zz_i τ5 2 (37 + a) (nI (sg S (37 + (a + 1 + t))))) 2 (37 + (a + 1 + t)) (nI (sg S (37 + a)))).1 2) (gsw (sg S) a (a + 1 + t)) := by
              rw [zi_r, zr_at, zi_r, zr_at]
              exact q2
            have J6 : Jm τ (zz_i (zz_i τ5 2 (37 + a) (nI (sg S (37 + (a + 1 + t))))) 2 (37 + (a + 1 + t)) (nI (sg S (37 + a)))) (jd (fun t => gV (gsw (sg S) a (a + 1 + t)) n) (fun t => nI (100 * a + (a + 1 + t))) (js (sg S) n a).1 (js (sg S) n a).2 t).1 (jd (fun t => gV (gsw (sg S) a (a + 1 + t)) n) (fun t => nI (100 * a + (a + 1 + t))) (js (sg S) n a).1 (js (sg S) n a).2 t).2 := ⟨⟨fun q hq => by rw [zi_k (fun x => hq (by unfold mScr; omega)), zi_k (fun x => hq (by unfold mScr; omega))]; exact J5.1.1 q hq, by rw [zi_k (by omega), zi_k (by omega)]; exact J5.1.2.1, by rw [zi_k (by omega), zi_k (by omega)]; exact J5.1.2.2.1, by rw [zi_k (by omega), zi_k (by omega)]; exact J5.1.2.2.2⟩, by rw [zi_k (by omega), zi_k (by omega)]; exact J5.2.1, by rw [zi_k (by omega), zi_k (by omega)]; exact J5.2.2⟩
            have e33 : gsw (sg S) a (a + 1 + t) 33 = sg S 33 := by unfold gsw; rw [gu_ne (by omega), gu_ne (by omega)]
            have e50 : gsw (sg S) a (a + 1 + t) 50 = sg S 50 := by unfold gsw; rw [gu_ne (by omega), gu_ne (by omega)]
            obtain ⟨A1, A2, A3, A4, A5⟩ := hA (sg S 33) h3
            unfold pX6_wrongIn
            refine m_rowsJ (wt := none) ga.1 ga.2.1 (by rw [e50]; omega) (by omega) J6 m6 (Or.inl ⟨by rw [zi_k (by omega), zi_k (by omega)]; exact h13, rfl⟩) ⟨by rw [zi_k (by omega), zi_k (by omega)]; exact A1, by rw [zi_k (by omega), zi_k (by omega)]; exact A2, by rw [zi_k (by omega), zi_k (by omega)]; exact A3, by rw [zi_k (by omega), zi_k (by omega)]; exact A4, fun h hh => by rw [zi_k (by omega), zi_k (by omega)]; exact A5 h (by omega)⟩ (fun τ7 J7 e14 e7 => ?_)
            rw [e14]
            refine m_judge (val := fun t => gV (gsw (sg S) a (a + 1 + t)) n) (code := fun t => nI (100 * a + (a + 1 + t))) (by have := js_le (sg S) n a; omega) (by show gV _ n < _; omega) J7 (fun τ8 J8 => ?_)
            rw [nI_1]
            exact ih (t + 1) τ8 (by omega) J8 hK
        have outer : ∀ (j a : Nat) (τ4 : zz_T), a + j = sg S 49 → Jm τ τ4 (js (sg S) n a).1 (js (sg S) n a).2 → pX6_swap_31 (fun x s => x = jAns (js (sg S) n (sg S 49)) w ∧ RM s S) (j + 1) (nI n) (nI w) (nI a) τ4 := by
          intro j
          induction j with
          | zero =>
            intro a τ4 hj J
            obtain rfl : a = sg S 49 := by omega
            exact ⟨vp_in_nI (n := 49) (by decide) (by decide), br_t (by rw [show Int32.toNatClampNeg 49 = 49 from rfl, (M.keep J.1).1.1.2.1]; exact nI_le (by omega) (by omega)) (m_judged hw J ⟨rfl, M.keep J.1⟩)⟩
          | succ j ih =>
            intro a τ4 hj J
            refine ⟨vp_in_nI (n := 49) (by decide) (by decide), br_f (by rw [show Int32.toNatClampNeg 49 = 49 from rfl, (M.keep J.1).1.1.2.1]; exact nI_ge (by omega) (by omega)) ⟨sg S 49 - (a + 1) + 1, ?_⟩⟩
            rw [nI_1]
            exact inner _ _ a (by omega) (sg S 49 - (a + 1)) 0 τ4 (by omega) J (fun τ5 J5 => ih (a + 1) τ5 (by omega) J5)
        exact outer (sg S 49) 0 τ1 (by omega) J0
    · exact ⟨-1, S, hs, x_badRows_y h (br_t rfl (x_out_n h2 (br_f (by decide) ⟨rfl, X⟩))), m_isFar_y h (br_f (by decide) (m_isPart_n h2 (br_t rfl ⟨rfl, M⟩)))⟩
  · exact ⟨-1, S, hs, x_badRows_n h (br_f (by decide) ⟨rfl, X⟩), m_isFar_n h (br_t rfl ⟨rfl, M⟩)⟩
end ZP
