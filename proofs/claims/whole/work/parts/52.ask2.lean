section ZA
variable {S : zSt} {σ τ τ1 : zz_T}
theorem x_left {f : Nat → Bool} {L : Nat → Nat → Nat} {n : Nat} {σ1 : zz_T} {Q : Int32 → zz_T → Prop} (hn : n < 41) (hc : cK σ σ1) (hL : ∀ v, v ≤ 30 → f v = true → σ1.1 44 (v * 41 + n) = nI (L v n)) (hl : ∀ v n, L v n < 256) (hq : ∀ σ2 : zz_T, cK σ σ2 → σ2.1 44 = σ1.1 44 → Q (nI (zk_w f (fun v => L v n) 31)) σ2) : pX5_leftAtWorst (nI (zq_m f 31)) (nI n) σ1 Q := by
  unfold pX5_leftAtWorst
  refine x_fill (by omega) (fun σ2 hb2 h0 => ?_)
  have mlt := zq_m_lt f 31
  have loop : ∀ (j v : Nat) (σ3 : zz_T), v + j = 31 → zz_but (fun q => q = 45) σ1 σ3 → (∀ x, x < 256 → σ3.1 45 x = nI (zk_n f (fun v => L v n) x v)) → pX5_leftAtWorst_13 Q (j + 1) (nI (zq_m f 31)) (nI n) (nI (zk_w f (fun v => L v n) v)) (nI v) σ3 := by
    intro j
    induction j with
    | zero =>
      intro v σ3 hv hb h45
      obtain rfl : v = 31 := by omega
      exact br_t (by decide) (hq σ3 (hc.tr (cK.of hb (fun q hq => by unfold cScr; omega))) (hb.1 44 (by omega)))
    | succ j ih =>
      intro v σ3 hv hb h45
      have wl := zk_w_le f (fun v => L v n) v
      refine br_f (by rw [show (30 : Int32) = nI 30 from rfl, nI_ltI (by omega) (by omega)]; omega) ?_
      rw [zk_shr mlt (by omega), zk_bit, decide_eq_true (show v < 31 by omega), Bool.true_and]
      unfold pX5_leftAtWorst_67
      cases hf : f v with
      | false =>
        refine br_f (by decide) ?_
        rw [nI_1]
        have e : zk_w f (fun v => L v n) (v + 1) = zk_w f (fun v => L v n) v := by
          show (if f v then _ else _) = _
          rw [hf]; rfl
        have z := ih (v + 1) σ3 (by omega) hb (fun x hx => by rw [h45 x hx, zk_n_s, hf]; simp only [Bool.false_eq_true, if_false, Nat.add_zero])
        rw [e] at z
        exact z
      | true =>
        refine br_t rfl ?_
        have lk := hl v n
        have e44 : σ3.1 44 (v * 41 + n) = nI (L v n) := by rw [hb.1 44 (by omega)]; exact hL v (by omega) hf
        rw [show (41 : Int32) = nI 41 from rfl, pk_mul, nI_add, nI_tn (n := v * 41 + n) (by omega), e44, nI_tn (n := L v n) (by omega), zi_at, h45 _ lk, nI_1, nI_1]
        have cl := zk_n_le f (fun v => L v n) (L v n) v
        have vi : vp_in (nI (L v n)) 256 := vp_in_nI lk (by decide)
        rw [z_max (by omega) (by omega)]
        refine ⟨vp_in_nI (by omega) (by decide), vi, vi, vi, ?_⟩
        have e1 : zk_n f (fun v => L v n) (L v n) (v + 1) = zk_n f (fun v => L v n) (L v n) v + 1 := by
          rw [zk_n_s, hf, if_pos rfl, if_pos rfl]
        have e : zk_w f (fun v => L v n) (v + 1) = max (zk_w f (fun v => L v n) v) (zk_n f (fun v => L v n) (L v n) v + 1) := by
          show (if f v then max (zk_w f (fun v => L v n) v) (zk_n f (fun v => L v n) (L v n) (v + 1)) else _) = _
          rw [hf, if_pos rfl, e1]
        have z := ih (v + 1) (zz_i σ3 45 (L v n) (nI (zk_n f (fun v => L v n) (L v n) v + 1))) (by omega) (hb.i rfl) (fun x hx => ?_)
        · rw [e] at z
          exact z
        · by_cases q : x = L v n
          · rw [q, zi_at, e1]
          · rw [zi_j q, h45 x hx, zk_n_s, hf, if_pos rfl, if_neg (fun z => q z.symm), Nat.add_zero]
  exact ⟨32, loop 31 0 σ2 (by omega) hb2 (fun x hx => h0 x hx)⟩
theorem b_ask (hs : sOK S) (X : RX σ S) (M : RM τ S) (x1 x2 : Int32) : zBi (pX5_ask x1 x2 σ) (pX6_ask x1 x2 τ) := by
  have h3 := hs.1.1.1
  unfold pX5_ask pX6_ask
  by_cases h : zIn x1 0 (nI (sg S 33) - 1)
  · obtain ⟨k, hk, rfl⟩ := (zIn_n (by omega)).mp h
    by_cases h2 : zIn x2 0 1
    · obtain ⟨w, hw, rfl⟩ := (zIn_c (n := 1) (by omega)).mp h2
      generalize hf : zq_f (sg S) k 1 = f
      generalize hL : (fun v n => zq_B (sg S) (gu (sg S) (11 * k + 1) v) k n) = L
      have eL : ∀ v n, L v n = zq_B (sg S) (gu (sg S) (11 * k + 1) v) k n := fun v n => by rw [← hL]
      have lL : ∀ v n, L v n < 256 := fun v n => by rw [eL]; exact zq_B_lt _ _ _ _
      generalize hval : (fun n => zk_w f (fun v => L v n) 31) = val
      have ev : ∀ n, val n = zk_w f (fun v => L v n) 31 := fun n => by rw [← hval]
      have vl : ∀ n, val n ≤ 31 := fun n => by rw [ev]; exact zk_w_le _ _ _
      have ml := zk_c_le f 31
      refine ⟨jAns (jd val nI (-4) (zk_c f 31) 41) w, S, hs, x_noHead_y X.1.1.1 h (br_t rfl (x_out_y h2 (br_t rfl ?_))), m_isHead_y M.1.1.1 h (br_f (by decide) (m_isPart_y h2 (br_f (by decide) ⟨32, ?_⟩)))⟩
      · refine x_asSeenBy (c := 1) hs X hk (by omega) (fun σ1 hc1 lk => ?_)
        rw [hf]
        show pJ6_bitCount_0f7a4 (nI (zq_m f 31)) _ _
        have mlt := zq_m_lt f 31
        refine zc_count (by omega) ?_
        rw [zk_count]
        have lk2 : ∀ v, v ≤ 30 → f v = true → ∀ n, n < 41 → σ1.1 44 (v * 41 + n) = nI (L v n) := fun v hv hfv n hn => by
          rw [eL]
          refine lk ?_ v hv n hn
          rw [← hf] at hfv
          unfold zq_f at hfv
          rw [Bool.and_eq_true] at hfv
          exact hfv.1
        have fin : ∀ (j : Int32 × Nat) (σ2 : zz_T), cK σ σ2 → j = jd val nI (-4) (zk_c f 31) 41 → pX5_ask_82 (fun x s => x = jAns (jd val nI (-4) (zk_c f 31) 41) w ∧ RX s S) (nI w) (nI j.2) j.1 σ2 := by
          intro j σ2 hc2 ej
          rw [← ej]
          unfold pX5_ask_82 pX5_ask_93 jAns
          have RX2 := X.keep hc2 hs
          by_cases hN : j.1 = (-4)
          · rw [if_pos hN]
            rcases (show w = 0 ∨ w = 1 by omega) with rfl | rfl
            · exact br_t rfl ⟨hN, RX2⟩
            · exact br_f (by decide) (br_t hN ⟨hN, RX2⟩)
          · rw [if_neg hN]
            rcases (show w = 0 ∨ w = 1 by omega) with rfl | rfl
            · exact br_t rfl ⟨rfl, RX2⟩
            · exact br_f (by decide) (br_f hN ⟨rfl, RX2⟩)
        by_cases hm : zk_c f 31 ≤ 1
        · refine br_t (by rw [show (1 : Int32) = nI 1 from rfl, nI_leI (by omega) (by omega)]; exact hm) ?_
          have flat : ∀ n, jd val nI (-4) (zk_c f 31) n = ((-4), zk_c f 31) := by
            intro n
            induction n with
            | zero => rfl
            | succ n ih =>
              show (if val n < (jd val nI (-4) (zk_c f 31) n).2 then (nI n, val n) else jd val nI (-4) (zk_c f 31) n) = _
              rw [ih, if_neg]
              intro q
              have q : val n < zk_c f 31 := q
              have z : zk_w f (fun v => L v n) 31 = 0 := by rw [← ev]; omega
              have := zk_pos z
              omega
          exact fin ((-4), zk_c f 31) σ1 hc1 (flat 41).symm
        · refine br_f (by rw [show (1 : Int32) = nI 1 from rfl, nI_leI (by omega) (by omega)]; exact hm) ⟨42, ?_⟩
          have loop : ∀ (j n : Nat) (σ2 : zz_T), n + j = 41 → cK σ σ2 → σ2.1 44 = σ1.1 44 → pX5_ask_45 (fun x s => x = jAns (jd val nI (-4) (zk_c f 31) 41) w ∧ RX s S) (j + 1) (nI w) (nI (zq_m f 31)) (nI (jd val nI (-4) (zk_c f 31) n).2) (jd val nI (-4) (zk_c f 31) n).1 (nI n) σ2 := by
            intro j
            induction j with
            | zero =>
              intro n σ2 hn hc2 e44
              obtain rfl : n = 41 := by omega
              exact br_t (by decide) (fin _ σ2 hc2 rfl)
            | succ j ih =>
              intro n σ2 hn hc2 e44
              refine br_f (by rw [show (41 : Int32) = nI 41 from rfl, nI_leI (by omega) (by omega)]; omega) ?_
              refine x_left (f := f) (L := L) (by omega) hc2 (fun v hv hfv => by rw [e44]; exact lk2 v hv hfv n (by omega)) lL (fun σ3 hc3 e3 => ?_)
              rw [← ev]
              refine jd_step (val := val) (code := nI) (c0 := (-4)) (m0 := zk_c f 31) (n := n) (x := val n) (P := fun a b => pX5_ask_76 (fun x s => x = jAns (jd val nI (-4) (zk_c f 31) 41) w ∧ RX s S) (pX5_ask_45 (fun x s => x = jAns (jd val nI (-4) (zk_c f 31) 41) w ∧ RX s S) (j + 1)) (nI w) (nI (zq_m f 31)) a b (nI n) σ3) (by omega) (Or.inl rfl) (by have := vl n; omega) ?_
              unfold pX5_ask_76
              rw [nI_1]
              exact ih (n + 1) σ3 (by omega) hc3 (by rw [e3]; exact e44)
          exact loop 41 0 σ1 (by omega) hc1 rfl
      · -- the reference
        have judge : ∀ τ2 : zz_T, mK τ τ2 → (∀ t, t < zk_c f 31 → ∀ n, n < 41 → τ2.1 12 (41 * t + n) = nI (L (zk_b f 31 t) n)) → pX6_startsJudging (nI (zk_c f 31)) τ2 (fun s94 => ∃ n100, pX6_ask_100 (fun x s => x = jAns (jd val nI (-4) (zk_c f 31) 41) w ∧ RM s S) n100 (nI w) (nI (zk_c f 31)) 0 s94) := by
          intro τ2 k2 h12
          refine zk_fs (m_startsJudging k2 (fun τ3 J3 hb3 => ⟨42, ?_⟩))
          have outer : ∀ (j n : Nat) (τ4 : zz_T), n + j = 41 → Jm τ τ4 (jd val nI (-4) (zk_c f 31) n).1 (jd val nI (-4) (zk_c f 31) n).2 → τ4.1 12 = τ2.1 12 → pX6_ask_100 (fun x s => x = jAns (jd val nI (-4) (zk_c f 31) 41) w ∧ RM s S) (j + 1) (nI w) (nI (zk_c f 31)) (nI n) τ4 := by
            intro j
            induction j with
            | zero =>
              intro n τ4 hn J e12
              obtain rfl : n = 41 := by omega
              exact br_t (by decide) (m_judged hw J ⟨rfl, M.keep J.1⟩)
            | succ j ih =>
              intro n τ4 hn J e12
              refine br_f (by rw [show (40 : Int32) = nI 40 from rfl, nI_ltI (by omega) (by omega)]; omega) ⟨zk_c f 31 + 1, ?_⟩
              have g12 : ∀ t, t < zk_c f 31 → τ4.1 12 (41 * t + n) = nI (L (zk_b f 31 t) n) := fun t ht => by rw [e12]; exact h12 t ht n (by omega)
              have cb : ∀ t i, fb_sm (fun t' => if L (zk_b f 31 t) n = L (zk_b f 31 t') n then 1 else 0) i ≤ i := fun t i => by
                have := fb_sm_bound (f := fun t' => if L (zk_b f 31 t) n = L (zk_b f 31 t') n then 1 else 0) (c := 1) (n := i) (fun k _ => by split <;> omega)
                omega
              have ref := zk_ref f (fun v => L v n) 31
              have mid : ∀ (d t : Nat), t + d = zk_c f 31 → pX6_ask_113 (fun x s => x = jAns (jd val nI (-4) (zk_c f 31) 41) w ∧ RM s S) (pX6_ask_100 (fun x s => x = jAns (jd val nI (-4) (zk_c f 31) 41) w ∧ RM s S) (j + 1)) (d + 1) (nI w) (nI (zk_c f 31)) (nI n) (nI (fmx (fun t => fb_sm (fun t' => if L (zk_b f 31 t) n = L (zk_b f 31 t') n then 1 else 0) (zk_c f 31)) t)) (nI t) τ4 := by
                intro d
                induction d with
                | zero =>
                  intro t ht
                  obtain rfl : t = zk_c f 31 := by omega
                  refine br_t (nI_le (Nat.le_refl _) (by omega)) ?_
                  have ref2 : fmx (fun t => fb_sm (fun t' => if L (zk_b f 31 t) n = L (zk_b f 31 t') n then 1 else 0) (zk_c f 31)) (zk_c f 31) = val n := ref.trans (ev n).symm
                  rw [ref2]
                  refine zk_fr (m_judge (val := val) (code := nI) (by omega) (by have := vl n; omega) J (fun τ5 J5 hb5 => ?_))
                  rw [nI_1]
                  exact ih (n + 1) τ5 (by omega) J5 (by rw [hb5.1 12 (by omega)]; exact e12)
                | succ d ihd =>
                  intro t ht
                  refine br_f (nI_ge (by omega) (by omega)) ⟨zk_c f 31 + 1, ?_⟩
                  have fl : fmx (fun t => fb_sm (fun t' => if L (zk_b f 31 t) n = L (zk_b f 31 t') n then 1 else 0) (zk_c f 31)) t ≤ 31 := fmx_le (fun t' _ => by have := cb t' (zk_c f 31); omega)
                  have inner : ∀ (e t' : Nat), t' + e = zk_c f 31 → pX6_ask_125 (fun x s => x = jAns (jd val nI (-4) (zk_c f 31) 41) w ∧ RM s S) (pX6_ask_100 (fun x s => x = jAns (jd val nI (-4) (zk_c f 31) 41) w ∧ RM s S) (j + 1)) (pX6_ask_113 (fun x s => x = jAns (jd val nI (-4) (zk_c f 31) 41) w ∧ RM s S) (pX6_ask_100 (fun x s => x = jAns (jd val nI (-4) (zk_c f 31) 41) w ∧ RM s S) (j + 1)) (d + 1)) (e + 1) (nI w) (nI (zk_c f 31)) (nI n) (nI (fmx (fun t => fb_sm (fun t' => if L (zk_b f 31 t) n = L (zk_b f 31 t') n then 1 else 0) (zk_c f 31)) t)) (nI t) (nI (fb_sm (fun t' => if L (zk_b f 31 t) n = L (zk_b f 31 t') n then 1 else 0) t')) (nI t') τ4 := by
                    intro e
                    induction e with
                    | zero =>
                      intro t' ht'
                      obtain rfl : t' = zk_c f 31 := by omega
                      refine br_t (nI_le (Nat.le_refl _) (by omega)) ?_
                      have c1 := cb t (zk_c f 31)
                      have z := ihd (t + 1) (by omega)
                      have em : fmx (fun t => fb_sm (fun t' => if L (zk_b f 31 t) n = L (zk_b f 31 t') n then 1 else 0) (zk_c f 31)) (t + 1) = max (fmx (fun t => fb_sm (fun t' => if L (zk_b f 31 t) n = L (zk_b f 31 t') n then 1 else 0) (zk_c f 31)) t) (fb_sm (fun t' => if L (zk_b f 31 t) n = L (zk_b f 31 t') n then 1 else 0) (zk_c f 31)) := rfl
                      rw [em] at z
                      unfold pX6_ask_193
                      rw [nI_1]
                      generalize fmx (fun t => fb_sm (fun t' => if L (zk_b f 31 t) n = L (zk_b f 31 t') n then 1 else 0) (zk_c f 31)) t = A at z fl ⊢
                      generalize fb_sm (fun t' => if L (zk_b f 31 t) n = L (zk_b f 31 t') n then 1 else 0) (zk_c f 31) = B at z c1 ⊢
                      refine ⟨fun q => ?_, fun q => ?_⟩
                      · have q := (nI_leI (by omega) (by omega)).mp q
                        rw [Nat.max_eq_left q] at z
                        exact z
                      · have q : ¬ B ≤ A := fun y => q ((nI_leI (by omega) (by omega)).mpr y)
                        rw [Nat.max_eq_right (by omega)] at z
                        exact z
                    | succ e ihe =>
                      intro t' ht'
                      refine br_f (nI_ge (by omega) (by omega)) ?_
                      have i1 : (41 : Int32) * nI t + nI n = nI (41 * t + n) := by rw [show (41 : Int32) = nI 41 from rfl, pk_mul, nI_add]
                      have i2 : (41 : Int32) * nI t' + nI n = nI (41 * t' + n) := by rw [show (41 : Int32) = nI 41 from rfl, pk_mul, nI_add]
                      rw [i1, i2, nI_tn (n := 41 * t + n) (by omega), nI_tn (n := 41 * t' + n) (by omega), g12 t (by omega), g12 t' (by omega)]
                      refine ⟨vp_in_nI (by omega) (by decide), vp_in_nI (by omega) (by decide), ?_⟩
                      have z := ihe (t' + 1) (by omega)
                      rw [fb_sm_succ] at z
                      have a1 := lL (zk_b f 31 t) n
                      have a2 := lL (zk_b f 31 t') n
                      unfold pX6_ask_167
                      rw [nI_1]
                      by_cases q : L (zk_b f 31 t) n = L (zk_b f 31 t') n
                      · rw [if_pos q, ← nI_add] at z
                        exact br_t (by rw [q]) (br_f (by decide) z)
                      · rw [if_neg q, ← nI_add] at z
                        exact br_f (fun y => q ((nI_eq (by omega) (by omega)).mp y)) (br_t rfl z)
                  exact inner (zk_c f 31) 0 (by omega)
              exact mid (zk_c f 31) 0 (by omega)
          exact outer 41 0 τ3 (by omega) J3 (hb3.1 12 (by omega))
        have loop : ∀ (j v : Nat) (τ2 : zz_T), v + j = 31 → mK τ τ2 → (∀ t, t < zk_c f v → ∀ n, n < 41 → τ2.1 12 (41 * t + n) = nI (L (zk_b f v t) n)) → pX6_ask_22 (fun x s => x = jAns (jd val nI (-4) (zk_c f 31) 41) w ∧ RM s S) (j + 1) (nI k) (nI w) (nI (zk_c f v)) (nI v) τ2 := by
          intro j
          induction j with
          | zero =>
            intro v τ2 hv k2 h12
            obtain rfl : v = 31 := by omega
            exact br_t (by decide) (judge τ2 k2 h12)
          | succ j ih =>
            intro v τ2 hv k2 h12
            have cv := zk_c_le f v
            refine br_f (by rw [show (30 : Int32) = nI 30 from rfl, nI_ltI (by omega) (by omega)]; omega) ?_
            have ix : (11 : Int32) * nI k + 1 = nI (11 * k + 1) := by rw [show (11 : Int32) = nI 11 from rfl, pk_mul, nI_1]
            rw [ix]
            refine m_isSoWith (c := 1) hs M k2 hk (by omega) (by show v ≤ 30; omega) (fun τ3 k3 h11 e12 => ?_)
            rw [hf]
            unfold pX6_ask_86
            cases hfv : f v with
            | false =>
              refine br_t rfl ?_
              rw [nI_1]
              have ec : zk_c f (v + 1) = zk_c f v := by rw [zk_c_s, hfv]; rfl
              have eb : zk_b f (v + 1) = zk_b f v := by
                show (if f v then _ else _) = _
                rw [hfv]; rfl
              have z := ih (v + 1) τ3 (by omega) k3 (by rw [ec, eb, e12]; exact h12)
              rw [ec] at z
              exact z
            | true =>
              refine br_f (by decide) ⟨42, ?_⟩
              have ec : zk_c f (v + 1) = zk_c f v + 1 := by rw [zk_c_s, hfv]; rfl
              have eb : zk_b f (v + 1) = (fun t => if t = zk_c f v then v else zk_b f v t) := by
                show (if f v then _ else _) = _
                rw [hfv]; rfl
              have copy : ∀ (d n : Nat) (τ4 : zz_T), n + d = 41 → zz_but (fun q => q = 12) τ3 τ4 → (∀ t, t < zk_c f v → ∀ n, n < 41 → τ4.1 12 (41 * t + n) = nI (L (zk_b f v t) n)) → (∀ n', n' < n → τ4.1 12 (41 * zk_c f v + n') = nI (L v n')) → pX6_ask_47 (fun x s => x = jAns (jd val nI (-4) (zk_c f 31) 41) w ∧ RM s S) (pX6_ask_22 (fun x s => x = jAns (jd val nI (-4) (zk_c f 31) 41) w ∧ RM s S) (j + 1)) (d + 1) (nI k) (nI w) (nI (zk_c f v)) (nI v) (nI n) τ4 := by
                intro d
                induction d with
                | zero =>
                  intro n τ4 hn hb4 g1 g2
                  obtain rfl : n = 41 := by omega
                  refine br_t (by decide) ?_
                  unfold pX6_ask_86
                  rw [nI_1, nI_1]
                  have k4 : mK τ τ4 := k3.tr (mK.of hb4.1 (fun q hq => by unfold mScr; omega) (fun j hj => by rw [hb4.1 0 (by omega)]))
                  have z := ih (v + 1) τ4 (by omega) k4 (fun t ht n hn => ?_)
                  · rw [ec] at z
                    exact z
                  · rw [eb]
                    by_cases q : t = zk_c f v
                    · rw [q]
                      simp only [if_true]
                      exact g2 n hn
                    · simp only [q, if_false]
                      exact g1 t (by omega) n hn
                | succ d ihd =>
                  intro n τ4 hn hb4 g1 g2
                  refine br_f (by rw [show (40 : Int32) = nI 40 from rfl, nI_ltI (by omega) (by omega)]; omega) ?_
                  have i1 : (3 : Int32) * nI n + nI k = nI (3 * n + k) := by rw [show (3 : Int32) = nI 3 from rfl, pk_mul, nI_add]
                  have i2 : (41 : Int32) * nI (zk_c f v) + nI n = nI (41 * zk_c f v + n) := by rw [show (41 : Int32) = nI 41 from rfl, pk_mul, nI_add]
                  rw [i1, i2, nI_tn (n := 3 * n + k) (by omega), nI_tn (n := 41 * zk_c f v + n) (by omega), nI_1, hb4.1 11 (by omega), h11 k hk n (by omega), ← eL]
                  refine ⟨vp_in_nI (by omega) (by decide), vp_in_nI (by omega) (by decide), ?_⟩
                  refine ihd (n + 1) _ (by omega) (hb4.i rfl) (fun t ht n' hn' => by rw [zi_j (by omega)]; exact g1 t ht n' hn') (fun n' hn' => ?_)
                  by_cases q : n' = n
                  · rw [q, zi_at]
                  · rw [zi_j (by omega)]
                    exact g2 n' (by omega)
              exact copy 41 0 τ3 (by omega) (zz_but.rf _ _) (fun t ht n hn => by rw [e12]; exact h12 t ht n hn) (fun n' hn' => by omega)
        exact loop 31 0 τ (by omega) (mK.rf τ) (fun t ht => by have : t < 0 := ht; omega)
    · exact ⟨-1, S, hs, x_noHead_y X.1.1.1 h (br_t rfl (x_out_n h2 (br_f (by decide) ⟨rfl, X⟩))), m_isHead_y M.1.1.1 h (br_f (by decide) (m_isPart_n h2 (br_t rfl ⟨rfl, M⟩)))⟩
  · exact ⟨-1, S, hs, x_noHead_n X.1.1.1 h (br_f (by decide) ⟨rfl, X⟩), m_isHead_n M.1.1.1 h (br_t rfl ⟨rfl, M⟩)⟩
end ZA
