section ZR
variable {S : zSt} {σ τ τ1 : zz_T}
def sTorn (S : zSt) (e : Nat) : zSt := (S.1, S.2.1, S.2.2.1, S.2.2.2.1, e)
theorem sTorn_ok {e : Nat} (hs : sOK S) (he : e ≤ 4) : sOK (sTorn S e) := ⟨hs.1, hs.2.1, hs.2.2.1, hs.2.2.2.1, hs.2.2.2.2.1, he⟩
theorem RX_torn {e : Nat} (hs : sOK S) (X : RX σ S) : RX (zz_i σ 0 10 (nI e)) (sTorn S e) := by
  obtain ⟨P, ⟨⟨a1, a2, a3⟩, b, c, d⟩⟩ := X
  refine ⟨P.kept hs.1.1.1 (fun q x y => zi_k (by omega)), ⟨by rw [zi_k (by omega)]; exact a1, fun i hi => by rw [zi_k (by omega)]; exact a2 i hi, by rw [zi_k (by omega)]; exact a3⟩, fun k hk => ⟨by rw [zi_k (by omega)]; exact (b k hk).1, fun q => ((b k hk).2 q).kept (hs.2.2.2.1 k hk q).1.1 (fun e x y => zi_k (by omega))⟩, fun k hk => ?_, by rw [zi_at]; rfl⟩
  rw [zi_k (by omega), zi_k (by omega)]
  exact c k hk
theorem RM_torn {e : Nat} (M : RM τ S) : RM (zz_i τ 0 32 (nI e)) (sTorn S e) := by
  obtain ⟨P, ⟨⟨a1, a2, a3⟩, b, c, d⟩⟩ := M
  refine ⟨by rw [zi_k (by omega)]; exact P, ⟨by rw [zi_j (by omega)]; exact a1, fun i hi => by rw [zi_k (by omega)]; exact a2 i hi, by rw [zi_j (by omega)]; exact a3⟩, fun k hk => ?_, fun k hk => ?_, by rw [zi_at]; rfl⟩
  · rw [zi_k (by omega), zi_k (by omega)]; exact b k hk
  · rw [zi_k (by omega), zi_k (by omega), zi_k (by omega)]; exact c k hk
def zrd_a (S : zSt) (k fn i : Nat) : Nat := Int32.toNatClampNeg (sce S k (fn + 2 * i))
def zrd_b (S : zSt) (k fn i : Nat) : Nat := Int32.toNatClampNeg (sce S k (fn + 2 * i + 1))
def zrd_g (S : zSt) (k fn : Nat) : Nat → (Nat → Nat)
  | 0 => sg S
  | i + 1 => gu (zrd_g S k fn i) (37 + zrd_a S k fn i) (zrd_b S k fn i)
/-- a pair that is taken -/
def zrd_ok (S : zSt) (k fn i : Nat) : Prop := fn + 2 * i + 1 < ssz S k ∧ sce S k (fn + 2 * i) = nI (zrd_a S k fn i) ∧ zrd_a S k fn i < sg S 49 ∧ sce S k (fn + 2 * i + 1) = nI (zrd_b S k fn i) ∧ zrd_b S k fn i < 256
theorem zrd_all {k fn : Nat} (hs : sOK S) : ∀ i, (∀ i', i' < i → zrd_ok S k fn i') → gAll (zrd_g S k fn i) ∧ zrd_g S k fn i 49 = sg S 49
  | 0, _ => ⟨hs.1, rfl⟩
  | i + 1, h => by
    obtain ⟨a, b⟩ := zrd_all hs i (fun i' hi' => h i' (by omega))
    obtain ⟨o1, o2, o3, o4, o5⟩ := h i (by omega)
    have h12 := hs.1.1.2.2.2.1.1
    refine ⟨gAll_gu a (by omega) (by omega) (by omega) (by unfold gBnd; omega), ?_⟩
    show gu _ _ _ 49 = _
    rw [gu_ne (by omega)]
    exact b
theorem x_apply {k fn i : Nat} {e : Nat} {x3 : Int32} {Q : Int32 → zz_T → Prop} (hs : sOK S) (X : RX σ S) (hk : k < 4) (hth : 0 < i → sth S k = true ∧ x3 = nI fn) (hi : i ≤ 20) (ho : ∀ i', i' < i → zrd_ok S k fn i') (hq : ∀ σ2 : zz_T, RX σ2 (sTorn (zrd_g S k fn i, S.2) e) → Q (nI i) σ2) : pX5_read_122 Q x3 (80 + 2 * k) (nI e) (nI i) σ := by
  have h12 := hs.1.1.2.2.2.1.1
  have loop : ∀ (j d : Nat) (σ1 : zz_T), d + j = i → RX σ1 (zrd_g S k fn d, S.2) → pX5_read_125 Q (j + 1) x3 (80 + 2 * k) (nI e) (nI i) (nI d) σ1 := by
    intro j
    induction j with
    | zero =>
      intro d σ1 hd X1
      obtain rfl : d = i := by omega
      have g := zrd_all hs d ho
      exact br_t (nI_le (Nat.le_refl _) (by omega)) (hq _ (RX_torn (hs.g g.1) X1))
    | succ j ih =>
      intro d σ1 hd X1
      obtain ⟨z1, z2⟩ := hth (by omega)
      have g := zrd_all hs d (fun i' hi' => ho i' (by omega))
      have g2 := zrd_all hs (d + 1) (fun i' hi' => ho i' (by omega))
      obtain ⟨o1, o2, o3, o4, o5⟩ := ho d (by omega)
      have l2 := (hs.2.2.2.2.1 k hk z1).2
      have cells := ((X1.2.2.2.1 k hk).2 z1).2.2
      have e1 : σ1.1 (80 + 2 * k + 1) (fn + 2 * d) = nI (zrd_a S k fn d) := by
        rw [show 80 + 2 * k + 1 = 81 + 2 * k by omega]
        exact (cells _ (by show fn + 2 * d < ssz S k; omega)).trans o2
      have e2 : σ1.1 (80 + 2 * k + 1) (fn + 2 * d + 1) = nI (zrd_b S k fn d) := by
        rw [show 80 + 2 * k + 1 = 81 + 2 * k by omega]
        exact (cells _ (by show fn + 2 * d + 1 < ssz S k; omega)).trans o4
      refine br_f (nI_ge (by omega) (by omega)) ?_
      have p2 : (2 : Int32) * nI d = nI (2 * d) := pk_mul 2 d
      rw [z2, p2, nI_add, nI_1, nI_1, nI_tn (n := fn + 2 * d) (by omega), nI_tn (n := fn + 2 * d + 1) (by omega), e1, e2, nI_tn (n := zrd_a S k fn d) (by omega)]
      refine ⟨vp_in_nI (by omega) (by decide), vp_in_nI (by omega) (by decide), vp_in_nI (by omega) (by decide), ?_⟩
      have s := RX_set (k := 37 + zrd_a S k fn d) (v := zrd_b S k fn d) (hs.g g.1) X1 (by omega) g2.1 (gLive_gu (by omega) (by omega) (by omega))
      rw [zloc_l (by omega)] at s
      have z := ih (d + 1) _ (by omega) s
      rw [z2] at z
      exact z
  exact ⟨i + 1, loop i 0 σ (by omega) X⟩
theorem b_read (hs : sOK S) (X : RX σ S) (M : RM τ S) (x1 x2 x3 x4 : Int32) : zBi (pX5_read x1 x2 x3 x4 σ) (pX6_read x1 x2 x3 x4 τ) := by
  have h12 := hs.1.1.2.2.2.1.1
  unfold pX5_read pX6_read
  by_cases h1 : zIn x1 0 3
  · by_cases h2 : zIn x2 0 2
    · by_cases h4 : zIn x4 0 20
      · obtain ⟨k, hk, rfl⟩ := (zIn_c (n := 3) (by omega)).mp h1
        obtain ⟨lane, hl, rfl⟩ := (zIn_c (n := 2) (by omega)).mp h2
        obtain ⟨n, hn, rfl⟩ := (zIn_c (n := 20) (by omega)).mp h4
        have vi : vp_in (nI k) 4 := vp_in_nI (by omega) (by decide)
        have tk : Int32.toNatClampNeg (nI k) = k := nI_tn (by omega)
        generalize hfn : x3.toInt.toNat = fn
        have main : ∀ (j i : Nat) (τ1 : zz_T), i + j = n → (∀ i', i' < i → zrd_ok S k fn i') → (0 < i → sth S k = true ∧ x3 = nI fn) → RM τ1 (zrd_g S k fn i, S.2) → (∀ j, j < 70 → τ1.1 16 j = τ.1 1 j) → ∃ (r : Int32) (S' : zSt), sOK S' ∧ (∃ m, pX5_read_46 (fun x s => x = r ∧ RX s S') m (nI lane) x3 (nI n) (80 + 2 * k) 0 (nI i) (nI i) σ) ∧ (∃ m, pX6_read_62 (fun x s => x = r ∧ RM s S') m (nI k) (nI lane) x3 (nI n) 0 (nI i) (nI i) τ1) := by
          intro j
          induction j with
          | zero =>
            intro i τ1 hi ok hth M1 h16
            obtain rfl : i = n := by omega
            have g := zrd_all hs i ok
            refine ⟨nI i, sTorn (zrd_g S k fn i, S.2) 0, sTorn_ok (hs.g g.1) (by omega), ⟨1, br_t (nI_le (Nat.le_refl _) (by omega)) (x_apply (e := 0) hs X (by omega) hth (by omega) ok (fun σ2 X2 => ⟨rfl, X2⟩))⟩, ⟨1, br_t (nI_le (Nat.le_refl _) (by omega)) ⟨rfl, RM_torn M1⟩⟩⟩
          | succ j ih =>
            intro i τ1 hi ok hth M1 h16
            have g := zrd_all hs i ok
            have ng : ¬ nI n ≤ nI i := nI_ge (by omega) (by omega)
            have hA : i = 0 ∨ (0 ≤ x3.toInt ∧ x3.toInt < 40) := by
              by_cases q : i = 0
              · exact Or.inl q
              · right
                obtain ⟨z1, z2⟩ := hth (by omega)
                have l2 := (hs.2.2.2.2.1 k (by omega) z1).2
                have o := (ok 0 (by omega)).1
                rw [z2, nI_i (by omega)]
                omega
            have hs1 : sOK (zrd_g S k fn i, S.2) := hs.g g.1
            generalize hE : zrd_E S k lane (x3.toInt + 2 * (i : Int)) = E
            have El : E ≤ 3 := by rw [← hE]; exact zrd_E_le _ _ _ _
            have hE1 : zrd_E (zrd_g S k fn i, S.2) k lane (x3.toInt + 2 * (i : Int)) = E := hE
            by_cases e0 : E = 0
            · -- both places are there
              subst e0
              have ee : zrd_e S k lane (x3.toInt + 2 * (i : Int)) = 0 ∧ zrd_e S k lane (x3.toInt + 2 * (i : Int) + 1) = 0 := by
                unfold zrd_E at hE
                by_cases q : zrd_e S k lane (x3.toInt + 2 * (i : Int)) = 0
                · rw [if_pos q] at hE; exact ⟨q, hE⟩
                · rw [if_neg q] at hE; exact absurd hE q
              obtain ⟨z1, z2, z3, z4⟩ := zrd_e0 ee.1
              obtain ⟨_, _, z5, z6⟩ := zrd_e0 ee.2
              obtain ⟨l1, l2⟩ := hs.2.2.2.2.1 k (by omega) z1
              have f0 : 0 ≤ x3.toInt := by
                rcases hA with q | q
                · subst q; simp at z3; omega
                · exact q.1
              have xf : x3 = nI fn := by
                rw [fa_eq, nI_i (by omega)]
                omega
              have lt : fn + 2 * i + 1 < ssz S k := by omega
              have p2 : (2 : Int32) * nI i = nI (2 * i) := pk_mul 2 i
              have cx := ((X.2.2.2.1 k (by omega)).2 z1).2.2
              have cm := ((M1.2.2.2.1 k (by omega)).2 z1).2
              have e1 : σ.1 (80 + 2 * k + 1) (fn + 2 * i) = sce S k (fn + 2 * i) := by
                rw [show 80 + 2 * k + 1 = 81 + 2 * k by omega]
                exact cx _ (by omega)
              have e2 : σ.1 (80 + 2 * k + 1) (fn + 2 * i + 1) = sce S k (fn + 2 * i + 1) := by
                rw [show 80 + 2 * k + 1 = 81 + 2 * k by omega]
                exact cx _ (by omega)
              have m1 : τ1.1 15 (40 * k + fn + 2 * i) = sce S k (fn + 2 * i) := by
                rw [show 40 * k + fn + 2 * i = 40 * k + (fn + 2 * i) by omega]
                exact cm _ (by show fn + 2 * i < ssz S k; omega)
              have m2 : τ1.1 15 (40 * k + fn + 2 * i + 1) = sce S k (fn + 2 * i + 1) := by
                rw [show 40 * k + fn + 2 * i + 1 = 40 * k + (fn + 2 * i + 1) by omega]
                exact cm _ (by show fn + 2 * i + 1 < ssz S k; omega)
              have cls : ∀ (r : Int32) (S' : zSt), (∃ m, pX5_lineRefused (sce S k (fn + 2 * i)) (sce S k (fn + 2 * i + 1)) σ (fun r101 s101 => ((r101 = 0 → pX5_read_116 (fun x s => x = r ∧ RX s S') (pX5_read_46 (fun x s => x = r ∧ RX s S') m) (nI lane) x3 (nI n) (80 + 2 * k) 0 (nI i + 1) (nI i) s101) ∧ (¬ r101 = 0 → (fun x s => x = r ∧ RX s S') ((-20) - nI i) s101)))) → ∃ m, pX5_read_46 (fun x s => x = r ∧ RX s S') m (nI lane) x3 (nI n) (80 + 2 * k) 0 (nI i) (nI i) σ := by
                rintro r S' ⟨m, hm⟩
                refine ⟨m + 1, br_f ng (br_t rfl (x_pair hs X (by omega) hl (by omega) hA ?_))⟩
                rw [hE]
                refine br_t rfl ?_
                have ix : x3 + 2 * nI i = nI (fn + 2 * i) := by rw [xf, p2, nI_add]
                rw [ix, nI_1, nI_tn (n := fn + 2 * i) (by omega), nI_tn (n := fn + 2 * i + 1) (by omega), e1, e2]
                exact ⟨vp_in_nI (by omega) (by decide), vp_in_nI (by omega) (by decide), hm⟩
              have ref : ∀ (r : Int32) (S' : zSt), (∃ m, pX6_set (sce S k (fn + 2 * i)) (sce S k (fn + 2 * i + 1)) τ1 (fun r199 s199 => ((0 ≤ r199 → pX6_read_244 (fun x s => x = r ∧ RM s S') (pX6_read_62 (fun x s => x = r ∧ RM s S') m) (nI k) (nI lane) x3 (nI n) 0 (nI i + 1) (nI i) s199) ∧ (¬ 0 ≤ r199 → ∃ n208, pX6_read_208 (fun x s => x = r ∧ RM s S') n208 (nI i) 0 s199)))) → ∃ m, pX6_read_62 (fun x s => x = r ∧ RM s S') m (nI k) (nI lane) x3 (nI n) 0 (nI i) (nI i) τ1 := by
                rintro r S' ⟨m, hm⟩
                refine ⟨m + 1, br_f ng (br_t rfl ⟨3, m_pair hs1 M1 (by omega) hl (by omega) ?_⟩)⟩
                rw [hE1]
                refine br_t rfl ?_
                have ix : 40 * nI k + x3 + 2 * nI i = nI (40 * k + fn + 2 * i) := by rw [xf, p2, show (40 : Int32) = nI 40 from rfl, pk_mul, nI_add, nI_add]
                rw [ix, nI_1, nI_tn (n := 40 * k + fn + 2 * i) (by omega), nI_tn (n := 40 * k + fn + 2 * i + 1) (by omega), m1, m2]
                exact ⟨vp_in_nI (by omega) (by decide), vp_in_nI (by omega) (by decide), hm⟩
              have restore : ∀ τ2 : zz_T, RM τ2 (zrd_g S k fn i, S.2) → (∀ j, j < 70 → τ2.1 16 j = τ.1 1 j) → ∃ n208, pX6_read_208 (fun x s => x = (-20) - nI i ∧ RM s S) n208 (nI i) 0 τ2 := by
                intro τ2 M2 h2
                have loop : ∀ (d e : Nat) (τ3 : zz_T), e + d = 70 → zz_but (fun q => q = 1) τ2 τ3 → (∀ j, j < e → τ3.1 1 j = τ.1 1 j) → (∀ j, 70 ≤ j → τ3.1 1 j = τ2.1 1 j) → pX6_read_208 (fun x s => x = (-20) - nI i ∧ RM s S) (d + 1) (nI i) (nI e) τ3 := by
                  intro d
                  induction d with
                  | zero =>
                    intro e τ3 he hb a1 a2
                    obtain rfl : e = 70 := by omega
                    refine br_t (by decide) ⟨rfl, M.1.kept hs.1.1 a1, ?_⟩
                    exact M2.2.keep (g := sg S) (fun q x => hb.1 q (by omega)) a2 (fun j x => by rw [hb.1 0 (by omega)])
                  | succ d ihd =>
                    intro e τ3 he hb a1 a2
                    refine br_f (by rw [show (70 : Int32) = nI 70 from rfl, nI_leI (by omega) (by omega)]; omega) ⟨vp_in_nI (by omega) (by decide), vp_in_nI (by omega) (by decide), ?_⟩
                    rw [nI_tn (by omega), nI_1]
                    refine ihd (e + 1) _ (by omega) (hb.i rfl) (fun j hj => ?_) (fun j hj => by rw [zi_j (by omega)]; exact a2 j hj)
                    by_cases q : j = e
                    · rw [q, zi_at, hb.1 16 (by omega)]
                      exact h2 e (by omega)
                    · rw [zi_j q]
                      exact a1 j (by omega)
                exact ⟨71, loop 70 0 τ2 (by omega) (zz_but.rf _ _) (fun j hj => by omega) (fun j hj => rfl)⟩
              have L1 : τ1.1 1 49 = nI (sg S 49) := by
                have := M1.1.1.2.1
                rw [← g.2]
                exact this
              by_cases c1 : zIn (sce S k (fn + 2 * i)) 0 (nI (sg S 49) - 1)
              · by_cases c2 : zIn (sce S k (fn + 2 * i + 1)) 0 255
                · obtain ⟨a, ha, ea⟩ := (zIn_n (by omega)).mp c1
                  obtain ⟨b, hb, eb⟩ := (zIn_c (n := 255) (by omega)).mp c2
                  have ta : zrd_a S k fn i = a := by unfold zrd_a; rw [ea, nI_tn (by omega)]
                  have tb : zrd_b S k fn i = b := by unfold zrd_b; rw [eb, nI_tn (by omega)]
                  have okn : ∀ i', i' < i + 1 → zrd_ok S k fn i' := fun i' hi' => by
                    by_cases q : i' = i
                    · rw [q]; exact ⟨lt, by rw [ta, ea], by omega, by rw [tb, eb], by omega⟩
                    · exact ok i' (by omega)
                  have g2 := zrd_all hs (i + 1) okn
                  have eg : zrd_g S k fn (i + 1) = gu (zrd_g S k fn i) (37 + a) b := by
                    show gu _ (37 + zrd_a S k fn i) (zrd_b S k fn i) = _
                    rw [ta, tb]
                  have g3 := g2.1
                  rw [eg] at g3
                  have s := RM_set (k := 37 + a) (v := b) hs1 M1 (by omega) g3 (gLive_gu (by omega) (by omega) (by omega))
                  have old : τ1.1 1 (37 + a) = nI (zrd_g S k fn i (37 + a)) := M1.1.2.2.1 a (by show a < zrd_g S k fn i 49; rw [g.2]; exact ha)
                  have ol := hs1.1.1.2.2.2.1.2 a (by show a < zrd_g S k fn i 49; rw [g.2]; exact ha)
                  have ol : zrd_g S k fn i (37 + a) < 256 := ol
                  obtain ⟨r, S', hs', ⟨m1', A⟩, ⟨m2', B⟩⟩ := ih (i + 1) (zz_i τ1 1 (37 + a) (nI b)) (by omega) okn (fun _ => ⟨z1, xf⟩) (by rw [eg]; exact s) (fun j hj => by rw [zi_k (by omega)]; exact h16 j hj)
                  refine ⟨r, S', hs', cls r S' ⟨m1', ?_⟩, ref r S' ⟨m2', ?_⟩⟩
                  · refine x_noLine_y X.1.1.2.1 c1 (br_t rfl (x_out_y c2 (br_t rfl ⟨zz_bo0, br_t rfl ?_⟩)))
                    unfold pX5_read_116
                    rw [nI_1]
                    exact A
                  · refine m_isLine_y L1 c1 (br_f (by decide) (m_in_y rfl rfl c2 (br_f (by decide) ?_)))
                    rw [ea, eb, show (37 : Int32) = nI 37 from rfl, nI_add]
                    refine m_becomes (by omega) ?_
                    rw [old]
                    refine br_t (by rw [fa_le, nI_i (by omega)]; show (0 : Int) ≤ _; omega) ?_
                    unfold pX6_read_244
                    rw [nI_1]
                    exact B
                · refine ⟨(-20) - nI i, S, hs, cls _ S ⟨0, ?_⟩, ref _ S ⟨0, ?_⟩⟩
                  · exact x_noLine_y X.1.1.2.1 c1 (br_t rfl (x_out_n c2 (br_f (by decide) ⟨zz_bo1, br_f (by decide) ⟨rfl, X⟩⟩)))
                  · exact m_isLine_y L1 c1 (br_f (by decide) (m_in_n rfl rfl c2 (br_t rfl (br_f (by decide) (restore τ1 M1 h16)))))
              · refine ⟨(-20) - nI i, S, hs, cls _ S ⟨0, ?_⟩, ref _ S ⟨0, ?_⟩⟩
                · exact x_noLine_n X.1.1.2.1 c1 (br_f (by decide) ⟨zz_bo1, br_f (by decide) ⟨rfl, X⟩⟩)
                · exact m_isLine_n L1 c1 (br_t rfl (br_f (by decide) (restore τ1 M1 h16)))
            · have ne : ¬ nI E = 0 := fun q => e0 ((nI_z (by omega)).mp q)
              refine ⟨nI i, sTorn (zrd_g S k fn i, S.2) E, sTorn_ok hs1 (by omega), ⟨2, br_f ng (br_t rfl (x_pair hs X (by omega) hl (by omega) hA ?_))⟩, ⟨2, br_f ng (br_t rfl ⟨3, m_pair hs1 M1 (by omega) hl (by omega) ?_⟩)⟩⟩
              · rw [hE]
                have fin := x_apply (e := E) (Q := fun x s => x = nI i ∧ RX s (sTorn (zrd_g S k fn i, S.2) E)) hs X (by omega) hth (by omega) ok (fun σ2 X2 => ⟨rfl, X2⟩)
                exact br_f ne ⟨fun _ => fin, fun _ => br_f ne fin⟩
              · rw [hE1]
                exact br_f ne ⟨fun _ => ⟨rfl, RM_torn M1⟩, fun _ => br_f ne ⟨rfl, RM_torn M1⟩⟩
        -- the copy
        have copy : ∃ τ2 : zz_T, zz_but (fun q => q = 16) τ τ2 ∧ (∀ j, j < 70 → τ2.1 16 j = τ.1 1 j) ∧ ∀ (Q : Int32 → zz_T → Prop), (∃ m, pX6_read_62 Q m (nI k) (nI lane) x3 (nI n) 0 0 0 τ2) → ∃ m, pX6_read_26 Q m (nI k) (nI lane) x3 (nI n) 0 τ := by
          have loop : ∀ (d e : Nat) (τ3 : zz_T), e + d = 70 → zz_but (fun q => q = 16) τ τ3 → (∀ j, j < e → τ3.1 16 j = τ.1 1 j) → ∃ τ2 : zz_T, zz_but (fun q => q = 16) τ τ2 ∧ (∀ j, j < 70 → τ2.1 16 j = τ.1 1 j) ∧ ∀ (Q : Int32 → zz_T → Prop), (∃ m, pX6_read_62 Q m (nI k) (nI lane) x3 (nI n) 0 0 0 τ2) → pX6_read_26 Q (d + 1) (nI k) (nI lane) x3 (nI n) (nI e) τ3 := by
            intro d
            induction d with
            | zero =>
              intro e τ3 he hb a1
              obtain rfl : e = 70 := by omega
              exact ⟨τ3, hb, a1, fun Q hQ => br_t (by decide) hQ⟩
            | succ d ihd =>
              intro e τ3 he hb a1
              obtain ⟨τ2, b1, b2, b3⟩ := ihd (e + 1) (zz_i τ3 16 e (τ3.1 1 e)) (by omega) (hb.i rfl) (fun j hj => by
                by_cases q : j = e
                · rw [q, zi_at, hb.1 1 (by omega)]
                · rw [zi_j q]
                  exact a1 j (by omega))
              refine ⟨τ2, b1, b2, fun Q hQ => br_f (by rw [show (70 : Int32) = nI 70 from rfl, nI_leI (by omega) (by omega)]; omega) ⟨vp_in_nI (by omega) (by decide), vp_in_nI (by omega) (by decide), ?_⟩⟩
              rw [nI_tn (by omega), nI_1]
              exact b3 Q hQ
          obtain ⟨τ2, b1, b2, b3⟩ := loop 70 0 τ (by omega) (zz_but.rf _ _) (fun j hj => by omega)
          exact ⟨τ2, b1, b2, fun Q hQ => ⟨71, b3 Q hQ⟩⟩
        obtain ⟨τ2, b1, b2, b3⟩ := copy
        obtain ⟨r, S', hs', A, B⟩ := main n 0 τ2 (by omega) (fun i' hi' => by omega) (fun q => by omega) (M.keep (mK.of b1.1 (fun q hq => by unfold mScr; omega) (fun j hj => by rw [b1.1 0 (by omega)]))) b2
        refine ⟨r, S', hs', x_noSheet_y h1 (br_t rfl (x_out_y h2 (br_t rfl (x_out_y h4 (br_t rfl ⟨vi, ?_⟩))))), m_in_y rfl rfl h1 (br_f (by decide) (m_in_y rfl rfl h2 (br_f (by decide) ⟨zz_bo1, br_f (by decide) (m_in_y rfl rfl h4 (br_f (by decide) (b3 _ B)))⟩)))⟩
        rw [tk]
        exact A
      · exact ⟨-1, S, hs, x_noSheet_y h1 (br_t rfl (x_out_y h2 (br_t rfl (x_out_n h4 (br_f (by decide) ⟨rfl, X⟩))))), m_in_y rfl rfl h1 (br_f (by decide) (m_in_y rfl rfl h2 (br_f (by decide) ⟨zz_bo1, br_f (by decide) (m_in_n rfl rfl h4 (br_t rfl ⟨rfl, M⟩))⟩)))⟩
    · exact ⟨-1, S, hs, x_noSheet_y h1 (br_t rfl (x_out_n h2 (br_f (by decide) ⟨rfl, X⟩))), m_in_y rfl rfl h1 (br_f (by decide) (m_in_n rfl rfl h2 (br_t rfl ⟨zz_bo0, br_t rfl ⟨rfl, M⟩⟩)))⟩
  · exact ⟨-1, S, hs, x_noSheet_n h1 (br_f (by decide) ⟨rfl, X⟩), m_in_n rfl rfl h1 (br_t rfl ⟨zz_bo0, br_t rfl ⟨rfl, M⟩⟩)⟩
end ZR
