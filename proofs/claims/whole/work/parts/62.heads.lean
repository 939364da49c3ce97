/-- how a line ends: a fault (code, place), or the draft, what is met, where to go on -/
abbrev zd_O : Type := (Nat × Nat) ⊕ ((Nat → Nat) × Nat × Nat)
def zd_P (n p : Nat) : zd_O → Prop
  | .inl a => 1 ≤ a.1 ∧ a.1 ≤ 5 ∧ a.2 ≤ n
  | .inr a => zd_ok a.1 a.2.1 ∧ p < a.2.2 ∧ a.2.2 ≤ n
def zd_C (σ : zz_T) (Q : Int32 → zz_T → Prop) : zd_O → Prop
  | .inl a => ∀ σ' : zz_T, zd_KX σ σ' → σ'.1 1 2 = nI a.1 → σ'.1 1 3 = nI a.2 → Q 0 σ'
  | .inr a => ∀ σ' : zz_T, zd_KX σ σ' → σ'.1 1 2 = σ.1 1 2 → σ'.1 1 6 = nI a.2.2 → zd_X σ' a.1 a.2.1 → Q 1 σ'
def zd_D (τ : zz_T) (n : Nat) (b : Nat → Nat) (Q : zz_T → Prop) : zd_O → Prop
  | .inl a => ∀ τ' : zz_T, zd_KM τ τ' → zt_F τ' a.1 a.2 → Q τ'
  | .inr a => ∀ τ' : zz_T, zd_KM τ τ' → (zt_R τ' n b a.2.2 ∨ (zt_ok b n a.2.2 = false ∧ zt_F τ' 1 (zt_f b n a.2.2))) → zd_M τ' a.1 a.2.1 → Q τ'
def zd_o (σ τ : zz_T) (n : Nat) (b : Nat → Nat) (o : zd_O) (C : (Int32 → zz_T → Prop) → Prop) (R : (zz_T → Prop) → Prop) : Prop := (∀ Q, zd_C σ Q o → C Q) ∧ (∀ Q, zd_D τ n b Q o → R Q)
/-- a number, then a stop -/
def zd_sp (b : Nat → Nat) (n p1 lo hi : Nat) (F : Nat → Nat → Nat) (M : Nat) : zd_O := if zt_ok b n p1 = true then (if zt_s b n p1 = 2 then (if lo ≤ zt_v b n p1 ∧ zt_v b n p1 ≤ hi then (if zt_ok b n (zt_e b n p1) = true then (if zt_s b n (zt_e b n p1) = 3 then .inr (F (zt_v b n p1), M, zt_e b n (zt_e b n p1)) else .inl (2, zt_f b n (zt_e b n p1))) else .inl (1, zt_f b n (zt_e b n p1))) else .inl (3, zt_f b n p1)) else .inl (2, zt_f b n p1)) else .inl (1, zt_f b n p1)
theorem zt_adv {b : Nat → Nat} {n p : Nat} (hp : p ≤ n) (h : zt_s b n p ≠ 0) : p < zt_e b n p := by
  have hf := zt_f_le (b := b) hp
  have nE : ¬ n ≤ zt_f b n p := fun z => h (by unfold zt_s; rw [if_pos z])
  unfold zt_e
  rw [if_neg nE]
  split
  · omega
  · have := zt_run_le (fun q => decide (zt_sort (b q) = zt_sort (b (zt_f b n p)))) (n - (zt_f b n p + 1)) (zt_f b n p + 1)
    omega
section ZD
variable {σ σ' τ τ' : zz_T} {n p : Nat} {b : Nat → Nat} {G : Nat → Nat} {M : Nat}
def zd_h (G : Nat → Nat) (c v : Nat) : Nat → Nat := gu (gu (gu G (11 * G 33) c) (11 * G 33 + 1) v) 33 (G 33 + 1)
theorem zd_h_ok {c v : Nat} (hG : zd_ok G M) (h3 : G 33 < 3) (hc : c ≤ 3) (hv : v ≤ 30) : zd_ok (zd_h G c v) M := by
  obtain ⟨⟨⟨a, b1, c1, d1, e1⟩, ⟨f1, f2⟩, f3⟩, g1, g2, g3, g4⟩ := hG
  have o : ∀ j, j ≠ 33 → j ≠ 11 * G 33 → j ≠ 11 * G 33 + 1 → zd_h G c v j = G j := fun j q1 q2 q3 => by unfold zd_h; rw [gu_ne q1, gu_ne q3, gu_ne q2]
  have o33 : zd_h G c v 33 = G 33 + 1 := by unfold zd_h; rw [gu_at]
  have o0 : zd_h G c v (11 * G 33) = c := by unfold zd_h; rw [gu_ne (by omega), gu_ne (by omega), gu_at]
  have o1 : zd_h G c v (11 * G 33 + 1) = v := by unfold zd_h; rw [gu_ne (by omega), gu_at]
  refine ⟨⟨⟨by omega, fun h hh => ?_, ?_, ?_, ?_⟩, ⟨fun h hh => ?_, ?_⟩, ?_⟩, ?_, ?_, fun j h1 h2 => ?_, g4.1, fun z => by rw [o 49 (by omega) (by omega) (by omega)]; exact g4.2 z⟩
  · rw [o33] at hh
    by_cases e : h = G 33
    · subst e; rw [o0, o1]; omega
    · rw [o _ (by omega) (by omega) (by omega), o _ (by omega) (by omega) (by omega)]; exact b1 h (by omega)
  · rw [o 34 (by omega) (by omega) (by omega), o 35 (by omega) (by omega) (by omega), o 36 (by omega) (by omega) (by omega)]; exact c1
  · rw [o 49 (by omega) (by omega) (by omega)]
    exact ⟨d1.1, fun i hi => by rw [o _ (by omega) (by omega) (by omega)]; exact d1.2 i hi⟩
  · rw [o 51 (by omega) (by omega) (by omega), g2]
    exact ⟨by omega, fun i hi => by omega⟩
  · rw [o33] at hh
    unfold gF0 gW0
    by_cases e : h = G 33
    · subst e
      refine ⟨by rw [o _ (by omega) (by omega) (by omega), g3 _ (by omega) (by omega)]; omega, fun d hd => by rw [o _ (by omega) (by omega) (by omega), g3 _ (by omega) (by omega)]; omega⟩
    · have q := f1 h (by omega)
      unfold gF0 gW0 at q
      refine ⟨by rw [o _ (by omega) (by omega) (by omega)]; exact q.1, fun d hd => by rw [o _ (by omega) (by omega) (by omega)]; exact q.2 d hd⟩
  · rw [o 50 (by omega) (by omega) (by omega)]; exact f2
  · rw [o 50 (by omega) (by omega) (by omega)]; exact f3
  · rw [o 50 (by omega) (by omega) (by omega)]; exact g1
  · rw [o 51 (by omega) (by omega) (by omega)]; exact g2
  · rw [o33] at h1
    rw [o _ (by omega) (by omega) (by omega)]
    exact g3 j (by omega) h2
/-- the class notes a head -/
theorem zd_h_X {c v : Nat} (hG : zd_ok G M) (h3 : G 33 < 3) (X : zd_X σ G M) (k1 : ∀ q, q ≠ 20 → q ≠ 28 + 3 * G 33 → q ≠ 28 + 3 * G 33 + 1 → σ'.1 q = σ.1 q) (k2 : σ'.1 20 5 = σ.1 20 5 ∧ σ'.1 20 6 = σ.1 20 6) (k3 : σ'.1 20 4 = nI (G 33 + 1)) (k4 : σ'.1 (28 + 3 * G 33) 2 = nI c ∧ σ'.1 (28 + 3 * G 33) 3 = nI v ∧ σ'.1 (28 + 3 * G 33) 4 = 0) (k5 : ∀ d, d < 8 → σ'.1 (28 + 3 * G 33 + 1) d = 0) : zd_X σ' (zd_h G c v) M := by
  obtain ⟨⟨⟨a1, a2, a3⟩, ⟨b1, b2, b3⟩, c1, ⟨d1, d2⟩, e⟩, m⟩ := X
  obtain ⟨_, g1, g2, g3, _⟩ := hG
  have o : ∀ j, j ≠ 33 → j ≠ 11 * G 33 → j ≠ 11 * G 33 + 1 → zd_h G c v j = G j := fun j q1 q2 q3 => by unfold zd_h; rw [gu_ne q1, gu_ne q3, gu_ne q2]
  have o33 : zd_h G c v 33 = G 33 + 1 := by unfold zd_h; rw [gu_at]
  have o0 : zd_h G c v (11 * G 33) = c := by unfold zd_h; rw [gu_ne (by omega), gu_ne (by omega), gu_at]
  have o1 : zd_h G c v (11 * G 33 + 1) = v := by unfold zd_h; rw [gu_ne (by omega), gu_at]
  refine ⟨⟨⟨by rw [k3, o33], by rw [k2.1, o 49 (by omega) (by omega) (by omega)]; exact a2, by rw [k2.2, o 50 (by omega) (by omega) (by omega)]; exact a3⟩, ⟨?_, ?_, ?_⟩, fun i hi => ?_, ⟨?_, fun i hi => ?_⟩, fun h hh => ?_⟩, ?_⟩
  · rw [k1 23 (by omega) (by omega) (by omega), o 34 (by omega) (by omega) (by omega)]; exact b1
  · rw [k1 23 (by omega) (by omega) (by omega), o 35 (by omega) (by omega) (by omega)]; exact b2
  · rw [k1 23 (by omega) (by omega) (by omega), o 36 (by omega) (by omega) (by omega)]; exact b3
  · rw [o 49 (by omega) (by omega) (by omega)] at hi
    rw [k1 22 (by omega) (by omega) (by omega), o _ (by omega) (by omega) (by omega)]; exact c1 i hi
  · rw [k1 24 (by omega) (by omega) (by omega), o 51 (by omega) (by omega) (by omega)]; exact d1
  · rw [o 51 (by omega) (by omega) (by omega), g2] at hi
    omega
  · rw [o33] at hh
    by_cases q : h = G 33
    · subst q
      refine ⟨by rw [o0]; exact k4.1, by rw [o1]; exact k4.2.1, ?_, fun d hd => ?_⟩
      · show _ = nI (zd_h G c v (11 * G 33 + 2))
        have z := g3 (11 * G 33 + 2) (by omega) (by omega)
        rw [o _ (by omega) (by omega) (by omega), z]
        exact k4.2.2
      · show _ = nI (zd_h G c v (11 * G 33 + 3 + d))
        have z := g3 (11 * G 33 + 3 + d) (by omega) (by omega)
        rw [o _ (by omega) (by omega) (by omega), z]
        exact k5 d hd
    · obtain ⟨y0, y1, y2, y3⟩ := e h (by omega)
      refine ⟨?_, ?_, ?_, fun d hd => ?_⟩
      · rw [k1 (20 + 8 + 3 * h) (by omega) (by omega) (by omega), o _ (by omega) (by omega) (by omega)]; exact y0
      · rw [k1 (20 + 8 + 3 * h) (by omega) (by omega) (by omega), o _ (by omega) (by omega) (by omega)]; exact y1
      · show _ = nI (zd_h G c v (11 * h + 2))
        rw [k1 (20 + 8 + 3 * h) (by omega) (by omega) (by omega), o _ (by omega) (by omega) (by omega)]; exact y2
      · show _ = nI (zd_h G c v (11 * h + 3 + d))
        rw [k1 (20 + 8 + 3 * h + 1) (by omega) (by omega) (by omega), o _ (by omega) (by omega) (by omega)]; exact y3 d hd
  · rw [k1 1 (by omega) (by omega) (by omega)]; exact m
theorem zd_head {c p1 : Nat} (hG : zd_ok G M) (h3 : G 33 < 3) (hc : c ≤ 3) (T : zt_T σ n b) (U : zt_U τ n b) (hp1 : p1 ≤ n) (x6 : σ.1 1 6 = nI p1) (X : zd_X σ G M) (t11 : τ.1 0 11 = 0) (t7 : τ.1 0 7 = nI p1) (D : zd_M τ G M) : zd_o σ τ n b (zd_sp b n p1 0 30 (zd_h G c) M) (pX4_readHead 1 20 (nI c) σ) (fun Q => pX6_readLine_95 Q (nI c) τ) := by
  have n160 := T.2.1
  have hf1 := zt_f_le (b := b) hp1
  have he1 := zt_e_le (b := b) hp1
  have hf2 := zt_f_le (b := b) he1.2
  have he2 := zt_e_le (b := b) he1.2
  have hx4 : σ.1 20 4 = nI (G 33) := X.1.1.1
  have lt3 : σ.1 20 4 < 3 := by rw [hx4]; exact (nI_ltI (b := 3) (by omega) (by omega)).mpr h3
  have ix0 : (11 : Int32) * nI (G 33) + 0 = nI (11 * G 33) := by rw [show (11 : Int32) = nI 11 from rfl, pk_mul]; exact nI_add _ 0
  have ix1 : (11 : Int32) * nI (G 33) + 1 = nI (11 * G 33 + 1) := by rw [show (11 : Int32) = nI 11 from rfl, pk_mul, nI_1]
  have t33 : Int32.toNatClampNeg 33 = 33 := rfl
  have ne7 : ¬ nI c = 7 := fun z => by have := (nI_eq (b := 7) (by omega) (by omega)).mp z; omega
  have lt4 : nI c < 4 := (nI_ltI (b := 4) (by omega) (by omega)).mpr (by omega)
  by_cases k1 : zt_ok b n p1 = true
  · -- the reference, up to the number
    have ref : ∀ (Q : zz_T → Prop), (zt_s b n p1 ≠ 2 → ∀ τ' : zz_T, zd_KM τ τ' → zt_F τ' 2 (zt_f b n p1) → Q τ') → (zt_s b n p1 = 2 → ¬ (0 ≤ zt_v b n p1 ∧ zt_v b n p1 ≤ 30) → ∀ τ' : zz_T, zd_KM τ τ' → zt_F τ' 3 (zt_f b n p1) → Q τ') → (zt_s b n p1 = 2 → (0 ≤ zt_v b n p1 ∧ zt_v b n p1 ≤ 30) → ∀ τ' : zz_T, zd_KM τ τ' → zd_M τ' (zd_h G c (zt_v b n p1)) M → (zt_R τ' n b (zt_e b n p1) ∨ (zt_ok b n (zt_e b n p1) = false ∧ zt_F τ' 1 (zt_f b n (zt_e b n p1)))) → ((τ'.1 0 11 = 0 → ((τ'.1 0 9 = 3 → pX6_readLine_133 Q 1 τ') ∧ (¬ τ'.1 0 9 = 3 → pX6_readLine_133 Q 0 τ'))) ∧ (¬ τ'.1 0 11 = 0 → pX6_readLine_137 Q τ'))) → pX6_readLine_95 Q (nI c) τ := by
      intro Q q2 q3 qy
      refine m_95 U hp1 t11 t7 (fun z => by rw [k1] at z; cases z) (fun _ τ1 y1 R1 => ?_)
      have e33 : τ1.1 4 33 = nI (G 33) := by rw [y1.1 4 (by omega)]; exact D.1 33 (by omega)
      have e33' : (zz_i τ1 4 (11 * G 33) (nI c)).1 4 33 = nI (G 33) := by rw [zi_j (by omega)]; exact e33
      unfold pX6_readLineOf
      refine br_f ne7 (br_t lt4 ?_)
      rw [t33, e33, ix0, nI_tn (n := 11 * G 33) (by omega), e33', ix1, nI_tn (n := 11 * G 33 + 1) (by omega)]
      refine ⟨vp_in_nI (n := 33) (by decide) (by decide), vp_in_nI (by omega) (by decide), vp_in_nI (n := 33) (by decide) (by decide), ?_⟩
      have kk : zd_KM τ (zz_i τ1 4 (11 * G 33) (nI c)) := y1.k.i (by omega)
      have U1 := U.kk kk
      have R1' : zt_R (zz_i τ1 4 (11 * G 33) (nI c)) n b p1 := by
        unfold zt_R
        rw [zi_k (by omega)]
        exact R1
      have fin : ∀ (v : Nat) (τ2 : zz_T), zt_M (zz_i τ1 4 (11 * G 33) (nI c)) τ2 → zd_KM τ (zz_i (zz_i τ2 4 (11 * G 33 + 1) (nI v)) 4 33 ((zz_i τ2 4 (11 * G 33 + 1) (nI v)).1 4 33 + 1)) := fun v τ2 y2 => ((kk.tr y2.k).i (by omega)).i (by omega)
      have vps : ∀ P : Prop, P → vp_in (nI (11 * G 33 + 1)) 70 ∧ vp_in 33 70 ∧ vp_in 33 70 ∧ P := fun P hP => ⟨vp_in_nI (by omega) (by decide), vp_in_nI (n := 33) (by decide) (by decide), vp_in_nI (n := 33) (by decide) (by decide), hP⟩
      have flt : ∀ (cc ff v : Nat) (τ2 : zz_T), 0 < cc → cc ≤ 5 → zt_M (zz_i τ1 4 (11 * G 33) (nI c)) τ2 → zt_F τ2 cc ff → (∀ τ' : zz_T, zd_KM τ τ' → zt_F τ' cc ff → Q τ') → (fun s109 : zz_T => ((s109.1 0 11 = 0 → ((s109.1 0 9 = 3 → pX6_readLine_133 Q 1 s109) ∧ (¬ s109.1 0 9 = 3 → pX6_readLine_133 Q 0 s109))) ∧ (¬ s109.1 0 11 = 0 → pX6_readLine_137 Q s109))) (zz_i (zz_i τ2 4 (11 * G 33 + 1) (nI v)) 4 33 ((zz_i τ2 4 (11 * G 33 + 1) (nI v)).1 4 33 + 1)) := by
        intro cc ff v τ2 h0 h5 y2 F hQ
        have F' : zt_F (zz_i (zz_i τ2 4 (11 * G 33 + 1) (nI v)) 4 33 ((zz_i τ2 4 (11 * G 33 + 1) (nI v)).1 4 33 + 1)) cc ff := by
          unfold zt_F
          rw [zi_k (by omega), zi_k (by omega)]
          exact F
        exact br_f (by rw [F'.1]; exact fun z => by have := (nI_z (by omega)).mp z; omega) (m_reads_f F'.1 h0 h5 (hQ _ (fin v τ2 y2) F'))
      refine m_num (lo := 0) (hi := 30) U1 hp1 R1' (by omega) (by omega) (fun e τ2 y2 F => vps _ (flt 2 _ 0 τ2 (by omega) (by omega) y2 F (q2 e))) (fun e r τ2 y2 F => vps _ (flt 3 _ 0 τ2 (by omega) (by omega) y2 F (q3 e r))) (fun e r τ2 y2 d => vps _ (qy e r _ (fin _ τ2 y2) ?_ ?_))
      · refine ⟨fun j hj => ?_, fun r hr => ?_⟩
        · unfold zd_h
          by_cases j33 : j = 33
          · subst j33
            rw [zi_at, gu_at, zi_j (by omega), y2.1 4 (by omega), e33', nI_1]
          · rw [zi_j j33, gu_ne j33]
            by_cases j1 : j = 11 * G 33 + 1
            · rw [j1, zi_at, gu_at]
            · rw [zi_j j1, gu_ne j1, y2.1 4 (by omega)]
              by_cases j0 : j = 11 * G 33
              · rw [j0, zi_at, gu_at]
              · rw [zi_j j0, gu_ne j0, y1.1 4 (by omega)]
                exact D.1 j hj
        · rw [zi_k (by omega), zi_k (by omega), y2.1 5 (by omega), zi_k (by omega), y1.1 5 (by omega)]
          exact D.2 r hr
      · unfold zt_R zt_F
        rw [zi_k (by omega), zi_k (by omega)]
        exact d
    by_cases s2 : zt_s b n p1 = 2
    · by_cases rg : zt_v b n p1 ≤ 30
      · have adv1 := zt_adv hp1 (show zt_s b n p1 ≠ 0 by omega)
        -- the class, up to the stop
        have cls : ∀ (Q : Int32 → zz_T → Prop), (∀ σ' : zz_T, zd_KX σ σ' → σ'.1 1 2 = σ.1 1 2 → σ'.1 1 6 = nI (zt_e b n p1) → zd_X σ' (zd_h G c (zt_v b n p1)) M → pX4_stepTo 1 3 σ' (fun r63 s63 => (zz_bo r63 ∧ Q r63 s63))) → pX4_readHead 1 20 (nI c) σ Q := by
          intro Q hQ
          refine br_t lt3 (x_stepTo (d := 2) T hp1 (by omega) x6 (fun _ _ σ1 y1 a2 a4 a5 a6 => br_f (by decide) ?_) (fun z => by rw [k1] at z; cases z) (fun _ z => absurd s2 z))
          have T1 := T.kept y1
          refine x_take (lo := 0) (hi := 30) T1 hp1 (by omega) (by omega) k1 s2 a5 a6 (fun _ σ2 y2 y3 a7 => br_f (by decide) ?_) (fun z => absurd ⟨Nat.zero_le _, rg⟩ z)
          have e4 : σ2.1 20 4 = nI (G 33) := by rw [y2 20 (by omega), y1.1 20 (by omega)]; exact hx4
          rw [e4, a7, nI_tn (by omega)]
          refine ⟨vp_in_nI (by omega) (by decide), ?_⟩
          show pX0_begin (28 + 3 * G 33) _ _ _ _
          unfold pX0_begin
          refine x_fill (by omega) (fun σ3 hb3 z3 => ?_)
          have e4' : σ3.1 20 4 = nI (G 33) := by rw [hb3.1 20 (by omega), zi_k (by omega), zi_k (by omega), zi_k (by omega)]; exact e4
          dsimp only
          rw [e4', nI_1]
          have far : ∀ q, q ≠ 1 → q ≠ 20 → q ≠ 28 + 3 * G 33 → q ≠ 28 + 3 * G 33 + 1 → (zz_i σ3 20 4 (nI (G 33 + 1))).1 q = σ.1 q := fun q h1 h2 h3 h4 => by
            rw [zi_k h2, hb3.1 q h4, zi_k h3, zi_k h3, zi_k h3, y2 q h1, y1.1 q h1]
          have c1e : (zz_i σ3 20 4 (nI (G 33 + 1))).1 1 = σ2.1 1 := by
            rw [zi_k (by omega), hb3.1 1 (by omega), zi_k (by omega), zi_k (by omega), zi_k (by omega)]
          refine hQ _ ⟨fun q h1 h2 => far q h1 (by omega) (by omega) (by omega), ?_⟩ ?_ ?_ ?_
          · rw [c1e, y3 1 (by omega), y1.2 1 (by omega)]
          · rw [c1e, y3 2 (by omega)]; exact a2
          · rw [c1e, y3 6 (by omega)]; exact a6
          · have X2 : zd_X σ2 G M := X.kept (by omega) (fun q h => by rw [y2 q h, y1.1 q h]) (by rw [y3 8 (by omega), y1.2 8 (by omega)])
            refine zd_h_X hG h3 X2 (fun q h1 h2 h4 => ?_) ⟨?_, ?_⟩ (by rw [zi_at]) ⟨?_, ?_, ?_⟩ (fun d hd => ?_)
            · rw [zi_k h1, hb3.1 q h4, zi_k h2, zi_k h2, zi_k h2]
            · rw [zi_j (by omega), hb3.1 20 (by omega), zi_k (by omega), zi_k (by omega), zi_k (by omega)]
            · rw [zi_j (by omega), hb3.1 20 (by omega), zi_k (by omega), zi_k (by omega), zi_k (by omega)]
            · rw [zi_k (by omega), hb3.1 _ (by omega), zi_j (by omega), zi_j (by omega), zi_at]
            · rw [zi_k (by omega), hb3.1 _ (by omega), zi_j (by omega), zi_at]
            · rw [zi_k (by omega), hb3.1 _ (by omega), zi_at]
            · rw [zi_k (by omega)]
              exact z3 d hd
        have okG := zd_h_ok (c := c) (v := zt_v b n p1) hG h3 hc rg
        by_cases k2 : zt_ok b n (zt_e b n p1) = true
        · by_cases s3 : zt_s b n (zt_e b n p1) = 3
          · have adv2 := zt_adv he1.2 (show zt_s b n (zt_e b n p1) ≠ 0 by omega)
            unfold zd_sp
            rw [if_pos k1, if_pos s2, if_pos ⟨Nat.zero_le _, rg⟩, if_pos k2, if_pos s3]
            refine ⟨fun Q hQ => cls Q (fun σ1 y1 a2 a6 X1 => ?_), fun Q hQ => ref Q (fun z => absurd s2 z) (fun _ z => absurd ⟨Nat.zero_le _, rg⟩ z) (fun _ _ τ1 y1 D1 d => ?_)⟩
            · refine x_stepTo (d := 3) (T.kk y1) he1.2 (by omega) a6 (fun _ _ σ2 y2 b2 b4 b5 b6 => ⟨zz_bo1, hQ σ2 (y1.tr y2.k) (by rw [b2]; exact a2) b6 (X1.kept okG.1.1.1 y2.1 (y2.2 8 (by omega)))⟩) (fun z => by rw [k2] at z; cases z) (fun _ z => absurd s3 z)
            · exact m_stop (U.kk y1) he1.2 d (fun z => by rw [k2] at z; cases z) (fun _ z => absurd s3 z) (fun _ _ τ2 y2 d2 => hQ τ2 (y1.tr y2.k) d2 (D1.kept (y2.1 4 (by omega)) (y2.1 5 (by omega))))
          · unfold zd_sp
            rw [if_pos k1, if_pos s2, if_pos ⟨Nat.zero_le _, rg⟩, if_pos k2, if_neg s3]
            refine ⟨fun Q hQ => cls Q (fun σ1 y1 a2 a6 X1 => ?_), fun Q hQ => ref Q (fun z => absurd s2 z) (fun _ z => absurd ⟨Nat.zero_le _, rg⟩ z) (fun _ _ τ1 y1 D1 d => ?_)⟩
            · exact x_stepTo (d := 3) (T.kk y1) he1.2 (by omega) a6 (fun _ z => absurd z s3) (fun z => by rw [k2] at z; cases z) (fun _ _ σ2 y2 b2 b3 => ⟨zz_bo0, hQ σ2 (y1.tr y2.k) b2 b3⟩)
            · exact m_stop (U.kk y1) he1.2 d (fun z => by rw [k2] at z; cases z) (fun _ _ τ2 y2 F => hQ τ2 (y1.tr y2.k) F) (fun _ z => absurd z s3)
        · have k2 : zt_ok b n (zt_e b n p1) = false := by cases hz : zt_ok b n (zt_e b n p1) with | false => rfl | true => exact absurd hz k2
          unfold zd_sp
          rw [if_pos k1, if_pos s2, if_pos ⟨Nat.zero_le _, rg⟩, if_neg (fun z => by rw [k2] at z; cases z)]
          refine ⟨fun Q hQ => cls Q (fun σ1 y1 a2 a6 X1 => ?_), fun Q hQ => ref Q (fun z => absurd s2 z) (fun _ z => absurd ⟨Nat.zero_le _, rg⟩ z) (fun _ _ τ1 y1 D1 d => ?_)⟩
          · exact x_stepTo (d := 3) (T.kk y1) he1.2 (by omega) a6 (fun z => by rw [k2] at z; cases z) (fun _ σ2 y2 b2 b3 => ⟨zz_bo0, hQ σ2 (y1.tr y2.k) b2 b3⟩) (fun z => by rw [k2] at z; cases z)
          · exact m_stop (U.kk y1) he1.2 d (fun _ F => hQ τ1 y1 F) (fun z => by rw [k2] at z; cases z) (fun z => by rw [k2] at z; cases z)
      · unfold zd_sp
        rw [if_pos k1, if_pos s2, if_neg (fun z => rg z.2)]
        refine ⟨fun Q hQ => ?_, fun Q hQ => ref Q (fun z => absurd s2 z) (fun _ _ τ1 y1 F => hQ τ1 y1 F) (fun _ z => absurd z.2 rg)⟩
        refine br_t lt3 (x_stepTo (d := 2) T hp1 (by omega) x6 (fun _ _ σ1 y1 a2 a4 a5 a6 => br_f (by decide) ?_) (fun z => by rw [k1] at z; cases z) (fun _ z => absurd s2 z))
        have T1 := T.kept y1
        refine x_take (lo := 0) (hi := 30) T1 hp1 (by omega) (by omega) k1 s2 a5 a6 (fun z => absurd z.2 rg) (fun _ σ2 y2 y3 b2 b3 => br_t rfl ⟨zz_bo0, hQ σ2 ⟨fun q h1 _ => by rw [y2 q h1, y1.1 q h1], by rw [y3 1 (by omega) (by omega) (by omega), y1.2 1 (by omega)]⟩ b2 b3⟩)
    · unfold zd_sp
      rw [if_pos k1, if_neg s2]
      refine ⟨fun Q hQ => ?_, fun Q hQ => ref Q (fun _ τ1 y1 F => hQ τ1 y1 F) (fun z => absurd z s2) (fun z => absurd z s2)⟩
      exact br_t lt3 (x_stepTo (d := 2) T hp1 (by omega) x6 (fun _ z => absurd z s2) (fun z => by rw [k1] at z; cases z) (fun _ _ σ1 y1 b2 b3 => br_t rfl ⟨zz_bo0, hQ σ1 y1.k b2 b3⟩))
  · have k1 : zt_ok b n p1 = false := by cases hz : zt_ok b n p1 with | false => rfl | true => exact absurd hz k1
    unfold zd_sp
    rw [if_neg (fun z => by rw [k1] at z; cases z)]
    refine ⟨fun Q hQ => ?_, fun Q hQ => m_95 U hp1 t11 t7 (fun _ τ1 y1 F => hQ τ1 y1.k F) (fun z => by rw [k1] at z; cases z)⟩
    exact br_t lt3 (x_stepTo (d := 2) T hp1 (by omega) x6 (fun z => by rw [k1] at z; cases z) (fun _ σ1 y1 b2 b3 => br_t rfl ⟨zz_bo0, hQ σ1 y1.k b2 b3⟩) (fun z => by rw [k1] at z; cases z))
end ZD
