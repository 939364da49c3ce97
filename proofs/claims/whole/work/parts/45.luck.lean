def zo_pw (k i : Nat) : Bool := !(k.testBit i)
section ZL
variable {S : zSt} {σ τ τ1 : zz_T}
theorem x_wrongWithout {g : Nat → Nat} {F : Nat → Nat → Nat} {Wr : Nat → Nat} {r n k : Nat} {σ1 : zz_T} {Q : Int32 → zz_T → Prop} (hg : gOK g) (hd : gDY g F Wr r) (hr : r < 100000) (hn : n ≤ 6) (hk : k < 2 ^ n) (hc : cK σ σ1) (N : px_dy σ1 3 g F Wr r) (hq : ∀ σ2 : zz_T, cK σ σ2 → Q (nI (gN g (gRp g r (zo_pw k)) F n)) σ2) : pX5_wrongWithout (nI n) (nI k) σ1 Q := by
  have k64 : 2 ^ n ≤ 2 ^ 6 := Nat.pow_le_pow_right (by omega) hn
  have loop : ∀ (j i : Nat) (σ2 : zz_T), i + j = n → TrialAt σ g (gRp g r (zo_pw k)) F Wr r i σ2 → pX5_wrongWithout_16 Q (j + 1) (nI n) (nI k) (nI (gN g (gRp g r (zo_pw k)) F i)) (nI i) σ2 := by
    intro j
    induction j with
    | zero =>
      intro i σ2 hi T
      obtain rfl : i = n := by omega
      exact br_t (nI_le (Nat.le_refl _) (by omega)) (hq σ2 T.1)
    | succ j ih =>
      intro i σ2 hi T
      refine br_f (nI_ge (by omega) (by omega)) ?_
      have key : pX5_wrongWithout_41 Q (pX5_wrongWithout_16 Q (j + 1)) (nI n) (nI k) (nI i) (nI (gN g (gRp g r (zo_pw k)) F i)) (if zo_pw k i then 1 else 0) σ2 := by
        unfold pX5_wrongWithout_41
        refine x_trial_step hg hd hr (by omega) T (fun σ3 T3 _ _ => ?_)
        rw [nI_add, nI_1]
        exact ih (i + 1) σ3 (by omega) T3
      rw [zb_1 k (by omega) i (by omega)]
      unfold zo_pw at key
      revert key
      cases k.testBit i
      · intro key; exact br_t rfl key
      · intro key; exact br_f (by decide) key
  unfold pX5_wrongWithout
  exact x_trial_0 hg N (fun σ2 hc2 P2 => ⟨n + 1, loop n 0 σ2 (by omega) ⟨hc.tr hc2, P2⟩⟩)
theorem x_loneIsRight {g : Nat → Nat} {F : Nat → Nat → Nat} {Wr : Nat → Nat} {r n k h : Nat} {σ1 : zz_T} {Q : Int32 → zz_T → Prop} (hg : gOK g) (hd : gDY g F Wr r) (hr : r < 100000) (hh : h < g 33) (hn : n ≤ 6) (hk : k < 2 ^ n) (hc : cK σ σ1) (N : px_dy σ 3 g F Wr r) (hq : ∀ σ2 : zz_T, cK σ σ2 → Q (if fb_sm (hE g h (gRp g r (zo_pw k)) (F h)) n = 0 then 1 else 0) σ2) : pX5_loneIsRight (nI h) (nI n) (nI k) σ1 Q := by
  have h3 := hg.1
  have k64 : 2 ^ n ≤ 2 ^ 6 := Nat.pow_le_pow_right (by omega) hn
  have loop : ∀ (j i : Nat) (σ2 : zz_T), i + j = n → fb_sm (hE g h (gRp g r (zo_pw k)) (F h)) i = 0 → LoneAt σ g h (hF g h (gRp g r (zo_pw k)) (F h) i) σ2 → pX5_loneIsRight_19 Q (j + 1) (nI n) (nI k) (nI i) σ2 := by
    intro j
    induction j with
    | zero =>
      intro i σ2 hi h0 L
      obtain rfl : i = n := by omega
      have q := hq σ2 L.1
      rw [if_pos h0] at q
      exact br_t (nI_le (Nat.le_refl _) (by omega)) ⟨zz_bo1, q⟩
    | succ j ih =>
      intro i σ2 hi h0 L
      refine br_f (nI_ge (by omega) (by omega)) ?_
      have key : pX5_loneIsRight_42 Q (pX5_loneIsRight_19 Q (j + 1)) (nI n) (nI k) (nI i) (nI i) (if zo_pw k i then 1 else 0) σ2 := by
        unfold pX5_loneIsRight_42
        refine x_lone_step hg (gSim.rf hg) hr (by omega) hh N L (fun σ3 L3 => ?_)
        refine px_wantedIn hg (by omega) (xP_cK hg N L3.1) (by omega) ?_
        have eE : hE g h (gRp g r (zo_pw k)) (F h) i = 0 ↔ hB g h (gRp g r (zo_pw k)) (F h) i = gL g (r + i) := gE_0 (gL_lt hg _)
        have lB : hB g h (gRp g r (zo_pw k)) (F h) i < 256 := gB_lt _ _ _ _ _ _
        have lL := gL_lt hg (r + i)
        have es : fb_sm (hE g h (gRp g r (zo_pw k)) (F h)) (i + 1) = fb_sm (hE g h (gRp g r (zo_pw k)) (F h)) i + hE g h (gRp g r (zo_pw k)) (F h) i := rfl
        by_cases hB0 : hB g h (gRp g r (zo_pw k)) (F h) i = gL g (r + i)
        · refine br_t (by rw [hB0]) ?_
          rw [nI_1]
          have := eE.mpr hB0
          exact ih (i + 1) σ3 (by omega) (by omega) L3
        · refine br_f (fun q => hB0 ((nI_eq (by omega) (by omega)).mp q)) ⟨zz_bo0, ?_⟩
          have q := hq σ3 L3.1
          have m := fb_sm_mono (hE g h (gRp g r (zo_pw k)) (F h)) (i + 1) (n - (i + 1))
          rw [show i + 1 + (n - (i + 1)) = n by omega] at m
          have ne : ¬ hE g h (gRp g r (zo_pw k)) (F h) i = 0 := fun z => hB0 (eE.mp z)
          rw [if_neg (by omega)] at q
          exact q
      rw [zb_1 k (by omega) i (by omega)]
      unfold zo_pw at key
      revert key
      cases k.testBit i
      · intro key; exact br_t rfl key
      · intro key; exact br_f (by decide) key
  unfold pX5_loneIsRight
  refine ⟨vp_in_nI (by omega) (by decide), ?_⟩
  rw [nI_tn (by omega)]
  refine x_lone_0 hg hd hh (xP_cK hg N hc) (fun σ2 L => ⟨n + 1, loop n 0 σ2 (by omega) rfl ⟨hc.tr L.1, L.2⟩⟩)
/-- sums of weights -/
def zo_R (g : Nat → Nat) (k : Nat) : Nat → zRow := gRp g (g 50) (zo_pw k)
def zo_wr (g : Nat → Nat) (n k : Nat) : Nat := gN g (zo_R g k) (gF0 g) n
def zo_ri (g : Nat → Nat) (n h k : Nat) : Bool := decide (fb_sm (hE g h (zo_R g k) (gF0 g h)) n = 0)
def zo_s (g : Nat → Nat) (v n : Nat) (c : Option Nat) (k : Nat) : Nat := match c with
  | none => zo_w v k n * zo_wr g n k
  | some h => if zo_ri g n h k then zo_w v k n else 0
theorem zo_s_le {g : Nat → Nat} {v n k : Nat} {c : Option Nat} (h3 : g 33 ≤ 3) (hv : v ≤ 10) (hn : n ≤ 6) : zo_s g v n c k ≤ 1000000 * 144 := by
  have a := zo_w_le hv k n
  have b : 10 ^ n ≤ 10 ^ 6 := Nat.pow_le_pow_right (by omega) hn
  cases c with
  | none =>
    have d := gN_le h3 (zo_R g k) (gF0 g) n
    exact Nat.mul_le_mul (by omega) (by unfold zo_wr; omega)
  | some h =>
    show (if zo_ri g n h k then zo_w v k n else 0) ≤ _
    split <;> omega
theorem zo_S_lt {g : Nat → Nat} {v n : Nat} {c : Option Nat} (h3 : g 33 ≤ 3) (hv : v ≤ 10) (hn : n ≤ 6) : fb_sm (zo_s g v n c) (2 ^ n) < 2 ^ 40 := by
  have a := fb_sm_bound (f := zo_s g v n c) (c := 1000000 * 144) (n := 2 ^ n) (fun k _ => zo_s_le h3 hv hn)
  have b : 2 ^ n ≤ 2 ^ 6 := Nat.pow_le_pow_right (by omega) hn
  have d : 2 ^ n * (1000000 * 144) ≤ 2 ^ 6 * (1000000 * 144) := Nat.mul_le_mul_right _ b
  omega
end ZL
