/-! WHAT IS REFUSED, on both sides by the same words: zIn x a b -/
def zIn (x a b : Int32) : Prop := ¬ x < a ∧ x ≤ b
theorem x_out_y {x a b : Int32} {σ : zz_T} {Q : Int32 → zz_T → Prop} (h : zIn x a b) (hq : Q 0 σ) : pX5_outside x a b σ Q := br_f h.1 (br_t h.2 ⟨zz_bo0, hq⟩)
theorem x_out_n {x a b : Int32} {σ : zz_T} {Q : Int32 → zz_T → Prop} (h : ¬ zIn x a b) (hq : Q 1 σ) : pX5_outside x a b σ Q := by
  unfold pX5_outside pX5_outside_10
  by_cases h1 : x < a
  · exact br_t h1 ⟨zz_bo1, hq⟩
  · exact br_f h1 (br_f (fun h2 => h ⟨h1, h2⟩) ⟨zz_bo1, hq⟩)
theorem lg_lt (x y : Int64) : lg_cmp x y < 0 ↔ x < y := by
  unfold lg_cmp
  by_cases h1 : x > y
  · rw [if_pos h1]
    have h1 : y < x := h1
    rw [fa_lt64] at h1 ⊢
    exact ⟨fun q => absurd q (by decide), fun q => by omega⟩
  · rw [if_neg h1]
    by_cases h2 : x = y
    · rw [if_pos h2, h2]
      exact ⟨fun q => absurd q (by decide), fun q => by rw [fa_lt64] at q; omega⟩
    · rw [if_neg h2]
      refine ⟨fun _ => ?_, fun _ => by decide⟩
      have h1 : ¬ y < x := h1
      rw [fa_lt64] at h1 ⊢
      rw [fa_eq64] at h2
      omega
theorem lg_gt (x y : Int64) : 0 < lg_cmp x y ↔ y < x := by
  unfold lg_cmp
  by_cases h1 : x > y
  · rw [if_pos h1]
    exact ⟨fun _ => h1, fun _ => by decide⟩
  · rw [if_neg h1]
    by_cases h2 : x = y
    · rw [if_pos h2]
      exact ⟨fun q => absurd q (by decide), fun q => absurd q h1⟩
    · rw [if_neg h2]
      exact ⟨fun q => absurd q (by decide), fun q => absurd q h1⟩
theorem m_in_y {x a b : Int32} {A B : Int64} {τ : zz_T} {Q : Int32 → zz_T → Prop} (hA : A = a.toInt64) (hB : B = b.toInt64) (h : zIn x a b) (hq : Q 1 τ) : pX6_in x.toInt64 A B τ Q := by
  subst hA hB
  refine br_f (by rw [lg_lt, fa_wide_lt]; exact h.1) (br_f (by rw [lg_gt, fa_wide_lt]; exact fun q => by have := h.2; rw [fa_le] at this; rw [fa_lt] at q; omega) ⟨zz_bo1, hq⟩)
theorem m_in_n {x a b : Int32} {A B : Int64} {τ : zz_T} {Q : Int32 → zz_T → Prop} (hA : A = a.toInt64) (hB : B = b.toInt64) (h : ¬ zIn x a b) (hq : Q 0 τ) : pX6_in x.toInt64 A B τ Q := by
  subst hA hB
  unfold pX6_in
  by_cases h1 : x < a
  · exact br_t (by rw [lg_lt, fa_wide_lt]; exact h1) ⟨zz_bo0, hq⟩
  · refine br_f (by rw [lg_lt, fa_wide_lt]; exact h1) (br_t ?_ ⟨zz_bo0, hq⟩)
    rw [lg_gt, fa_wide_lt]
    exact fa_of_nle (fun q => h ⟨h1, q⟩)
/-- a place below n -/
theorem zIn_n {x : Int32} {n : Nat} (hn : n < 2147483648) : zIn x 0 (nI n - 1) ↔ ∃ j, j < n ∧ x = nI j := by
  have e : (nI n - 1).toInt = (n : Int) - 1 := by
    rw [fb_subI, nI_i hn]
    · rfl
    · rw [nI_i hn]; show _ ≤ (n : Int) - 1; omega
    · rw [nI_i hn]; show (n : Int) - 1 < _; omega
  unfold zIn
  rw [fa_lt, fa_le, e]
  have e0 : (0 : Int32).toInt = 0 := rfl
  rw [e0]
  constructor
  · intro h
    refine ⟨x.toInt.toNat, by omega, ?_⟩
    rw [fa_eq, nI_i (by omega)]
    omega
  · rintro ⟨j, hj, rfl⟩
    rw [nI_i (by omega)]
    omega
theorem zIn_c {x : Int32} {n : Nat} (hn : n < 2147483648) : zIn x 0 (nI n) ↔ ∃ j, j ≤ n ∧ x = nI j := by
  unfold zIn
  rw [fa_lt, fa_le, nI_i hn]
  have e0 : (0 : Int32).toInt = 0 := rfl
  rw [e0]
  constructor
  · intro h
    refine ⟨x.toInt.toNat, by omega, ?_⟩
    rw [fa_eq, nI_i (by omega)]
    omega
  · rintro ⟨j, hj, rfl⟩
    rw [nI_i (by omega)]
    omega
theorem zIn_d {x : Int32} {a n : Nat} (hn : n < 2147483648) (ha : a < 2147483648) : zIn x (nI a) (nI n) ↔ ∃ j, a ≤ j ∧ j ≤ n ∧ x = nI j := by
  unfold zIn
  rw [fa_lt, fa_le, nI_i hn, nI_i ha]
  constructor
  · intro h
    refine ⟨x.toInt.toNat, by omega, by omega, ?_⟩
    rw [fa_eq, nI_i (by omega)]
    omega
  · rintro ⟨j, hj, hj2, rfl⟩
    rw [nI_i (by omega)]
    omega
section ZA
variable {x : Int32} {σ τ : zz_T} {Q : Int32 → zz_T → Prop} {n : Nat}
theorem x_noHead_y (e : σ.1 3 4 = nI n) (h : zIn x 0 (nI n - 1)) (hq : Q 0 σ) : pX5_noHead x σ Q := by
  unfold pX5_noHead; rw [e]; exact x_out_y h ⟨zz_bo0, hq⟩
theorem x_noHead_n (e : σ.1 3 4 = nI n) (h : ¬ zIn x 0 (nI n - 1)) (hq : Q 1 σ) : pX5_noHead x σ Q := by
  unfold pX5_noHead; rw [e]; exact x_out_n h ⟨zz_bo1, hq⟩
theorem x_noLine_y (e : σ.1 3 5 = nI n) (h : zIn x 0 (nI n - 1)) (hq : Q 0 σ) : pX5_noLine x σ Q := by
  unfold pX5_noLine; rw [e]; exact x_out_y h ⟨zz_bo0, hq⟩
theorem x_noLine_n (e : σ.1 3 5 = nI n) (h : ¬ zIn x 0 (nI n - 1)) (hq : Q 1 σ) : pX5_noLine x σ Q := by
  unfold pX5_noLine; rw [e]; exact x_out_n h ⟨zz_bo1, hq⟩
theorem x_noDot_y (h : zIn x 0 7) (hq : Q 0 σ) : pX5_noDot x σ Q := x_out_y h ⟨zz_bo0, hq⟩
theorem x_noDot_n (h : ¬ zIn x 0 7) (hq : Q 1 σ) : pX5_noDot x σ Q := x_out_n h ⟨zz_bo1, hq⟩
theorem x_noSheet_y (h : zIn x 0 3) (hq : Q 0 σ) : pX5_noSheet x σ Q := x_out_y h ⟨zz_bo0, hq⟩
theorem x_noSheet_n (h : ¬ zIn x 0 3) (hq : Q 1 σ) : pX5_noSheet x σ Q := x_out_n h ⟨zz_bo1, hq⟩
theorem x_badRows_y (h : zIn x 0 60) (hq : Q 0 σ) : pX5_badRows x σ Q := x_out_y h ⟨zz_bo0, hq⟩
theorem x_badRows_n (h : ¬ zIn x 0 60) (hq : Q 1 σ) : pX5_badRows x σ Q := x_out_n h ⟨zz_bo1, hq⟩
theorem m_isHead_y (e : τ.1 1 33 = nI n) (h : zIn x 0 (nI n - 1)) (hq : Q 1 τ) : pX6_isHead x τ Q := by
  unfold pX6_isHead
  rw [show Int32.toNatClampNeg 33 = 33 from rfl, e]
  exact ⟨vp_in_nI (n := 33) (by decide) (by decide), m_in_y rfl rfl h ⟨zz_bo1, hq⟩⟩
theorem m_isHead_n (e : τ.1 1 33 = nI n) (h : ¬ zIn x 0 (nI n - 1)) (hq : Q 0 τ) : pX6_isHead x τ Q := by
  unfold pX6_isHead
  rw [show Int32.toNatClampNeg 33 = 33 from rfl, e]
  exact ⟨vp_in_nI (n := 33) (by decide) (by decide), m_in_n rfl rfl h ⟨zz_bo0, hq⟩⟩
theorem m_isLine_y (e : τ.1 1 49 = nI n) (h : zIn x 0 (nI n - 1)) (hq : Q 1 τ) : pX6_isLine x τ Q := by
  unfold pX6_isLine
  rw [show Int32.toNatClampNeg 49 = 49 from rfl, e]
  exact ⟨vp_in_nI (n := 49) (by decide) (by decide), m_in_y rfl rfl h ⟨zz_bo1, hq⟩⟩
theorem m_isLine_n (e : τ.1 1 49 = nI n) (h : ¬ zIn x 0 (nI n - 1)) (hq : Q 0 τ) : pX6_isLine x τ Q := by
  unfold pX6_isLine
  rw [show Int32.toNatClampNeg 49 = 49 from rfl, e]
  exact ⟨vp_in_nI (n := 49) (by decide) (by decide), m_in_n rfl rfl h ⟨zz_bo0, hq⟩⟩
theorem m_isDot_y (h : zIn x 0 7) (hq : Q 1 τ) : pX6_isDot x τ Q := m_in_y rfl rfl h ⟨zz_bo1, hq⟩
theorem m_isDot_n (h : ¬ zIn x 0 7) (hq : Q 0 τ) : pX6_isDot x τ Q := m_in_n rfl rfl h ⟨zz_bo0, hq⟩
theorem m_isPart_y (h : zIn x 0 1) (hq : Q 1 τ) : pX6_isPart x τ Q := m_in_y rfl rfl h ⟨zz_bo1, hq⟩
theorem m_isPart_n (h : ¬ zIn x 0 1) (hq : Q 0 τ) : pX6_isPart x τ Q := m_in_n rfl rfl h ⟨zz_bo0, hq⟩
theorem m_isFar_y (h : zIn x 0 60) (hq : Q 1 τ) : pX6_isFar x τ Q := m_in_y rfl rfl h ⟨zz_bo1, hq⟩
theorem m_isFar_n (h : ¬ zIn x 0 60) (hq : Q 0 τ) : pX6_isFar x τ Q := m_in_n rfl rfl h ⟨zz_bo0, hq⟩
end ZA
/-! THE STATE that both hold. g the printer; tn, tb the tape; fa its fault; kp, gi images; th, la, sz, ce sheets; to torn -/
def gF0 (g : Nat → Nat) : Nat → Nat → Nat := fun h d => g (11 * h + 3 + d)
def gW0 (g : Nat → Nat) : Nat → Nat := fun h => g (11 * h + 2)
def gAll (g : Nat → Nat) : Prop := gOK g ∧ gDY g (gF0 g) (gW0 g) (g 50) ∧ g 50 ≤ 9999
abbrev zSt : Type := (Nat → Nat) × (Nat × (Nat → Nat) × Nat) × ((Nat → Bool) × (Nat → Nat → Nat)) × ((Nat → Bool) × (Nat → Nat) × (Nat → Nat) × (Nat → Nat → Int32)) × Nat
def sg (S : zSt) : Nat → Nat := S.1
def stn (S : zSt) : Nat := S.2.1.1
def stb (S : zSt) : Nat → Nat := S.2.1.2.1
def sfa (S : zSt) : Nat := S.2.1.2.2
def skp (S : zSt) : Nat → Bool := S.2.2.1.1
def sgi (S : zSt) : Nat → Nat → Nat := S.2.2.1.2
def sth (S : zSt) : Nat → Bool := S.2.2.2.1.1
def sla (S : zSt) : Nat → Nat := S.2.2.2.1.2.1
def ssz (S : zSt) : Nat → Nat := S.2.2.2.1.2.2.1
def sce (S : zSt) : Nat → Nat → Int32 := S.2.2.2.1.2.2.2
def sto (S : zSt) : Nat := S.2.2.2.2
/-- what is so of the state itself -/
def sOK (S : zSt) : Prop := gAll (sg S) ∧ (stn S ≤ 160 ∧ ∀ i, i < stn S → stb S i < 128) ∧ sfa S ≤ 5 ∧ (∀ k, k < 2 → skp S k = true → gAll (sgi S k)) ∧ (∀ k, k < 4 → sth S k = true → sla S k ≤ 2 ∧ ssz S k ≤ 40) ∧ sto S ≤ 4
/-- the class holds g in the printer at p -/
def xP (σ : zz_T) (p : Nat) (g : Nat → Nat) : Prop := px_dy σ p g (gF0 g) (gW0 g) (g 50)
def mP (a : Nat → Int32) (g : Nat → Nat) : Prop := fl_dy a g (gF0 g) (gW0 g) (g 50)
def xRest (σ : zz_T) (S : zSt) : Prop := (σ.1 1 1 = nI (stn S) ∧ (∀ i, i < stn S → σ.1 2 i = nI (stb S i)) ∧ σ.1 1 2 = nI (sfa S)) ∧ (∀ k, k < 2 → σ.1 41 k = (if skp S k then 1 else 0) ∧ (skp S k = true → xP σ (46 + 17 * k) (sgi S k))) ∧ (∀ k, k < 4 → σ.1 (80 + 2 * k) 1 = (if sth S k then 1 else 0) ∧ (sth S k = true → σ.1 (80 + 2 * k) 2 = nI (sla S k) ∧ σ.1 (80 + 2 * k) 3 = nI (ssz S k) ∧ ∀ i, i < ssz S k → σ.1 (81 + 2 * k) i = sce S k i)) ∧ σ.1 0 10 = nI (sto S)
def RX (σ : zz_T) (S : zSt) : Prop := xP σ 3 (sg S) ∧ xRest σ S
def mRest (τ : zz_T) (S : zSt) : Prop := (τ.1 0 6 = nI (stn S) ∧ (∀ i, i < stn S → τ.1 6 i = nI (stb S i)) ∧ τ.1 0 11 = nI (sfa S)) ∧ (∀ k, k < 2 → τ.1 3 k = (if skp S k then 1 else 0) ∧ (skp S k = true → mP (fun j => τ.1 1 (70 * (k + 1) + j)) (sgi S k))) ∧ (∀ k, k < 4 → τ.1 13 k = (if sth S k then nI (sla S k) else (-4)) ∧ (sth S k = true → τ.1 14 k = nI (ssz S k) ∧ ∀ i, i < ssz S k → τ.1 15 (40 * k + i) = sce S k i)) ∧ τ.1 0 32 = nI (sto S)
def RM (τ : zz_T) (S : zSt) : Prop := mP (τ.1 1) (sg S) ∧ mRest τ S
/-- what the class may write in a call that changes nothing -/
def cScr (q : Nat) : Prop := (20 ≤ q ∧ q ≤ 39) ∨ (43 ≤ q ∧ q ≤ 45)
def cK (σ σ' : zz_T) : Prop := ∀ q, ¬ cScr q → σ'.1 q = σ.1 q
def mScr (q : Nat) : Prop := q = 0 ∨ q = 2 ∨ (7 ≤ q ∧ q ≤ 12) ∨ q = 16
def mK (τ τ' : zz_T) : Prop := (∀ q, ¬ mScr q → τ'.1 q = τ.1 q) ∧ τ'.1 0 6 = τ.1 0 6 ∧ τ'.1 0 11 = τ.1 0 11 ∧ τ'.1 0 32 = τ.1 0 32
theorem RX.keep {σ σ' : zz_T} {S : zSt} (h : cK σ σ') (hs : sOK S) (R : RX σ S) : RX σ' S := by
  have o : ∀ q, q < 20 ∨ (39 < q ∧ q < 43) ∨ 45 < q → σ'.1 q = σ.1 q := fun q hq => h q (by unfold cScr; omega)
  obtain ⟨h1, ⟨⟨a1, a2, a3⟩, b, c, d⟩⟩ := R
  refine ⟨h1.kept hs.1.1.1 (fun q x y => o q (by omega)), ⟨⟨by rw [o _ (by omega)]; exact a1, fun i hi => by rw [o _ (by omega)]; exact a2 i hi, by rw [o _ (by omega)]; exact a3⟩, fun k hk => ⟨by rw [o _ (by omega)]; exact (b k hk).1, fun q => ((b k hk).2 q).kept (hs.2.2.2.1 k hk q).1.1 (fun e x y => o e (by omega))⟩, fun k hk => ⟨by rw [o _ (by omega)]; exact (c k hk).1, fun q => ?_⟩, by rw [o _ (by omega)]; exact d⟩⟩
  rw [o (80 + 2 * k) (by omega), o (81 + 2 * k) (by omega)]
  exact (c k hk).2 q
theorem RM.keep {τ τ' : zz_T} {S : zSt} (h : mK τ τ') (R : RM τ S) : RM τ' S := by
  obtain ⟨h, e6, e11, e32⟩ := h
  have o : ∀ q, (q = 1 ∨ (3 ≤ q ∧ q ≤ 6) ∨ (13 ≤ q ∧ q ≤ 15)) → τ'.1 q = τ.1 q := fun q hq => h q (by unfold mScr; omega)
  obtain ⟨h1, ⟨⟨a1, a2, a3⟩, b, c, d⟩⟩ := R
  unfold RM mRest
  rw [o 1 (by omega), o 3 (by omega), o 6 (by omega), o 13 (by omega), o 14 (by omega), o 15 (by omega), e6, e11, e32]
  exact ⟨h1, ⟨⟨a1, a2, a3⟩, b, c, d⟩⟩
theorem cK.rf (σ : zz_T) : cK σ σ := fun _ _ => rfl
theorem cK.tr {a b c : zz_T} (h : cK a b) (h2 : cK b c) : cK a c := fun q hq => by rw [h2 q hq, h q hq]
theorem cK.of {c : Nat → Prop} {a b : zz_T} (h : zz_but c a b) (hc : ∀ q, c q → cScr q) : cK a b := fun q hq => h.1 q (fun x => hq (hc q x))
theorem mK.rf (τ : zz_T) : mK τ τ := ⟨fun _ _ => rfl, rfl, rfl, rfl⟩
theorem mK.tr {a b c : zz_T} (h : mK a b) (h2 : mK b c) : mK a c := ⟨fun q hq => by rw [h2.1 q hq, h.1 q hq], by rw [h2.2.1, h.2.1], by rw [h2.2.2.1, h.2.2.1], by rw [h2.2.2.2, h.2.2.2]⟩
theorem mK.of {c : Nat → Prop} {a b : zz_T} (h : ∀ q, ¬ c q → b.1 q = a.1 q) (hc : ∀ q, c q → mScr q) (h0 : ∀ j, j = 6 ∨ j = 11 ∨ j = 32 → b.1 0 j = a.1 0 j) : mK a b := ⟨fun q hq => h q (fun x => hq (hc q x)), h0 6 (by omega), h0 11 (by omega), h0 32 (by omega)⟩
