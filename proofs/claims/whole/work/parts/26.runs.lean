/-! ROWS one behind another. A row: its line, the next line, with power, waiting behind it -/
abbrev zRow : Type := Nat × Nat × Bool × Bool
def hF (g : Nat → Nat) (h : Nat) (R : Nat → zRow) (f0 : Nat → Nat) : Nat → (Nat → Nat)
  | 0 => f0
  | i + 1 => if (R i).2.2.2 then (fun _ => 0) else gC g h (hF g h R f0 i) (R i).1 (R i).2.1 (R i).2.2.1
def hE (g : Nat → Nat) (h : Nat) (R : Nat → zRow) (f0 : Nat → Nat) (i : Nat) : Nat := gE g h (hF g h R f0 i) (R i).1 (R i).2.1 (R i).2.2.1
def hB (g : Nat → Nat) (h : Nat) (R : Nat → zRow) (f0 : Nat → Nat) (i : Nat) : Nat := gB g h (hF g h R f0 i) (R i).1 (R i).2.1 (R i).2.2.1
def hT (g : Nat → Nat) (h : Nat) (R : Nat → zRow) (f0 : Nat → Nat) (i : Nat) : Nat → Nat := gT g h (hF g h R f0 i) (R i).1 (R i).2.1 (R i).2.2.1
def hW (g : Nat → Nat) (h : Nat) (R : Nat → zRow) (f0 : Nat → Nat) (w0 : Nat) : Nat → Nat
  | 0 => w0
  | i + 1 => min (hW g h R f0 w0 i + hE g h R f0 i) 9999
/-- wrong in a row, in n rows -/
def gS (g : Nat → Nat) (R : Nat → zRow) (F : Nat → Nat → Nat) (i : Nat) : Nat := fb_sm (fun h => hE g h R (F h) i) (g 33)
def gN (g : Nat → Nat) (R : Nat → zRow) (F : Nat → Nat → Nat) (n : Nat) : Nat := fb_sm (gS g R F) n
def gP (g : Nat → Nat) (R : Nat → zRow) (F : Nat → Nat → Nat) (i : Nat) : Nat := fb_sm (fun h => zs_pc (hB g h R (F h) i)) (g 33)
def gM (g : Nat → Nat) (R : Nat → zRow) (F : Nat → Nat → Nat) (i : Nat) : Nat := fmx (fun h => fmx (hT g h R (F h) i) 8) (g 33)
/-- by rows, from row r on; waiting behind line q -/
def gR (g : Nat → Nat) (r : Nat) (wt : Option Nat) (i : Nat) : zRow := (gL g (r + i), gL g (r + i + 1), true, match wt with | none => false | some q => decide ((r + i) % g 49 = q))
theorem hF_le {g : Nat → Nat} {h : Nat} {R : Nat → zRow} {f0 : Nat → Nat} (h0 : ∀ d, d < 8 → f0 d ≤ 99) : ∀ (i d : Nat), d < 8 → hF g h R f0 i d ≤ 99
  | 0, d, hd => h0 d hd
  | i + 1, d, hd => by
    show (if (R i).2.2.2 then (fun _ => 0) else gC g h (hF g h R f0 i) (R i).1 (R i).2.1 (R i).2.2.1) d ≤ 99
    split
    · exact Nat.zero_le _
    · exact zs_cl_le _ _ _ _
theorem hW_le {g : Nat → Nat} {h : Nat} {R : Nat → zRow} {f0 : Nat → Nat} {w0 : Nat} (h0 : w0 ≤ 9999) : ∀ i, hW g h R f0 w0 i ≤ 9999
  | 0 => h0
  | i + 1 => Nat.min_le_right _ _
theorem hE_le (g : Nat → Nat) (h : Nat) (R : Nat → zRow) (f0 : Nat → Nat) (i : Nat) : hE g h R f0 i ≤ 8 := gE_le _ _ _ _ _ _
theorem hB_lt (g : Nat → Nat) (h : Nat) (R : Nat → zRow) (f0 : Nat → Nat) (i : Nat) : hB g h R f0 i < 256 := gB_lt _ _ _ _ _ _
theorem hT_le (g : Nat → Nat) (h : Nat) (R : Nat → zRow) (f0 : Nat → Nat) (i d : Nat) : hT g h R f0 i d ≤ 99 := zs_ht_le _ _ _ _ _ _ _
theorem gS_le {g : Nat → Nat} (hg : g 33 ≤ 3) (R : Nat → zRow) (F : Nat → Nat → Nat) (i : Nat) : gS g R F i ≤ 24 := by
  have := fb_sm_bound (f := fun h => hE g h R (F h) i) (c := 8) (n := g 33) (fun k _ => hE_le _ _ _ _ _)
  unfold gS; omega
theorem gN_le {g : Nat → Nat} (hg : g 33 ≤ 3) (R : Nat → zRow) (F : Nat → Nat → Nat) (n : Nat) : gN g R F n ≤ n * 24 := fb_sm_bound (fun k _ => gS_le hg R F k)
theorem gDY.run {g : Nat → Nat} {F : Nat → Nat → Nat} {Wr : Nat → Nat} {r : Nat} (hd : gDY g F Wr r) (R : Nat → zRow) {n r' : Nat} (hr : r' < 1000000) : gDY g (fun h => hF g h R (F h) n) (fun h => hW g h R (F h) (Wr h) n) r' := ⟨fun h hh => ⟨hW_le (hd.1 h hh).1 n, fun d hd2 => hF_le (hd.1 h hh).2 n d hd2⟩, hr⟩
/-! the reference -/
theorem m_lineAt {r : Nat} {g : Nat → Nat} {τ : zz_T} {Q : Int32 → zz_T → Prop} (hg : gOK g) (h49 : τ.1 2 49 = nI (g 49)) (hl : ∀ i, i < g 49 → τ.1 2 (37 + i) = nI (g (37 + i))) (hr : r < 2000000) (hq : Q (nI (gL g r)) τ) : pX6_lineAt (nI r) τ Q := by
  have h12 := hg.2.2.2.1.1
  unfold pX6_lineAt
  unfold gL at hq
  rw [show Int32.toNatClampNeg 49 = 49 from rfl, h49]
  refine ⟨vp_in_nI (n := 49) (by decide) (by decide), ?_⟩
  by_cases hz : g 49 = 0
  · rw [if_pos hz] at hq
    exact br_t ((nI_z (by omega)).mpr hz) hq
  · rw [if_neg hz] at hq
    have hne : ¬ nI (g 49) = 0 := fun q => hz ((nI_z (by omega)).mp q)
    have hm : r % g 49 < g 49 := Nat.mod_lt _ (by omega)
    refine br_f hne ⟨vp_in_nI (n := 49) (by decide) (by decide), hne, ?_⟩
    rw [pk_rem (by omega) (by omega) (by omega), show (37 : Int32) = nI 37 from rfl, nI_add, nI_tn (by omega), hl _ hm]
    exact ⟨vp_in_nI (by omega) (by decide), hq⟩
theorem m_rows {g : Nat → Nat} {F : Nat → Nat → Nat} {Wr wb : Nat → Nat} {r wm bm ho wr n : Nat} {wt : Option Nat} {τ : zz_T} {Q : zz_T → Prop} (hg : gOK g) (hd : gDY g F Wr r) (hr : r < 500000) (hn : n ≤ 1000) (H : fl_dy (τ.1 2) g F Wr r) (A : mAc τ (g 33) wm bm ho wr wb) (hwm : wm ≤ 50000) (hho : ho ≤ 99)
    (hwt : (τ.1 0 13 = (-4) ∧ wt = none) ∨ ∃ i, τ.1 0 13 = nI i ∧ i < 12 ∧ 0 < g 49 ∧ wt = some i)
    (hq : ∀ τ' : zz_T, zz_but mRo τ τ' → fl_dy (τ'.1 2) g (fun h => hF g h (gR g r wt) (F h) n) (fun h => hW g h (gR g r wt) (F h) (Wr h) n) (r + n) → (∀ j, j ≠ 14 → j ≠ 15 → j ≠ 16 → j ≠ 17 → τ'.1 0 j = τ.1 0 j) → mAc τ' (g 33) (wm + gN g (gR g r wt) F n) (bm + fb_sm (gP g (gR g r wt) F) n) (max ho (fmx (gM g (gR g r wt) F) n)) (wr + fb_sm (fun i => if gS g (gR g r wt) F i = 0 then 0 else 1) n) (fun h => wb h + fb_sm (hE g h (gR g r wt) (F h)) n) → (0 < n → ∀ h, h < g 33 → τ'.1 8 h = nI (hB g h (gR g r wt) (F h) (n - 1))) → Q τ') : pX6_rowsGo (nI n) τ Q := by
  have h3 := hg.1
  have loop : ∀ (j i : Nat) (τ1 : zz_T), i + j = n → zz_but mRo τ τ1 → fl_dy (τ1.1 2) g (fun h => hF g h (gR g r wt) (F h) i) (fun h => hW g h (gR g r wt) (F h) (Wr h) i) (r + i) → (∀ j, j ≠ 14 → j ≠ 15 → j ≠ 16 → j ≠ 17 → τ1.1 0 j = τ.1 0 j) → mAc τ1 (g 33) (wm + gN g (gR g r wt) F i) (bm + fb_sm (gP g (gR g r wt) F) i) (max ho (fmx (gM g (gR g r wt) F) i)) (wr + fb_sm (fun i => if gS g (gR g r wt) F i = 0 then 0 else 1) i) (fun h => wb h + fb_sm (hE g h (gR g r wt) (F h)) i) → (0 < i → ∀ h, h < g 33 → τ1.1 8 h = nI (hB g h (gR g r wt) (F h) (i - 1))) → pX6_rowsGo_2 Q (j + 1) (nI n) (nI i) τ1 := by
    intro j
    induction j with
    | zero =>
      intro i τ1 hi hb hP h0 hA h8
      obtain rfl : i = n := by omega
      exact br_t ((nI_leI (by omega) (by omega)).mpr (Nat.le_refl _)) (hq τ1 hb hP h0 hA h8)
    | succ j ih =>
      intro i τ1 hi hb hP h0 hA h8
      refine br_f (by rw [nI_leI (by omega) (by omega)]; omega) ⟨vp_in_nI (n := 50) (by decide) (by decide), ?_⟩
      rw [show Int32.toNatClampNeg 50 = 50 from rfl, hP.1.2.2]
      refine m_lineAt hg hP.1.2.1 hP.2.2.1 (by omega) ⟨vp_in_nI (n := 50) (by decide) (by decide), ?_⟩
      rw [hP.1.2.2, nI_1]
      refine m_lineAt hg hP.1.2.1 hP.2.2.1 (by omega) ?_
      have sl := gN_le h3 (gR g r wt) F i
      have ml : max ho (fmx (gM g (gR g r wt) F) i) ≤ 99 := by
        have := fmx_le (f := gM g (gR g r wt) F) (c := 99) (n := i) (fun k _ => fmx_le (fun h _ => fmx_le (fun d _ => hT_le _ _ _ _ _ _)))
        omega
      refine m_row true (gR g r wt i).2.2.2 hg (hd.run _ (by omega)) hP (gL_lt hg _) (gL_lt hg _) hA (by omega) ml ?_ (fun τ2 hb2 hP2 h02 hA2 h82 => ?_)
      · rcases hwt with ⟨x, rfl⟩ | ⟨q, x, y, z, rfl⟩
        · exact Or.inl ⟨by rw [h0 13 (by omega) (by omega) (by omega) (by omega)]; exact x, rfl⟩
        · exact Or.inr ⟨q, by rw [h0 13 (by omega) (by omega) (by omega) (by omega)]; exact x, y, z, rfl⟩
      · rw [nI_1]
        refine ih (i + 1) τ2 (by omega) (hb.tr hb2) hP2 (fun j x y z u => by rw [h02 j x y z u]; exact h0 j x y z u) ?_ (fun _ h hh => h82 h hh)
        obtain ⟨x1, x2, x3, x4, x5⟩ := hA2
        exact ⟨by rw [x1, Nat.add_assoc]; rfl, by rw [x2, Nat.add_assoc]; rfl, by rw [x3, Nat.max_assoc]; rfl, by rw [x4, Nat.add_assoc]; rfl, fun h hh => (x5 h hh).trans (congrArg nI (Nat.add_assoc (wb h) _ _))⟩
  refine ⟨n + 1, loop n 0 τ (by omega) (zz_but.rf _ _) H (fun _ _ _ _ _ => rfl) ?_ (fun q => absurd q (by omega))⟩
  obtain ⟨x1, x2, x3, x4, x5⟩ := A
  exact ⟨x1, x2, by rw [x3]; simp [fmx], x4, x5⟩
theorem m_starts {τ : zz_T} {Q : zz_T → Prop} (hq : ∀ τ' : zz_T, zz_but (fun q => q = 0 ∨ q = 2 ∨ q = 7) τ τ' → (∀ k, k < 70 → τ'.1 2 k = τ.1 1 k) → (∀ j, j ≠ 13 → j ≠ 14 → j ≠ 15 → j ≠ 16 → j ≠ 17 → τ'.1 0 j = τ.1 0 j) → τ'.1 0 13 = (-4) → (∀ nh, nh ≤ 3 → mAc τ' nh 0 0 0 0 (fun _ => 0)) → Q τ') : pX6_starts τ Q := by
  have loop2 : ∀ (j h : Nat) (τ1 : zz_T), h + j = 3 → zz_but (fun q => q = 0 ∨ q = 2 ∨ q = 7) τ τ1 → (∀ k, k < 70 → τ1.1 2 k = τ.1 1 k) → τ1.1 0 = τ.1 0 → (∀ i, i < h → τ1.1 7 i = 0) → pX6_starts_28 Q (j + 1) (nI h) τ1 := by
    intro j
    induction j with
    | zero =>
      intro h τ1 hj hb e2 e0 e7
      obtain rfl : h = 3 := by omega
      refine br_t (by decide) (hq _ (((((hb.i (by omega)).i (by omega)).i (by omega)).i (by omega)).i (by omega)) (fun k hk => ?_) (fun j a b c d e => ?_) ?_ (fun nh hnh => ⟨?_, ?_, ?_, ?_, fun i hi => ?_⟩))
      · rw [zi_k (by omega), zi_k (by omega), zi_k (by omega), zi_k (by omega), zi_k (by omega)]; exact e2 k hk
      · rw [zi_j e, zi_j d, zi_j c, zi_j b, zi_j a, e0]
      · rw [zi_j (by omega), zi_j (by omega), zi_j (by omega), zi_j (by omega), zi_at]
      · rw [zi_j (by omega), zi_j (by omega), zi_j (by omega), zi_at]; rfl
      · rw [zi_j (by omega), zi_j (by omega), zi_at]; rfl
      · rw [zi_j (by omega), zi_at]; rfl
      · rw [zi_at]; rfl
      · rw [zi_k (by omega), zi_k (by omega), zi_k (by omega), zi_k (by omega), zi_k (by omega)]; exact e7 i (by omega)
    | succ j ih =>
      intro h τ1 hj hb e2 e0 e7
      refine br_f (by rw [show (3 : Int32) = nI 3 from rfl, nI_leI (by omega) (by omega)]; omega) ⟨vp_in_nI (by omega) (by decide), ?_⟩
      rw [nI_1, nI_tn (by omega)]
      refine ih (h + 1) _ (by omega) (hb.i (by omega)) (fun k hk => by rw [zi_k (by omega)]; exact e2 k hk) (by rw [zi_k (by omega)]; exact e0) (fun i hi => ?_)
      by_cases e : i = h
      · subst e; rw [zi_at]
      · rw [zi_j e]; exact e7 i (by omega)
  have loop1 : ∀ (j k : Nat) (τ1 : zz_T), k + j = 70 → zz_but (fun q => q = 2) τ τ1 → (∀ i, i < k → τ1.1 2 i = τ.1 1 i) → pX6_starts_2 Q (j + 1) (nI k) τ1 := by
    intro j
    induction j with
    | zero =>
      intro k τ1 hj hb e2
      obtain rfl : k = 70 := by omega
      exact br_t (by decide) ⟨4, loop2 3 0 τ1 rfl (hb.mono (fun q hq => by omega)) e2 (hb.1 0 (by omega)) (fun i hi => absurd hi (by omega))⟩
    | succ j ih =>
      intro k τ1 hj hb e2
      refine br_f (by rw [show (70 : Int32) = nI 70 from rfl, nI_leI (by omega) (by omega)]; omega) ⟨vp_in_nI (by omega) (by decide), vp_in_nI (by omega) (by decide), ?_⟩
      rw [nI_1, nI_tn (by omega)]
      refine ih (k + 1) _ (by omega) (hb.i rfl) (fun i hi => ?_)
      by_cases e : i = k
      · subst e; rw [zi_at, hb.1 1 (by omega)]
      · rw [zi_j e]; exact e2 i (by omega)
  exact ⟨71, loop1 70 0 τ rfl (zz_but.rf _ _) (fun i hi => absurd hi (by omega))⟩
