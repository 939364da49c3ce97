/-- g with heats, wrong, row set -/
def gSet (g : Nat → Nat) (F : Nat → Nat → Nat) (W : Nat → Nat) (r : Nat) : Nat → Nat := fun k => if k < 33 then (if k % 11 < 2 then g k else if k % 11 = 2 then W (k / 11) else F (k / 11) (k % 11 - 3)) else if k = 50 then r else g k
theorem gSet_o {g : Nat → Nat} {F : Nat → Nat → Nat} {W : Nat → Nat} {r k : Nat} (h : 33 ≤ k) (h2 : k ≠ 50) : gSet g F W r k = g k := by simp only [gSet]; rw [if_neg (by omega), if_neg h2]
theorem gSet_50 {g : Nat → Nat} {F : Nat → Nat → Nat} {W : Nat → Nat} {r : Nat} : gSet g F W r 50 = r := rfl
theorem gSet_0 {g : Nat → Nat} {F : Nat → Nat → Nat} {W : Nat → Nat} {r h c : Nat} (hh : h < 3) (hc : c < 2) : gSet g F W r (11 * h + c) = g (11 * h + c) := by simp only [gSet]; rw [if_pos (by omega), if_pos (by omega)]
theorem gSet_2 {g : Nat → Nat} {F : Nat → Nat → Nat} {W : Nat → Nat} {r h : Nat} (hh : h < 3) : gSet g F W r (11 * h + 2) = W h := by simp only [gSet]; rw [if_pos (by omega), if_neg (by omega), if_pos (by omega), show (11 * h + 2) / 11 = h by omega]
theorem gSet_3 {g : Nat → Nat} {F : Nat → Nat → Nat} {W : Nat → Nat} {r h d : Nat} (hh : h < 3) (hd : d < 8) : gSet g F W r (11 * h + 3 + d) = F h d := by simp only [gSet]; rw [if_pos (by omega), if_neg (by omega), if_neg (by omega), show (11 * h + 3 + d) / 11 = h by omega, show (11 * h + 3 + d) % 11 - 3 = d by omega]
theorem gAll_set {g : Nat → Nat} {F : Nat → Nat → Nat} {W : Nat → Nat} {r : Nat} (hg : gOK g) (hd : gDY g F W r) (hr : r ≤ 9999) : gAll (gSet g F W r) := by
  obtain ⟨a, b, c, ⟨d1, d2⟩, ⟨e1, e2⟩⟩ := hg
  have e33 : gSet g F W r 33 = g 33 := gSet_o (by omega) (by omega)
  have e49 : gSet g F W r 49 = g 49 := gSet_o (by omega) (by omega)
  have e51 : gSet g F W r 51 = g 51 := gSet_o (by omega) (by omega)
  unfold gAll gOK gDY gF0 gW0
  rw [e33, e49, e51, gSet_50, gSet_o (k := 34) (by omega) (by omega), gSet_o (k := 35) (by omega) (by omega), gSet_o (k := 36) (by omega) (by omega)]
  refine ⟨⟨a, fun h hh => ?_, c, ⟨d1, fun i hi => ?_⟩, ⟨e1, fun i hi => ?_⟩⟩, ⟨fun h hh => ⟨?_, fun d hd2 => ?_⟩, by omega⟩, hr⟩
  · rw [gSet_0 (by omega) (by omega), show 11 * h = 11 * h + 0 by omega, gSet_0 (by omega) (by omega)]; exact b h hh
  · rw [gSet_o (by omega) (by omega)]; exact d2 i hi
  · rw [gSet_o (by omega) (by omega), gSet_o (by omega) (by omega), gSet_o (by omega) (by omega)]; exact e2 i hi
  · rw [gSet_2 (by omega)]; exact (hd.1 h hh).1
  · rw [gSet_3 (by omega) hd2]; exact (hd.1 h hh).2 d hd2
theorem xP_set2 {σ : zz_T} {p : Nat} {g : Nat → Nat} {F : Nat → Nat → Nat} {W : Nat → Nat} {r : Nat} (hg : gOK g) (H : px_dy σ p g F W r) : xP σ p (gSet g F W r) := by
  have h3 := hg.1
  have h12 := hg.2.2.2.1.1
  have h6 := hg.2.2.2.2.1
  obtain ⟨⟨a1, a2, a3⟩, ⟨b1, b2, b3⟩, c, ⟨d1, d2⟩, e⟩ := H
  unfold xP px_dy
  rw [gSet_o (k := 33) (by omega) (by omega), gSet_o (k := 49) (by omega) (by omega), gSet_50, gSet_o (k := 34) (by omega) (by omega), gSet_o (k := 35) (by omega) (by omega), gSet_o (k := 36) (by omega) (by omega), gSet_o (k := 51) (by omega) (by omega)]
  refine ⟨⟨a1, a2, a3⟩, ⟨b1, b2, b3⟩, fun i hi => ?_, ⟨d1, fun i hi => ?_⟩, fun h hh => ?_⟩
  · rw [gSet_o (by omega) (by omega)]; exact c i hi
  · rw [gSet_o (by omega) (by omega), gSet_o (by omega) (by omega), gSet_o (by omega) (by omega)]; exact d2 i hi
  · obtain ⟨y0, y1, y2, y3⟩ := e h hh
    unfold hx_g gW0 gF0
    rw [gSet_0 (by omega) (by omega), gSet_2 (by omega), show 11 * h = 11 * h + 0 by omega, gSet_0 (by omega) (by omega)]
    exact ⟨y0, y1, y2, fun d hd => by rw [show 11 * h + 0 + 3 + d = 11 * h + 3 + d by omega, gSet_3 (by omega) hd]; exact y3 d hd⟩
theorem mP_set2 {a : Nat → Int32} {g : Nat → Nat} {F : Nat → Nat → Nat} {W : Nat → Nat} {r : Nat} (hg : gOK g) (H : fl_dy a g F W r) : mP a (gSet g F W r) := by
  have h3 := hg.1
  have h12 := hg.2.2.2.1.1
  have h6 := hg.2.2.2.2.1
  obtain ⟨⟨a1, a2, a3⟩, ⟨b1, b2, b3⟩, c, ⟨d1, d2⟩, e⟩ := H
  unfold mP fl_dy
  rw [gSet_o (k := 33) (by omega) (by omega), gSet_o (k := 49) (by omega) (by omega), gSet_50, gSet_o (k := 34) (by omega) (by omega), gSet_o (k := 35) (by omega) (by omega), gSet_o (k := 36) (by omega) (by omega), gSet_o (k := 51) (by omega) (by omega)]
  refine ⟨⟨a1, a2, a3⟩, ⟨b1, b2, b3⟩, fun i hi => ?_, ⟨d1, fun i hi => ?_⟩, fun h hh => ?_⟩
  · rw [gSet_o (by omega) (by omega)]; exact c i hi
  · rw [gSet_o (by omega) (by omega), gSet_o (by omega) (by omega), gSet_o (by omega) (by omega)]; exact d2 i hi
  · obtain ⟨y0, y1, y2, y3⟩ := e h hh
    unfold fl_g gW0 gF0
    rw [gSet_0 (by omega) (by omega), gSet_2 (by omega), show gSet g F W r (11 * h) = g (11 * h) from gSet_0 (c := 0) (by omega) (by omega)]
    exact ⟨y0, y1, y2, fun d hd => by rw [gSet_3 (by omega) hd]; exact y3 d hd⟩
theorem zs_pc0 : ∀ w, w < 256 → (zs_pc w = 0 ↔ w = 0) := by decide +kernel
theorem gE_0 {g : Nat → Nat} {h : Nat} {f : Nat → Nat} {w nx : Nat} {b : Bool} (hw : w < 256) : gE g h f w nx b = 0 ↔ gB g h f w nx b = w := by
  unfold gE
  rw [zs_pc0 _ (zs_xor_lt (gB_lt _ _ _ _ _ _) hw)]
  constructor
  · intro q
    have := congrArg (fun z => z ^^^ w) q
    simp only [Nat.xor_assoc, Nat.xor_self, Nat.xor_zero, Nat.zero_xor] at this
    exact this
  · intro q; rw [q, Nat.xor_self]
section ZB
variable {S : zSt} {σ τ : zz_T}
/-- one row more, from row i on -/
theorem m_rows1 {Q : zz_T → Prop} {g : Nat → Nat} {F : Nat → Nat → Nat} {Wr : Nat → Nat} {r i wm bm ho wr : Nat} {wb : Nat → Nat} {τ1 : zz_T} (hg : gOK g) (hd : gDY g F Wr r) (hr : r < 100000) (hi : i < 900) (hP : fl_dy (τ1.1 2) g (fun h => hF g h (gR g r none) (F h) i) (fun h => hW g h (gR g r none) (F h) (Wr h) i) (r + i)) (h13 : τ1.1 0 13 = (-4)) (A : mAc τ1 (g 33) wm bm ho wr wb) (hwm : wm ≤ 50000) (hho : ho ≤ 99) (hq : ∀ τ' : zz_T, mK τ1 τ' → zz_but mRo τ1 τ' → fl_dy (τ'.1 2) g (fun h => hF g h (gR g r none) (F h) (i + 1)) (fun h => hW g h (gR g r none) (F h) (Wr h) (i + 1)) (r + (i + 1)) → τ'.1 0 13 = (-4) → (∃ wm' bm' ho' wr', wm' ≤ wm + 24 ∧ ho' ≤ 99 ∧ mAc τ' (g 33) wm' bm' ho' wr' (fun h => wb h + hE g h (gR g r none) (F h) i)) → (∀ h, h < g 33 → τ'.1 8 h = nI (hB g h (gR g r none) (F h) i)) → (∀ j, j ≠ 14 → j ≠ 15 → j ≠ 16 → j ≠ 17 → τ'.1 0 j = τ1.1 0 j) → Q τ') : pX6_rowsGo 1 τ1 Q := by
  refine m_rows (n := 1) (wt := none) hg (hd.run (gR g r none) (n := i) (r' := r + i) (by omega)) (by omega) (by omega) hP A hwm hho (Or.inl ⟨h13, rfl⟩) (fun τ' hb hP' h0 hA h8 => ?_)
  refine hq τ' (mK.of hb.1 (fun q hq => by unfold mRo at hq; unfold mScr; omega) (fun j hj => h0 j (by omega) (by omega) (by omega) (by omega))) hb hP' (by rw [h0 13 (by omega) (by omega) (by omega) (by omega)]; exact h13) ⟨_, _, _, _, ?_, ?_, hA.1, hA.2.1, hA.2.2.1, hA.2.2.2.1, fun h hh => ?_⟩ (fun h hh => h8 (by omega) h hh) h0
  · have := gN_le hg.1 (gR g (r + i) none) (fun h => hF g h (gR g r none) (F h) i) 1
    omega
  · have := fmx_le (f := gM g (gR g (r + i) none) (fun h => hF g h (gR g r none) (F h) i)) (c := 99) (n := 1) (fun k _ => fmx_le (fun h _ => fmx_le (fun d _ => hT_le _ _ _ _ _ _)))
    omega
  · rw [hA.2.2.2.2 h hh]
    show nI (wb h + (0 + hE g h (gR g (r + i) none) (hF g h (gR g r none) (F h) i) 0)) = _
    rw [Nat.zero_add]
    rfl
theorem b_when (hs : sOK S) (X : RX σ S) (M : RM τ S) (x1 : Int32) : zBi (pX5_when x1 σ) (pX6_when x1 τ) := by
  have h3 := hs.1.1.1
  have hr := hs.1.2.2
  unfold pX5_when pX6_when
  by_cases h : zIn x1 0 (nI (sg S 33) - 1)
  · obtain ⟨k, hk, rfl⟩ := (zIn_n (by omega)).mp h
    generalize hRd : gR (sg S) (sg S 50) none = R
    -- the first row that is wrong
    have hfirst : ∃ v : Int32, (∀ (j i : Nat) (σ3 : zz_T), i + j = 61 → (∀ e, e < i → hE (sg S) k R (gF0 (sg S) k) e = 0) → LoneAt σ (sg S) k (hF (sg S) k R (gF0 (sg S) k) i) σ3 → pX5_when_28 (fun x s => x = v ∧ RX s S) (j + 1) (nI i) σ3) ∧ (∀ (j i : Nat) (τ3 : zz_T), i + j = 61 → (∀ e, e < i → hE (sg S) k R (gF0 (sg S) k) e = 0) → mK τ τ3 → fl_dy (τ3.1 2) (sg S) (fun h => hF (sg S) h R (gF0 (sg S) h) i) (fun h => hW (sg S) h R (gF0 (sg S) h) (gW0 (sg S) h) i) (sg S 50 + i) → τ3.1 0 13 = (-4) → (∃ wm bm ho wr wb, wm ≤ 24 * i ∧ ho ≤ 99 ∧ wb k = 0 ∧ mAc τ3 (sg S 33) wm bm ho wr wb) → pX6_when_16 (fun x s => x = v ∧ RM s S) (j + 1) (nI k) (nI i) τ3) := by
      have lineOf : ∀ i, (R i).1 = gL (sg S) (sg S 50 + i) := fun i => by rw [← hRd]; rfl
      have e0 : ∀ i, hE (sg S) k R (gF0 (sg S) k) i = 0 ↔ hB (sg S) k R (gF0 (sg S) k) i = gL (sg S) (sg S 50 + i) := fun i => by
        unfold hE hB
        rw [gE_0 (by rw [lineOf]; exact gL_lt hs.1.1 _), lineOf]
      by_cases hex : ∃ i, i < 61 ∧ ¬ hE (sg S) k R (gF0 (sg S) k) i = 0
      · obtain ⟨i0, h0, h1, h2⟩ := fb_first (p := fun i => ¬ hE (sg S) k R (gF0 (sg S) k) i = 0) hex
        refine ⟨nI i0, ?_, ?_⟩
        · intro j
          induction j with
          | zero => intro i σ3 hi he L; exact absurd (he i0 (by omega)) h1
          | succ j ih =>
            intro i σ3 hi he L
            refine br_f (by rw [show (60 : Int32) = nI 60 from rfl, nI_ltI (by omega) (by omega)]; omega) ?_
            have L' := L
            rw [← hRd, ← gRp_t] at L'
            refine x_lone_step (pw := fun _ => true) hs.1.1 (gSim.rf hs.1.1) (by omega) (by omega) hk X.1 L' (fun σ4 L4 => ?_)
            rw [gRp_t, hRd] at L4
            rw [gRp_t, hRd]
            refine px_wantedIn hs.1.1 (by omega) (xP_cK hs.1.1 X.1 L4.1) (by omega) ?_
            have bl := hB_lt (sg S) k R (gF0 (sg S) k) i
            have gl := gL_lt hs.1.1 (sg S 50 + i)
            by_cases hz : hE (sg S) k R (gF0 (sg S) k) i = 0
            · refine br_t (by rw [(e0 i).mp hz]) ?_
              rw [nI_1]
              exact ih (i + 1) σ4 (by omega) (fun e he2 => by
                rcases Nat.lt_or_ge e i with q | q
                · exact he e q
                · rw [show e = i by omega]; exact hz) L4
            · refine br_f (fun q => hz ((e0 i).mpr ((nI_eq (by omega) (by omega)).mp q))) ⟨?_, X.keep L4.1 hs⟩
              congr 1
              rcases Nat.lt_trichotomy i i0 with q | q | q
              · exact absurd hz (h2 i q)
              · exact q
              · exact absurd (he i0 q) h1
        · intro j
          induction j with
          | zero => intro i τ3 hi he; exact absurd (he i0 (by omega)) h1
          | succ j ih =>
            intro i τ3 hi he hk3 hP h13 hA
            obtain ⟨wm, bm, ho, wr, wb, q1, q2, q3, A⟩ := hA
            refine br_f (by rw [show (60 : Int32) = nI 60 from rfl, nI_ltI (by omega) (by omega)]; omega) ?_
            rw [← hRd] at hP
            refine m_rows1 hs.1.1 hs.1.2.1 (by omega) (by omega) hP h13 A (by omega) q2 (fun τ4 hk4 hb hP4 h134 hA4 h8 h04 => ⟨vp_in_nI (by omega) (by decide), ?_⟩)
            obtain ⟨wm', bm', ho', wr', p1, p2, A4⟩ := hA4
            rw [hRd] at hP4 A4
            have el := hE_le (sg S) k R (gF0 (sg S) k) i
            rw [nI_tn (by omega), A4.2.2.2.2 k hk]
            dsimp only
            rw [q3, Nat.zero_add]
            by_cases hz : hE (sg S) k R (gF0 (sg S) k) i = 0
            · refine br_t (by rw [hz]; decide) ?_
              rw [nI_1]
              exact ih (i + 1) τ4 (by omega) (fun e he2 => by
                rcases Nat.lt_or_ge e i with q | q
                · exact he e q
                · rw [show e = i by omega]; exact hz) (hk3.tr hk4) hP4 h134 ⟨wm', bm', ho', wr', _, by omega, p2, by show wb k + _ = 0; omega, A4⟩
            · refine br_f ?_ ⟨?_, M.keep (hk3.tr hk4)⟩
              · rw [show (0 : Int32) = nI 0 from rfl, nI_leI (by omega) (by omega)]; omega
              · congr 1
                rcases Nat.lt_trichotomy i i0 with q | q | q
                · exact absurd hz (h2 i q)
                · exact q
                · exact absurd (he i0 q) h1
      · have hall : ∀ i, i < 61 → hE (sg S) k R (gF0 (sg S) k) i = 0 := fun i hi => by
          rcases Nat.eq_zero_or_pos (hE (sg S) k R (gF0 (sg S) k) i) with q | q
          · exact q
          · exact absurd ⟨i, hi, by omega⟩ hex
        refine ⟨-4, ?_, ?_⟩
        · intro j
          induction j with
          | zero =>
            intro i σ3 hi he L
            obtain rfl : i = 61 := by omega
            exact br_t (by decide) ⟨rfl, X.keep L.1 hs⟩
          | succ j ih =>
            intro i σ3 hi he L
            refine br_f (by rw [show (60 : Int32) = nI 60 from rfl, nI_ltI (by omega) (by omega)]; omega) ?_
            have L' := L
            rw [← hRd, ← gRp_t] at L'
            refine x_lone_step (pw := fun _ => true) hs.1.1 (gSim.rf hs.1.1) (by omega) (by omega) hk X.1 L' (fun σ4 L4 => ?_)
            rw [gRp_t, hRd] at L4
            rw [gRp_t, hRd]
            refine px_wantedIn hs.1.1 (by omega) (xP_cK hs.1.1 X.1 L4.1) (by omega) ?_
            refine br_t (by rw [(e0 i).mp (hall i (by omega))]) ?_
            rw [nI_1]
            exact ih (i + 1) σ4 (by omega) (fun e he2 => hall e (by omega)) L4
        · intro j
          induction j with
          | zero =>
            intro i τ3 hi he hk3 hP h13 hA
            obtain rfl : i = 61 := by omega
            exact br_t (by decide) ⟨rfl, M.keep hk3⟩
          | succ j ih =>
            intro i τ3 hi he hk3 hP h13 hA
            obtain ⟨wm, bm, ho, wr, wb, q1, q2, q3, A⟩ := hA
            refine br_f (by rw [show (60 : Int32) = nI 60 from rfl, nI_ltI (by omega) (by omega)]; omega) ?_
            rw [← hRd] at hP
            refine m_rows1 hs.1.1 hs.1.2.1 (by omega) (by omega) hP h13 A (by omega) q2 (fun τ4 hk4 hb hP4 h134 hA4 h8 h04 => ⟨vp_in_nI (by omega) (by decide), ?_⟩)
            obtain ⟨wm', bm', ho', wr', p1, p2, A4⟩ := hA4
            rw [hRd] at hP4 A4
            have hz := hall i (by omega)
            rw [nI_tn (by omega), A4.2.2.2.2 k hk]
            dsimp only
            rw [q3, Nat.zero_add]
            refine br_t (by rw [hz]; decide) ?_
            rw [nI_1]
            exact ih (i + 1) τ4 (by omega) (fun e he2 => hall e (by omega)) (hk3.tr hk4) hP4 h134 ⟨wm', bm', ho', wr', _, by omega, p2, by show wb k + _ = 0; omega, A4⟩
    obtain ⟨v, hx, hm⟩ := hfirst
    refine ⟨v, S, hs, x_noHead_y X.1.1.1 h (br_t rfl ⟨vp_in_nI (by omega) (by decide), ?_⟩), m_isHead_y M.1.1.1 h (br_f (by decide) (m_startsR hs M (fun τ' hk1 m2 m1 h13 hA => ⟨62, hm 61 0 τ' rfl (fun e he => absurd he (by omega)) hk1 m2 h13 ⟨0, 0, 0, 0, fun _ => 0, by omega, by omega, rfl, hA _ h3⟩⟩)))⟩
    rw [nI_tn (by omega)]
    exact x_lone_0 hs.1.1 hs.1.2.1 hk X.1 (fun σ2 L => ⟨62, hx 61 0 σ2 rfl (fun e he => absurd he (by omega)) L⟩)
  · exact ⟨-1, S, hs, x_noHead_n X.1.1.1 h (br_f (by decide) ⟨rfl, X⟩), m_isHead_n M.1.1.1 h (br_t rfl ⟨rfl, M⟩)⟩
theorem b_burn (hs : sOK S) (X : RX σ S) (M : RM τ S) (x1 : Int32) : zBi (pX5_burn x1 σ) (pX6_burn x1 τ) := by
  have h3 := hs.1.1.1
  have hr := hs.1.2.2
  unfold pX5_burn pX6_burn
  by_cases h : zIn x1 0 60
  · obtain ⟨n, hn, rfl⟩ := (zIn_c (n := 60) (by omega)).mp h
    have e6 : σ.1 3 6 = nI (sg S 50) := X.1.1.2.2
    have e50 : τ.1 1 50 = nI (sg S 50) := M.1.1.2.2
    by_cases hf : sg S 50 + n ≤ 9999
    · generalize hRd : gR (sg S) (sg S 50) none = R
      have hdy : gDY (sg S) (fun h => hF (sg S) h R (gF0 (sg S) h) n) (fun h => hW (sg S) h R (gF0 (sg S) h) (gW0 (sg S) h) n) (sg S 50 + n) := hs.1.2.1.run R (by omega)
      have hG := gAll_set hs.1.1 hdy hf
      refine ⟨nI (gN (sg S) R (gF0 (sg S)) n), (_, S.2), hs.g hG, x_badRows_y h (br_t rfl (br_t ?_ ?_)), m_isFar_y h (br_f (by decide) ⟨vp_in_nI (n := 50) (by decide) (by decide), br_t ?_ (m_startsR hs M (fun τ' hk1 m2 m1 h13 hA => m_rowsR hs (by omega) hk1 m2 h13 hA (fun τ2 hk2 hb hP hA2 h8 h13' => ?_)))⟩)⟩
      · rw [e6, nI_add, show (10000 : Int32) = nI 10000 from rfl, nI_ltI (by omega) (by omega)]; omega
      · have loop : ∀ (j i : Nat) (σ3 : zz_T), i + j = n → zz_but (fun q => 3 ≤ q ∧ q ≤ 19) σ σ3 → px_dy σ3 3 (sg S) (fun h => hF (sg S) h R (gF0 (sg S) h) i) (fun h => hW (sg S) h R (gF0 (sg S) h) (gW0 (sg S) h) i) (sg S 50 + i) → pX5_burn_31 (fun x s => x = nI (gN (sg S) R (gF0 (sg S)) n) ∧ RX s (gSet (sg S) (fun h => hF (sg S) h R (gF0 (sg S) h) n) (fun h => hW (sg S) h R (gF0 (sg S) h) (gW0 (sg S) h) n) (sg S 50 + n), S.2)) (j + 1) (nI n) (nI (gN (sg S) R (gF0 (sg S)) i)) (nI i) σ3 := by
          intro j
          induction j with
          | zero =>
            intro i σ3 hi hb P
            obtain rfl : i = n := by omega
            exact br_t (nI_le (Nat.le_refl _) (by omega)) ⟨rfl, xP_set2 hs.1.1 P, X.2.keep hs (fun q hq => hb.1 q (fun z => hq (Or.inl z)))⟩
          | succ j ih =>
            intro i σ3 hi hb P
            refine br_f (nI_ge (by omega) (by omega)) ?_
            refine px_burnRow true hs.1.1 (hs.1.2.1.run R (by omega)) P (fun σ4 hb4 P4 _ _ => ?_)
            have e1 : gL (sg S) (sg S 50 + i) = (R i).1 := by rw [← hRd]; rfl
            have e2 : gL (sg S) (sg S 50 + i + 1) = (R i).2.1 := by rw [← hRd]; rfl
            have e3 : (R i).2.2.1 = true := by rw [← hRd]; rfl
            have e4 : (R i).2.2.2 = false := by rw [← hRd]; rfl
            rw [e1, e2] at P4 ⊢
            rw [nI_add, nI_1]
            have z := ih (i + 1) σ4 (by omega) (hb.tr (hb4.mono (fun q hq => by omega)))
            have zF : (fun h => hF (sg S) h R (gF0 (sg S) h) (i + 1)) = (fun h => gC (sg S) h (hF (sg S) h R (gF0 (sg S) h) i) (R i).1 (R i).2.1 true) := by
              funext h
              show (if (R i).2.2.2 then (fun _ => 0) else gC (sg S) h (hF (sg S) h R (gF0 (sg S) h) i) (R i).1 (R i).2.1 (R i).2.2.1) = _
              rw [e4, e3]; rfl
            have zW : (fun h => hW (sg S) h R (gF0 (sg S) h) (gW0 (sg S) h) (i + 1)) = (fun h => min (hW (sg S) h R (gF0 (sg S) h) (gW0 (sg S) h) i + gE (sg S) h (hF (sg S) h R (gF0 (sg S) h) i) (R i).1 (R i).2.1 true) 9999) := by
              funext h
              show min (hW (sg S) h R (gF0 (sg S) h) (gW0 (sg S) h) i + gE (sg S) h (hF (sg S) h R (gF0 (sg S) h) i) (R i).1 (R i).2.1 (R i).2.2.1) 9999 = _
              rw [e3]
            have zS : gN (sg S) R (gF0 (sg S)) (i + 1) = gN (sg S) R (gF0 (sg S)) i + fb_sm (fun h => gE (sg S) h (hF (sg S) h R (gF0 (sg S) h) i) (R i).1 (R i).2.1 true) (sg S 33) := by
              show gN (sg S) R (gF0 (sg S)) i + gS (sg S) R (gF0 (sg S)) i = _
              unfold gS hE
              rw [e3]
            rw [zF, zW, zS] at z
            exact z P4
        exact ⟨n + 1, loop n 0 σ (by omega) (zz_but.rf _ _) X.1⟩
      · rw [show Int32.toNatClampNeg 50 = 50 from rfl, e50, nI_add, show (9999 : Int32) = nI 9999 from rfl, nI_leI (by omega) (by omega)]; exact hf
      · rw [hRd] at hP hA2
        have loop : ∀ (j k : Nat) (τ3 : zz_T), k + j = 70 → zz_but (fun q => q = 1) τ2 τ3 → (∀ i, i < k → τ3.1 1 i = τ2.1 2 i) → (∀ i, 70 ≤ i → τ3.1 1 i = τ2.1 1 i) → pX6_settles_2 (fun s37 => s37.1 0 14 = nI (gN (sg S) R (gF0 (sg S)) n) ∧ RM s37 (gSet (sg S) (fun h => hF (sg S) h R (gF0 (sg S) h) n) (fun h => hW (sg S) h R (gF0 (sg S) h) (gW0 (sg S) h) n) (sg S 50 + n), S.2)) (j + 1) (nI k) τ3 := by
          intro j
          induction j with
          | zero =>
            intro k τ3 hj hb3 e1 e2
            obtain rfl : k = 70 := by omega
            refine br_t (by decide) ⟨by rw [hb3.1 0 (by omega)]; exact hA2.1, ?_, ?_⟩
            · exact mP_set2 hs.1.1 (hP.kept hs.1.1 e1)
            · have MK := (M.keep hk2).2
              refine MK.keep (fun q hq => hb3.1 q (by omega)) (fun i hi => e2 i hi) (fun j hj => by rw [hb3.1 0 (by omega)])
          | succ j ih =>
            intro k τ3 hj hb3 e1 e2
            refine br_f (by rw [show (70 : Int32) = nI 70 from rfl, nI_leI (by omega) (by omega)]; omega) ⟨vp_in_nI (by omega) (by decide), vp_in_nI (by omega) (by decide), ?_⟩
            rw [nI_1, nI_tn (by omega)]
            refine ih (k + 1) _ (by omega) (hb3.i rfl) (fun i hi => ?_) (fun i hi => ?_)
            · by_cases e : i = k
              · subst e; rw [zi_at, hb3.1 2 (by omega)]
              · rw [zi_j e]; exact e1 i (by omega)
            · rw [zi_j (by omega)]; exact e2 i hi
        exact ⟨71, loop 70 0 τ2 (by omega) (zz_but.rf _ _) (fun i hi => absurd hi (by omega)) (fun _ _ => rfl)⟩
    · refine ⟨-3, S, hs, x_badRows_y h (br_t rfl (br_f ?_ ⟨rfl, X⟩)), m_isFar_y h (br_f (by decide) ⟨vp_in_nI (n := 50) (by decide) (by decide), br_f ?_ ⟨rfl, M⟩⟩)⟩
      · rw [e6, nI_add, show (10000 : Int32) = nI 10000 from rfl, nI_ltI (by omega) (by omega)]; omega
      · rw [show Int32.toNatClampNeg 50 = 50 from rfl, e50, nI_add, show (9999 : Int32) = nI 9999 from rfl, nI_leI (by omega) (by omega)]; exact hf
  · exact ⟨-1, S, hs, x_badRows_n h (br_f (by decide) ⟨rfl, X⟩), m_isFar_n h (br_t rfl ⟨rfl, M⟩)⟩
end ZB
