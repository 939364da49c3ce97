/-! A PRINTER'S VALUE g: numbers as the reference lays them: of head h at 11h kind, power, wrong, heats; 33 heads, 34 mark, 35 cool, 36 spread, 37 on lines, 49 how many, 50 row, 51 seen, 52 on -/
def gL (g : Nat → Nat) (r : Nat) : Nat := if g 49 = 0 then 0 else g (37 + r % g 49)
def gT (g : Nat → Nat) (h : Nat) (f : Nat → Nat) (w nx : Nat) (b : Bool) : Nat → Nat := zs_ht (g (11 * h)) (g (11 * h + 1)) f w nx b
def gB (g : Nat → Nat) (h : Nat) (f : Nat → Nat) (w nx : Nat) (b : Bool) : Nat := zs_bk (g 34) (gT g h f w nx b) 8
def gE (g : Nat → Nat) (h : Nat) (f : Nat → Nat) (w nx : Nat) (b : Bool) : Nat := zs_pc (gB g h f w nx b ^^^ w)
def gC (g : Nat → Nat) (h : Nat) (f : Nat → Nat) (w nx : Nat) (b : Bool) : Nat → Nat := zs_cl (g 35) (g 36) (gT g h f w nx b)
/-- bounds of a printer's value: what is static in it -/
def gOK (g : Nat → Nat) : Prop := g 33 ≤ 3 ∧ (∀ h, h < g 33 → g (11 * h) ≤ 3 ∧ g (11 * h + 1) ≤ 30) ∧ (1 ≤ g 34 ∧ g 34 ≤ 60 ∧ g 35 ≤ 9 ∧ g 36 ≤ 3) ∧ (g 49 ≤ 12 ∧ ∀ i, i < g 49 → g (37 + i) < 256) ∧ (g 51 ≤ 6 ∧ ∀ i, i < g 51 → g (52 + 3 * i) ≤ 40 ∧ g (53 + 3 * i) < g 33 ∧ g (54 + 3 * i) < 256)
/-- and what changes: heats F, wrong Wr, row r -/
def gDY (g : Nat → Nat) (F : Nat → Nat → Nat) (Wr : Nat → Nat) (r : Nat) : Prop := (∀ h, h < g 33 → Wr h ≤ 9999 ∧ ∀ d, d < 8 → F h d ≤ 99) ∧ r < 1000000
theorem gL_lt {g : Nat → Nat} (h : gOK g) (r : Nat) : gL g r < 256 := by
  unfold gL
  split
  · omega
  · next q => exact h.2.2.2.1.2 _ (Nat.mod_lt _ (by omega))
theorem gB_lt (g : Nat → Nat) (h : Nat) (f : Nat → Nat) (w nx : Nat) (b : Bool) : gB g h f w nx b < 256 := zs_bk_lt _ _ 8
theorem gE_le (g : Nat → Nat) (h : Nat) (f : Nat → Nat) (w nx : Nat) (b : Bool) : gE g h f w nx b ≤ 8 := zs_pc_le _
/-- the head at k holds head h of g, with heats f -/
def hx_g (σ : zz_T) (k : Nat) (g : Nat → Nat) (h wr : Nat) (f : Nat → Nat) : Prop := σ.1 k 2 = nI (g (11 * h)) ∧ σ.1 k 3 = nI (g (11 * h + 1)) ∧ σ.1 k 4 = nI wr ∧ ∀ d, d < 8 → σ.1 (k + 1) d = nI (f d)
theorem hx_g.kept {σ σ' : zz_T} {k : Nat} {g : Nat → Nat} {h wr : Nat} {f : Nat → Nat} (H : hx_g σ k g h wr f) (h0 : σ'.1 k = σ.1 k) (h1 : σ'.1 (k + 1) = σ.1 (k + 1)) : hx_g σ' k g h wr f := by
  obtain ⟨a, b, c, d⟩ := H
  exact ⟨by rw [h0]; exact a, by rw [h0]; exact b, by rw [h0]; exact c, fun i hi => by rw [h1]; exact d i hi⟩
/-- the printer at p holds g, with heats F, wrong Wr, row r -/
def px_dy (σ : zz_T) (p : Nat) (g : Nat → Nat) (F : Nat → Nat → Nat) (Wr : Nat → Nat) (r : Nat) : Prop :=
  (σ.1 p 4 = nI (g 33) ∧ σ.1 p 5 = nI (g 49) ∧ σ.1 p 6 = nI r) ∧ (σ.1 (p + 3) 0 = nI (g 34) ∧ σ.1 (p + 3) 1 = nI (g 35) ∧ σ.1 (p + 3) 2 = nI (g 36)) ∧ (∀ i, i < g 49 → σ.1 (p + 2) i = nI (g (37 + i))) ∧
  (σ.1 (p + 4) 3 = nI (g 51) ∧ ∀ i, i < g 51 → σ.1 (p + 5) i = nI (g (52 + 3 * i)) ∧ σ.1 (p + 6) i = nI (g (53 + 3 * i)) ∧ σ.1 (p + 7) i = nI (g (54 + 3 * i))) ∧
  ∀ h, h < g 33 → hx_g σ (p + 8 + 3 * h) g h (Wr h) (F h)
theorem px_dy.kept {σ σ' : zz_T} {p : Nat} {g : Nat → Nat} {F : Nat → Nat → Nat} {Wr : Nat → Nat} {r : Nat} (H : px_dy σ p g F Wr r) (h3 : g 33 ≤ 3) (hb : ∀ q, p ≤ q → q ≤ p + 16 → σ'.1 q = σ.1 q) : px_dy σ' p g F Wr r := by
  obtain ⟨⟨a1, a2, a3⟩, ⟨b1, b2, b3⟩, c, ⟨d1, d2⟩, e⟩ := H
  refine ⟨⟨?_, ?_, ?_⟩, ⟨?_, ?_, ?_⟩, fun i hi => ?_, ⟨?_, fun i hi => ?_⟩, fun h hh => ?_⟩
  · rw [hb p (by omega) (by omega)]; exact a1
  · rw [hb p (by omega) (by omega)]; exact a2
  · rw [hb p (by omega) (by omega)]; exact a3
  · rw [hb (p + 3) (by omega) (by omega)]; exact b1
  · rw [hb (p + 3) (by omega) (by omega)]; exact b2
  · rw [hb (p + 3) (by omega) (by omega)]; exact b3
  · rw [hb (p + 2) (by omega) (by omega)]; exact c i hi
  · rw [hb (p + 4) (by omega) (by omega)]; exact d1
  · rw [hb (p + 5) (by omega) (by omega), hb (p + 6) (by omega) (by omega), hb (p + 7) (by omega) (by omega)]; exact d2 i hi
  · exact (e h hh).kept (hb _ (by omega) (by omega)) (hb _ (by omega) (by omega))
/-- a head burns a line, in the words of g -/
theorem hx_burng {k c1 h : Nat} {σ : zz_T} {Q : Int32 → zz_T → Prop} {g : Nat → Nat} {wr : Nat} {f : Nat → Nat} {w nx : Nat} (b : Bool) (hg : gOK g) (hh : h < g 33) (H : hx_g σ k g h wr f) (hwr : wr ≤ 9999) (hf : ∀ d, d < 8 → f d ≤ 99) (hr : σ.1 (c1 + 3) 0 = nI (g 34) ∧ σ.1 (c1 + 3) 1 = nI (g 35) ∧ σ.1 (c1 + 3) 2 = nI (g 36)) (hw : w < 256) (hn : nx < 256) (n0 : c1 + 3 ≠ k) (n1 : c1 + 3 ≠ k + 1) (n2 : c1 + 3 ≠ k + 2)
    (hq : ∀ σ' : zz_T, zz_but (fun q => q = k ∨ q = k + 1 ∨ q = k + 2) σ σ' → hx_g σ' k g h (min (wr + gE g h f w nx b) 9999) (gC g h f w nx b) → (∀ d, d < 8 → σ'.1 (k + 2) d = nI (gT g h f w nx b d)) → Q (nI (gB g h f w nx b)) σ') : pX0_burnLine k c1 (nI w) (nI nx) (if b then 1 else 0) σ Q := by
  obtain ⟨a, b1, c, d⟩ := H
  have hb := hg.2.1 h hh
  have hm := hg.2.2.1
  refine hx_burn (kd := g (11 * h)) (po := g (11 * h + 1)) (wr := wr) (mk := g 34) (cl := g 35) (sp := g 36) (f := f) b ⟨a, b1, c, d, hb.1, hb.2, hwr, hf⟩ ⟨hr.1, hr.2.1, hr.2.2, by omega, by omega, by omega⟩ hw hn n0 n1 n2 ?_
  unfold hx_st
  refine hq _ ?_ ⟨?_, ?_, ?_, fun i hi => ?_⟩ (fun i hi => ?_)
  · exact (((zz_but.rf _ _).r (by omega)).i (by omega)).r (by omega)
  · rw [zr_k (by omega), zi_j (by omega), zr_k (by omega)]; exact a
  · rw [zr_k (by omega), zi_j (by omega), zr_k (by omega)]; exact b1
  · rw [zr_k (by omega), zi_at]; rfl
  · rw [zr_at, hx_ul hi]; rfl
  · rw [zr_k (by omega), zi_k (by omega), zr_at, hx_ul hi]; rfl
/-- one line on all heads -/
def gUp (n : Nat) (a b : Nat → Nat → Nat) : Nat → Nat → Nat := fun j => if j < n then a j else b j
def gUw (n : Nat) (a b : Nat → Nat) : Nat → Nat := fun j => if j < n then a j else b j
theorem px_burnLine {p : Nat} {σ : zz_T} {Q : Int32 → zz_T → Prop} {g : Nat → Nat} {F : Nat → Nat → Nat} {Wr : Nat → Nat} {r w nx : Nat} (b : Bool) (hg : gOK g) (hd : gDY g F Wr r) (H : px_dy σ p g F Wr r) (hw : w < 256) (hn : nx < 256)
    (hq : ∀ σ' : zz_T, zz_but (fun q => p ≤ q ∧ q ≤ p + 16) σ σ' → px_dy σ' p g (fun h => gC g h (F h) w nx b) (fun h => min (Wr h + gE g h (F h) w nx b) 9999) r → (∀ h, h < g 33 → ∀ d, d < 8 → σ'.1 (p + 8 + 3 * h + 2) d = nI (gT g h (F h) w nx b d)) → σ'.1 p 7 = nI (fb_sm (fun h => zs_pc (gB g h (F h) w nx b)) (g 33)) → Q (nI (fb_sm (fun h => gE g h (F h) w nx b) (g 33))) σ') : pX1_burnLine p (nI w) (nI nx) (if b then 1 else 0) σ Q := by
  have h3 := hg.1
  have loop : ∀ (j h : Nat) (σ1 : zz_T), h + j = g 33 → zz_but (fun q => p ≤ q ∧ q ≤ p + 16) σ σ1 → px_dy σ1 p g (gUp h (fun h => gC g h (F h) w nx b) F) (gUw h (fun h => min (Wr h + gE g h (F h) w nx b) 9999) Wr) r → (∀ i, i < h → ∀ d, d < 8 → σ1.1 (p + 8 + 3 * i + 2) d = nI (gT g i (F i) w nx b d)) → σ1.1 p 7 = nI (fb_sm (fun h => zs_pc (gB g h (F h) w nx b)) h) → pX1_burnLine_11 p Q (j + 1) (nI w) (nI nx) (if b then 1 else 0) (nI (fb_sm (fun h => gE g h (F h) w nx b) h)) (nI h) σ1 := by
    intro j
    induction j with
    | zero =>
      intro h σ1 hj hbut hP hot hbl
      obtain rfl : h = g 33 := by omega
      refine br_t ?_ (hq σ1 hbut ?_ hot hbl)
      · rw [hP.1.1]; exact nI_le (by omega) (by omega)
      · obtain ⟨a, b1, c, d, e⟩ := hP
        refine ⟨a, b1, c, d, fun h hh => ?_⟩
        have := e h hh
        simp only [gUp, gUw, if_pos hh] at this
        exact this
    | succ j ih =>
      intro h σ1 hj hbut hP hot hbl
      have hlt : h < g 33 := by omega
      refine br_f (by rw [hP.1.1]; exact nI_ge hlt (by omega)) ⟨vp_in_nI (by omega) (by decide), ?_⟩
      rw [nI_tn (n := h) (by omega)]
      have hh := hP.2.2.2.2 h hlt
      simp only [gUp, gUw, if_neg (Nat.lt_irrefl h)] at hh
      refine hx_burng b hg hlt hh (hd.1 h hlt).1 (hd.1 h hlt).2 hP.2.1 hw hn (by omega) (by omega) (by omega) (fun σ2 hb2 hg2 hot2 => ?_)
      have e7 : σ2.1 p = σ1.1 p := hb2.1 p (by omega)
      refine zb_c _ (gB_lt _ _ _ _ _ _) _ _ ?_
      rw [fb_xorI]
      refine zb_c _ (zs_xor_lt (gB_lt _ _ _ _ _ _) hw) _ _ ?_
      rw [e7, hbl, nI_add, nI_add, nI_1]
      refine ih (h + 1) _ (by omega) ?_ ?_ ?_ ?_
      · exact (hbut.tr (hb2.mono (fun q hq => by omega))).i (by omega)
      · obtain ⟨⟨a1, a2, a3⟩, b1, c, d, e⟩ := hP
        have o : ∀ q, q ≠ p + 8 + 3 * h → q ≠ p + 8 + 3 * h + 1 → q ≠ p + 8 + 3 * h + 2 → σ2.1 q = σ1.1 q := fun q x y z => hb2.1 q (by omega)
        refine ⟨⟨?_, ?_, ?_⟩, ?_, fun i hi => ?_, ⟨?_, fun i hi => ?_⟩, fun i hi => ?_⟩
        · rw [zi_j (by omega), e7]; exact a1
        · rw [zi_j (by omega), e7]; exact a2
        · rw [zi_j (by omega), e7]; exact a3
        · rw [zi_k (by omega), o _ (by omega) (by omega) (by omega)]; exact b1
        · rw [zi_k (by omega), o _ (by omega) (by omega) (by omega)]; exact c i hi
        · rw [zi_k (by omega), o _ (by omega) (by omega) (by omega)]; exact d.1
        · rw [zi_k (by omega), zi_k (by omega), zi_k (by omega), o _ (by omega) (by omega) (by omega), o _ (by omega) (by omega) (by omega), o _ (by omega) (by omega) (by omega)]; exact d.2 i hi
        · by_cases hih : i = h
          · subst hih
            simp only [gUp, gUw, if_pos (Nat.lt_succ_self i)]
            exact hg2.kept (zi_k (by omega)) (zi_k (by omega))
          · have := e i hi
            have q : (i < h + 1) = (i < h) := by simp; omega
            simp only [gUp, gUw, q]
            exact this.kept (by rw [zi_k (by omega), o _ (by omega) (by omega) (by omega)]) (by rw [zi_k (by omega), o _ (by omega) (by omega) (by omega)])
      · intro i hi d hd8
        rw [zi_k (by omega)]
        by_cases hih : i = h
        · subst hih
          exact hot2 d hd8
        · rw [hb2.1 _ (by omega)]
          exact hot i (by omega) d hd8
      · rw [zi_at]; rfl
  refine ⟨g 33 + 1, ?_⟩
  have h0 := loop (g 33) 0 (zz_i σ p 7 0) (by omega) ((zz_but.rf _ _).i (by omega)) ?_ (fun i hi => absurd hi (by omega)) (by rw [zi_at]; rfl)
  · exact h0
  · obtain ⟨⟨a1, a2, a3⟩, b1, c, d, e⟩ := H
    refine ⟨⟨?_, ?_, ?_⟩, ?_, fun i hi => ?_, ⟨?_, fun i hi => ?_⟩, fun i hi => ?_⟩
    · rw [zi_j (by omega)]; exact a1
    · rw [zi_j (by omega)]; exact a2
    · rw [zi_j (by omega)]; exact a3
    · rw [zi_k (by omega)]; exact b1
    · rw [zi_k (by omega)]; exact c i hi
    · rw [zi_k (by omega)]; exact d.1
    · rw [zi_k (by omega), zi_k (by omega), zi_k (by omega)]; exact d.2 i hi
    · simp only [gUp, gUw, if_neg (Nat.not_lt_zero i)]
      exact (e i hi).kept (zi_k (by omega)) (zi_k (by omega))
