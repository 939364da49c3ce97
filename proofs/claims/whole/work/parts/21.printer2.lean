theorem px_lineIn {p : Nat} {σ : zz_T} {Q : Int32 → zz_T → Prop} {nl r i : Nat} (h5 : σ.1 p 5 = nI nl) (h6 : σ.1 p 6 = nI r) (hl : nl ≤ 12) (hr : r < 1000000) (hi : i < 1000) (h0 : nl = 0 → Q (-4) σ) (h1 : 0 < nl → Q (nI ((r + i) % nl)) σ) : pX1_lineIn p (nI i) σ Q := by
  unfold pX1_lineIn
  rw [h5, h6]
  by_cases hz : nl = 0
  · exact br_t ((nI_z (by omega)).mpr hz) (h0 hz)
  · have hne : ¬ nI nl = 0 := fun q => hz ((nI_z (by omega)).mp q)
    refine br_f hne ⟨hne, ?_⟩
    rw [nI_add, pk_rem (by omega) (by omega) (by omega)]
    exact h1 (by omega)
theorem px_wantedIn {p : Nat} {σ : zz_T} {Q : Int32 → zz_T → Prop} {g : Nat → Nat} {F : Nat → Nat → Nat} {Wr : Nat → Nat} {r i : Nat} (hg : gOK g) (hr : r < 1000000) (H : px_dy σ p g F Wr r) (hi : i < 1000) (h : Q (nI (gL g (r + i))) σ) : pX1_wantedIn p (nI i) σ Q := by
  have h12 := hg.2.2.2.1.1
  unfold pX1_wantedIn
  unfold gL at h
  rw [H.1.2.1]
  by_cases hz : g 49 = 0
  · rw [if_pos hz] at h
    exact br_t ((nI_z (by omega)).mpr hz) h
  · rw [if_neg hz] at h
    have hm : (r + i) % g 49 < g 49 := Nat.mod_lt _ (by omega)
    refine br_f (fun q => hz ((nI_z (by omega)).mp q)) (px_lineIn H.1.2.1 H.1.2.2 h12 hr hi (fun q => absurd q hz) (fun _ => ⟨vp_in_nI (by omega) (by decide), ?_⟩))
    rw [nI_tn (by omega), H.2.2.1 _ hm]
    exact h
/-- a row -/
theorem px_burnRow {p : Nat} {σ : zz_T} {Q : Int32 → zz_T → Prop} {g : Nat → Nat} {F : Nat → Nat → Nat} {Wr : Nat → Nat} {r : Nat} (b : Bool) (hg : gOK g) (hd : gDY g F Wr r) (H : px_dy σ p g F Wr r)
    (hq : ∀ σ' : zz_T, zz_but (fun q => p ≤ q ∧ q ≤ p + 16) σ σ' → px_dy σ' p g (fun h => gC g h (F h) (gL g r) (gL g (r + 1)) b) (fun h => min (Wr h + gE g h (F h) (gL g r) (gL g (r + 1)) b) 9999) (r + 1) → (∀ h, h < g 33 → ∀ d, d < 8 → σ'.1 (p + 8 + 3 * h + 2) d = nI (gT g h (F h) (gL g r) (gL g (r + 1)) b d)) → σ'.1 p 7 = nI (fb_sm (fun h => zs_pc (gB g h (F h) (gL g r) (gL g (r + 1)) b)) (g 33)) → Q (nI (fb_sm (fun h => gE g h (F h) (gL g r) (gL g (r + 1)) b) (g 33))) σ') : pX1_burnRow p (if b then 1 else 0) σ Q := by
  have h3 := hg.1
  unfold pX1_burnRow
  refine px_wantedIn (i := 0) hg hd.2 H (by omega) ?_
  refine px_wantedIn (i := 1) hg hd.2 H (by omega) ?_
  refine px_burnLine b hg hd H (gL_lt hg _) (gL_lt hg _) (fun σ' hb hP hot h7 => ?_)
  rw [hP.1.2.2, nI_1]
  refine hq _ (hb.i (by omega)) ?_ (fun h hh d hd => by rw [zi_k (by omega)]; exact hot h hh d hd) (by rw [zi_j (by omega)]; exact h7)
  obtain ⟨⟨a1, a2, a3⟩, b1, c, d, e⟩ := hP
  refine ⟨⟨?_, ?_, ?_⟩, ?_, fun i hi => ?_, ⟨?_, fun i hi => ?_⟩, fun i hi => ?_⟩
  · rw [zi_j (by omega)]; exact a1
  · rw [zi_j (by omega)]; exact a2
  · rw [zi_at]
  · rw [zi_k (by omega)]; exact b1
  · rw [zi_k (by omega)]; exact c i hi
  · rw [zi_k (by omega)]; exact d.1
  · rw [zi_k (by omega), zi_k (by omega), zi_k (by omega)]; exact d.2 i hi
  · exact (e i hi).kept (zi_k (by omega)) (zi_k (by omega))
/-- a head is copied -/
theorem hx_copy {k c1 : Nat} {σ : zz_T} {Q : zz_T → Prop} {g : Nat → Nat} {h wr : Nat} {f : Nat → Nat} (H : hx_g σ c1 g h wr f) (n1 : c1 ≠ k) (n2 : c1 ≠ k + 1) (n3 : c1 + 1 ≠ k) (hq : ∀ σ' : zz_T, zz_but (fun q => q = k ∨ q = k + 1) σ σ' → hx_g σ' k g h wr f → Q σ') : pX0_copyFrom k c1 σ Q := by
  obtain ⟨a, b, c, d⟩ := H
  unfold pX0_copyFrom
  refine hq _ ?_ ⟨?_, ?_, ?_, fun i hi => ?_⟩
  · exact ((((zz_but.rf _ _).i (by omega)).i (by omega)).i (by omega)).r (by omega)
  · rw [zr_k (by omega), zi_j (by omega), zi_j (by omega), zi_at]; exact a
  · rw [zr_k (by omega), zi_j (by omega), zi_at, zi_k n1]; exact b
  · rw [zr_k (by omega), zi_at, zi_k n1, zi_k n1]; exact c
  · rw [zr_at, pk_cpy_in (by omega) (by omega), zi_k n3, zi_k n3, zi_k n3, Nat.zero_add, Nat.sub_zero]; exact d i hi
/-- a printer is copied -/
theorem px_copy {k c1 : Nat} {σ : zz_T} {Q : zz_T → Prop} {g : Nat → Nat} {F : Nat → Nat → Nat} {Wr : Nat → Nat} {r : Nat} (hg : gOK g) (H : px_dy σ c1 g F Wr r) (hdis : k + 16 < c1 ∨ c1 + 16 < k) (hq : ∀ σ' : zz_T, zz_but (fun q => k ≤ q ∧ q ≤ k + 16) σ σ' → px_dy σ' k g F Wr r → Q σ') : pX1_copyFrom k c1 σ Q := by
  have h3 := hg.1
  have keep : ∀ σ1 : zz_T, zz_but (fun q => k ≤ q ∧ q ≤ k + 16) σ σ1 → px_dy σ1 c1 g F Wr r := fun σ1 hb => H.kept h3 (fun q h1 h2 => hb.1 q (by omega))
  have loop : ∀ (j h : Nat) (σ1 : zz_T), h + j = g 33 → zz_but (fun q => k ≤ q ∧ q ≤ k + 16) σ σ1 → σ1.1 k 4 = nI (g 33) → (∀ i, i < h → hx_g σ1 (k + 8 + 3 * i) g i (Wr i) (F i)) → pX1_copyFrom_10 k c1 Q (j + 1) (nI h) σ1 := by
    intro j
    induction j with
    | zero =>
      intro h σ1 hj hb h4 hh
      obtain rfl : h = g 33 := by omega
      obtain ⟨⟨a1, a2, a3⟩, ⟨b1, b2, b3⟩, cc, ⟨d1, d2⟩, e⟩ := keep σ1 hb
      refine br_t (by rw [h4]; exact nI_le (by omega) (by omega)) ?_
      unfold pX2_copyFrom
      have hb2 : ∀ (f1 f2 f3 f4 f5 : Nat → Int32) (v w x : Int32), zz_but (fun q => k ≤ q ∧ q ≤ k + 16) σ (zz_i (zz_r (zz_r (zz_r (zz_r (zz_i (zz_r (zz_i σ1 k 5 v) (k + 2) f1) (k + 4) 3 w) (k + 4 + 1) f2) (k + 4 + 2) f3) (k + 4 + 3) f4) (k + 3) f5) k 6 x) := fun f1 f2 f3 f4 f5 v w x => (((((((hb.i (by omega)).r (by omega)).i (by omega)).r (by omega)).r (by omega)).r (by omega)).r (by omega)).i (by omega)
      refine hq _ (hb2 _ _ _ _ _ _ _ _) ⟨⟨?_, ?_, ?_⟩, ⟨?_, ?_, ?_⟩, fun i hi => ?_, ⟨?_, fun i hi => ⟨?_, ?_, ?_⟩⟩, fun i hi => ?_⟩
      · rw [zi_j (by omega), zr_k (by omega), zr_k (by omega), zr_k (by omega), zr_k (by omega), zi_k (by omega), zr_k (by omega), zi_j (by omega)]; exact h4
      · rw [zi_j (by omega), zr_k (by omega), zr_k (by omega), zr_k (by omega), zr_k (by omega), zi_k (by omega), zr_k (by omega), zi_at]; exact a2
      · rw [zi_at, zr_k (by omega), zr_k (by omega), zr_k (by omega), zr_k (by omega), zi_k (by omega), zr_k (by omega), zi_k (by omega)]; exact a3
      · rw [zi_k (by omega), zr_at, pk_cpy_in (by omega) (by omega), zr_k (by omega), zr_k (by omega), zr_k (by omega), zi_k (by omega), zr_k (by omega), zi_k (by omega)]; exact b1
      · rw [zi_k (by omega), zr_at, pk_cpy_in (by omega) (by omega), zr_k (by omega), zr_k (by omega), zr_k (by omega), zi_k (by omega), zr_k (by omega), zi_k (by omega)]; exact b2
      · rw [zi_k (by omega), zr_at, pk_cpy_in (by omega) (by omega), zr_k (by omega), zr_k (by omega), zr_k (by omega), zi_k (by omega), zr_k (by omega), zi_k (by omega)]; exact b3
      · have := hg.2.2.2.1.1
        rw [zi_k (by omega), zr_k (by omega), zr_k (by omega), zr_k (by omega), zr_k (by omega), zi_k (by omega), zr_at, pk_cpy_in (by omega) (by omega), zi_k (by omega), Nat.zero_add, Nat.sub_zero]; exact cc i hi
      · rw [zi_k (by omega), zr_k (by omega), zr_k (by omega), zr_k (by omega), zr_k (by omega), zi_at, zr_k (by omega), zi_k (by omega)]; exact d1
      · have := hg.2.2.2.2.1
        rw [zi_k (by omega), zr_k (by omega), zr_k (by omega), zr_k (by omega), zr_at, pk_cpy_in (by omega) (by omega), zi_k (by omega), zr_k (by omega), zi_k (by omega), Nat.zero_add, Nat.sub_zero]; exact (d2 i hi).1
      · have := hg.2.2.2.2.1
        rw [zi_k (by omega), zr_k (by omega), zr_k (by omega), show k + 6 = k + 4 + 2 from rfl, zr_at, pk_cpy_in (by omega) (by omega), zr_k (by omega), zi_k (by omega), zr_k (by omega), zi_k (by omega), Nat.zero_add, Nat.sub_zero]; exact (d2 i hi).2.1
      · have := hg.2.2.2.2.1
        rw [zi_k (by omega), zr_k (by omega), show k + 7 = k + 4 + 3 from rfl, zr_at, pk_cpy_in (by omega) (by omega), zr_k (by omega), zr_k (by omega), zi_k (by omega), zr_k (by omega), zi_k (by omega), Nat.zero_add, Nat.sub_zero]; exact (d2 i hi).2.2
      · refine (hh i hi).kept ?_ ?_
        · rw [zi_k (by omega), zr_k (by omega), zr_k (by omega), zr_k (by omega), zr_k (by omega), zi_k (by omega), zr_k (by omega), zi_k (by omega)]
        · rw [zi_k (by omega), zr_k (by omega), zr_k (by omega), zr_k (by omega), zr_k (by omega), zi_k (by omega), zr_k (by omega), zi_k (by omega)]
    | succ j ih =>
      intro h σ1 hj hb h4 hh
      have hlt : h < g 33 := by omega
      refine br_f (by rw [h4]; exact nI_ge hlt (by omega)) ⟨vp_in_nI (by omega) (by decide), vp_in_nI (by omega) (by decide), ?_⟩
      rw [nI_tn (by omega), nI_1]
      refine hx_copy ((keep σ1 hb).2.2.2.2 h hlt) (by omega) (by omega) (by omega) (fun σ2 hb2 hg2 => ?_)
      refine ih (h + 1) σ2 (by omega) (hb.tr (hb2.mono (fun q hq => by omega))) (by rw [hb2.1 k (by omega)]; exact h4) (fun i hi => ?_)
      by_cases e : i = h
      · subst e; exact hg2
      · exact (hh i (by omega)).kept (hb2.1 _ (by omega)) (hb2.1 _ (by omega))
  refine ⟨g 33 + 1, loop (g 33) 0 _ (by omega) ((zz_but.rf _ _).i (by omega)) ?_ (fun i hi => absurd hi (by omega))⟩
  rw [zi_at]
  exact H.1.1
/-- the greatest of the first n -/
def fmx (f : Nat → Nat) : Nat → Nat
  | 0 => 0
  | n + 1 => max (fmx f n) (f n)
theorem fmx_le {f : Nat → Nat} {c : Nat} : ∀ {n : Nat}, (∀ i, i < n → f i ≤ c) → fmx f n ≤ c
  | 0, _ => Nat.zero_le _
  | n + 1, h => by
    have h1 := fmx_le (n := n) (f := f) (fun i hi => h i (by omega))
    have h2 := h n (by omega)
    show max (fmx f n) (f n) ≤ c
    omega
theorem fmx_cong {f g : Nat → Nat} : ∀ {n : Nat}, (∀ i, i < n → f i = g i) → fmx f n = fmx g n
  | 0, _ => rfl
  | n + 1, h => by
    show max (fmx f n) (f n) = max (fmx g n) (g n)
    rw [fmx_cong (fun i hi => h i (by omega)), h n (by omega)]
theorem px_hottest {p : Nat} {σ : zz_T} {Q : Int32 → zz_T → Prop} {nh : Nat} {t : Nat → Nat → Nat} (h3 : nh ≤ 3) (h4 : σ.1 p 4 = nI nh) (hot : ∀ h, h < nh → ∀ d, d < 8 → σ.1 (p + 8 + 3 * h + 2) d = nI (t h d)) (hb : ∀ h, h < nh → ∀ d, d < 8 → t h d ≤ 99) (hq : Q (nI (fmx (fun h => fmx (t h) 8) nh)) σ) : pX1_hottest p σ Q := by
  have inner : ∀ (K : Int32 → Int32 → zz_T → Prop) (h : Nat), h < nh → ∀ (j d acc : Nat), d + j = 8 → acc ≤ 99 → K (nI (max acc (fmx (t h) 8))) (nI (h + 1)) σ → (fmx (t h) d ≤ acc) → pX1_hottest_14 p Q K (j + 1) (nI acc) (nI h) (nI d) σ := by
    intro K h hh j
    induction j with
    | zero =>
      intro d acc hd ha hK hle
      obtain rfl : d = 8 := by omega
      rw [Nat.max_eq_left hle] at hK
      refine br_t (by decide) ?_
      rw [nI_1]
      exact hK
    | succ j ih =>
      intro d acc hd ha hK hle
      have b1 := hb h hh d (by omega)
      refine br_f (by rw [show (8 : Int32) = nI 8 from rfl, nI_leI (by omega) (by omega)]; omega) ⟨vp_in_nI (by omega) (by decide), vp_in_nI (by omega) (by decide), ?_⟩
      rw [nI_tn (n := h) (by omega), nI_tn (n := d) (by omega), hot h hh d (by omega), z_max (by omega) (by omega), nI_1]
      have e : max (max acc (t h d)) (fmx (t h) 8) = max acc (fmx (t h) 8) := by
        have : t h d ≤ fmx (t h) 8 := by
          have m : ∀ n i, i < n → t h i ≤ fmx (t h) n := by
            intro n
            induction n with
            | zero => intro i hi; omega
            | succ n ihn =>
              intro i hi
              show t h i ≤ max (fmx (t h) n) (t h n)
              rcases Nat.lt_or_ge i n with q | q
              · have := ihn i q; omega
              · have : i = n := by omega
                subst this; omega
          exact m 8 d (by omega)
        omega
      refine ih (d + 1) (max acc (t h d)) (by omega) (by omega) (by rw [e]; exact hK) ?_
      show max (fmx (t h) d) (t h d) ≤ _
      omega
  have outer : ∀ (j h : Nat), h + j = nh → pX1_hottest_4 p Q (j + 1) (nI (fmx (fun h => fmx (t h) 8) h)) (nI h) σ := by
    intro j
    induction j with
    | zero =>
      intro h hj
      obtain rfl : h = nh := by omega
      exact br_t (by rw [h4]; exact nI_le (by omega) (by omega)) hq
    | succ j ih =>
      intro h hj
      refine br_f (by rw [h4]; exact nI_ge (by omega) (by omega)) ⟨9, ?_⟩
      exact inner _ h (by omega) 8 0 _ rfl (fmx_le (fun i hi => fmx_le (fun d hd => hb i (by omega) d hd))) (ih (h + 1) (by omega)) (Nat.zero_le _)
  exact ⟨nh + 1, outer nh 0 (by omega)⟩
