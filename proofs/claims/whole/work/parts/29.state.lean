/-! a printer's value, place by place -/
def gLive (g : Nat → Nat) (k : Nat) : Prop := k < 11 * g 33 ∨ (33 ≤ k ∧ k ≤ 36) ∨ (37 ≤ k ∧ k < 37 + g 49) ∨ (49 ≤ k ∧ k ≤ 51) ∨ (52 ≤ k ∧ k < 52 + 3 * g 51)
def zloc (k : Nat) : Nat × Nat := if k < 33 then (if k % 11 < 3 then (8 + 3 * (k / 11), 2 + k % 11) else (8 + 3 * (k / 11) + 1, k % 11 - 3)) else if k = 33 then (0, 4) else if k < 37 then (3, k - 34) else if k < 49 then (2, k - 37) else if k = 49 then (0, 5) else if k = 50 then (0, 6) else if k = 51 then (4, 3) else (5 + (k - 52) % 3, (k - 52) / 3)
theorem zloc_inj : ∀ i, i < 70 → ∀ j, j < 70 → zloc i = zloc j → i = j := by decide +kernel
theorem zloc_le : ∀ i, i < 70 → (zloc i).1 ≤ 16 := by decide +kernel
def gu (g : Nat → Nat) (k v : Nat) : Nat → Nat := fun j => if j = k then v else g j
theorem gu_at (g : Nat → Nat) (k v : Nat) : gu g k v k = v := by simp [gu]
theorem gu_ne {g : Nat → Nat} {k v j : Nat} (h : j ≠ k) : gu g k v j = g j := by simp [gu, h]
theorem mP_iff {a : Nat → Int32} {g : Nat → Nat} (h3 : g 33 ≤ 3) (h12 : g 49 ≤ 12) : mP a g ↔ ∀ k, gLive g k → a k = nI (g k) := by
  constructor
  · rintro ⟨⟨a1, a2, a3⟩, ⟨b1, b2, b3⟩, c, ⟨d1, d2⟩, e⟩ k hk
    rcases hk with hk | hk | hk | hk | hk
    · have hh : k / 11 < g 33 := by omega
      obtain ⟨y1, y2, y3, y4⟩ := e (k / 11) hh
      rcases (show k % 11 = 0 ∨ k % 11 = 1 ∨ k % 11 = 2 ∨ 3 ≤ k % 11 by omega) with q | q | q | q
      · have := y1; rwa [show 11 * (k / 11) = k by omega] at this
      · have := y2; rwa [show 11 * (k / 11) + 1 = k by omega] at this
      · have := y3; unfold gW0 at this; rwa [show 11 * (k / 11) + 2 = k by omega] at this
      · have := y4 (k % 11 - 3) (by omega); unfold gF0 at this; rwa [show 11 * (k / 11) + 3 + (k % 11 - 3) = k by omega] at this
    · rcases (show k = 33 ∨ k = 34 ∨ k = 35 ∨ k = 36 by omega) with rfl | rfl | rfl | rfl
      · exact a1
      · exact b1
      · exact b2
      · exact b3
    · have := c (k - 37) (by omega); rwa [show 37 + (k - 37) = k by omega] at this
    · rcases (show k = 49 ∨ k = 50 ∨ k = 51 by omega) with rfl | rfl | rfl
      · exact a2
      · exact a3
      · exact d1
    · have hi := d2 ((k - 52) / 3) (by omega)
      rcases (show (k - 52) % 3 = 0 ∨ (k - 52) % 3 = 1 ∨ (k - 52) % 3 = 2 by omega) with q | q | q
      · have := hi.1; rwa [show 52 + 3 * ((k - 52) / 3) = k by omega] at this
      · have := hi.2.1; rwa [show 53 + 3 * ((k - 52) / 3) = k by omega] at this
      · have := hi.2.2; rwa [show 54 + 3 * ((k - 52) / 3) = k by omega] at this
  · intro H
    refine ⟨⟨H _ ?_, H _ ?_, H _ ?_⟩, ⟨H _ ?_, H _ ?_, H _ ?_⟩, fun i hi => H _ ?_, ⟨H _ ?_, fun i hi => ⟨H _ ?_, H _ ?_, H _ ?_⟩⟩, fun h hh => ⟨H _ ?_, H _ ?_, H _ ?_, fun d hd => H _ ?_⟩⟩
    all_goals (unfold gLive; omega)
theorem xP_iff {σ : zz_T} {p : Nat} {g : Nat → Nat} (h3 : g 33 ≤ 3) (h12 : g 49 ≤ 12) : xP σ p g ↔ ∀ k, gLive g k → σ.1 (p + (zloc k).1) (zloc k).2 = nI (g k) := by
  have l0 : ∀ h c, h < 3 → c < 3 → zloc (11 * h + c) = (8 + 3 * h, 2 + c) := by
    intro h c hh hc
    unfold zloc
    rw [if_pos (by omega), if_pos (by omega), show (11 * h + c) / 11 = h by omega, show (11 * h + c) % 11 = c by omega]
  have l3 : ∀ h d, h < 3 → d < 8 → zloc (11 * h + 3 + d) = (8 + 3 * h + 1, d) := by
    intro h d hh hd
    unfold zloc
    rw [if_pos (by omega), if_neg (by omega), show (11 * h + 3 + d) / 11 = h by omega, show (11 * h + 3 + d) % 11 - 3 = d by omega]
  have l37 : ∀ i, i < 12 → zloc (37 + i) = (2, i) := by
    intro i hi
    unfold zloc
    rw [if_neg (by omega), if_neg (by omega), if_neg (by omega), if_pos (by omega), show 37 + i - 37 = i by omega]
  have l52 : ∀ i c, c < 3 → zloc (52 + c + 3 * i) = (5 + c, i) := by
    intro i c hc
    unfold zloc
    rw [if_neg (by omega), if_neg (by omega), if_neg (by omega), if_neg (by omega), if_neg (by omega), if_neg (by omega), if_neg (by omega), show (52 + c + 3 * i - 52) % 3 = c by omega, show (52 + c + 3 * i - 52) / 3 = i by omega]
  constructor
  · rintro ⟨⟨a1, a2, a3⟩, ⟨b1, b2, b3⟩, c, ⟨d1, d2⟩, e⟩ k hk
    rcases hk with hk | hk | hk | hk | hk
    · have hh : k / 11 < g 33 := by omega
      obtain ⟨y1, y2, y3, y4⟩ := e (k / 11) hh
      rcases (show k % 11 = 0 ∨ k % 11 = 1 ∨ k % 11 = 2 ∨ 3 ≤ k % 11 by omega) with q | q | q | q
      · have z := l0 (k / 11) 0 (by omega) (by omega)
        rw [show 11 * (k / 11) + 0 = k by omega] at z
        rw [z]
        rw [show 11 * (k / 11) = k by omega, show p + 8 + 3 * (k / 11) = p + (8 + 3 * (k / 11)) by omega] at y1
        exact y1
      · have z := l0 (k / 11) 1 (by omega) (by omega)
        rw [show 11 * (k / 11) + 1 = k by omega] at z y2
        rw [z]
        rw [show p + 8 + 3 * (k / 11) = p + (8 + 3 * (k / 11)) by omega] at y2
        exact y2
      · have z := l0 (k / 11) 2 (by omega) (by omega)
        unfold gW0 at y3
        rw [show 11 * (k / 11) + 2 = k by omega] at z y3
        rw [z]
        rw [show p + 8 + 3 * (k / 11) = p + (8 + 3 * (k / 11)) by omega] at y3
        exact y3
      · have z := l3 (k / 11) (k % 11 - 3) (by omega) (by omega)
        have y := y4 (k % 11 - 3) (by omega)
        unfold gF0 at y
        rw [show 11 * (k / 11) + 3 + (k % 11 - 3) = k by omega] at z y
        rw [z]
        rw [show p + 8 + 3 * (k / 11) + 1 = p + (8 + 3 * (k / 11) + 1) by omega] at y
        exact y
    · rcases (show k = 33 ∨ k = 34 ∨ k = 35 ∨ k = 36 by omega) with rfl | rfl | rfl | rfl
      · exact a1
      · exact b1
      · exact b2
      · exact b3
    · have z := l37 (k - 37) (by omega)
      have y := c (k - 37) (by omega)
      rw [show 37 + (k - 37) = k by omega] at z y
      rw [z]
      exact y
    · rcases (show k = 49 ∨ k = 50 ∨ k = 51 by omega) with rfl | rfl | rfl
      · exact a2
      · exact a3
      · exact d1
    · have hi := d2 ((k - 52) / 3) (by omega)
      have z := l52 ((k - 52) / 3) ((k - 52) % 3) (by omega)
      rw [show 52 + (k - 52) % 3 + 3 * ((k - 52) / 3) = k by omega] at z
      rw [z]
      rcases (show (k - 52) % 3 = 0 ∨ (k - 52) % 3 = 1 ∨ (k - 52) % 3 = 2 by omega) with q | q | q
      · rw [q]; have := hi.1; rwa [show 52 + 3 * ((k - 52) / 3) = k by omega] at this
      · rw [q]; have := hi.2.1; rwa [show 53 + 3 * ((k - 52) / 3) = k by omega] at this
      · rw [q]; have := hi.2.2; rwa [show 54 + 3 * ((k - 52) / 3) = k by omega] at this
  · intro H
    refine ⟨⟨H 33 ?_, H 49 ?_, H 50 ?_⟩, ⟨H 34 ?_, H 35 ?_, H 36 ?_⟩, fun i hi => ?_, ⟨H 51 ?_, fun i hi => ⟨?_, ?_, ?_⟩⟩, fun h hh => ⟨?_, ?_, ?_, fun d hd => ?_⟩⟩
    · unfold gLive; omega
    · unfold gLive; omega
    · unfold gLive; omega
    · unfold gLive; omega
    · unfold gLive; omega
    · unfold gLive; omega
    · have := H (37 + i) (by unfold gLive; omega); rw [l37 i (by omega)] at this; exact this
    · unfold gLive; omega
    · have := H (52 + 3 * i) (by unfold gLive; omega); rw [show 52 + 3 * i = 52 + 0 + 3 * i by omega, l52 i 0 (by omega)] at this; exact this
    · have := H (53 + 3 * i) (by unfold gLive; omega); rw [show 53 + 3 * i = 52 + 1 + 3 * i by omega, l52 i 1 (by omega)] at this; exact this
    · have := H (54 + 3 * i) (by unfold gLive; omega); rw [show 54 + 3 * i = 52 + 2 + 3 * i by omega, l52 i 2 (by omega)] at this; exact this
    · have := H (11 * h) (by unfold gLive; omega); rw [show 11 * h = 11 * h + 0 by omega, l0 h 0 (by omega) (by omega)] at this; rw [show p + 8 + 3 * h = p + (8 + 3 * h) by omega]; exact this
    · have := H (11 * h + 1) (by unfold gLive; omega); rw [l0 h 1 (by omega) (by omega)] at this; rw [show p + 8 + 3 * h = p + (8 + 3 * h) by omega]; exact this
    · have := H (11 * h + 2) (by unfold gLive; omega); rw [l0 h 2 (by omega) (by omega)] at this; rw [show p + 8 + 3 * h = p + (8 + 3 * h) by omega]; exact this
    · have := H (11 * h + 3 + d) (by unfold gLive; omega); rw [l3 h d (by omega) hd] at this; rw [show p + 8 + 3 * h + 1 = p + (8 + 3 * h + 1) by omega]; exact this
theorem gLive_lt {g : Nat → Nat} {k : Nat} (h3 : g 33 ≤ 3) (h12 : g 49 ≤ 12) (h6 : g 51 ≤ 6) (h : gLive g k) : k < 70 := by
  unfold gLive at h; omega
/-- one place is changed -/
theorem xP_set {σ : zz_T} {p k v : Nat} {g : Nat → Nat} (h3 : g 33 ≤ 3) (h12 : g 49 ≤ 12) (h6 : g 51 ≤ 6) (h3' : gu g k v 33 ≤ 3) (h12' : gu g k v 49 ≤ 12) (hk : k < 70) (P : xP σ p g) (hl : ∀ j, gLive (gu g k v) j → j = k ∨ gLive g j) : xP (zz_i σ (p + (zloc k).1) (zloc k).2 (nI v)) p (gu g k v) := by
  rw [xP_iff h3 h12] at P
  rw [xP_iff h3' h12']
  intro j hj
  rcases hl j hj with rfl | hj2
  · rw [zi_at, gu_at]
  · by_cases e : j = k
    · subst e; rw [zi_at, gu_at]
    · rw [gu_ne e]
      have hj70 := gLive_lt h3 h12 h6 hj2
      by_cases e1 : (zloc j).1 = (zloc k).1
      · have e2 : (zloc j).2 ≠ (zloc k).2 := fun q => e (zloc_inj j hj70 k hk (Prod.ext e1 q))
        rw [e1, zi_j e2, ← e1]
        exact P j hj2
      · rw [zi_k (by omega)]
        exact P j hj2
theorem mP_set {a : Nat → Int32} {k v : Nat} {g : Nat → Nat} (h3 : g 33 ≤ 3) (h12 : g 49 ≤ 12) (h3' : gu g k v 33 ≤ 3) (h12' : gu g k v 49 ≤ 12) (P : mP a g) (hl : ∀ j, gLive (gu g k v) j → j = k ∨ gLive g j) : mP (upd a k (nI v)) (gu g k v) := by
  rw [mP_iff h3 h12] at P
  rw [mP_iff h3' h12']
  intro j hj
  simp only [upd]
  rcases hl j hj with rfl | hj2
  · rw [if_pos rfl, gu_at]
  · by_cases e : j = k
    · subst e; rw [if_pos rfl, gu_at]
    · rw [if_neg e, gu_ne e]; exact P j hj2
/-- the class's printer changed, or the reference's, and nothing else -/
theorem xRest.keep {σ σ' : zz_T} {S : zSt} {g : Nat → Nat} (hs : sOK S) (h : ∀ q, ¬ ((3 ≤ q ∧ q ≤ 19) ∨ cScr q) → σ'.1 q = σ.1 q) (R : xRest σ S) : xRest σ' (g, S.2) := by
  have o : ∀ q, q < 3 ∨ (39 < q ∧ q < 43) ∨ 45 < q → σ'.1 q = σ.1 q := fun q hq => h q (by unfold cScr; omega)
  obtain ⟨⟨a1, a2, a3⟩, b, c, d⟩ := R
  refine ⟨⟨by rw [o _ (by omega)]; exact a1, fun i hi => by rw [o _ (by omega)]; exact a2 i hi, by rw [o _ (by omega)]; exact a3⟩, fun k hk => ⟨by rw [o _ (by omega)]; exact (b k hk).1, fun q => ((b k hk).2 q).kept (hs.2.2.2.1 k hk q).1.1 (fun e x y => o e (by omega))⟩, fun k hk => ⟨by rw [o _ (by omega)]; exact (c k hk).1, fun q => ?_⟩, by rw [o _ (by omega)]; exact d⟩
  rw [o (80 + 2 * k) (by omega), o (81 + 2 * k) (by omega)]
  exact (c k hk).2 q
theorem mRest.keep {τ τ' : zz_T} {S : zSt} {g : Nat → Nat} (h : ∀ q, q = 3 ∨ q = 6 ∨ q = 13 ∨ q = 14 ∨ q = 15 → τ'.1 q = τ.1 q) (h1 : ∀ k, 70 ≤ k → τ'.1 1 k = τ.1 1 k) (h0 : ∀ j, j = 6 ∨ j = 11 ∨ j = 32 → τ'.1 0 j = τ.1 0 j) (R : mRest τ S) : mRest τ' (g, S.2) := by
  obtain ⟨⟨a1, a2, a3⟩, b, c, d⟩ := R
  refine ⟨⟨by rw [h0 6 (by omega)]; exact a1, fun i hi => by rw [h 6 (by omega)]; exact a2 i hi, by rw [h0 11 (by omega)]; exact a3⟩, fun k hk => ⟨by rw [h 3 (by omega)]; exact (b k hk).1, fun q => ?_⟩, fun k hk => ?_, by rw [h0 32 (by omega)]; exact d⟩
  · have e : (fun j => τ'.1 1 (70 * (k + 1) + j)) = (fun j => τ.1 1 (70 * (k + 1) + j)) := by funext j; exact h1 _ (by omega)
    show mP (fun j => τ'.1 1 (70 * (k + 1) + j)) _
    rw [e]
    exact (b k hk).2 q
  · rw [h 13 (by omega), h 14 (by omega), h 15 (by omega)]
    exact c k hk
/-- both answer alike, and hold one state -/
def zBi {α : Type} (px pm : (α → zz_T → Prop) → Prop) : Prop := ∃ (r : α) (S : zSt), sOK S ∧ px (fun x σ => x = r ∧ RX σ S) ∧ pm (fun x τ => x = r ∧ RM τ S)
theorem sOK.g {S : zSt} {g : Nat → Nat} (h : sOK S) (hg : gAll g) : sOK (g, S.2) := ⟨hg, h.2⟩
