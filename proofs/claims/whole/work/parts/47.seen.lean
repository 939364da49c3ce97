section ZW
variable {S : zSt} {σ τ τ1 : zz_T}
/-- the looks of one head alone, noted at v -/
theorem x_looks {σ0 σ1 : zz_T} {Q : zz_T → Prop} {g g2 : Nat → Nat} {F : Nat → Nat → Nat} {Wr : Nat → Nat} {r h v : Nat} {f0 : Nat → Nat} (hg : gOK g) (h2 : gSim g g2) (hr : r < 100000) (hh : h < g 33) (N : px_dy σ0 3 g F Wr r) (L : LoneAt σ0 g2 h f0 σ1) (hv : v ≤ 30) (hq : ∀ σ2 : zz_T, cK σ0 σ2 → (∀ n, n < 41 → σ2.1 44 (v * 41 + n) = nI (hB g2 h (gR g r none) f0 n)) → (∀ j, (j < v * 41 ∨ v * 41 + 41 ≤ j) → σ2.1 44 j = σ1.1 44 j) → Q σ2) : pX5_noteLooks (nI v) σ1 Q := by
  have loop : ∀ (j i : Nat) (σ2 : zz_T), i + j = 41 → LoneAt σ0 g2 h (hF g2 h (gR g r none) f0 i) σ2 → (∀ n, n < i → σ2.1 44 (v * 41 + n) = nI (hB g2 h (gR g r none) f0 n)) → (∀ j, (j < v * 41 ∨ v * 41 + 41 ≤ j) → σ2.1 44 j = σ1.1 44 j) → pX5_noteLooks_2 Q (j + 1) (nI v) (nI i) σ2 := by
    intro j
    induction j with
    | zero =>
      intro i σ2 hi L2 a b
      obtain rfl : i = 41 := by omega
      exact br_t (by decide) (hq σ2 L2.1 a b)
    | succ j ih =>
      intro i σ2 hi L2 a b
      obtain ⟨hc, ⟨wr, hwr, H⟩, hf⟩ := L2
      obtain ⟨k1, k2, k3, k4, k5, k6⟩ := h2
      have N1 := xP_cK hg N hc
      refine br_f (by rw [show (41 : Int32) = nI 41 from rfl, nI_leI (by omega) (by omega)]; omega) ?_
      refine px_wantedIn hg (by omega) N1 (by omega) ?_
      rw [nI_1]
      refine px_wantedIn hg (by omega) N1 (by omega) ?_
      refine hx_burng true k1 (by omega) H hwr hf (by rw [k3, k4, k5]; exact N1.2.1) (gL_lt hg _) (gL_lt hg _) (by omega) (by omega) (by omega) (fun σ3 hb hg2 hot => ?_)
      rw [show (41 : Int32) = nI 41 from rfl, pk_mul, nI_add, nI_tn (by omega)]
      refine ⟨vp_in_nI (by omega) (by decide), ?_⟩
      refine ih (i + 1) _ (by omega) ⟨fun q hq => ?_, ⟨_, Nat.min_le_right _ _, hg2.kept (by rw [zi_k (by omega)]) (by rw [zi_k (by omega)])⟩, fun d hd => zs_cl_le _ _ _ _⟩ (fun n hn => ?_) (fun e he => ?_)
      · rw [zi_k (fun e => hq (by unfold cScr; omega)), hb.1 q (fun e => hq (by unfold cScr; omega))]
        exact hc q hq
      · by_cases e : n = i
        · subst e
          rw [zi_at]
          rfl
        · rw [zi_j (by omega), hb.1 44 (by omega)]
          exact a n (by omega)
      · rw [zi_j (by omega), hb.1 44 (by omega)]
        exact b e he
  exact ⟨42, loop 41 0 σ1 (by omega) L (fun n hn => by omega) (fun e he => rfl)⟩
/-- what is seen of head h, against looks L -/
def zq_a (g : Nat → Nat) (L : Nat → Nat) (h : Nat) : Nat → Bool
  | 0 => true
  | s + 1 => zq_a g L h s && (!(decide (g (53 + 3 * s) = h)) || decide (L (g (52 + 3 * s)) = g (54 + 3 * s)))
theorem zq_a_iff (g : Nat → Nat) (L : Nat → Nat) (h : Nat) : ∀ n, zq_a g L h n = true ↔ ∀ s, s < n → g (53 + 3 * s) = h → L (g (52 + 3 * s)) = g (54 + 3 * s)
  | 0 => ⟨fun _ s hs => by omega, fun _ => rfl⟩
  | n + 1 => by
    show (zq_a g L h n && (!(decide (g (53 + 3 * n) = h)) || decide (L (g (52 + 3 * n)) = g (54 + 3 * n)))) = true ↔ _
    rw [Bool.and_eq_true, zq_a_iff g L h n, Bool.or_eq_true, Bool.not_eq_true', decide_eq_false_iff_not, decide_eq_true_eq]
    constructor
    · rintro ⟨a, b⟩ s hs e
      by_cases q : s = n
      · subst q
        rcases b with b | b
        · exact absurd e b
        · exact b
      · exact a s (by omega) e
    · intro a
      refine ⟨fun s hs e => a s (by omega) e, ?_⟩
      by_cases e : g (53 + 3 * n) = h
      · exact Or.inr (a n (by omega) e)
      · exact Or.inl e
theorem x_agrees {g : Nat → Nat} {F : Nat → Nat → Nat} {Wr : Nat → Nat} {r h fr : Nat} {L : Nat → Nat} {Q : Int32 → zz_T → Prop} (hg : gOK g) (hh : h < g 33) (N : px_dy σ 3 g F Wr r) (hf : fr + 41 ≤ 1271) (hL : ∀ n, n < 41 → σ.1 44 (fr + n) = nI (L n)) (hLt : ∀ n, L n < 256) (hq : Q (if zq_a g L h (g 51) then 1 else 0) σ) : pX2_agrees 7 (nI h) 44 1271 (nI fr) σ Q := by
  have h3 := hg.1
  have h6 := hg.2.2.2.2.1
  have sb := hg.2.2.2.2.2
  have loop : ∀ (j s : Nat), s + j = g 51 → zq_a g L h s = true → pX2_agrees_3 7 44 1271 Q (j + 1) (nI h) (nI fr) (nI s) σ := by
    intro j
    induction j with
    | zero =>
      intro s hs ht
      obtain rfl : s = g 51 := by omega
      rw [if_pos ht] at hq
      exact br_t (by rw [N.2.2.2.1.1]; exact nI_le (Nat.le_refl _) (by omega)) ⟨zz_bo1, hq⟩
    | succ j ih =>
      intro s hs ht
      have vi : vp_in (nI s) 6 := vp_in_nI (by omega) (by decide)
      obtain ⟨c1, c2, c3⟩ := N.2.2.2.1.2 s (by omega)
      obtain ⟨b1, b2, b3⟩ := sb s (by omega)
      refine br_f (by rw [N.2.2.2.1.1]; exact nI_ge (by omega) (by omega)) ⟨vi, ?_⟩
      rw [nI_tn (by omega)]
      show ((σ.1 (3 + 6) s = nI h → _) ∧ (¬ σ.1 (3 + 6) s = nI h → _))
      have e8 : σ.1 (7 + 1) s = nI (g (52 + 3 * s)) := c1
      have e10 : σ.1 (7 + 3) s = nI (g (54 + 3 * s)) := c3
      rw [c2]
      by_cases e : g (53 + 3 * s) = h
      · refine br_t (by rw [e]) ?_
        rw [e8, e10, nI_add, nI_tn (by omega), hL _ (by omega)]
        refine ⟨vi, vp_in_nI (by omega) (by decide), vi, ?_⟩
        have lt := hLt (g (52 + 3 * s))
        by_cases q : L (g (52 + 3 * s)) = g (54 + 3 * s)
        · refine br_t (by rw [q]) ?_
          unfold pX2_agrees_46
          rw [nI_1]
          refine ih (s + 1) (by omega) ((zq_a_iff _ _ _ _).mpr (fun s' hs' e' => ?_))
          by_cases q2 : s' = s
          · rw [q2]; exact q
          · exact (zq_a_iff _ _ _ _).mp ht s' (by omega) e'
        · refine br_f (fun z => q ((nI_eq (by omega) (by omega)).mp z)) ⟨zz_bo0, ?_⟩
          rw [if_neg (fun z => q ((zq_a_iff _ _ _ _).mp z s (by omega) e))] at hq
          exact hq
      · refine br_f (fun z => e ((nI_eq (by omega) (by omega)).mp z)) ?_
        unfold pX2_agrees_46
        rw [nI_1]
        refine ih (s + 1) (by omega) ((zq_a_iff _ _ _ _).mpr (fun s' hs' e' => ?_))
        by_cases q2 : s' = s
        · rw [q2] at e'; exact absurd e' e
        · exact (zq_a_iff _ _ _ _).mp ht s' (by omega) e'
  exact ⟨g 51 + 1, loop (g 51) 0 (by omega) rfl⟩
theorem x_names {g : Nat → Nat} {F : Nat → Nat → Nat} {Wr : Nat → Nat} {r h : Nat} {Q : Int32 → zz_T → Prop} (hg : gOK g) (hh : h < g 33) (N : px_dy σ 3 g F Wr r) (h1 : Q 1 σ) (h0 : (∀ s, s < g 51 → ¬ g (53 + 3 * s) = h) → Q 0 σ) : pX2_names 7 (nI h) σ Q := by
  have h3 := hg.1
  have h6 := hg.2.2.2.2.1
  have sb := hg.2.2.2.2.2
  have loop : ∀ (j s : Nat), s + j = g 51 → (∀ s', s' < s → ¬ g (53 + 3 * s') = h) → pX2_names_2 7 Q (j + 1) (nI h) (nI s) σ := by
    intro j
    induction j with
    | zero =>
      intro s hs ht
      obtain rfl : s = g 51 := by omega
      exact br_t (by rw [N.2.2.2.1.1]; exact nI_le (Nat.le_refl _) (by omega)) ⟨zz_bo0, h0 ht⟩
    | succ j ih =>
      intro s hs ht
      obtain ⟨c1, c2, c3⟩ := N.2.2.2.1.2 s (by omega)
      obtain ⟨b1, b2, b3⟩ := sb s (by omega)
      refine br_f (by rw [N.2.2.2.1.1]; exact nI_ge (by omega) (by omega)) ⟨vp_in_nI (by omega) (by decide), ?_⟩
      rw [nI_tn (by omega)]
      show ((σ.1 (3 + 6) s = nI h → _) ∧ (¬ σ.1 (3 + 6) s = nI h → _))
      rw [c2]
      by_cases e : g (53 + 3 * s) = h
      · exact br_t (by rw [e]) ⟨zz_bo1, h1⟩
      · refine br_f (fun z => e ((nI_eq (by omega) (by omega)).mp z)) ?_
        rw [nI_1]
        refine ih (s + 1) (by omega) (fun s' hs' => ?_)
        by_cases q2 : s' = s
        · rw [q2]; exact e
        · exact ht s' (by omega)
  exact ⟨g 51 + 1, loop (g 51) 0 (by omega) (fun s' hs' => by omega)⟩
/-- what a head h of value g2 burns in row n, from g on -/
def zq_B (g g2 : Nat → Nat) (h n : Nat) : Nat := hB g2 h (gR g (g 50) none) (gF0 g h) n
theorem zq_B_lt (g g2 : Nat → Nat) (h n : Nat) : zq_B g g2 h n < 256 := hB_lt _ _ _ _ _
/-- the others, up to head o -/
def zq_o (g : Nat → Nat) (h : Nat) : Nat → Bool
  | 0 => true
  | o + 1 => zq_o g h o && (decide (o = h) || zq_a g (zq_B g g o) o (g 51))
theorem zq_o_iff (g : Nat → Nat) (h : Nat) : ∀ n, zq_o g h n = true ↔ ∀ o, o < n → o ≠ h → zq_a g (zq_B g g o) o (g 51) = true
  | 0 => ⟨fun _ s hs => by omega, fun _ => rfl⟩
  | n + 1 => by
    show (zq_o g h n && (decide (n = h) || zq_a g (zq_B g g n) n (g 51))) = true ↔ _
    rw [Bool.and_eq_true, zq_o_iff g h n, Bool.or_eq_true, decide_eq_true_eq]
    constructor
    · rintro ⟨a, b⟩ s hs e
      by_cases q : s = n
      · subst q
        rcases b with b | b
        · exact absurd b e
        · exact b
      · exact a s (by omega) e
    · intro a
      refine ⟨fun s hs e => a s (by omega) e, ?_⟩
      by_cases e : n = h
      · exact Or.inl e
      · exact Or.inr (a n (by omega) e)
theorem x_others {h : Nat} {Q : Int32 → zz_T → Prop} (hs : sOK S) (X : RX σ S) (hh : h < sg S 33) (hq : ∀ σ2 : zz_T, cK σ σ2 → Q (if zq_o (sg S) h (sg S 33) then 1 else 0) σ2) : pX5_othersAsSeen (nI h) σ Q := by
  have h3 := hs.1.1.1
  have hr := hs.1.2.2
  have loop : ∀ (j o : Nat) (σ1 : zz_T), o + j = sg S 33 → cK σ σ1 → zq_o (sg S) h o = true → pX5_othersAsSeen_2 Q (j + 1) (nI h) (nI o) σ1 := by
    intro j
    induction j with
    | zero =>
      intro o σ1 ho hc ht
      obtain rfl : o = sg S 33 := by omega
      have q := hq σ1 hc
      rw [if_pos ht] at q
      exact br_t (by rw [(xP_cK hs.1.1 X.1 hc).1.1]; exact nI_le (Nat.le_refl _) (by omega)) ⟨zz_bo1, q⟩
    | succ j ih =>
      intro o σ1 ho hc ht
      have N1 := xP_cK hs.1.1 X.1 hc
      have next : ∀ σ2 : zz_T, cK σ σ2 → (o ≠ h → zq_a (sg S) (zq_B (sg S) (sg S) o) o (sg S 51) = true) → pX5_othersAsSeen_74 Q (pX5_othersAsSeen_2 Q (j + 1)) (nI h) (nI o) σ2 := by
        intro σ2 hc2 ha
        unfold pX5_othersAsSeen_74
        rw [nI_1]
        refine ih (o + 1) σ2 (by omega) hc2 ((zq_o_iff _ _ _).mpr (fun o' ho' ne => ?_))
        by_cases q : o' = o
        · rw [q] at ne ⊢; exact ha ne
        · exact (zq_o_iff _ _ _).mp ht o' (by omega) ne
      refine br_f (by rw [N1.1.1]; exact nI_ge (by omega) (by omega)) ?_
      by_cases e : o = h
      · exact br_t (by rw [e]) (next σ1 hc (fun ne => absurd e ne))
      · refine br_f (fun z => e ((nI_eq (by omega) (by omega)).mp z)) ?_
        refine x_names (h := o) hs.1.1 (by omega) N1 ?_ (fun none => ?_)
        · refine br_f (by decide) ⟨vp_in_nI (by omega) (by decide), ?_⟩
          rw [nI_tn (by omega)]
          refine x_lone_0 hs.1.1 hs.1.2.1 (by omega) N1 (fun σ2 L => ?_)
          refine x_looks (v := 0) hs.1.1 (gSim.rf hs.1.1) (by omega) (by omega) X.1 ⟨hc.tr L.1, L.2⟩ (by omega) (fun σ3 hc3 hl _ => ?_)
          refine x_agrees (fr := 0) (h := o) (L := zq_B (sg S) (sg S) o) hs.1.1 (by omega) (xP_cK hs.1.1 X.1 hc3) (by omega) (fun n hn => by have := hl n hn; rw [Nat.zero_mul] at this; exact this) (zq_B_lt _ _ _) ?_
          cases hz : zq_a (sg S) (zq_B (sg S) (sg S) o) o (sg S 51) with
          | true => exact br_f (by decide) (next σ3 hc3 (fun _ => hz))
          | false =>
            have q := hq σ3 hc3
            rw [if_neg (fun z => by have := (zq_o_iff _ _ _).mp z o (by omega) e; rw [hz] at this; cases this)] at q
            exact br_t rfl ⟨zz_bo0, q⟩
        · exact br_t rfl (next σ1 hc (fun _ => (zq_a_iff _ _ _ _).mpr (fun s hs2 e2 => absurd e2 (none s hs2))))
  exact ⟨sg S 33 + 1, loop (sg S 33) 0 σ (by omega) (cK.rf σ) rfl⟩
end ZW
