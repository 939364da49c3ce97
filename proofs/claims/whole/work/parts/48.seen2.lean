def zq_f (g : Nat → Nat) (h c v : Nat) : Bool := zq_o g h (g 33) && zq_a g (zq_B g (gu g (11 * h + c) v) h) h (g 51)
def zq_m (f : Nat → Bool) : Nat → Nat
  | 0 => 0
  | v + 1 => zq_m f v + (if f v then 2 ^ v else 0)
theorem zq_m_lt (f : Nat → Bool) : ∀ v, zq_m f v < 2 ^ v
  | 0 => Nat.one_pos
  | v + 1 => by
    have h := zq_m_lt f v
    show zq_m f v + (if f v then 2 ^ v else 0) < 2 ^ (v + 1)
    rw [Nat.pow_succ]
    split <;> omega
theorem zq_m_0 {f : Nat → Bool} (h : ∀ v, f v = false) : ∀ v, zq_m f v = 0
  | 0 => rfl
  | v + 1 => by
    show zq_m f v + (if f v then 2 ^ v else 0) = 0
    rw [zq_m_0 h v, h v]
    rfl
theorem zq_sh : ∀ v, v ≤ 30 → (1 : Int32) <<< (nI v &&& (31 : Int32)) = nI (2 ^ v) ∧ (0 : Int32) <<< (nI v &&& (31 : Int32)) = nI 0 := by decide +kernel
theorem zq_or (a b : Nat) : nI a ||| nI b = nI (a ||| b) := by
  apply Int32.toBitVec_inj.1
  show BitVec.ofNat 32 a ||| BitVec.ofNat 32 b = BitVec.ofNat 32 (a ||| b)
  apply BitVec.eq_of_getLsbD_eq
  intro i hi
  rw [BitVec.getLsbD_or, BitVec.getLsbD_ofNat, BitVec.getLsbD_ofNat, BitVec.getLsbD_ofNat, Nat.testBit_or]
  simp [hi]
theorem zq_or1 {a v : Nat} (h : a < 2 ^ v) : a ||| 2 ^ v = a + 2 ^ v := by
  have := Nat.two_pow_add_eq_or_of_lt h 1
  rw [Nat.mul_one] at this
  rw [Nat.or_comm, ← this, Nat.add_comm]
theorem zq_step {f : Nat → Bool} {v : Nat} (hv : v ≤ 30) : nI (zq_m f v) ||| ((if f v then 1 else 0 : Int32) <<< (nI v &&& (31 : Int32))) = nI (zq_m f (v + 1)) := by
  show _ = nI (zq_m f v + (if f v then 2 ^ v else 0))
  cases f v
  · simp only [Bool.false_eq_true, if_false]
    rw [(zq_sh v hv).2, zq_or, Nat.or_zero, Nat.add_zero]
  · simp only [if_true]
    rw [(zq_sh v hv).1, zq_or, zq_or1 (zq_m_lt f v)]
/-- a head that is left alone burns as before -/
theorem zq_B_ne {g : Nat → Nat} {h h' c v n : Nat} (hh : h < 3) (hc : c ≤ 1) (ne : h' ≠ h) : zq_B g (gu g (11 * h + c) v) h' n = zq_B g g h' n := by
  unfold zq_B hB
  have e0 : gu g (11 * h + c) v (11 * h') = g (11 * h') := gu_ne (by omega)
  have e1 : gu g (11 * h + c) v (11 * h' + 1) = g (11 * h' + 1) := gu_ne (by omega)
  rw [hF_mark e0 e1 (gu_ne (by omega)) (gu_ne (by omega))]
  unfold gB gT
  rw [e0, e1, gu_ne (j := 34) (by omega)]
def zq_r (g : Nat → Nat) (L : Nat → Nat → Nat) : Nat → Bool
  | 0 => true
  | s + 1 => zq_r g L s && decide (L (g (53 + 3 * s)) (g (52 + 3 * s)) = g (54 + 3 * s))
theorem zq_r_iff (g : Nat → Nat) (L : Nat → Nat → Nat) : ∀ n, zq_r g L n = true ↔ ∀ s, s < n → L (g (53 + 3 * s)) (g (52 + 3 * s)) = g (54 + 3 * s)
  | 0 => ⟨fun _ s hs => by omega, fun _ => rfl⟩
  | n + 1 => by
    show (zq_r g L n && decide (L (g (53 + 3 * n)) (g (52 + 3 * n)) = g (54 + 3 * n))) = true ↔ _
    rw [Bool.and_eq_true, zq_r_iff g L n, decide_eq_true_eq]
    constructor
    · rintro ⟨a, b⟩ s hs
      by_cases q : s = n
      · subst q; exact b
      · exact a s (by omega)
    · intro a
      exact ⟨fun s hs => a s (by omega), a n (by omega)⟩
theorem zq_main {g : Nat → Nat} {h c v : Nat} (hg : gOK g) (hh : h < 3) (hc : c ≤ 1) : zq_r g (zq_B g (gu g (11 * h + c) v)) (g 51) = zq_f g h c v := by
  rw [Bool.eq_iff_iff, zq_r_iff]
  unfold zq_f
  rw [Bool.and_eq_true, zq_o_iff, zq_a_iff]
  constructor
  · intro a
    refine ⟨fun o ho ne => (zq_a_iff _ _ _ _).mpr (fun s hs e => ?_), fun s hs e => ?_⟩
    · have := a s hs
      rw [e, zq_B_ne hh hc ne] at this
      exact this
    · have := a s hs
      rw [e] at this
      exact this
  · rintro ⟨a, b⟩ s hs
    by_cases e : g (53 + 3 * s) = h
    · have := b s hs e
      rw [e]
      exact this
    · rw [zq_B_ne hh hc e]
      exact (zq_a_iff _ _ _ _).mp (a (g (53 + 3 * s)) (hg.2.2.2.2.2 s hs).2.1 e) s hs rfl
section ZW
variable {S : zSt} {σ τ τ1 : zz_T}
theorem zq_sim {g : Nat → Nat} {h c v : Nat} (hg : gAll g) (hh : h < g 33) (hc : c ≤ 1) (hv : v ≤ (if c = 0 then 3 else 30)) : gAll (gu g (11 * h + c) v) ∧ gSim g (gu g (11 * h + c) v) := by
  have h3 := hg.1.1
  have gv : gAll (gu g (11 * h + c) v) := by
    refine gAll_gu hg (by omega) (by omega) (by omega) ?_
    rcases (show c = 0 ∨ c = 1 by omega) with rfl | rfl
    · rw [if_pos rfl] at hv; unfold gBnd; omega
    · rw [if_neg (by decide)] at hv; unfold gBnd; omega
  have gl : ∀ r, gL (gu g (11 * h + c) v) r = gL g r := fun r => by
    unfold gL
    rw [gu_ne (j := 49) (by omega), gu_ne (j := 37 + r % g 49) (by omega)]
  exact ⟨gv, gv.1, gu_ne (by omega), gu_ne (by omega), gu_ne (by omega), gu_ne (by omega), gl⟩
/-- what each kind, power of head h burns; which agree with what is seen -/
theorem x_asSeenBy {h c : Nat} {Q : Int32 → zz_T → Prop} (hs : sOK S) (X : RX σ S) (hh : h < sg S 33) (hc : c ≤ 1) (hq : ∀ σ2 : zz_T, cK σ σ2 → (zq_o (sg S) h (sg S 33) = true → ∀ v, v ≤ (if c = 0 then 3 else 30) → ∀ n, n < 41 → σ2.1 44 (v * 41 + n) = nI (zq_B (sg S) (gu (sg S) (11 * h + c) v) h n)) → Q (nI (zq_m (zq_f (sg S) h c) ((if c = 0 then 3 else 30) + 1))) σ2) : pX5_asSeenBy (nI h) (nI c) σ Q := by
  have h3 := hs.1.1.1
  have hr := hs.1.2.2
  generalize hmo : (if c = 0 then 3 else 30) = most at hq
  have bm : most ≤ 30 := by rw [← hmo]; split <;> omega
  unfold pX5_asSeenBy
  refine x_others hs X hh (fun σ1 hc1 => ?_)
  cases ho : zq_o (sg S) h (sg S 33) with
  | false =>
    refine br_t rfl ?_
    have q := hq σ1 hc1 (fun z => by rw [ho] at z; cases z)
    rw [zq_m_0 (fun v => by unfold zq_f; rw [ho]; rfl)] at q
    exact q
  | true =>
    refine br_f (by decide) ?_
    have loop : ∀ (j v : Nat) (σ2 : zz_T), v + j = most + 1 → cK σ σ2 → (∀ v', v' < v → ∀ n, n < 41 → σ2.1 44 (v' * 41 + n) = nI (zq_B (sg S) (gu (sg S) (11 * h + c) v') h n)) → pX5_asSeenBy_15 Q (j + 1) (nI h) (nI c) (nI (zq_m (zq_f (sg S) h c) v)) (nI v) σ2 := by
      intro j
      induction j with
      | zero =>
        intro v σ2 hv hc2 hl
        obtain rfl : v = most + 1 := by omega
        have q := hq σ2 hc2 (fun _ v hv => hl v (by omega))
        unfold pX5_asSeenBy_15 pX5_mostOf
        rcases (show c = 0 ∨ c = 1 by omega) with rfl | rfl
        · rw [if_pos rfl] at hmo
          subst hmo
          exact br_t rfl (br_t (by decide) q)
        · rw [if_neg (by decide)] at hmo
          subst hmo
          exact br_f (by decide) (br_t (by decide) q)
      | succ j ih =>
        intro v σ2 hv hc2 hl
        obtain ⟨gv, sim⟩ := zq_sim (v := v) hs.1 hh hc (by rw [hmo]; omega)
        have body : vp_in (nI h) 3 ∧ pX0_copyFrom 37 (11 + 3 * (Int32.toNatClampNeg (nI h))) σ2 (fun s37 => pX0_drive 37 (nI c) (nI v) s37 (fun s47 => pX5_noteLooks (nI v) s47 (fun s53 => pX2_agrees 7 (nI h) 44 1271 (nI v * 41) s53 (fun r73 s73 => ((r73 = 0 → pX5_asSeenBy_86 Q (pX5_asSeenBy_15 Q (j + 1)) (nI h) (nI c) (nI (zq_m (zq_f (sg S) h c) v)) (nI v) s73) ∧ (¬ r73 = 0 → pX5_asSeenBy_86 Q (pX5_asSeenBy_15 Q (j + 1)) (nI h) (nI c) ((nI (zq_m (zq_f (sg S) h c) v)) ||| (1 <<< (nI v &&& (31 : Int32)))) (nI v) s73)))))) := by
          refine ⟨vp_in_nI (by omega) (by decide), ?_⟩
          rw [nI_tn (by omega)]
          have N2 := xP_cK hs.1.1 X.1 hc2
          refine hx_copy (N2.2.2.2.2 h hh) (by omega) (by omega) (by omega) (fun σ3 hb3 H3 => ?_)
          obtain ⟨y0, y1, y2, y3⟩ := H3
          have c3 : cK σ σ3 := hc2.tr (cK.of hb3 (fun q x => by unfold cScr; omega))
          have drv : ∀ σ4 : zz_T, zz_but (fun q => q = 37) σ3 σ4 → hx_g σ4 37 (gu (sg S) (11 * h + c) v) h (gW0 (sg S) h) (gF0 (sg S) h) → pX5_noteLooks (nI v) σ4 (fun s53 => pX2_agrees 7 (nI h) 44 1271 (nI v * 41) s53 (fun r73 s73 => ((r73 = 0 → pX5_asSeenBy_86 Q (pX5_asSeenBy_15 Q (j + 1)) (nI h) (nI c) (nI (zq_m (zq_f (sg S) h c) v)) (nI v) s73) ∧ (¬ r73 = 0 → pX5_asSeenBy_86 Q (pX5_asSeenBy_15 Q (j + 1)) (nI h) (nI c) ((nI (zq_m (zq_f (sg S) h c) v)) ||| (1 <<< (nI v &&& (31 : Int32)))) (nI v) s73)))) := by
            intro σ4 hb4 hg4
            have c4 : cK σ σ4 := c3.tr (cK.of hb4 (fun q hq => by unfold cScr; omega))
            refine x_looks (v := v) hs.1.1 sim (by omega) hh X.1 ⟨c4, ⟨_, (hs.1.2.1.1 h hh).1, hg4⟩, (hs.1.2.1.1 h hh).2⟩ (by omega) (fun σ5 hc5 hl5 ho5 => ?_)
            rw [show (41 : Int32) = nI 41 from rfl, pk_mul]
            refine x_agrees (fr := v * 41) (h := h) (L := zq_B (sg S) (gu (sg S) (11 * h + c) v) h) hs.1.1 hh (xP_cK hs.1.1 X.1 hc5) (by omega) hl5 (zq_B_lt _ _ _) ?_
            have ef : zq_f (sg S) h c v = zq_a (sg S) (zq_B (sg S) (gu (sg S) (11 * h + c) v) h) h (sg S 51) := by
              unfold zq_f
              rw [ho, Bool.true_and]
            have stp := zq_step (f := zq_f (sg S) h c) (v := v) (by omega)
            have next : pX5_asSeenBy_15 Q (j + 1) (nI h) (nI c) (nI (zq_m (zq_f (sg S) h c) (v + 1))) (nI v + 1) σ5 := by
              rw [nI_1]
              refine ih (v + 1) σ5 (by omega) hc5 (fun v' hv' n hn => ?_)
              by_cases e : v' = v
              · rw [e]; exact hl5 n hn
              · rw [ho5 _ (by omega), hb4.1 44 (by omega), hb3.1 44 (by omega)]
                exact hl v' (by omega) n hn
            rw [← ef]
            cases hz : zq_f (sg S) h c v with
            | true =>
              rw [hz] at stp
              simp only [if_true] at stp ⊢
              refine br_f (by decide) ?_
              unfold pX5_asSeenBy_86
              rw [stp]
              exact next
            | false =>
              rw [hz] at stp
              simp only [Bool.false_eq_true, if_false] at stp
              refine br_t rfl ?_
              unfold pX5_asSeenBy_86
              have e0 : zq_m (zq_f (sg S) h c) (v + 1) = zq_m (zq_f (sg S) h c) v := by
                show zq_m (zq_f (sg S) h c) v + (if zq_f (sg S) h c v then 2 ^ v else 0) = _
                rw [hz]; rfl
              rw [e0] at next
              exact next
          unfold pX0_drive
          rcases (show c = 0 ∨ c = 1 by omega) with rfl | rfl
          · refine br_t rfl (drv _ ((zz_but.rf _ _).i rfl) ⟨?_, ?_, ?_, fun d hd => ?_⟩)
            · rw [zi_at, Nat.add_zero, gu_at]
            · rw [zi_j (by omega), gu_ne (by omega)]; exact y1
            · rw [zi_j (by omega)]; exact y2
            · rw [zi_k (by omega)]; exact y3 d hd
          · refine br_f (by decide) (drv _ ((zz_but.rf _ _).i rfl) ⟨?_, ?_, ?_, fun d hd => ?_⟩)
            · rw [zi_j (by omega), gu_ne (by omega)]; exact y0
            · rw [zi_at, gu_at]
            · rw [zi_j (by omega)]; exact y2
            · rw [zi_k (by omega)]; exact y3 d hd
        unfold pX5_asSeenBy_15 pX5_mostOf
        have nl : ¬ nI most < nI v := nI_nlt (by omega) (by omega)
        rcases (show c = 0 ∨ c = 1 by omega) with rfl | rfl
        · rw [if_pos rfl] at hmo
          subst hmo
          exact br_t rfl (br_f nl body)
        · rw [if_neg (by decide)] at hmo
          subst hmo
          exact br_f (by decide) (br_f nl body)
    exact ⟨most + 2, loop (most + 1) 0 σ1 (by omega) hc1 (fun v hv => by omega)⟩
end ZW
