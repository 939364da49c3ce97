section ZE
variable {σ τ : zz_T} {n : Nat} {b : Nat → Nat} {G : Nat → Nat} {M : Nat}
theorem zt_is_s {p c : Nat} (hp : p ≤ n) (hc : c < 8) (h : zt_is b (zt_f b n p) (zt_e b n p) c) : zt_s b n p = 1 := by
  have l := zt_nl_le c hc
  have key : ∀ c, c < 8 → zt_sort (zt_nc c 0) = 1 := by decide
  have e0 := h.2 0 (by omega)
  rw [Nat.add_zero] at e0
  have he := zt_e_le (b := b) hp
  have h1 := h.1
  unfold zt_s
  rw [if_neg (by omega), e0]
  exact key c hc
/-- a line, the reference -/
theorem zd_lineM {p : Nat} {Q : zz_T → Prop} (hG : zd_ok G M) (U : zt_U τ n b) (hp : p ≤ n) (R : zt_R τ n b p) (D : zd_M τ G M) (hy : ∀ c, c < 8 → zt_is b (zt_f b n p) (zt_e b n p) c → zd_D τ n b Q (zd_ln b n p G M c)) (hn : (∀ c, c < 8 → ¬ zt_is b (zt_f b n p) (zt_e b n p) c) → zd_D τ n b Q (.inl (2, zt_f b n p))) : pX6_readLine τ Q := by
  have n160 := U.2.1
  have he := zt_e_le (b := b) hp
  have h3 := hG.1.1.1
  obtain ⟨k, r11, r9, r8, r7, r10⟩ := id R
  have t33 : Int32.toNatClampNeg 33 = 33 := rfl
  have v33 : vp_in 33 70 := vp_in_nI (n := 33) (by decide) (by decide)
  have e33 : τ.1 4 33 = nI (G 33) := D.1 33 (by omega)
  have no : (∀ c, c < 8 → ¬ zt_is b (zt_f b n p) (zt_e b n p) c) → pX6_readLine_17 Q (-4) τ := by
    intro none
    have hQ := hn none
    refine br_t rfl ?_
    unfold pX6_readLine_30 pX6_readLine_51 pX6_readLine_56
    refine m_req (ok := false) (e := 2) r11 r8 (fun z => by cases z) (fun _ τ1 y1 f1 f2 => br_f (by decide) ⟨v33, ?_⟩)
    have fin : ∀ t : Int32, pX6_requires t 5 τ1 (fun s57 => (((-4 : Int32) < 4 → pX6_readLine_95 Q (-4) s57) ∧ (¬ (-4 : Int32) < 4 → vp_in ((-4) - 4) 4 ∧ ((s57.1 5 (Int32.toNatClampNeg ((-4) - 4)) = 0 → pX6_readLine_82 Q (-4) 1 s57) ∧ (¬ s57.1 5 (Int32.toNatClampNeg ((-4) - 4)) = 0 → pX6_readLine_82 Q (-4) 0 s57))))) := fun t => m_req_f f1 (by omega) (by omega) (br_t (by decide) (m_95_f f1 (by omega) (by omega) (hQ τ1 y1.k ⟨f1, f2⟩)))
    exact ⟨fun _ => fin 0, fun _ => fin 1⟩
  have yes : ∀ c, c < 8 → zt_is b (zt_f b n p) (zt_e b n p) c → pX6_readLine_17 Q (nI c) τ := by
    intro c hc is
    have hQ := hy c hc is
    unfold zd_ln at hQ
    refine br_f (nI_ne4 (by omega)) ?_
    unfold pX6_readLine_30 pX6_readLine_51 pX6_readLine_56
    refine m_req (ok := true) (e := 2) r11 r8 (fun _ => ?_) (fun z => by cases z)
    by_cases c4 : c < 4
    · rw [if_pos c4] at hQ
      refine br_f (by rw [show (4 : Int32) = nI 4 from rfl, nI_leI (by omega) (by omega)]; omega) ⟨v33, ?_⟩
      rw [t33, e33]
      have lt : nI c < 4 := (nI_ltI (b := 4) (by omega) (by omega)).mpr c4
      by_cases g3 : G 33 < 3
      · rw [if_pos g3] at hQ
        refine br_f (by rw [show (3 : Int32) = nI 3 from rfl, nI_leI (by omega) (by omega)]; omega) (m_req (ok := true) (e := 5) r11 r8 (fun _ => br_t lt (zd_headM hG g3 (by omega) U he.2 r11 r7 D hQ)) (fun z => by cases z))
      · rw [if_neg g3] at hQ
        refine br_t (by rw [show (3 : Int32) = nI 3 from rfl, nI_leI (by omega) (by omega)]; omega) (m_req (ok := false) (e := 5) r11 r8 (fun z => by cases z) (fun _ τ1 y1 f1 f2 => br_t lt (m_95_f f1 (by omega) (by omega) (hQ τ1 y1.k ⟨f1, f2⟩))))
    · rw [if_neg c4] at hQ
      refine br_t (by rw [show (4 : Int32) = nI 4 from rfl, nI_leI (by omega) (by omega)]; omega) (m_req (ok := true) (e := 5) r11 r8 (fun _ => br_f (by rw [show (4 : Int32) = nI 4 from rfl, nI_ltI (by omega) (by omega)]; omega) ?_) (fun z => by cases z))
      have sub : nI c - 4 = nI (c - 4) := by rw [show (4 : Int32) = nI 4 from rfl, pk_sub (by omega)]
      have vi : vp_in (nI (c - 4)) 4 := vp_in_nI (by omega) (by decide)
      have e5 := D.2 (c - 4) (by omega)
      rw [show 4 + (c - 4) = c by omega] at e5
      unfold pX6_readLine_82
      rw [sub, nI_tn (n := c - 4) (by omega), e5, vn_b1]
      refine ⟨vi, ?_⟩
      have okM := zd_met_ok (c := c) hG hc
      cases hb : M.testBit c with
      | true =>
        rw [if_pos hb] at hQ
        refine br_f (by decide) (m_req (ok := false) (e := 4) r11 r8 (fun z => by cases z) (fun _ τ1 y1 f1 f2 => ⟨vi, ?_⟩))
        have F' : zt_F (zz_i τ1 5 (c - 4) 1) 4 (zt_f b n p) := by
          unfold zt_F
          rw [zi_k (by omega)]
          exact ⟨f1, f2⟩
        exact m_95_f F'.1 (by omega) (by omega) (hQ _ (y1.k.i (by omega)) F')
      | false =>
        rw [if_neg (by rw [hb]; decide)] at hQ
        refine br_t rfl (m_req (ok := true) (e := 4) r11 r8 (fun _ => ⟨vi, ?_⟩) (fun z => by cases z))
        have km : zd_KM τ (zz_i τ 5 (c - 4) 1) := (zd_KM.rf τ).i (by omega)
        have D2 : zd_M (zz_i τ 5 (c - 4) 1) G (M ||| 2 ^ c) := by
          refine ⟨fun j hj => by rw [zi_k (by omega)]; exact D.1 j hj, fun r hr => ?_⟩
          rw [fb_bit_set]
          by_cases e : r = c - 4
          · rw [e, zi_at, show 4 + (c - 4) = c by omega, decide_eq_true rfl, Bool.or_true]
            rfl
          · rw [zi_j e, decide_eq_false (by omega), Bool.or_false]
            exact D.2 r hr
        have t11 : (zz_i τ 5 (c - 4) 1).1 0 11 = 0 := by rw [zi_k (by omega)]; exact r11
        have t7 : (zz_i τ 5 (c - 4) 1).1 0 7 = nI (zt_e b n p) := by rw [zi_k (by omega)]; exact r7
        by_cases c7 : c = 7
        · rw [if_pos c7] at hQ
          have z := zd_linesM okM (by rw [c7, fb_bit_set, decide_eq_true rfl, Bool.or_true]) (hG.2.2.2.2.2 (by rw [← c7]; exact hb)) (U.kk km) he.2 t11 t7 D2 (hQ.to km)
          rw [← c7] at z
          rw [c7]
          rw [c7] at z
          exact z
        · rw [if_neg c7] at hQ
          have z := zd_ruleM okM (show c - 4 < 3 by omega) (U.kk km) he.2 t11 t7 D2 (hQ.to km)
          rw [show 4 + (c - 4) = c by omega] at z
          exact z
  unfold pX6_readLine
  by_cases s1 : zt_s b n p = 1
  · exact br_t (by rw [r9, s1]; rfl) (m_lineNow U he.1 he.2 r8 r7 yes no)
  · have sl : zt_s b n p ≤ 4 := by
      unfold zt_s
      split
      · omega
      · exact (zt_sort_le _).2
    exact br_f (by rw [r9]; exact fun z => s1 ((nI_eq (b := 1) (by omega) (by omega)).mp z)) (no (fun c hc is => s1 (zt_is_s hp hc is)))
end ZE
