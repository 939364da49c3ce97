theorem zdr_bv (x : BitVec 32) : x >>> 16 &&& 32767#32 = x.sshiftRight 16 &&& 32767#32 := by
  apply BitVec.eq_of_getLsbD_eq
  intro i hi
  rw [BitVec.getLsbD_and, BitVec.getLsbD_and, BitVec.getLsbD_ushiftRight, BitVec.getLsbD_sshiftRight]
  by_cases h : i < 15
  · have h1 : 16 + i < 32 := by omega
    simp [h1, show ¬ 32 ≤ i by omega]
  · have : (32767#32).getLsbD i = false := by
      have a : ∀ k : Fin 32, 15 ≤ k.val → (32767#32).getLsbD k.val = false := by decide
      exact a ⟨i, hi⟩ (by show 15 ≤ i; omega)
    rw [this, Bool.and_false, Bool.and_false]
theorem zdr_got (y : Int32) : (Int32.toUInt32 y >>> (Int32.toUInt32 16 &&& Int32.toUInt32 31)).toInt32 &&& 32767 = (y >>> (16 &&& (31 : Int32))) &&& 32767 := by
  apply Int32.toBitVec_inj.1
  rw [Int32.toBitVec_and, Int32.toBitVec_and, Int32.toBitVec_shiftRight, BitVec.sshiftRight_eq']
  have e0 : (((16 &&& (31 : Int32)).toBitVec.smod 32)).toNat = 16 := by decide
  have e1 : ((Int32.toUInt32 y >>> (Int32.toUInt32 16 &&& Int32.toUInt32 31)).toInt32).toBitVec = y.toBitVec >>> 16 := by
    have e2 : (Int32.toUInt32 16 &&& Int32.toUInt32 31) = 16 := by decide
    rw [e2]
    have e3 : ∀ u : UInt32, u.toInt32.toBitVec = u.toBitVec := fun _ => rfl
    rw [e3, UInt32.toBitVec_shiftRight, BitVec.ushiftRight_eq']
    have e4 : ((16 : UInt32).toBitVec % 32).toNat = 16 := by decide
    rw [e4]
    rfl
  rw [e0, e1]
  exact zdr_bv _
theorem zdr_and (y : Int32) : ∃ v, v < 32768 ∧ y &&& 32767 = nI v := by
  refine ⟨(y &&& 32767).toBitVec.toNat, ?_, ?_⟩
  · rw [Int32.toBitVec_and, BitVec.toNat_and]
    have : y.toBitVec.toNat &&& (32767 : Int32).toBitVec.toNat ≤ (32767 : Int32).toBitVec.toNat := Nat.and_le_right
    have e : (32767 : Int32).toBitVec.toNat = 32767 := rfl
    omega
  · apply Int32.toBitVec_inj.1
    show _ = BitVec.ofNat 32 _
    rw [BitVec.ofNat_toNat, BitVec.setWidth_eq]
/-- the line that a state gives -/
theorem zdr_line (y : Int32) : ∃ w, w < 256 ∧ (((Int32.toUInt32 y >>> (Int32.toUInt32 16 &&& Int32.toUInt32 31)).toInt32 &&& 32767) / 4) - (((Int32.toUInt32 y >>> (Int32.toUInt32 16 &&& Int32.toUInt32 31)).toInt32 &&& 32767) / 4) / 256 * 256 = nI w ∧ (((y >>> (16 &&& (31 : Int32))) &&& 32767) / 4) - (((y >>> (16 &&& (31 : Int32))) &&& 32767) / 4) / 256 * 256 = nI w := by
  rw [zdr_got]
  obtain ⟨v, hv, e⟩ := zdr_and (y >>> (16 &&& (31 : Int32)))
  rw [e]
  have d1 : nI v / 4 = nI (v / 4) := pk_div (d := 4) (by omega) (by omega) (by omega)
  have d2 : nI (v / 4) / 256 = nI (v / 4 / 256) := pk_div (d := 256) (by omega) (by omega) (by omega)
  have d3 : nI (v / 4) - nI (v / 4 / 256 * 256) = nI (v / 4 % 256) := by
    rw [iI_nI, iI_nI, iI_sub, iI_nI]
    congr 1
    omega
  rw [d1, d2, show (256 : Int32) = nI 256 from rfl, pk_mul, d3]
  exact ⟨v / 4 % 256, Nat.mod_lt _ (by omega), rfl, rfl⟩
def zdr_s (seed : Int32) : Nat → Int32
  | 0 => seed
  | i + 1 => zdr_s seed i * 1103515245 + 12345
noncomputable def zdr_l (y : Int32) : Nat := Classical.choose (zdr_line y)
theorem zdr_l_s (y : Int32) : zdr_l y < 256 ∧ (((Int32.toUInt32 y >>> (Int32.toUInt32 16 &&& Int32.toUInt32 31)).toInt32 &&& 32767) / 4) - (((Int32.toUInt32 y >>> (Int32.toUInt32 16 &&& Int32.toUInt32 31)).toInt32 &&& 32767) / 4) / 256 * 256 = nI (zdr_l y) ∧ (((y >>> (16 &&& (31 : Int32))) &&& 32767) / 4) - (((y >>> (16 &&& (31 : Int32))) &&& 32767) / 4) / 256 * 256 = nI (zdr_l y) := Classical.choose_spec (zdr_line y)
noncomputable def zdr_w (seed : Int32) (i : Nat) : Nat := zdr_l (zdr_s seed i * 1103515245 + 12345)
noncomputable def zdr_R (seed : Int32) (i : Nat) : zRow := (zdr_w seed i, 0, true, false)
section ZD
variable {S : zSt} {σ τ τ1 : zz_T}
theorem b_drift (hs : sOK S) (X : RX σ S) (M : RM τ S) (x1 x2 x3 : Int32) : zBi (pX5_drift x1 x2 x3 σ) (pX6_drift x1 x2 x3 τ) := by
  have h3 := hs.1.1.1
  have hr := hs.1.2.2
  unfold pX5_drift pX6_drift
  by_cases h : zIn x2 1 60
  · obtain ⟨n, hn0, hn, rfl⟩ := (zIn_d (a := 1) (n := 60) (by omega) (by omega)).mp h
    by_cases h2 : zIn x3 0 1
    · obtain ⟨w, hw, rfl⟩ := (zIn_c (n := 1) (by omega)).mp h2
      by_cases h0 : sg S 33 = 0
      · exact ⟨-2, S, hs, x_out_y h (br_t rfl (x_out_y h2 (br_t rfl (br_t (by rw [X.1.1.1, h0]; rfl) ⟨rfl, X⟩)))), m_in_y rfl rfl h (br_f (by decide) (m_isPart_y h2 (br_f (by decide) ⟨vp_in_nI (n := 33) (by decide) (by decide), br_t (by rw [show Int32.toNatClampNeg 33 = 33 from rfl, M.1.1.1, h0]; rfl) ⟨rfl, M⟩⟩)))⟩
      · have n0 : ¬ nI (sg S 33) = 0 := fun q => h0 ((nI_z (by omega)).mp q)
        generalize hRd : zdr_R x1 = R
        have eR : ∀ i, R i = (zdr_w x1 i, 0, true, false) := fun i => by rw [← hRd]; rfl
        generalize hA : (if w = 0 then gN (sg S) R (gF0 (sg S)) n else fb_sm (fun h => fb_sm (hF (sg S) h R (gF0 (sg S) h) n) 8) (sg S 33)) = A
        refine ⟨nI A, S, hs, x_out_y h (br_t rfl (x_out_y h2 (br_t rfl (br_f (by rw [X.1.1.1]; exact n0) (x_trial_0 hs.1.1 X.1 (fun σ2 hc2 P2 => ⟨n + 1, ?_⟩)))))), m_in_y rfl rfl h (br_f (by decide) (m_isPart_y h2 (br_f (by decide) ⟨vp_in_nI (n := 33) (by decide) (by decide), br_f (by rw [show Int32.toNatClampNeg 33 = 33 from rfl, M.1.1.1]; exact n0) (m_startsR hs M (fun τ1 hk m2 m1 h13 hAc => ⟨n + 1, ?_⟩))⟩)))⟩
        · have loop : ∀ (j i : Nat) (σ3 : zz_T), i + j = n → cK σ σ3 → px_dy σ3 20 (sg S) (fun h => hF (sg S) h R (gF0 (sg S) h) i) (fun h => hW (sg S) h R (gF0 (sg S) h) (gW0 (sg S) h) i) (sg S 50) → pX5_drift_54 (fun x s => x = nI A ∧ RX s S) (j + 1) (nI n) (nI w) (nI (gN (sg S) R (gF0 (sg S)) i)) (zdr_s x1 i) (nI i) σ3 := by
            intro j
            induction j with
            | zero =>
              intro i σ3 hi hc P
              obtain rfl : i = n := by omega
              refine br_t (nI_le (Nat.le_refl _) (by omega)) ?_
              have RX3 := X.keep hc hs
              rcases (show w = 0 ∨ w = 1 by omega) with rfl | rfl
              · rw [if_pos rfl] at hA
                exact br_t rfl ⟨by rw [hA], RX3⟩
              · rw [if_neg (by omega)] at hA
                refine br_f (by decide) ?_
                unfold pX1_heatOfAll
                refine x_sumAll (c := 0) (p := 0) (f := fun h => fb_sm (hF (sg S) h R (gF0 (sg S) h) i) 8) (fun Q n a b s => pX1_heatOfAll_4 20 Q n a b s) h3 ⟨by rw [hA], RX3⟩ (fun n a q => br_t (by rw [P.1.1]; exact nI_le (Nat.le_refl _) (by omega)) q) (fun n h a hh q => ?_)
                refine br_f (by rw [P.1.1]; exact nI_ge (by omega) (by omega)) ⟨vp_in_nI (by omega) (by decide), ?_⟩
                rw [nI_tn (by omega)]
                exact x_sumL (P.2.2.2.2 h hh).2.2.2 q
            | succ j ih =>
              intro i σ3 hi hc P
              refine br_f (nI_ge (by omega) (by omega)) ?_
              obtain ⟨w1, w2, w3⟩ := zdr_l_s (zdr_s x1 i * 1103515245 + 12345)
              rw [w2]
              refine px_burnLine (nx := 0) true hs.1.1 (hs.1.2.1.run R (by omega)) P w1 (by omega) (fun σ4 hb4 P4 hot h7 => ?_)
              rw [nI_1, nI_add]
              have eF : ∀ h, hF (sg S) h R (gF0 (sg S) h) (i + 1) = gC (sg S) h (hF (sg S) h R (gF0 (sg S) h) i) (zdr_w x1 i) 0 true := fun h => by
                show (if (R i).2.2.2 then _ else gC (sg S) h _ (R i).1 (R i).2.1 (R i).2.2.1) = _
                rw [eR]
                rfl
              have eW : ∀ h, hW (sg S) h R (gF0 (sg S) h) (gW0 (sg S) h) (i + 1) = min (hW (sg S) h R (gF0 (sg S) h) (gW0 (sg S) h) i + gE (sg S) h (hF (sg S) h R (gF0 (sg S) h) i) (zdr_w x1 i) 0 true) 9999 := fun h => by
                show min (_ + gE (sg S) h _ (R i).1 (R i).2.1 (R i).2.2.1) 9999 = _
                rw [eR]
              have eN : gN (sg S) R (gF0 (sg S)) (i + 1) = gN (sg S) R (gF0 (sg S)) i + fb_sm (fun h => gE (sg S) h (hF (sg S) h R (gF0 (sg S) h) i) (zdr_w x1 i) 0 true) (sg S 33) := by
                show _ + fb_sm (fun h => gE (sg S) h _ (R i).1 (R i).2.1 (R i).2.2.1) (sg S 33) = _
                rw [eR]
                rfl
              have z := ih (i + 1) σ4 (by omega) (hc.tr (cK.of hb4 (fun q x => by unfold cScr; omega))) (by simp only [eF, eW]; exact P4)
              rw [eN] at z
              exact z
          exact loop n 0 σ2 (by omega) hc2 P2
        · have loop : ∀ (j i : Nat) (τ3 : zz_T), i + j = n → mK τ τ3 → τ3.1 0 13 = (-4) → (∃ bm wr wb ho, ho ≤ 99 ∧ mAc τ3 (sg S 33) (gN (sg S) R (gF0 (sg S)) i) bm ho wr wb) → fl_dy (τ3.1 2) (sg S) (fun h => hF (sg S) h R (gF0 (sg S) h) i) (fun h => hW (sg S) h R (gF0 (sg S) h) (gW0 (sg S) h) i) (sg S 50 + i) → pX6_drift_47 (fun x s => x = nI A ∧ RM s S) (j + 1) (nI n) (nI w) (zdr_s x1 i) 0 (nI i) τ3 := by
            intro j
            induction j with
            | zero =>
              intro i τ3 hi hk3 h13 hAc P
              obtain rfl : i = n := by omega
              obtain ⟨bm, wr, wb, ho, hho, Ac⟩ := hAc
              have RM3 := M.keep hk3
              refine br_t (nI_le (Nat.le_refl _) (by omega)) ?_
              refine x_sumAll (c := 0) (p := 0) (f := fun h => fb_sm (hF (sg S) h R (gF0 (sg S) h) i) 8) (Q := fun a s => (nI w = 0 → (fun x s => x = nI A ∧ RM s S) (s.1 0 14) s) ∧ (¬ nI w = 0 → (fun x s => x = nI A ∧ RM s S) a s)) (fun Q n a b s => pX6_drift_99 (fun x s => x = nI A ∧ RM s S) n (nI w) a b s) h3 ?_ (fun n a q => ⟨vp_in_nI (n := 33) (by decide) (by decide), br_t (by rw [show Int32.toNatClampNeg 33 = 33 from rfl, RM3.1.1.1]; exact nI_le (Nat.le_refl _) (by omega)) ?_⟩) (fun n h a hh q => ?_)
              · rcases (show w = 0 ∨ w = 1 by omega) with rfl | rfl
                · rw [if_pos rfl] at hA
                  exact br_t rfl ⟨by rw [Ac.1, hA], RM3⟩
                · rw [if_neg (by omega)] at hA
                  exact br_f (by decide) ⟨by rw [hA], RM3⟩
              · exact q
              · refine ⟨vp_in_nI (n := 33) (by decide) (by decide), br_f (by rw [show Int32.toNatClampNeg 33 = 33 from rfl, RM3.1.1.1]; exact nI_ge (by omega) (by omega)) ?_⟩
                exact m_heatsOf (by omega) (P.2.2.2.2 h hh).2.2.2 q
            | succ j ih =>
              intro i τ3 hi hk3 h13 hAc P
              obtain ⟨bm, wr, wb, ho, hho, Ac⟩ := hAc
              refine br_f (nI_ge (by omega) (by omega)) ?_
              obtain ⟨w1, w2, w3⟩ := zdr_l_s (zdr_s x1 i * 1103515245 + 12345)
              have gl := gN_le h3 R (gF0 (sg S)) i
              rw [w3]
              refine m_row (nx := 0) true false hs.1.1 (hs.1.2.1.run R (by omega)) P w1 (by omega) Ac (by omega) hho (Or.inl ⟨h13, rfl⟩) (fun τ4 hb4 P4 h04 hA4 h8 => ?_)
              rw [nI_1]
              refine ih (i + 1) τ4 (by omega) (hk3.tr (mK.of hb4.1 (fun q hq => by unfold mRo at hq; unfold mScr; omega) (fun j hj => h04 j (by omega) (by omega) (by omega) (by omega)))) (by rw [h04 13 (by omega) (by omega) (by omega) (by omega)]; exact h13) ?_ ?_
              · refine ⟨_, _, _, _, ?_, ?_, hA4.2.1, hA4.2.2.1, hA4.2.2.2.1, hA4.2.2.2.2⟩
                · have := fmx_le (f := fun h => fmx (gT (sg S) h (hF (sg S) h R (gF0 (sg S) h) i) (zdr_w x1 i) 0 true) 8) (c := 99) (n := sg S 33) (fun h _ => fmx_le (fun d _ => by
                    have := hT_le (sg S) h R (gF0 (sg S) h) i d
                    unfold hT at this
                    rw [eR] at this
                    exact this))
                  exact Nat.max_le.mpr ⟨hho, this⟩
                · rw [hA4.1]
                  show nI _ = nI (_ + fb_sm (fun h => gE (sg S) h _ (R i).1 (R i).2.1 (R i).2.2.1) (sg S 33))
                  rw [eR]
                  rfl
              · have eF : ∀ h, hF (sg S) h R (gF0 (sg S) h) (i + 1) = gC (sg S) h (hF (sg S) h R (gF0 (sg S) h) i) (zdr_w x1 i) 0 true := fun h => by
                  show (if (R i).2.2.2 then _ else gC (sg S) h _ (R i).1 (R i).2.1 (R i).2.2.1) = _
                  rw [eR]; rfl
                have eW : ∀ h, hW (sg S) h R (gF0 (sg S) h) (gW0 (sg S) h) (i + 1) = min (hW (sg S) h R (gF0 (sg S) h) (gW0 (sg S) h) i + gE (sg S) h (hF (sg S) h R (gF0 (sg S) h) i) (zdr_w x1 i) 0 true) 9999 := fun h => by
                  show min (_ + gE (sg S) h _ (R i).1 (R i).2.1 (R i).2.2.1) 9999 = _
                  rw [eR]
                simp only [eF, eW]
                exact P4
          exact loop n 0 τ1 (by omega) hk h13 ⟨0, 0, _, 0, by omega, hAc (sg S 33) h3⟩ m2
    · exact ⟨-1, S, hs, x_out_y h (br_t rfl (x_out_n h2 (br_f (by decide) ⟨rfl, X⟩))), m_in_y rfl rfl h (br_f (by decide) (m_isPart_n h2 (br_t rfl ⟨rfl, M⟩)))⟩
  · exact ⟨-1, S, hs, x_out_n h (br_f (by decide) ⟨rfl, X⟩), m_in_n rfl rfl h (br_t rfl ⟨rfl, M⟩)⟩
end ZD
