section ZL
variable {S : zSt} {σ τ τ1 : zz_T}
def zo_I (τ τ1 : zz_T) (g : Nat → Nat) (v n : Nat) (ca : Option Nat) (k : Nat) : Prop := mK τ τ1 ∧ (∀ h, ca = some h → τ1.2 24 = lN (fb_sm (zo_s g v n (some h)) k)) ∧ τ1.2 25 = lN (fb_sm (zo_s g v n none) k) ∧ τ1.2 26 = lN (10 ^ n)
theorem m_findOdds {v n : Nat} {ca : Option Nat} {xa : Int32} {Q : zz_T → Prop} (hs : sOK S) (M : RM τ S) (hv : v ≤ 10) (hn : n ≤ 6) (hxa : (ca = none ∧ xa = (-4)) ∨ ∃ h, ca = some h ∧ h < sg S 33 ∧ xa = nI h) (hq : ∀ τ' : zz_T, zo_I τ τ' (sg S) v n ca (2 ^ n) → Q τ') : pX6_findOdds (nI v) xa (nI n) τ Q := by
  have h3 := hs.1.1.1
  have hr := hs.1.2.2
  have k64 : 2 ^ n ≤ 2 ^ 6 := Nat.pow_le_pow_right (by omega) hn
  have e2n : (1 : Int32) <<< (nI n &&& (31 : Int32)) = nI (2 ^ n) := zb_s n (by omega)
  have inner : ∀ (K : Int32 → Int32 → Int32 → Int32 → zz_T → Prop) (k : Nat), k < 2 ^ n → (∀ τ5 : zz_T, zo_I τ τ5 (sg S) v n ca (k + 1) → K (nI v) xa (nI n) (nI (k + 1)) τ5) → ∀ (j i : Nat) (τ2 : zz_T), i + j = n → zo_I τ τ2 (sg S) v n ca k → τ2.1 0 13 = (-4) → fl_dy (τ2.1 2) (sg S) (fun h => hF (sg S) h (zo_R (sg S) k) (gF0 (sg S) h) i) (fun h => hW (sg S) h (zo_R (sg S) k) (gF0 (sg S) h) (gW0 (sg S) h) i) (sg S 50 + i) → (∃ bm ho wr, ho ≤ 99 ∧ mAc τ2 (sg S 33) (gN (sg S) (zo_R (sg S) k) (gF0 (sg S)) i) bm ho wr (fun h => fb_sm (hE (sg S) h (zo_R (sg S) k) (gF0 (sg S) h)) i)) → pX6_findOdds_63 Q K (j + 1) (nI v) xa (nI n) (nI k) (lN (zo_w v k i)) (nI i) τ2 := by
    intro K k hk hK j
    induction j with
    | zero =>
      intro i τ2 hi I h13 P hA
      obtain rfl : i = n := by omega
      obtain ⟨bm, ho, wr, hho, A1, A2, A3, A4, A5⟩ := hA
      obtain ⟨I1, I2, I3, I4⟩ := I
      have gl := gN_le h3 (zo_R (sg S) k) (gF0 (sg S)) i
      refine br_t (nI_le (Nat.le_refl _) (by omega)) ?_
      have fin : ∀ t : Nat, (∀ h, ca = some h → t = zo_s (sg S) v i (some h) k) → pX6_findOdds_169 Q K (nI v) xa (nI i) (nI k) (lN (zo_w v k i)) (τ2.2 24) (lN t) τ2 := by
        intro t ht
        unfold pX6_findOdds_169
        rw [nI_1]
        refine hK _ ⟨⟨fun q hq => by rw [zl_1, zl_1]; exact I1.1 q hq, by rw [zl_1, zl_1]; exact I1.2.1, by rw [zl_1, zl_1]; exact I1.2.2.1, by rw [zl_1, zl_1]; exact I1.2.2.2⟩, fun h e => ?_, ?_, ?_⟩
        · rw [zl_j (by omega), zl_at, I2 h e, ht h e, lN_add]
          rfl
        · rw [zl_at, zl_j (by omega), I3, zl_1, A1, zo_wide (by omega), lN_mul, lN_add]
          rfl
        · rw [zl_j (by omega), zl_j (by omega)]
          exact I4
      rcases hxa with ⟨rfl, rfl⟩ | ⟨h, rfl, hh, rfl⟩
      · refine br_t rfl (fin 0 (fun h e => by cases e))
      · refine br_f (nI_ne4 (by omega)) ⟨vp_in_nI (by omega) (by decide), ?_⟩
        have A5h : τ2.1 7 h = nI (fb_sm (hE (sg S) h (zo_R (sg S) k) (gF0 (sg S) h)) i) := A5 h hh
        rw [nI_tn (by omega), A5h]
        have el := fb_sm_bound (f := hE (sg S) h (zo_R (sg S) k) (gF0 (sg S) h)) (c := 8) (n := i) (fun k _ => hE_le _ _ _ _ _)
        by_cases z : fb_sm (hE (sg S) h (zo_R (sg S) k) (gF0 (sg S) h)) i = 0
        · refine br_t (by rw [z]; rfl) (fin (zo_w v k i) (fun h' e => ?_))
          cases e
          show _ = if decide (fb_sm (hE (sg S) h (zo_R (sg S) k) (gF0 (sg S) h)) i = 0) = true then zo_w v k i else 0
          rw [if_pos (by simp [z])]
        · refine br_f (fun q => z ((nI_z (by omega)).mp q)) (fin 0 (fun h' e => ?_))
          cases e
          show _ = if decide (fb_sm (hE (sg S) h (zo_R (sg S) k) (gF0 (sg S) h)) i = 0) = true then zo_w v k i else 0
          rw [if_neg (by simp [z])]
    | succ j ih =>
      intro i τ2 hi I h13 P hA
      obtain ⟨bm, ho, wr, hho, A⟩ := hA
      have gl := gN_le h3 (zo_R (sg S) k) (gF0 (sg S)) i
      refine br_f (nI_ge (by omega) (by omega)) ?_
      have key : pX6_findOdds_104 Q K (pX6_findOdds_63 Q K (j + 1)) (nI v) xa (nI n) (nI k) (nI i) (if zo_pw k i then 0 else 1) (lN (zo_w v k i)) (lN (if k.testBit i then v else 10 - v)) τ2 := by
        unfold pX6_findOdds_104
        refine ⟨vp_in_nI (n := 50) (by decide) (by decide), ?_⟩
        rw [show Int32.toNatClampNeg 50 = 50 from rfl, P.1.2.2]
        refine m_lineAt hs.1.1 P.1.2.1 P.2.2.1 (by omega) ⟨vp_in_nI (n := 50) (by decide) (by decide), ?_⟩
        rw [P.1.2.2, nI_1]
        refine m_lineAt hs.1.1 P.1.2.1 P.2.2.1 (by omega) ?_
        refine m_row (zo_pw k i) false hs.1.1 (hs.1.2.1.run _ (by omega)) P (gL_lt hs.1.1 _) (gL_lt hs.1.1 _) A (by omega) hho (Or.inl ⟨h13, rfl⟩) (fun τ4 hb4 P4 h04 hA4 h8 => ?_)
        rw [lN_mul, nI_1]
        refine ih (i + 1) τ4 (by omega) ⟨I.1.tr (mK.of hb4.1 (fun q hq => by unfold mRo at hq; unfold mScr; omega) (fun j hj => h04 j (by omega) (by omega) (by omega) (by omega))), by rw [hb4.2]; exact I.2⟩ (by rw [h04 13 (by omega) (by omega) (by omega) (by omega)]; exact h13) P4 ⟨_, _, _, ?_, hA4⟩
        have := fmx_le (f := fun h => fmx (gT (sg S) h (hF (sg S) h (zo_R (sg S) k) (gF0 (sg S) h) i) (gL (sg S) (sg S 50 + i)) (gL (sg S) (sg S 50 + i + 1)) (zo_pw k i)) 8) (c := 99) (n := sg S 33) (fun h _ => fmx_le (fun d _ => hT_le (sg S) h (zo_R (sg S) k) (gF0 (sg S) h) i d))
        exact Nat.max_le.mpr ⟨hho, this⟩
      rw [zb_1 k (by omega) i (by omega)]
      unfold zo_pw at key
      unfold pX6_findOdds_85
      have w1 : (10 - nI v).toInt64 = lN (10 - v) := by rw [show (10 : Int32) = nI 10 from rfl, pk_sub hv, zo_wide (by omega)]
      rw [w1, zo_wide (n := v) (by omega)]
      revert key
      cases k.testBit i
      · intro key; exact br_f (by decide) (br_t rfl key)
      · intro key; exact br_t rfl (br_f (by decide) key)
  have outer : ∀ (j k : Nat) (τ2 : zz_T), k + j = 2 ^ n → zo_I τ τ2 (sg S) v n ca k → pX6_findOdds_45 Q (j + 1) (nI v) xa (nI n) (nI k) τ2 := by
    intro j
    induction j with
    | zero =>
      intro k τ2 hk I
      obtain rfl : k = 2 ^ n := by omega
      exact br_t (by rw [e2n]; exact nI_le (Nat.le_refl _) (by omega)) (hq τ2 I)
    | succ j ih =>
      intro k τ2 hk I
      refine br_f (by rw [e2n]; exact nI_ge (by omega) (by omega)) ?_
      have M2 := M.keep I.1
      refine m_starts (fun τ' hb e2 h0 h13 hA => ⟨n + 1, ?_⟩)
      refine inner (pX6_findOdds_45 Q (j + 1)) k (by omega) (fun τ5 I5 => ih (k + 1) τ5 (by omega) I5) n 0 τ' (by omega) ⟨I.1.tr (mK.of hb.1 (fun q hq => by unfold mScr; omega) (fun j hj => h0 j (by omega) (by omega) (by omega) (by omega) (by omega))), by rw [hb.2]; exact I.2⟩ h13 (M2.1.kept hs.1.1 e2) ⟨0, 0, 0, by omega, hA (sg S 33) h3⟩
  have first : ∀ (j i : Nat) (τ2 : zz_T), i + j = n → τ2.1 = τ.1 → τ2.2 24 = 0 → τ2.2 25 = 0 → τ2.2 26 = lN (10 ^ i) → pX6_findOdds_18 Q (j + 1) (nI v) xa (nI n) (nI i) τ2 := by
    intro j
    induction j with
    | zero =>
      intro i τ2 hi h1 h24 h25 h26
      obtain rfl : i = n := by omega
      refine br_t (nI_le (Nat.le_refl _) (by omega)) ⟨2 ^ i + 1, outer (2 ^ i) 0 τ2 (by omega) ⟨⟨fun q _ => by rw [h1], by rw [h1], by rw [h1], by rw [h1]⟩, fun h _ => h24, h25, h26⟩⟩
    | succ j ih =>
      intro i τ2 hi h1 h24 h25 h26
      refine br_f (nI_ge (by omega) (by omega)) ?_
      rw [nI_1]
      refine ih (i + 1) _ (by omega) h1 (by rw [zl_j (by omega)]; exact h24) (by rw [zl_j (by omega)]; exact h25) ?_
      rw [zl_at, h26, show (10 : Int64) = lN 10 from rfl, lN_mul, Nat.pow_succ]
  exact ⟨n + 1, first n 0 _ (by omega) rfl (by rw [zl_j (by omega), zl_j (by omega), zl_at]) (by rw [zl_j (by omega), zl_at]) (by rw [zl_at]; rfl)⟩
theorem x_badOdds_y {x1 x2 x3 : Int32} {Q : Int32 → zz_T → Prop} (h1 : zIn x1 0 10) (h2 : zIn x2 0 6) (h3 : zIn x3 0 1) (hq : Q 0 σ) : pX5_badOdds x1 x2 x3 σ Q := x_out_y h1 (br_t rfl (x_out_y h2 (br_t rfl (x_out_y h3 (br_t rfl ⟨zz_bo0, hq⟩)))))
theorem x_badOdds_n {x1 x2 x3 : Int32} {Q : Int32 → zz_T → Prop} (h : ¬ (zIn x1 0 10 ∧ zIn x2 0 6 ∧ zIn x3 0 1)) (hq : Q 1 σ) : pX5_badOdds x1 x2 x3 σ Q := by
  by_cases h1 : zIn x1 0 10
  · by_cases h2 : zIn x2 0 6
    · by_cases h3 : zIn x3 0 1
      · exact absurd ⟨h1, h2, h3⟩ h
      · exact x_out_y h1 (br_t rfl (x_out_y h2 (br_t rfl (x_out_n h3 (br_f (by decide) ⟨zz_bo1, hq⟩)))))
    · exact x_out_y h1 (br_t rfl (x_out_n h2 (br_f (by decide) ⟨zz_bo1, hq⟩)))
  · exact x_out_n h1 (br_f (by decide) ⟨zz_bo1, hq⟩)
theorem b_luck (hs : sOK S) (X : RX σ S) (M : RM τ S) (x1 x2 x3 x4 : Int32) : zBi (pX5_luck x1 x2 x3 x4 σ) (pX6_luck x1 x2 x3 x4 τ) := by
  have h3 := hs.1.1.1
  have hr := hs.1.2.2
  unfold pX5_luck pX6_luck
  by_cases ha : zIn x1 0 10 ∧ zIn x3 0 6 ∧ zIn x4 0 1
  · by_cases hb : zIn x2 0 (nI (sg S 33) - 1)
    · obtain ⟨a1, a2, a3⟩ := ha
      obtain ⟨v, hv, rfl⟩ := (zIn_c (n := 10) (by omega)).mp a1
      obtain ⟨n, hn, rfl⟩ := (zIn_c (n := 6) (by omega)).mp a2
      obtain ⟨h, hh, rfl⟩ := (zIn_n (by omega)).mp hb
      have k64 : 2 ^ n ≤ 2 ^ 6 := Nat.pow_le_pow_right (by omega) hn
      have e2n : (1 : Int32) <<< (nI n &&& (31 : Int32)) = nI (2 ^ n) := zb_s n (by omega)
      have t6 : 10 ^ n ≤ 10 ^ 6 := Nat.pow_le_pow_right (by omega) hn
      have t0 : 0 < 10 ^ n := Nat.pow_pos (by omega)
      have sl := zo_S_lt (g := sg S) (c := some h) h3 hv hn
      generalize hZ : (if x4 = 0 then lN (fb_sm (zo_s (sg S) v n (some h)) (2 ^ n)) / lN (Nat.gcd (10 ^ n) (fb_sm (zo_s (sg S) v n (some h)) (2 ^ n))) else lN (10 ^ n) / lN (Nat.gcd (10 ^ n) (fb_sm (zo_s (sg S) v n (some h)) (2 ^ n)))) = Z
      refine ⟨Z, S, hs, x_badOdds_y a1 a2 a3 (br_t rfl (x_noHead_y X.1.1.1 hb (br_t rfl (x_raised (a := 10) (by omega) (by omega) ⟨2 ^ n + 1, ?_⟩)))), m_in_y rfl rfl a1 (br_f (by decide) (m_isHead_y M.1.1.1 hb (br_f (by decide) (m_in_y rfl rfl a2 (br_f (by decide) (m_isPart_y a3 (br_f (by decide) (m_findOdds (ca := some h) hs M hv hn (Or.inr ⟨h, rfl, hh, rfl⟩) (fun τ' I => ?_)))))))))⟩
      · have loop : ∀ (j k : Nat) (σ1 : zz_T), k + j = 2 ^ n → cK σ σ1 → pX5_luck_36 (fun x s => x = Z ∧ RX s S) (j + 1) (nI v) (nI h) (nI n) x4 (lN (10 ^ n)) (lN (fb_sm (zo_s (sg S) v n (some h)) k)) (nI k) σ1 := by
          intro j
          induction j with
          | zero =>
            intro k σ1 hk hc
            obtain rfl : k = 2 ^ n := by omega
            exact br_t (by rw [e2n]; exact nI_le (Nat.le_refl _) (by omega)) (x_part sl (by omega) t0 ⟨hZ, X.keep hc hs⟩)
          | succ j ih =>
            intro k σ1 hk hc
            refine br_f (by rw [e2n]; exact nI_ge (by omega) (by omega)) (x_weightOf hn (by omega) hv ?_)
            have wl := zo_w_le hv k n
            have next : ∀ (t : Nat) (σ2 : zz_T), t = zo_s (sg S) v n (some h) k → cK σ σ2 → pX5_luck_78 (fun x s => x = Z ∧ RX s S) (pX5_luck_36 (fun x s => x = Z ∧ RX s S) (j + 1)) (nI v) (nI h) (nI n) x4 (lN (10 ^ n)) (lN (fb_sm (zo_s (sg S) v n (some h)) k + t)) (nI k) σ2 := by
              intro t σ2 ht hc2
              unfold pX5_luck_78
              rw [nI_1, ht]
              exact ih (k + 1) σ2 (by omega) hc2
            by_cases w0 : zo_w v k n = 0
            · refine br_t ((lg_cmp_eq _ _).mpr ((zo_z (by omega)).mpr w0)) (next 0 σ1 ?_ hc)
              show 0 = if _ then zo_w v k n else 0
              rw [w0]
              split <;> rfl
            · refine br_f (fun q => w0 ((zo_z (by omega)).mp ((lg_cmp_eq _ _).mp q))) ?_
              refine x_loneIsRight hs.1.1 hs.1.2.1 (by omega) hh hn (by omega) hc X.1 (fun σ2 hc2 => ?_)
              by_cases z : fb_sm (hE (sg S) h (gRp (sg S) (sg S 50) (zo_pw k)) (gF0 (sg S) h)) n = 0
              · rw [if_pos z]
                refine br_f (by decide) ?_
                rw [lN_add]
                refine next _ σ2 ?_ hc2
                show _ = if decide (fb_sm (hE (sg S) h (gRp (sg S) (sg S 50) (zo_pw k)) (gF0 (sg S) h)) n = 0) = true then zo_w v k n else 0
                rw [if_pos (by simp [z])]
              · rw [if_neg z]
                refine br_t rfl (next 0 σ2 ?_ hc2)
                show _ = if decide (fb_sm (hE (sg S) h (gRp (sg S) (sg S 50) (zo_pw k)) (gF0 (sg S) h)) n = 0) = true then zo_w v k n else 0
                rw [if_neg (by simp [z])]
        exact loop (2 ^ n) 0 σ (by omega) (cK.rf σ)
      · rw [I.2.1 h rfl, I.2.2.2]
        exact m_lowest sl (by omega) t0 ⟨hZ, M.keep I.1⟩
    · exact ⟨-1, S, hs, x_badOdds_y ha.1 ha.2.1 ha.2.2 (br_t rfl (x_noHead_n X.1.1.1 hb (br_f (by decide) ⟨rfl, X⟩))), m_in_y rfl rfl ha.1 (br_f (by decide) (m_isHead_n M.1.1.1 hb (br_t rfl ⟨rfl, M⟩)))⟩
  · refine ⟨-1, S, hs, x_badOdds_n ha (br_f (by decide) ⟨rfl, X⟩), ?_⟩
    by_cases h1 : zIn x1 0 10
    · refine m_in_y rfl rfl h1 (br_f (by decide) ?_)
      by_cases hb : zIn x2 0 (nI (sg S 33) - 1)
      · refine m_isHead_y M.1.1.1 hb (br_f (by decide) ?_)
        by_cases h2 : zIn x3 0 6
        · exact m_in_y rfl rfl h2 (br_f (by decide) (m_isPart_n (fun q => ha ⟨h1, h2, q⟩) (br_t rfl ⟨rfl, M⟩)))
        · exact m_in_n rfl rfl h2 (br_t rfl ⟨rfl, M⟩)
      · exact m_isHead_n M.1.1.1 hb (br_t rfl ⟨rfl, M⟩)
    · exact m_in_n rfl rfl h1 (br_t rfl ⟨rfl, M⟩)
theorem b_mean (hs : sOK S) (X : RX σ S) (M : RM τ S) (x1 x2 x3 : Int32) : zBi (pX5_mean x1 x2 x3 σ) (pX6_mean x1 x2 x3 τ) := by
  have h3 := hs.1.1.1
  have hr := hs.1.2.2
  unfold pX5_mean pX6_mean
  by_cases ha : zIn x1 0 10 ∧ zIn x2 0 6 ∧ zIn x3 0 1
  · obtain ⟨a1, a2, a3⟩ := ha
    obtain ⟨v, hv, rfl⟩ := (zIn_c (n := 10) (by omega)).mp a1
    obtain ⟨n, hn, rfl⟩ := (zIn_c (n := 6) (by omega)).mp a2
    have k64 : 2 ^ n ≤ 2 ^ 6 := Nat.pow_le_pow_right (by omega) hn
    have e2n : (1 : Int32) <<< (nI n &&& (31 : Int32)) = nI (2 ^ n) := zb_s n (by omega)
    have t6 : 10 ^ n ≤ 10 ^ 6 := Nat.pow_le_pow_right (by omega) hn
    have t0 : 0 < 10 ^ n := Nat.pow_pos (by omega)
    have sl := zo_S_lt (g := sg S) (c := none) h3 hv hn
    generalize hZ : (if x3 = 0 then lN (fb_sm (zo_s (sg S) v n none) (2 ^ n)) / lN (Nat.gcd (10 ^ n) (fb_sm (zo_s (sg S) v n none) (2 ^ n))) else lN (10 ^ n) / lN (Nat.gcd (10 ^ n) (fb_sm (zo_s (sg S) v n none) (2 ^ n)))) = Z
    refine ⟨Z, S, hs, x_badOdds_y a1 a2 a3 (br_t rfl (x_raised (a := 10) (by omega) (by omega) ⟨2 ^ n + 1, ?_⟩)), m_in_y rfl rfl a1 (br_f (by decide) (m_in_y rfl rfl a2 (br_f (by decide) (m_isPart_y a3 (br_f (by decide) (m_findOdds (ca := none) hs M hv hn (Or.inl ⟨rfl, rfl⟩) (fun τ' I => ?_)))))))⟩
    · have loop : ∀ (j k : Nat) (σ1 : zz_T), k + j = 2 ^ n → cK σ σ1 → pX5_mean_27 (fun x s => x = Z ∧ RX s S) (j + 1) (nI v) (nI n) x3 (lN (10 ^ n)) (lN (fb_sm (zo_s (sg S) v n none) k)) (nI k) σ1 := by
        intro j
        induction j with
        | zero =>
          intro k σ1 hk hc
          obtain rfl : k = 2 ^ n := by omega
          exact br_t (by rw [e2n]; exact nI_le (Nat.le_refl _) (by omega)) (x_part sl (by omega) t0 ⟨hZ, X.keep hc hs⟩)
        | succ j ih =>
          intro k σ1 hk hc
          refine br_f (by rw [e2n]; exact nI_ge (by omega) (by omega)) (x_weightOf hn (by omega) hv ?_)
          have wl := zo_w_le hv k n
          have next : ∀ (t : Nat) (σ2 : zz_T), t = zo_s (sg S) v n none k → cK σ σ2 → pX5_mean_67 (fun x s => x = Z ∧ RX s S) (pX5_mean_27 (fun x s => x = Z ∧ RX s S) (j + 1)) (nI v) (nI n) x3 (lN (10 ^ n)) (lN (fb_sm (zo_s (sg S) v n none) k + t)) (nI k) σ2 := by
            intro t σ2 ht hc2
            unfold pX5_mean_67
            rw [nI_1, ht]
            exact ih (k + 1) σ2 (by omega) hc2
          by_cases w0 : zo_w v k n = 0
          · refine br_t ((lg_cmp_eq _ _).mpr ((zo_z (by omega)).mpr w0)) (next 0 σ1 ?_ hc)
            show 0 = zo_w v k n * _
            rw [w0, Nat.zero_mul]
          · refine br_f (fun q => w0 ((zo_z (by omega)).mp ((lg_cmp_eq _ _).mp q))) ?_
            refine x_wrongWithout hs.1.1 hs.1.2.1 (by omega) hn (by omega) hc (xP_cK hs.1.1 X.1 hc) (fun σ2 hc2 => ?_)
            have gl := gN_le h3 (gRp (sg S) (sg S 50) (zo_pw k)) (gF0 (sg S)) n
            rw [zo_wide (by omega), lN_mul, lN_add]
            exact next _ σ2 rfl hc2
      exact loop (2 ^ n) 0 σ (by omega) (cK.rf σ)
    · rw [I.2.2.1, I.2.2.2]
      exact m_lowest sl (by omega) t0 ⟨hZ, M.keep I.1⟩
  · refine ⟨-1, S, hs, x_badOdds_n ha (br_f (by decide) ⟨rfl, X⟩), ?_⟩
    by_cases h1 : zIn x1 0 10
    · refine m_in_y rfl rfl h1 (br_f (by decide) ?_)
      by_cases h2 : zIn x2 0 6
      · exact m_in_y rfl rfl h2 (br_f (by decide) (m_isPart_n (fun q => ha ⟨h1, h2, q⟩) (br_t rfl ⟨rfl, M⟩)))
      · exact m_in_n rfl rfl h2 (br_t rfl ⟨rfl, M⟩)
    · exact m_in_n rfl rfl h1 (br_t rfl ⟨rfl, M⟩)
end ZL
