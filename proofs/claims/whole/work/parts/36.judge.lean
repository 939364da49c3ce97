/-! JUDGING: the least of several, the first of them -/
def jd (val : Nat → Nat) (code : Nat → Int32) (c0 : Int32) (m0 : Nat) : Nat → Int32 × Nat
  | 0 => (c0, m0)
  | n + 1 => if val n < (jd val code c0 m0 n).2 then (code n, val n) else jd val code c0 m0 n
theorem jd_le (val : Nat → Nat) (code : Nat → Int32) (c0 : Int32) (m0 : Nat) : ∀ n, (jd val code c0 m0 n).2 ≤ m0
  | 0 => Nat.le_refl _
  | n + 1 => by
    have h := jd_le val code c0 m0 n
    show (if val n < (jd val code c0 m0 n).2 then (code n, val n) else jd val code c0 m0 n).2 ≤ m0
    split
    · show val n ≤ m0; omega
    · exact h
theorem jd_c {val : Nat → Nat} {code : Nat → Int32} {c0 c1 : Int32} {m0 : Nat} (h : val 0 < m0) : ∀ n, jd val code c0 m0 (n + 1) = jd val code c1 m0 (n + 1)
  | 0 => by
    show (if val 0 < m0 then (code 0, val 0) else (c0, m0)) = (if val 0 < m0 then (code 0, val 0) else (c1, m0))
    rw [if_pos h, if_pos h]
  | n + 1 => by
    show (if val (n + 1) < (jd val code c0 m0 (n + 1)).2 then _ else jd val code c0 m0 (n + 1)) = (if val (n + 1) < (jd val code c1 m0 (n + 1)).2 then _ else jd val code c1 m0 (n + 1))
    rw [jd_c h n]
theorem jd_code {val : Nat → Nat} {code : Nat → Int32} {c0 : Int32} {m0 : Nat} (P : Int32 → Prop) (h0 : val 0 < m0) (hc : ∀ i, P (code i)) : ∀ n, P (jd val code c0 m0 (n + 1)).1
  | 0 => by
    show P (if val 0 < m0 then (code 0, val 0) else (c0, m0)).1
    rw [if_pos h0]
    exact hc 0
  | n + 1 => by
    show P (if val (n + 1) < (jd val code c0 m0 (n + 1)).2 then (code (n + 1), val (n + 1)) else jd val code c0 m0 (n + 1)).1
    split
    · exact hc _
    · exact jd_code P h0 hc n
theorem jd_any {val : Nat → Nat} {code : Nat → Int32} {c0 : Int32} {m0 : Nat} (P : Int32 → Prop) (h0 : P c0) (hc : ∀ i, P (code i)) : ∀ n, P (jd val code c0 m0 n).1
  | 0 => h0
  | n + 1 => by
    show P (if val n < (jd val code c0 m0 n).2 then (code n, val n) else jd val code c0 m0 n).1
    split
    · exact hc _
    · exact jd_any P h0 hc n
/-- a step of the class's judging, with a value that may have been broken off -/
theorem jd_step {val : Nat → Nat} {code : Nat → Int32} {c0 : Int32} {m0 n x : Nat} {P : Int32 → Int32 → Prop} (hm : m0 ≤ 1000000) (hx : x = val n ∨ ((jd val code c0 m0 n).2 ≤ x ∧ x ≤ val n)) (hv : val n < 2000000) (h : P (nI (jd val code c0 m0 (n + 1)).2) (jd val code c0 m0 (n + 1)).1) : (nI (jd val code c0 m0 n).2 ≤ nI x → P (nI (jd val code c0 m0 n).2) (jd val code c0 m0 n).1) ∧ (¬ nI (jd val code c0 m0 n).2 ≤ nI x → P (nI x) (code n)) := by
  have l := jd_le val code c0 m0 n
  have e : nI (jd val code c0 m0 n).2 ≤ nI x ↔ (jd val code c0 m0 n).2 ≤ x := nI_leI (by omega) (by omega)
  have s : jd val code c0 m0 (n + 1) = if val n < (jd val code c0 m0 n).2 then (code n, val n) else jd val code c0 m0 n := rfl
  refine ⟨fun q => ?_, fun q => ?_⟩
  · have q := e.mp q
    rw [s, if_neg (by omega)] at h
    exact h
  · have q : ¬ (jd val code c0 m0 n).2 ≤ x := fun z => q (e.mpr z)
    have ex : x = val n := by omega
    subst ex
    rw [s, if_pos (by omega)] at h
    exact h
def Jm (τ τ1 : zz_T) (c : Int32) (mu : Nat) : Prop := mK τ τ1 ∧ τ1.1 0 22 = c ∧ τ1.1 0 23 = nI mu
section ZJ
variable {S : zSt} {σ τ τ1 : zz_T}
theorem m_startsJ {Q : zz_T → Prop} {c : Int32} {mu : Nat} (hs : sOK S) (M : RM τ S) (J : Jm τ τ1 c mu) (hq : ∀ τ' : zz_T, Jm τ τ' c mu → mP (τ'.1 2) (sg S) → mP (τ'.1 1) (sg S) → τ'.1 0 13 = (-4) → (∀ nh, nh ≤ 3 → mAc τ' nh 0 0 0 0 (fun _ => 0)) → Q τ') : pX6_starts τ1 Q := by
  have M1 := M.keep J.1
  refine m_starts (fun τ' hb e2 h0 h13 hA => hq τ' ⟨J.1.tr (mK.of hb.1 (fun q hq => by unfold mScr; omega) (fun j hj => h0 j (by omega) (by omega) (by omega) (by omega) (by omega))), by rw [h0 22 (by omega) (by omega) (by omega) (by omega) (by omega)]; exact J.2.1, by rw [h0 23 (by omega) (by omega) (by omega) (by omega) (by omega)]; exact J.2.2⟩ ?_ ?_ h13 hA)
  · exact M1.1.kept hs.1.1 e2
  · rw [hb.1 1 (by omega)]; exact M1.1
theorem m_rowsJ {Q : zz_T → Prop} {c : Int32} {mu n r : Nat} {g : Nat → Nat} {F : Nat → Nat → Nat} {Wr : Nat → Nat} {wt : Option Nat} (hg : gOK g) (hd : gDY g F Wr r) (hr : r < 100000) (hn : n ≤ 100) (J : Jm τ τ1 c mu) (m2 : fl_dy (τ1.1 2) g F Wr r) (hwt : (τ1.1 0 13 = (-4) ∧ wt = none) ∨ ∃ i, τ1.1 0 13 = nI i ∧ i < 12 ∧ 0 < g 49 ∧ wt = some i) (A : mAc τ1 (g 33) 0 0 0 0 (fun _ => 0)) (hq : ∀ τ' : zz_T, Jm τ τ' c mu → τ'.1 0 14 = nI (gN g (gR g r wt) F n) → (∀ h, h < g 33 → τ'.1 7 h = nI (fb_sm (hE g h (gR g r wt) (F h)) n)) → Q τ') : pX6_rowsGo (nI n) τ1 Q := by
  refine m_rows (wt := wt) hg hd (by omega) (by omega) m2 A (by omega) (by omega) hwt (fun τ' hb hP h0 hA h8 => hq τ' ⟨J.1.tr (mK.of hb.1 (fun q hq => by unfold mRo at hq; unfold mScr; omega) (fun j hj => h0 j (by omega) (by omega) (by omega) (by omega))), by rw [h0 22 (by omega) (by omega) (by omega) (by omega)]; exact J.2.1, by rw [h0 23 (by omega) (by omega) (by omega) (by omega)]; exact J.2.2⟩ ?_ (fun h hh => ?_))
  · rw [hA.1, Nat.zero_add]
  · rw [hA.2.2.2.2 h hh]
    show nI (0 + _) = _
    rw [Nat.zero_add]
theorem m_judge {Q : zz_T → Prop} {val : Nat → Nat} {code : Nat → Int32} {c0 : Int32} {m0 n : Nat} (hm : m0 ≤ 1000000) (hv : val n < 2000000) (J : Jm τ τ1 (jd val code c0 m0 n).1 (jd val code c0 m0 n).2) (hq : ∀ τ' : zz_T, Jm τ τ' (jd val code c0 m0 (n + 1)).1 (jd val code c0 m0 (n + 1)).2 → Q τ') : pX6_judges (code n) (nI (val n)) τ1 Q := by
  have l := jd_le val code c0 m0 n
  have e : nI (jd val code c0 m0 n).2 ≤ nI (val n) ↔ (jd val code c0 m0 n).2 ≤ val n := nI_leI (by omega) (by omega)
  have s : jd val code c0 m0 (n + 1) = if val n < (jd val code c0 m0 n).2 then (code n, val n) else jd val code c0 m0 n := rfl
  unfold pX6_judges
  rw [J.2.2]
  refine ⟨fun q => ?_, fun q => ?_⟩
  · have q := e.mp q
    refine hq τ1 ?_
    rw [s, if_neg (by omega)]
    exact J
  · have q : ¬ (jd val code c0 m0 n).2 ≤ val n := fun z => q (e.mpr z)
    refine hq _ ?_
    rw [s, if_pos (by omega)]
    refine ⟨⟨fun k hk => ?_, ?_, ?_, ?_⟩, ?_, ?_⟩
    · rw [zi_k (fun x => hk (by unfold mScr; omega)), zi_k (fun x => hk (by unfold mScr; omega))]; exact J.1.1 k hk
    · rw [zi_j (by omega), zi_j (by omega)]; exact J.1.2.1
    · rw [zi_j (by omega), zi_j (by omega)]; exact J.1.2.2.1
    · rw [zi_j (by omega), zi_j (by omega)]; exact J.1.2.2.2
    · rw [zi_j (by omega), zi_at]
    · rw [zi_at]
theorem m_startsJudging {Q : zz_T → Prop} {m0 : Nat} (hk : mK τ τ1) (hq : ∀ τ' : zz_T, Jm τ τ' (-4) m0 → Q τ') : pX6_startsJudging (nI m0) τ1 Q := by
  refine hq _ ⟨⟨fun k h => ?_, ?_, ?_, ?_⟩, ?_, ?_⟩
  · rw [zi_k (fun x => h (by unfold mScr; omega)), zi_k (fun x => h (by unfold mScr; omega))]; exact hk.1 k h
  · rw [zi_j (by omega), zi_j (by omega)]; exact hk.2.1
  · rw [zi_j (by omega), zi_j (by omega)]; exact hk.2.2.1
  · rw [zi_j (by omega), zi_j (by omega)]; exact hk.2.2.2
  · rw [zi_j (by omega), zi_at]
  · rw [zi_at]
/-- the answer out of a judgement -/
def jAns (j : Int32 × Nat) (c : Nat) : Int32 := if j.1 = (-4) then (-4) else if c = 0 then j.1 else nI j.2
theorem m_judged {Q : Int32 → zz_T → Prop} {j : Int32 × Nat} {c : Nat} (hc : c ≤ 1) (J : Jm τ τ1 j.1 j.2) (hq : Q (jAns j c) τ1) : pX6_judged (nI c) τ1 Q := by
  unfold pX6_judged
  unfold jAns at hq
  rw [J.2.1, J.2.2]
  by_cases h : j.1 = (-4)
  · rw [if_pos h] at hq; exact br_t h hq
  · rw [if_neg h] at hq
    refine br_f h ?_
    rcases (show c = 0 ∨ c = 1 by omega) with rfl | rfl
    · rw [if_pos rfl] at hq; exact br_t rfl hq
    · rw [if_neg (by decide)] at hq; exact br_f (by decide) hq
theorem nI_ne4 {n : Nat} (h : n < 2147483648) : ¬ nI n = (-4) := by
  intro q
  have q2 := congrArg Int32.toInt q
  rw [nI_i h] at q2
  have : ((-4 : Int32)).toInt = -4 := by decide
  omega
/-- by which kind, power fewest are wrong -/
theorem b_drive (hs : sOK S) (X : RX σ S) (M : RM τ S) (c : Nat) (hc : c ≤ 1) (x1 x2 x3 : Int32) : ∃ r : Int32, pX5_bestDrive x1 (nI c) x2 x3 σ (fun x s => x = r ∧ RX s S) ∧ pX6_isHead x1 τ (fun r2 s2 => ((r2 = 0 → (-1) = r ∧ RM s2 S) ∧ (¬ r2 = 0 → pX6_isFar x2 s2 (fun r9 s9 => ((r9 = 0 → (-1) = r ∧ RM s9 S) ∧ (¬ r9 = 0 → pX6_isPart x3 s9 (fun r16 s16 => ((r16 = 0 → (-1) = r ∧ RM s16 S) ∧ (¬ r16 = 0 → pX6_bestOf x1 (nI c) (nI (if c = 0 then 3 else 30)) x2 x3 s16 (fun x s => x = r ∧ RM s S)))))))))) := by
  have h3 := hs.1.1.1
  have hr := hs.1.2.2
  unfold pX5_bestDrive
  by_cases h : zIn x1 0 (nI (sg S 33) - 1)
  · obtain ⟨k, hk, rfl⟩ := (zIn_n (by omega)).mp h
    by_cases h2 : zIn x2 0 60
    · obtain ⟨n, hn, rfl⟩ := (zIn_c (n := 60) (by omega)).mp h2
      by_cases h4 : zIn x3 0 1
      · obtain ⟨w, hw, rfl⟩ := (zIn_c (n := 1) (by omega)).mp h4
        generalize hmost : (if c = 0 then 3 else 30) = most
        have bm : most ≤ 30 := by rw [← hmost]; split <;> omega
        -- the value with v in place of kind, power
        have gv : ∀ v, v ≤ most → gAll (gu (sg S) (11 * k + c) v) := fun v hv => by
          refine gAll_gu hs.1 (by omega) (by omega) (by omega) ?_
          rcases (show c = 0 ∨ c = 1 by omega) with rfl | rfl
          · rw [if_pos rfl] at hmost; unfold gBnd; omega
          · rw [if_neg (by decide)] at hmost; unfold gBnd; omega
        have gl : ∀ v r, gL (gu (sg S) (11 * k + c) v) r = gL (sg S) r := fun v r => by
          unfold gL
          rw [gu_ne (j := 49) (by omega), gu_ne (j := 37 + r % sg S 49) (by omega)]
        have sim : ∀ v, v ≤ most → gSim (sg S) (gu (sg S) (11 * k + c) v) := fun v hv => ⟨(gv v hv).1, gu_ne (by omega), gu_ne (by omega), gu_ne (by omega), gu_ne (by omega), gl v⟩
        have rowE : ∀ v, gR (gu (sg S) (11 * k + c) v) (sg S 50) none = gR (sg S) (sg S 50) none := fun v => by
          funext i
          unfold gR
          rw [gl, gl]
        have f0E : ∀ v, gF0 (gu (sg S) (11 * k + c) v) k = gF0 (sg S) k := fun v => by
          funext d
          exact gu_ne (by omega)
        generalize hRd : gR (sg S) (sg S 50) none = R at rowE
        generalize hval : (fun v => fb_sm (hE (gu (sg S) (11 * k + c) v) k R (gF0 (sg S) k)) n) = val
        have vl : ∀ v, val v ≤ 480 := fun v => by
          rw [← hval]
          have := fb_sm_bound (f := hE (gu (sg S) (11 * k + c) v) k R (gF0 (sg S) k)) (c := 8) (n := n) (fun i _ => hE_le _ _ _ _ _)
          show fb_sm _ n ≤ 480
          omega
        have ev : ∀ v, fb_sm (hE (gu (sg S) (11 * k + c) v) k R (gF0 (sg S) k)) n = val v := fun v => by rw [← hval]
        have cE := jd_c (val := val) (code := nI) (c0 := 0) (c1 := (-4)) (m0 := 1000000) (by have := vl 0; omega) most
        have cn : ¬ (jd val nI (-4) 1000000 (most + 1)).1 = (-4) := by
          have := jd_code (val := val) (code := fun i => nI (i % 100)) (c0 := (-4)) (m0 := 1000000) (fun z => ¬ z = (-4)) (by have := vl 0; omega) (fun i => nI_ne4 (by omega)) most
          have e2 : ∀ j, j ≤ 31 → jd val nI (-4) 1000000 j = jd val (fun i => nI (i % 100)) (-4) 1000000 j := by
            intro j
            induction j with
            | zero => intro _; rfl
            | succ j ih =>
              intro hj
              show (if val j < (jd val nI (-4) 1000000 j).2 then (nI j, val j) else jd val nI (-4) 1000000 j) = (if val j < (jd val (fun i => nI (i % 100)) (-4) 1000000 j).2 then (nI (j % 100), val j) else jd val (fun i => nI (i % 100)) (-4) 1000000 j)
              rw [ih (by omega), Nat.mod_eq_of_lt (by omega : j < 100)]
          rw [e2 _ (by omega)]
          exact this
        refine ⟨jAns (jd val nI (-4) 1000000 (most + 1)) w, x_noHead_y X.1.1.1 h (br_t rfl (x_badRows_y h2 (br_t rfl (x_out_y h4 (br_t rfl ?_))))), m_isHead_y M.1.1.1 h (br_f (by decide) (m_isFar_y h2 (br_f (by decide) (m_isPart_y h4 (br_f (by decide) ?_)))))⟩
        · have loop : ∀ (j v : Nat) (σ3 : zz_T), v + j = most + 1 → cK σ σ3 → pX5_bestDrive_37 (fun x s => x = jAns (jd val nI (-4) 1000000 (most + 1)) w ∧ RX s S) (j + 1) (nI k) (nI c) (nI n) (nI w) (nI (jd val nI 0 1000000 v).2) (jd val nI 0 1000000 v).1 (nI v) σ3 := by
            intro j
            induction j with
            | zero =>
              intro v σ3 hv hc3
              obtain rfl : v = most + 1 := by omega
              unfold pX5_bestDrive_37 pX5_mostOf
              have fin : (nI most < nI (most + 1) → ((nI w = 0 → (jd val nI 0 1000000 (most + 1)).1 = jAns (jd val nI (-4) 1000000 (most + 1)) w ∧ RX σ3 S) ∧ (¬ nI w = 0 → nI (jd val nI 0 1000000 (most + 1)).2 = jAns (jd val nI (-4) 1000000 (most + 1)) w ∧ RX σ3 S))) := by
                intro _
                rw [cE]
                unfold jAns
                rw [if_neg cn]
                rcases (show w = 0 ∨ w = 1 by omega) with rfl | rfl
                · exact br_t rfl ⟨rfl, X.keep hc3 hs⟩
                · exact br_f (by decide) ⟨rfl, X.keep hc3 hs⟩
              rcases (show c = 0 ∨ c = 1 by omega) with rfl | rfl
              · rw [if_pos rfl] at hmost
                subst hmost
                exact br_t rfl (br_t (by decide) (fin (by decide)))
              · rw [if_neg (by decide)] at hmost
                subst hmost
                exact br_f (by decide) (br_t (by decide) (fin (by decide)))
            | succ j ih =>
              intro v σ3 hv hc3
              have step : ¬ nI most < nI v → vp_in (nI k) 3 ∧ pX0_copyFrom 37 (11 + 3 * (Int32.toNatClampNeg (nI k))) σ3 (fun s59 => pX0_drive 37 (nI c) (nI v) s59 (fun s69 => pX5_wrongOfLone (nI n) (nI (jd val nI 0 1000000 v).2) s69 (fun r76 s76 => ((nI (jd val nI 0 1000000 v).2 ≤ r76 → pX5_bestDrive_96 (fun x s => x = jAns (jd val nI (-4) 1000000 (most + 1)) w ∧ RX s S) (pX5_bestDrive_37 (fun x s => x = jAns (jd val nI (-4) 1000000 (most + 1)) w ∧ RX s S) (j + 1)) (nI k) (nI c) (nI n) (nI w) (nI (jd val nI 0 1000000 v).2) (jd val nI 0 1000000 v).1 (nI v) s76) ∧ (¬ nI (jd val nI 0 1000000 v).2 ≤ r76 → pX5_bestDrive_96 (fun x s => x = jAns (jd val nI (-4) 1000000 (most + 1)) w ∧ RX s S) (pX5_bestDrive_37 (fun x s => x = jAns (jd val nI (-4) 1000000 (most + 1)) w ∧ RX s S) (j + 1)) (nI k) (nI c) (nI n) (nI w) r76 (nI v) (nI v) s76))))) := by
                intro _
                refine ⟨vp_in_nI (by omega) (by decide), ?_⟩
                rw [nI_tn (by omega)]
                refine x_lone_0 hs.1.1 hs.1.2.1 hk (xP_cK hs.1.1 X.1 hc3) (fun σ4 L => ?_)
                obtain ⟨hc4, ⟨wr, hwr, y0, y1, y2, y3⟩, yb⟩ := L
                -- the head alone, driven by v
                have drv : ∀ σ5 : zz_T, zz_but (fun q => q = 37) σ4 σ5 → hx_g σ5 37 (gu (sg S) (11 * k + c) v) k wr (gF0 (sg S) k) → pX5_wrongOfLone (nI n) (nI (jd val nI 0 1000000 v).2) σ5 (fun r76 s76 => ((nI (jd val nI 0 1000000 v).2 ≤ r76 → pX5_bestDrive_96 (fun x s => x = jAns (jd val nI (-4) 1000000 (most + 1)) w ∧ RX s S) (pX5_bestDrive_37 (fun x s => x = jAns (jd val nI (-4) 1000000 (most + 1)) w ∧ RX s S) (j + 1)) (nI k) (nI c) (nI n) (nI w) (nI (jd val nI 0 1000000 v).2) (jd val nI 0 1000000 v).1 (nI v) s76) ∧ (¬ nI (jd val nI 0 1000000 v).2 ≤ r76 → pX5_bestDrive_96 (fun x s => x = jAns (jd val nI (-4) 1000000 (most + 1)) w ∧ RX s S) (pX5_bestDrive_37 (fun x s => x = jAns (jd val nI (-4) 1000000 (most + 1)) w ∧ RX s S) (j + 1)) (nI k) (nI c) (nI n) (nI w) r76 (nI v) (nI v) s76))) := by
                  intro σ5 hb5 hg5
                  have c5 : cK σ σ5 := (hc3.tr hc4).tr (cK.of hb5 (fun q hq => by unfold cScr; omega))
                  refine x_wrongOfLone hs.1.1 (sim v (by omega)) (by omega) hn (jd_le _ _ _ _ _) hk X.1 ⟨c5, ⟨wr, hwr, hg5⟩, yb⟩ (fun x σ6 hc6 hx => ?_)
                  rw [gRp_t, hRd, ev v] at hx
                  refine jd_step (val := val) (code := nI) (c0 := 0) (m0 := 1000000) (n := v) (x := x) (P := fun a b => pX5_bestDrive_96 (fun x s => x = jAns (jd val nI (-4) 1000000 (most + 1)) w ∧ RX s S) (pX5_bestDrive_37 (fun x s => x = jAns (jd val nI (-4) 1000000 (most + 1)) w ∧ RX s S) (j + 1)) (nI k) (nI c) (nI n) (nI w) a b (nI v) σ6) (by omega) hx (by have := vl v; omega) ?_
                  unfold pX5_bestDrive_96
                  rw [nI_1]
                  exact ih (v + 1) σ6 (by omega) hc6
                unfold pX0_drive
                rcases (show c = 0 ∨ c = 1 by omega) with rfl | rfl
                · refine br_t rfl (drv _ ((zz_but.rf _ _).i rfl) ⟨?_, ?_, ?_, fun d hd => ?_⟩)
                  · rw [zi_at, Nat.add_zero, gu_at]
                  · rw [zi_j (by omega), gu_ne (by omega)]; exact y1
                  · rw [zi_j (by omega)]; exact y2
                  · rw [zi_k (by omega)]; exact y3 d hd
                · refine br_f (by decide) (drv _ ((zz_but.rf _ _).i rfl) ⟨?_, ?_, ?_, fun d hd => ?_⟩)
                  · rw [zi_j (by omega), gu_ne (by omega)]; exact y0
                  · rw [zi_at, gu_at]
                  · rw [zi_j (by omega)]; exact y2
                  · rw [zi_k (by omega)]; exact y3 d hd
              unfold pX5_bestDrive_37 pX5_mostOf
              have nl : ¬ nI most < nI v := nI_nlt (by omega) (by omega)
              rcases (show c = 0 ∨ c = 1 by omega) with rfl | rfl
              · rw [if_pos rfl] at hmost
                subst hmost
                exact br_t rfl (br_f nl (step nl))
              · rw [if_neg (by decide)] at hmost
                subst hmost
                exact br_f (by decide) (br_f nl (step nl))
          exact ⟨most + 2, loop (most + 1) 0 σ (by omega) (cK.rf σ)⟩
        · unfold pX6_bestOf
          refine m_startsJudging (m0 := 1000000) (mK.rf τ) (fun τ1 J0 => ⟨most + 2, ?_⟩)
          have loop : ∀ (j v : Nat) (τ3 : zz_T), v + j = most + 1 → Jm τ τ3 (jd val nI (-4) 1000000 v).1 (jd val nI (-4) 1000000 v).2 → pX6_bestOf_9 (fun x s => x = jAns (jd val nI (-4) 1000000 (most + 1)) w ∧ RM s S) (j + 1) (nI k) (nI c) (nI most) (nI n) (nI w) (nI v) τ3 := by
            intro j
            induction j with
            | zero =>
              intro v τ3 hv J
              obtain rfl : v = most + 1 := by omega
              exact br_t (nI_lt (by omega) (by omega)) (m_judged hw J ⟨rfl, M.keep J.1⟩)
            | succ j ih =>
              intro v τ3 hv J
              refine br_f (nI_nlt (by omega) (by omega)) (m_startsJ hs M J (fun τ4 J4 m2 m1 h13 hA => ?_))
              have ix : (11 : Int32) * nI k + nI c = nI (11 * k + c) := by rw [show (11 : Int32) = nI 11 from rfl, pk_mul, nI_add]
              rw [ix, nI_tn (by omega)]
              refine ⟨vp_in_nI (by omega) (by decide), ?_⟩
              have gvv := gv v (by omega)
              have J5 : Jm τ (zz_i τ4 2 (11 * k + c) (nI v)) (jd val nI (-4) 1000000 v).1 (jd val nI (-4) 1000000 v).2 := ⟨⟨fun q hq => by rw [zi_k (fun x => hq (by unfold mScr; omega))]; exact J4.1.1 q hq, by rw [zi_k (by omega)]; exact J4.1.2.1, by rw [zi_k (by omega)]; exact J4.1.2.2.1, by rw [zi_k (by omega)]; exact J4.1.2.2.2⟩, by rw [zi_k (by omega)]; exact J4.2.1, by rw [zi_k (by omega)]; exact J4.2.2⟩
              have m5 : mP ((zz_i τ4 2 (11 * k + c) (nI v)).1 2) (gu (sg S) (11 * k + c) v) := by
                rw [zi_r, zr_at]
                exact mP_set h3 hs.1.1.2.2.2.1.1 gvv.1.1 gvv.1.2.2.2.1.1 m2 (gLive_gu (by omega) (by omega) (by omega))
              have e33 : gu (sg S) (11 * k + c) v 33 = sg S 33 := gu_ne (by omega)
              have e50 : gu (sg S) (11 * k + c) v 50 = sg S 50 := gu_ne (by omega)
              obtain ⟨A1, A2, A3, A4, A5⟩ := hA (sg S 33) h3
              refine m_rowsJ (wt := none) gvv.1 gvv.2.1 (by rw [e50]; omega) (by omega) J5 m5 (Or.inl ⟨by rw [zi_k (by omega)]; exact h13, rfl⟩) ⟨by rw [zi_k (by omega)]; exact A1, by rw [zi_k (by omega)]; exact A2, by rw [zi_k (by omega)]; exact A3, by rw [zi_k (by omega)]; exact A4, fun h hh => by rw [zi_k (by omega)]; exact A5 h (by omega)⟩ (fun τ6 J6 e14 e7 => ⟨vp_in_nI (by omega) (by decide), ?_⟩)
              rw [nI_tn (by omega), e7 k (by omega), e50, rowE v, f0E v, ev v]
              refine m_judge (val := val) (code := nI) (by omega) (by have := vl v; omega) J6 (fun τ7 J7 => ?_)
              rw [nI_1]
              exact ih (v + 1) τ7 (by omega) J7
          exact loop (most + 1) 0 τ1 (by omega) J0
      · exact ⟨-1, x_noHead_y X.1.1.1 h (br_t rfl (x_badRows_y h2 (br_t rfl (x_out_n h4 (br_f (by decide) ⟨rfl, X⟩))))), m_isHead_y M.1.1.1 h (br_f (by decide) (m_isFar_y h2 (br_f (by decide) (m_isPart_n h4 (br_t rfl ⟨rfl, M⟩)))))⟩
    · exact ⟨-1, x_noHead_y X.1.1.1 h (br_t rfl (x_badRows_n h2 (br_f (by decide) ⟨rfl, X⟩))), m_isHead_y M.1.1.1 h (br_f (by decide) (m_isFar_n h2 (br_t rfl ⟨rfl, M⟩)))⟩
  · exact ⟨-1, x_noHead_n X.1.1.1 h (br_f (by decide) ⟨rfl, X⟩), m_isHead_n M.1.1.1 h (br_t rfl ⟨rfl, M⟩)⟩
theorem b_power (hs : sOK S) (X : RX σ S) (M : RM τ S) (x1 x2 x3 : Int32) : zBi (pX5_power x1 x2 x3 σ) (pX6_power x1 x2 x3 τ) := by
  obtain ⟨r, a, b⟩ := b_drive hs X M 1 (by omega) x1 x2 x3
  exact ⟨r, S, hs, a, b⟩
theorem b_kind (hs : sOK S) (X : RX σ S) (M : RM τ S) (x1 x2 x3 : Int32) : zBi (pX5_kind x1 x2 x3 σ) (pX6_kind x1 x2 x3 τ) := by
  obtain ⟨r, a, b⟩ := b_drive hs X M 0 (by omega) x1 x2 x3
  exact ⟨r, S, hs, a, b⟩
end ZJ
