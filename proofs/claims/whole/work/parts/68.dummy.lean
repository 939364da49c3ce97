/-! states that hold a draft: so that each half of zd_head, zd_rule can be had alone -/
def zd_t0 (n : Nat) (b : Nat → Nat) (p1 : Nat) (G : Nat → Nat) (M : Nat) : zz_T := (fun q j => if q = 0 then (if j = 6 then nI n else if j = 7 then nI p1 else 0) else if q = 4 then nI (G j) else if q = 5 then (if M.testBit (4 + j) then 1 else 0) else nI (b j), fun _ => 0)
def zd_i0 (G : Nat → Nat) (q j : Nat) : Nat := if q = 20 then (if j = 4 then G 33 else if j = 5 then G 49 else G 50) else if q = 22 then G (37 + j) else if q = 23 then G (34 + j) else if q = 24 then G 51 else if q = 25 then G (52 + 3 * j) else if q = 26 then G (53 + 3 * j) else if q = 27 then G (54 + 3 * j) else if (q - 28) % 3 = 0 then G (11 * ((q - 28) / 3) + (j - 2)) else G (11 * ((q - 28) / 3) + 3 + j)
def zd_s0 (n : Nat) (b : Nat → Nat) (p1 : Nat) (G : Nat → Nat) (M : Nat) : zz_T := (fun q j => if q = 1 then (if j = 1 then nI n else if j = 6 then nI p1 else nI M) else if q = 2 then nI (b j) else nI (zd_i0 G q j), fun _ => 0)
section ZD
variable {n p1 : Nat} {b : Nat → Nat} {G : Nat → Nat} {M : Nat}
theorem zd_t0_U (hn : n ≤ 160) (hb : ∀ i, i < n → b i < 128) : zt_U (zd_t0 n b p1 G M) n b := ⟨rfl, hn, fun i hi => ⟨hb i hi, rfl⟩⟩
theorem zd_t0_D : zd_M (zd_t0 n b p1 G M) G M := ⟨fun j _ => rfl, fun r _ => rfl⟩
theorem zd_s0_T (hn : n ≤ 160) (hb : ∀ i, i < n → b i < 128) : zt_T (zd_s0 n b p1 G M) n b := ⟨rfl, hn, fun i hi => ⟨hb i hi, rfl⟩⟩
theorem zd_s0_X (h3 : G 33 ≤ 3) : zd_X (zd_s0 n b p1 G M) G M := by
  refine ⟨⟨⟨rfl, rfl, rfl⟩, ⟨rfl, rfl, rfl⟩, fun i _ => rfl, ⟨rfl, fun i _ => ⟨rfl, rfl, rfl⟩⟩, fun h hh => ?_⟩, rfl⟩
  rcases (show h = 0 ∨ h = 1 ∨ h = 2 by omega) with rfl | rfl | rfl
  · exact ⟨rfl, rfl, rfl, fun d _ => rfl⟩
  · exact ⟨rfl, rfl, rfl, fun d _ => rfl⟩
  · exact ⟨rfl, rfl, rfl, fun d _ => rfl⟩
end ZD
section ZE
variable {σ τ : zz_T} {n p1 : Nat} {b : Nat → Nat} {G : Nat → Nat} {M : Nat}
theorem zd_headX {c : Nat} {Q : Int32 → zz_T → Prop} (hG : zd_ok G M) (h3 : G 33 < 3) (hc : c ≤ 3) (T : zt_T σ n b) (hp1 : p1 ≤ n) (x6 : σ.1 1 6 = nI p1) (X : zd_X σ G M) (hQ : zd_C σ Q (zd_sp b n p1 0 30 (zd_h G c) M)) : pX4_readHead 1 20 (nI c) σ Q :=
  (zd_head (τ := zd_t0 n b p1 G M) hG h3 hc T (zd_t0_U T.2.1 (fun i hi => (T.2.2 i hi).1)) hp1 x6 X rfl rfl zd_t0_D).1 Q hQ
theorem zd_headM {c : Nat} {Q : zz_T → Prop} (hG : zd_ok G M) (h3 : G 33 < 3) (hc : c ≤ 3) (U : zt_U τ n b) (hp1 : p1 ≤ n) (t11 : τ.1 0 11 = 0) (t7 : τ.1 0 7 = nI p1) (D : zd_M τ G M) (hQ : zd_D τ n b Q (zd_sp b n p1 0 30 (zd_h G c) M)) : pX6_readLine_95 Q (nI c) τ :=
  (zd_head (σ := zd_s0 n b p1 G M) hG h3 hc (zd_s0_T U.2.1 (fun i hi => (U.2.2 i hi).1)) U hp1 rfl (zd_s0_X hG.1.1.1) t11 t7 D).2 Q hQ
theorem zd_ruleX {r : Nat} {Q : Int32 → zz_T → Prop} (hG : zd_ok G M) (hr : r < 3) (T : zt_T σ n b) (hp1 : p1 ≤ n) (x6 : σ.1 1 6 = nI p1) (X : zd_X σ G M) (hQ : zd_C σ Q (zd_sp b n p1 (zd_lo r) (zd_hi r) (gu G (34 + r)) M)) : pX4_readRule 1 20 (nI r) σ Q :=
  (zd_rule (τ := zd_t0 n b p1 G M) hG hr T (zd_t0_U T.2.1 (fun i hi => (T.2.2 i hi).1)) hp1 x6 X rfl rfl zd_t0_D).1 Q hQ
theorem zd_ruleM {r : Nat} {Q : zz_T → Prop} (hG : zd_ok G M) (hr : r < 3) (U : zt_U τ n b) (hp1 : p1 ≤ n) (t11 : τ.1 0 11 = 0) (t7 : τ.1 0 7 = nI p1) (D : zd_M τ G M) (hQ : zd_D τ n b Q (zd_sp b n p1 (zd_lo r) (zd_hi r) (gu G (34 + r)) M)) : pX6_readLine_95 Q (nI (4 + r)) τ :=
  (zd_rule (σ := zd_s0 n b p1 G M) hG hr (zd_s0_T U.2.1 (fun i hi => (U.2.2 i hi).1)) U hp1 rfl (zd_s0_X hG.1.1.1) t11 t7 D).2 Q hQ
/-- a line, the class -/
theorem zd_lineX {p : Nat} {Q : Int32 → zz_T → Prop} (hG : zd_ok G M) (T : zt_T σ n b) (hp : p ≤ n) (x5 : σ.1 1 5 = nI (zt_f b n p)) (x6 : σ.1 1 6 = nI (zt_e b n p)) (X : zd_X σ G M) (hy : ∀ c, c < 8 → zt_is b (zt_f b n p) (zt_e b n p) c → zd_C σ Q (zd_ln b n p G M c)) (hn : (∀ c, c < 8 → ¬ zt_is b (zt_f b n p) (zt_e b n p) c) → zd_C σ Q (.inl (2, zt_f b n p))) : pX4_readLine 1 20 σ Q := by
  have n160 := T.2.1
  have he := zt_e_le (b := b) hp
  have h3 := hG.1.1.1
  have ref : ∀ (c : Nat) (P : Int32 → zz_T → Prop), (∀ σ' : zz_T, zd_KX σ σ' → σ'.1 1 2 = nI c → σ'.1 1 3 = nI (zt_f b n p) → P 0 σ') → pX4_refuse 1 (nI c) σ P := fun c P hP => ⟨zz_bo0, hP _ ⟨fun u h1 h2 => by rw [zi_k h1, zi_k h1], by rw [zi_j (by omega), zi_j (by omega)]⟩ (by rw [zi_j (by omega), zi_at]) (by rw [zi_at, zi_j (by omega)]; exact x5)⟩
  unfold pX4_readLine
  refine x_nameIndex T he.1 he.2 x5 x6 (fun c hc is => br_f (nI_ne4 (by omega)) ?_) (fun none => br_t rfl (ref 2 _ (fun σ' y a1 a2 => ⟨zz_bo0, hn none σ' y a1 a2⟩)))
  have hQ := hy c hc is
  unfold zd_ln at hQ
  by_cases c4 : c < 4
  · rw [if_pos c4] at hQ
    refine br_f (by rw [show (4 : Int32) = nI 4 from rfl, nI_leI (by omega) (by omega)]; omega) ?_
    by_cases g3 : G 33 < 3
    · rw [if_pos g3] at hQ
      exact zd_headX hG g3 (by omega) T he.2 x6 X hQ.bo
    · rw [if_neg g3] at hQ
      refine br_f (by rw [X.1.1.1, show (3 : Int32) = nI 3 from rfl, nI_ltI (by omega) (by omega)]; omega) (ref 5 _ (fun σ' y a1 a2 => ⟨zz_bo0, zz_bo0, hQ σ' y a1 a2⟩))
  · rw [if_neg c4] at hQ
    refine br_t (by rw [show (4 : Int32) = nI 4 from rfl, nI_leI (by omega) (by omega)]; omega) ?_
    rw [X.2, zb_1 M hG.2.2.2.2.1 c hc, zb_s c hc, fa_or]
    have okM := zd_met_ok (c := c) hG hc
    have kx : zd_KX σ (zz_i σ 1 8 (nI (M ||| 2 ^ c))) := ⟨fun u h1 h2 => zi_k h1, zi_j (by omega)⟩
    have X2 : zd_X (zz_i σ 1 8 (nI (M ||| 2 ^ c))) G (M ||| 2 ^ c) := ⟨X.1.kept h3 (fun u x y => zi_k (by omega)), by rw [zi_at]⟩
    have e2 : (zz_i σ 1 8 (nI (M ||| 2 ^ c))).1 1 2 = σ.1 1 2 := zi_j (by omega)
    have e6 : (zz_i σ 1 8 (nI (M ||| 2 ^ c))).1 1 6 = nI (zt_e b n p) := by rw [zi_j (by omega)]; exact x6
    cases hb : M.testBit c with
    | true =>
      rw [if_pos hb] at hQ
      exact br_t rfl (ref 4 _ (fun σ' y a1 a2 => ⟨zz_bo0, hQ σ' y a1 a2⟩))
    | false =>
      rw [if_neg (by rw [hb]; decide)] at hQ
      refine br_f (by decide) ?_
      by_cases c7 : c = 7
      · rw [if_pos c7] at hQ
        refine br_t (by rw [c7]; rfl) ?_
        refine zd_linesX okM ?_ (T.kk kx) he.2 e6 X2 (hQ.to kx e2).bo
        rw [c7, fb_bit_set, decide_eq_true rfl, Bool.or_true]
      · rw [if_neg c7] at hQ
        refine br_f (fun z => c7 ((nI_eq (b := 7) (by omega) (by omega)).mp z)) ?_
        rw [show (4 : Int32) = nI 4 from rfl, pk_sub (by omega)]
        exact zd_ruleX okM (by omega) (T.kk kx) he.2 e6 X2 (hQ.to kx e2).bo
end ZE
