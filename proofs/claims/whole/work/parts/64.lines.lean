section ZD
variable {σ σ' τ τ' σ1 τ1 : zz_T} {n p q : Nat} {b : Nat → Nat} {G : Nat → Nat} {M : Nat}
def zd_l (G : Nat → Nat) (v : Nat) : Nat → Nat := gu (gu G (37 + G 49) v) 49 (G 49 + 1)
theorem zd_l_ok {v : Nat} (hG : zd_ok G M) (h7 : M.testBit 7 = true) (h12 : G 49 < 12) (hv : v ≤ 255) : zd_ok (zd_l G v) M := by
  obtain ⟨⟨⟨a, b1, c1, d1, e1⟩, ⟨f1, f2⟩, f3⟩, g1, g2, g3, g4⟩ := hG
  have o : ∀ j, j ≠ 49 → j ≠ 37 + G 49 → zd_l G v j = G j := fun j q1 q2 => by unfold zd_l; rw [gu_ne q1, gu_ne q2]
  have o49 : zd_l G v 49 = G 49 + 1 := by unfold zd_l; rw [gu_at]
  have oc : zd_l G v (37 + G 49) = v := by unfold zd_l; rw [gu_ne (by omega), gu_at]
  have o33 := o 33 (by omega) (by omega)
  refine ⟨⟨⟨by rw [o33]; exact a, fun h hh => ?_, ?_, ⟨by omega, fun i hi => ?_⟩, ?_⟩, ⟨fun h hh => ?_, ?_⟩, ?_⟩, ?_, ?_, fun j h1 h2 => ?_, g4.1, fun z => by rw [h7] at z; cases z⟩
  · rw [o33] at hh
    rw [o _ (by omega) (by omega), o _ (by omega) (by omega)]; exact b1 h hh
  · rw [o 34 (by omega) (by omega), o 35 (by omega) (by omega), o 36 (by omega) (by omega)]; exact c1
  · rw [o49] at hi
    by_cases e : i = G 49
    · rw [e, oc]; omega
    · rw [o _ (by omega) (by omega)]; exact d1.2 i (by omega)
  · rw [o 51 (by omega) (by omega), g2]
    exact ⟨by omega, fun i hi => by omega⟩
  · rw [o33] at hh
    have q := f1 h hh
    unfold gF0 gW0 at q ⊢
    refine ⟨by rw [o _ (by omega) (by omega)]; exact q.1, fun d hd => by rw [o _ (by omega) (by omega)]; exact q.2 d hd⟩
  · rw [o 50 (by omega) (by omega)]; exact f2
  · rw [o 50 (by omega) (by omega)]; exact f3
  · rw [o 50 (by omega) (by omega)]; exact g1
  · rw [o 51 (by omega) (by omega)]; exact g2
  · rw [o33] at h1
    rw [o _ (by omega) (by omega)]
    exact g3 j h1 h2
theorem zd_l_X {v : Nat} (hG : zd_ok G M) (h12 : G 49 < 12) (X : zd_X σ G M) (k1 : ∀ u, u ≠ 20 → u ≠ 22 → σ'.1 u = σ.1 u) (k2 : σ'.1 20 4 = σ.1 20 4 ∧ σ'.1 20 6 = σ.1 20 6) (k3 : σ'.1 20 5 = nI (G 49 + 1)) (k4 : σ'.1 22 (G 49) = nI v) (k5 : ∀ i, i ≠ G 49 → σ'.1 22 i = σ.1 22 i) : zd_X σ' (zd_l G v) M := by
  obtain ⟨⟨⟨a1, a2, a3⟩, ⟨b1, b2, b3⟩, c1, ⟨d1, d2⟩, e⟩, m⟩ := X
  have h3 := hG.1.1.1
  obtain ⟨_, g1, g2, g3, _⟩ := hG
  have o : ∀ j, j ≠ 49 → j ≠ 37 + G 49 → zd_l G v j = G j := fun j q1 q2 => by unfold zd_l; rw [gu_ne q1, gu_ne q2]
  have o49 : zd_l G v 49 = G 49 + 1 := by unfold zd_l; rw [gu_at]
  have oc : zd_l G v (37 + G 49) = v := by unfold zd_l; rw [gu_ne (by omega), gu_at]
  refine ⟨⟨⟨by rw [k2.1, o 33 (by omega) (by omega)]; exact a1, by rw [k3, o49], by rw [k2.2, o 50 (by omega) (by omega)]; exact a3⟩, ⟨?_, ?_, ?_⟩, fun i hi => ?_, ⟨?_, fun i hi => ?_⟩, fun h hh => ?_⟩, ?_⟩
  · rw [k1 23 (by omega) (by omega), o 34 (by omega) (by omega)]; exact b1
  · rw [k1 23 (by omega) (by omega), o 35 (by omega) (by omega)]; exact b2
  · rw [k1 23 (by omega) (by omega), o 36 (by omega) (by omega)]; exact b3
  · rw [o49] at hi
    show σ'.1 22 i = _
    by_cases q : i = G 49
    · rw [q, oc]; exact k4
    · rw [k5 i q, o _ (by omega) (by omega)]; exact c1 i (by omega)
  · rw [k1 24 (by omega) (by omega), o 51 (by omega) (by omega)]; exact d1
  · rw [o 51 (by omega) (by omega), g2] at hi
    omega
  · rw [o 33 (by omega) (by omega)] at hh
    obtain ⟨y0, y1, y2, y3⟩ := e h hh
    refine ⟨?_, ?_, ?_, fun d hd => ?_⟩
    · rw [k1 (20 + 8 + 3 * h) (by omega) (by omega), o _ (by omega) (by omega)]; exact y0
    · rw [k1 (20 + 8 + 3 * h) (by omega) (by omega), o _ (by omega) (by omega)]; exact y1
    · show _ = nI (zd_l G v (11 * h + 2))
      rw [k1 (20 + 8 + 3 * h) (by omega) (by omega), o _ (by omega) (by omega)]; exact y2
    · show _ = nI (zd_l G v (11 * h + 3 + d))
      rw [k1 (20 + 8 + 3 * h + 1) (by omega) (by omega), o _ (by omega) (by omega)]; exact y3 d hd
  · rw [k1 1 (by omega) (by omega)]; exact m
/-- the class notes one line -/
theorem x_lineStep {m : Nat} {Q : Int32 → zz_T → Prop} (hG : zd_ok G M) (h7 : M.testBit 7 = true) (h12 : G 49 < 12) (T : zt_T σ1 n b) (hq : q ≤ n) (k : zt_ok b n q = true) (s2 : zt_s b n q = 2) (x4 : σ1.1 1 4 = nI 2) (x5 : σ1.1 1 5 = nI (zt_f b n q)) (x6 : σ1.1 1 6 = nI (zt_e b n q)) (X : zd_X σ1 G M) (hn : ¬ zt_v b n q ≤ 255 → ∀ σ2 : zz_T, zd_KX σ1 σ2 → σ2.1 1 2 = nI 3 → σ2.1 1 3 = nI (zt_f b n q) → Q 0 σ2) (hb : zt_v b n q ≤ 255 → zt_ok b n (zt_e b n q) = false → ∀ σ2 : zz_T, zd_KX σ1 σ2 → σ2.1 1 2 = nI 1 → σ2.1 1 3 = nI (zt_f b n (zt_e b n q)) → Q 0 σ2) (hy : zt_v b n q ≤ 255 → zt_ok b n (zt_e b n q) = true → ∀ σ2 : zz_T, zd_KX σ1 σ2 → σ2.1 1 2 = σ1.1 1 2 → σ2.1 1 4 = nI (zt_s b n (zt_e b n q)) → σ2.1 1 5 = nI (zt_f b n (zt_e b n q)) → σ2.1 1 6 = nI (zt_e b n (zt_e b n q)) → zd_X σ2 (zd_l G (zt_v b n q)) M → pX4_readLines_10 1 20 Q m σ2) : pX4_readLines_10 1 20 Q (m + 1) σ1 := by
  have n160 := T.2.1
  have he := zt_e_le (b := b) hq
  have h3 := hG.1.1.1
  have e5 : σ1.1 20 5 = nI (G 49) := X.1.1.2.1
  refine br_f (by rw [e5, show (12 : Int32) = nI 12 from rfl, nI_leI (by omega) (by omega)]; omega) (br_t x4 ?_)
  refine x_take (lo := 0) (hi := 255) T hq (by omega) (by omega) k s2 x5 x6 (fun rg σ2 y2 y3 a7 => br_f (by decide) ?_) (fun rg σ2 y2 y3 a2 a3 => br_t rfl ⟨zz_bo0, hn (fun z => rg ⟨Nat.zero_le _, z⟩) σ2 ⟨fun u h1 _ => y2 u h1, y3 1 (by omega) (by omega) (by omega)⟩ a2 a3⟩)
  have e5' : σ2.1 20 5 = nI (G 49) := by rw [y2 20 (by omega)]; exact e5
  rw [e5', a7, nI_tn (n := G 49) (by omega), zi_k (by omega), e5', nI_1]
  refine ⟨vp_in_nI (by omega) (by decide), ?_⟩
  have X2 : zd_X σ2 G M := X.kept h3 y2 (y3 8 (by omega))
  have okG := zd_l_ok (v := zt_v b n q) hG h7 h12 rg.2
  have X3 := zd_l_X (σ' := zz_i (zz_i σ2 (20 + 2) (G 49) (nI (zt_v b n q))) 20 5 (nI (G 49 + 1))) hG h12 X2 (fun u h1 h2 => by rw [zi_k h1, zi_k (by omega)]) ⟨by rw [zi_j (by omega), zi_k (by omega)], by rw [zi_j (by omega), zi_k (by omega)]⟩ (by rw [zi_at]) (by rw [zi_k (by omega)]; exact zi_at _ _ _ _) (fun i hi => by rw [zi_k (by omega)]; exact zi_j hi)
  have c1e : (zz_i (zz_i σ2 (20 + 2) (G 49) (nI (zt_v b n q))) 20 5 (nI (G 49 + 1))).1 1 = σ2.1 1 := by rw [zi_k (by omega), zi_k (by omega)]
  have kx : zd_KX σ1 (zz_i (zz_i σ2 (20 + 2) (G 49) (nI (zt_v b n q))) 20 5 (nI (G 49 + 1))) := ⟨fun u h1 h2 => by rw [zi_k (by omega), zi_k (by omega)]; exact y2 u h1, by rw [c1e]; exact y3 1 (by omega)⟩
  generalize zz_i (zz_i σ2 (20 + 2) (G 49) (nI (zt_v b n q))) 20 5 (nI (G 49 + 1)) = σ3 at X3 c1e kx ⊢
  refine x_step (T.kk kx) he.2 (by rw [c1e, y3 6 (by omega)]; exact x6) (fun k2 σ4 y4 a2 a4 a5 a6 => br_f (by decide) (hy rg.2 k2 σ4 (kx.tr y4.k) (by rw [a2, c1e, y3 2 (by omega)]) a4 a5 a6 (X3.kept okG.1.1.1 y4.1 (y4.2 8 (by omega))))) (fun k2 σ4 y4 a2 a3 => br_t rfl ⟨zz_bo0, hb rg.2 k2 σ4 (kx.tr y4.k) a2 a3⟩)
end ZD
