section ZN
variable {τ : zz_T} {n f e : Nat} {b : Nat → Nat}
theorem zt_nc_lt : ∀ c, c < 8 → ∀ i, i < 6 → zt_nc c i < 128 := by decide +kernel
theorem zt_is_iff {c : Nat} (hc : c < 8) : zt_is b f e c ↔ ((e - f = zt_nl c ∧ b f = zt_nc c 0 ∧ b (f + 1) = zt_nc c 1 ∧ b (f + 2) = zt_nc c 2 ∧ b (f + 3) = zt_nc c 3) ∧ (5 ≤ zt_nl c → b (f + 4) = zt_nc c 4) ∧ (6 ≤ zt_nl c → b (f + 5) = zt_nc c 5)) := by
  have l := zt_nl_le c hc
  constructor
  · intro h
    exact ⟨⟨h.1, h.2 0 (by omega), h.2 1 (by omega), h.2 2 (by omega), h.2 3 (by omega)⟩, fun q => h.2 4 (by omega), fun q => h.2 5 (by omega)⟩
  · rintro ⟨⟨h, h0, h1, h2, h3⟩, h4, h5⟩
    refine ⟨h, fun i hi => ?_⟩
    rcases (show i = 0 ∨ i = 1 ∨ i = 2 ∨ i = 3 ∨ i = 4 ∨ i = 5 by omega) with rfl | rfl | rfl | rfl | rfl | rfl
    · exact h0
    · exact h1
    · exact h2
    · exact h3
    · exact h4 (by omega)
    · exact h5 (by omega)
theorem m_t4 {c : Nat} {Q : Int32 → zz_T → Prop} (T : zt_U τ n b) (hf : f ≤ e) (he : e ≤ n) (h8 : τ.1 0 8 = nI f) (h7 : τ.1 0 7 = nI e) (hc : c < 8) (hl : zt_nl c = 4) (hy : zt_is b f e c → Q 1 τ) (hn : ¬ zt_is b f e c → Q 0 τ) : pX6_is (nI 4) (nI (zt_nc c 0)) (nI (zt_nc c 1)) (nI (zt_nc c 2)) (nI (zt_nc c 3)) τ Q := by
  refine m_is T hf he h8 h7 (by omega) (by omega) ⟨zt_nc_lt c hc 0 (by omega), zt_nc_lt c hc 1 (by omega), zt_nc_lt c hc 2 (by omega), zt_nc_lt c hc 3 (by omega)⟩ (fun h => hy ((zt_is_iff hc).mpr ⟨by rw [hl]; exact h, fun q => by omega, fun q => by omega⟩)) (fun h => hn (fun z => h ?_))
  have := ((zt_is_iff hc).mp z).1
  rw [hl] at this
  exact this
theorem m_t5 {c : Nat} {K : zz_T → Prop} {Q : Int32 → zz_T → Prop} {v : Int32} (T : zt_U τ n b) (hf : f ≤ e) (he : e ≤ n) (h8 : τ.1 0 8 = nI f) (h7 : τ.1 0 7 = nI e) (hc : c < 8) (hl : zt_nl c = 5) (hy : zt_is b f e c → Q v τ) (hn : ¬ zt_is b f e c → K τ) : pX6_is (nI 5) (nI (zt_nc c 0)) (nI (zt_nc c 1)) (nI (zt_nc c 2)) (nI (zt_nc c 3)) τ (fun r s => ((r = 0 → K s) ∧ (¬ r = 0 → pX6_endsIn (nI (zt_nc c 4)) (nI 0) s (fun r' s' => ((r' = 0 → K s') ∧ (¬ r' = 0 → Q v s')))))) := by
  refine m_is T hf he h8 h7 (by omega) (by omega) ⟨zt_nc_lt c hc 0 (by omega), zt_nc_lt c hc 1 (by omega), zt_nc_lt c hc 2 (by omega), zt_nc_lt c hc 3 (by omega)⟩ (fun h => br_f (by decide) (m_ends T h8 ⟨zt_nc_lt c hc 4 (by omega), by omega⟩ (by omega) (fun q => absurd rfl q) (fun h2 => br_f (by decide) (hy ((zt_is_iff hc).mpr ⟨by rw [hl]; exact h, fun _ => h2.1, fun q => by omega⟩))) (fun h2 => br_t rfl (hn (fun z => h2 ⟨((zt_is_iff hc).mp z).2.1 (by omega), fun q => absurd rfl q⟩))))) (fun h => br_t rfl (hn (fun z => h ?_)))
  have := ((zt_is_iff hc).mp z).1
  rw [hl] at this
  exact this
theorem m_t6 {c : Nat} {K : zz_T → Prop} {Q : Int32 → zz_T → Prop} {v : Int32} (T : zt_U τ n b) (hf : f ≤ e) (he : e ≤ n) (h8 : τ.1 0 8 = nI f) (h7 : τ.1 0 7 = nI e) (hc : c < 8) (hl : zt_nl c = 6) (h5 : zt_nc c 5 ≠ 0) (hy : zt_is b f e c → Q v τ) (hn : ¬ zt_is b f e c → K τ) : pX6_is (nI 6) (nI (zt_nc c 0)) (nI (zt_nc c 1)) (nI (zt_nc c 2)) (nI (zt_nc c 3)) τ (fun r s => ((r = 0 → K s) ∧ (¬ r = 0 → pX6_endsIn (nI (zt_nc c 4)) (nI (zt_nc c 5)) s (fun r' s' => ((r' = 0 → K s') ∧ (¬ r' = 0 → Q v s')))))) := by
  refine m_is T hf he h8 h7 (by omega) (by omega) ⟨zt_nc_lt c hc 0 (by omega), zt_nc_lt c hc 1 (by omega), zt_nc_lt c hc 2 (by omega), zt_nc_lt c hc 3 (by omega)⟩ (fun h => br_f (by decide) (m_ends T h8 ⟨zt_nc_lt c hc 4 (by omega), zt_nc_lt c hc 5 (by omega)⟩ (by omega) (fun q => by omega) (fun h2 => br_f (by decide) (hy ((zt_is_iff hc).mpr ⟨by rw [hl]; exact h, fun _ => h2.1, fun _ => h2.2 h5⟩))) (fun h2 => br_t rfl (hn (fun z => h2 ⟨((zt_is_iff hc).mp z).2.1 (by omega), fun q => ((zt_is_iff hc).mp z).2.2 (by omega)⟩))))) (fun h => br_t rfl (hn (fun z => h ?_)))
  have := ((zt_is_iff hc).mp z).1
  rw [hl] at this
  exact this
theorem m_lineNow {Q : Int32 → zz_T → Prop} (T : zt_U τ n b) (hf : f ≤ e) (he : e ≤ n) (h8 : τ.1 0 8 = nI f) (h7 : τ.1 0 7 = nI e) (hy : ∀ c, c < 8 → zt_is b f e c → Q (nI c) τ) (hn : (∀ c, c < 8 → ¬ zt_is b f e c) → Q (-4) τ) : pX6_lineNow τ Q := by
  refine m_t5 (c := 0) (v := 0) T hf he h8 h7 (by omega) rfl (hy 0 (by omega)) (fun n0 => ?_)
  refine m_t5 (c := 1) (v := 1) T hf he h8 h7 (by omega) rfl (hy 1 (by omega)) (fun n1 => ?_)
  refine m_t4 (c := 2) T hf he h8 h7 (by omega) rfl (fun z => br_f (by decide) (hy 2 (by omega) z)) (fun n2 => br_t rfl ?_)
  refine m_t5 (c := 3) (v := 3) T hf he h8 h7 (by omega) rfl (hy 3 (by omega)) (fun n3 => ?_)
  refine m_t4 (c := 4) T hf he h8 h7 (by omega) rfl (fun z => br_f (by decide) (hy 4 (by omega) z)) (fun n4 => br_t rfl ?_)
  refine m_t4 (c := 5) T hf he h8 h7 (by omega) rfl (fun z => br_f (by decide) (hy 5 (by omega) z)) (fun n5 => br_t rfl ?_)
  refine m_t6 (c := 6) (v := 6) T hf he h8 h7 (by omega) rfl (by decide) (hy 6 (by omega)) (fun n6 => ?_)
  refine m_t5 (c := 7) (v := 7) (K := fun s => Q (-4) s) T hf he h8 h7 (by omega) rfl (hy 7 (by omega)) (fun n7 => hn (fun c hc => ?_))
  rcases (show c = 0 ∨ c = 1 ∨ c = 2 ∨ c = 3 ∨ c = 4 ∨ c = 5 ∨ c = 6 ∨ c = 7 by omega) with rfl | rfl | rfl | rfl | rfl | rfl | rfl | rfl
  · exact n0
  · exact n1
  · exact n2
  · exact n3
  · exact n4
  · exact n5
  · exact n6
  · exact n7
end ZN
