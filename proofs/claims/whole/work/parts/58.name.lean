/-! THE NAMES -/
def zt_nb : List (List Nat) := [[112, 108, 97, 105, 110], [115, 97, 118, 101, 114], [119, 97, 114, 121], [101, 97, 114, 108, 121], [109, 97, 114, 107], [99, 111, 111, 108], [115, 112, 114, 101, 97, 100], [108, 105, 110, 101, 115]]
def zt_nl (c : Nat) : Nat := zz_len.getD c 0
def zt_nc (c i : Nat) : Nat := (zt_nb.getD c []).getD i 0
theorem zt_ch : ∀ c, c < 8 → ∀ i, i < 6 → i < zt_nl c → (Int32.toUInt32 (((zz_byt.getD c []).getD i 0) &&& 255) % 65536).toInt32 = nI (zt_nc c i) ∧ zt_nc c i < 128 := by decide +kernel
theorem zt_nl_le : ∀ c, c < 8 → 4 ≤ zt_nl c ∧ zt_nl c ≤ 6 := by decide
/-- the token from f to e is the name c -/
def zt_is (b : Nat → Nat) (f e c : Nat) : Prop := e - f = zt_nl c ∧ ∀ i, i < zt_nl c → b (f + i) = zt_nc c i
theorem zt_is_one {b : Nat → Nat} {f e c d : Nat} (hc : c < 8) (hd : d < 8) (h1 : zt_is b f e c) (h2 : zt_is b f e d) : c = d := by
  have key : ∀ c, c < 8 → ∀ d, d < 8 → zt_nl c = zt_nl d → zt_nc c 0 = zt_nc d 0 → zt_nc c 1 = zt_nc d 1 → c = d := by decide
  have lc := zt_nl_le c hc
  have ld := zt_nl_le d hd
  refine key c hc d hd (h1.1.symm.trans h2.1) ?_ ?_
  · rw [← h1.2 0 (by omega), ← h2.2 0 (by omega)]
  · rw [← h1.2 1 (by omega), ← h2.2 1 (by omega)]
section ZN
variable {σ τ : zz_T}
theorem x_length {c : Nat} {Q : Int32 → zz_T → Prop} (hq : Q (nI (zt_nl c)) σ) (hc : c < 8) : pJ0_length_8abf5 c σ Q := by
  have e : ∀ c, c < 8 → (nI (zz_len.getD c 0)) >>> ((0 : Int32) &&& (31 : Int32)) = nI (zt_nl c) := by decide +kernel
  refine br_f (by decide) ⟨by decide, ?_⟩
  dsimp only
  rw [e c hc]
  exact hq
theorem x_charAt {c i : Nat} {Q : Int32 → zz_T → Prop} (hc : c < 8) (hi : i < zt_nl c) (hq : Q (nI (zt_nc c i)) σ) : pJ0_charAt_5068e c (nI i) σ Q := by
  have l := zt_nl_le c hc
  have ch := zt_ch c hc i (by omega) hi
  have nr : ∀ v, v < 128 → narrow .char (.int (nI v)) = .int (nI v) := by decide +kernel
  refine br_f (by decide) (br_t rfl ⟨zz_bo1, br_f (by decide) ?_⟩)
  have e : Int32.toNatClampNeg (nI i) = i := nI_tn (by omega)
  have n0 : ¬ nI i < 0 := by rw [fa_lt, nI_i (by omega)]; show ¬ (i : Int) < 0; omega
  have n1 : nI i < nI (zz_len.getD c 0) := (nI_ltI (by omega) (by show zt_nl c < _; omega)).mpr hi
  have fin : vp_in (nI i) (zz_len.getD c 0) ∧ (narrow .char (.int (Int32.toUInt32 (((zz_byt.getD c []).getD (Int32.toNatClampNeg (nI i)) 0) &&& 255) % 65536).toInt32) = .int (Int32.toUInt32 (((zz_byt.getD c []).getD (Int32.toNatClampNeg (nI i)) 0) &&& 255) % 65536).toInt32 ∧ (fun r12 s12 => (narrow .char (.int r12) = .int r12 ∧ Q r12 s12)) (Int32.toUInt32 (((zz_byt.getD c []).getD (Int32.toNatClampNeg (nI i)) 0) &&& 255) % 65536).toInt32 σ) := by
    rw [e, ch.1]
    exact ⟨vp_in_nI hi (by show zt_nl c < _; omega), nr _ ch.2, nr _ ch.2, hq⟩
  exact ⟨br_f n0 (br_t n1 fin), fun t2 => br_f n0 (br_t n1 fin)⟩
theorem x_isName {n f e c : Nat} {b : Nat → Nat} {Q : Int32 → zz_T → Prop} (T : zt_T σ n b) (hf : f ≤ e) (he : e ≤ n) (h5 : σ.1 1 5 = nI f) (h6 : σ.1 1 6 = nI e) (hc : c < 8) (hy : zt_is b f e c → Q 1 σ) (hn : ¬ zt_is b f e c → Q 0 σ) : pX4_isName 1 c σ Q := by
  have n160 := T.2.1
  have l := zt_nl_le c hc
  unfold pX4_isName
  refine x_length ?_ hc
  rw [h5, h6, pk_sub hf]
  by_cases h : e - f = zt_nl c
  · refine br_t (by rw [h]) ?_
    have loop : ∀ (j i : Nat), i + j = zt_nl c → (∀ i', i' < i → b (f + i') = zt_nc c i') → pX4_isName_20 1 c Q (j + 1) (nI i) σ := by
      intro j
      induction j with
      | zero =>
        intro i hi ok
        obtain rfl : i = zt_nl c := by omega
        refine x_length ?_ hc
        exact br_t (nI_le (Nat.le_refl _) (by omega)) ⟨zz_bo1, hy ⟨h, ok⟩⟩
      | succ j ih =>
        intro i hi ok
        refine x_length ?_ hc
        refine br_f (nI_ge (by omega) (by omega)) ?_
        have tb := T.2.2 (f + i) (by omega)
        have ch := zt_ch c hc i (by omega) (by omega)
        rw [h5, nI_add, nI_tn (n := f + i) (by omega)]
        refine ⟨vp_in_nI (by omega) (by decide), x_charAt hc (by omega) ?_⟩
        show ((σ.1 2 (f + i) = nI (zt_nc c i) → _) ∧ (¬ σ.1 2 (f + i) = nI (zt_nc c i) → _))
        rw [tb.2]
        by_cases q : b (f + i) = zt_nc c i
        · refine br_t (by rw [q]) ?_
          rw [nI_1]
          refine ih (i + 1) (by omega) (fun i' hi' => ?_)
          by_cases q2 : i' = i
          · rw [q2]; exact q
          · exact ok i' (by omega)
        · exact br_f (fun z => q ((nI_eq (by omega) (by omega)).mp z)) ⟨zz_bo0, hn (fun z => q (z.2 i (by omega)))⟩
    exact ⟨zt_nl c + 1, loop (zt_nl c) 0 (by omega) (fun i' hi' => by omega)⟩
  · exact br_f (fun z => h ((nI_eq (by omega) (by omega)).mp z).symm) ⟨zz_bo0, hn (fun z => h z.1)⟩
theorem x_nameOf {c : Nat} {Q : Nat → zz_T → Prop} (hc : c < 8) (hq : Q c σ) : pX4_nameOf (nI c) σ Q := by
  rcases (show c = 0 ∨ c = 1 ∨ c = 2 ∨ c = 3 ∨ c = 4 ∨ c = 5 ∨ c = 6 ∨ c = 7 by omega) with rfl | rfl | rfl | rfl | rfl | rfl | rfl | rfl
  · exact br_t rfl hq
  · exact br_f (by decide) (br_t rfl hq)
  · exact br_f (by decide) (br_f (by decide) (br_t rfl hq))
  · exact br_f (by decide) (br_f (by decide) (br_f (by decide) (br_t rfl hq)))
  · exact br_f (by decide) (br_f (by decide) (br_f (by decide) (br_f (by decide) (br_t rfl hq))))
  · exact br_f (by decide) (br_f (by decide) (br_f (by decide) (br_f (by decide) (br_f (by decide) (br_t rfl hq)))))
  · exact br_f (by decide) (br_f (by decide) (br_f (by decide) (br_f (by decide) (br_f (by decide) (br_f (by decide) (br_t rfl hq))))))
  · exact br_f (by decide) (br_f (by decide) (br_f (by decide) (br_f (by decide) (br_f (by decide) (br_f (by decide) (br_f (by decide) hq))))))
theorem x_nameIndex {n f e : Nat} {b : Nat → Nat} {Q : Int32 → zz_T → Prop} (T : zt_T σ n b) (hf : f ≤ e) (he : e ≤ n) (h5 : σ.1 1 5 = nI f) (h6 : σ.1 1 6 = nI e) (hy : ∀ c, c < 8 → zt_is b f e c → Q (nI c) σ) (hn : (∀ c, c < 8 → ¬ zt_is b f e c) → Q (-4) σ) : pX4_nameIndex 1 σ Q := by
  have loop : ∀ (j c : Nat), c + j = 8 → (∀ c', c' < c → ¬ zt_is b f e c') → pX4_nameIndex_2 1 Q (j + 1) (nI c) σ := by
    intro j
    induction j with
    | zero =>
      intro c hc ok
      obtain rfl : c = 8 := by omega
      exact br_t (by decide) (hn ok)
    | succ j ih =>
      intro c hc ok
      refine br_f (by rw [show (8 : Int32) = nI 8 from rfl, nI_leI (by omega) (by omega)]; omega) (x_nameOf (by omega) (x_isName T hf he h5 h6 (by omega) (fun h => ?_) (fun h => ?_)))
      · exact br_f (by decide) (hy c (by omega) h)
      · refine br_t rfl ?_
        rw [nI_1]
        refine ih (c + 1) (by omega) (fun c' hc' => ?_)
        by_cases q : c' = c
        · rw [q]; exact h
        · exact ok c' (by omega)
  exact ⟨9, loop 8 0 (by omega) (fun c' hc' => by omega)⟩
/-- the reference: four letters, then the rest -/
theorem m_is {n f e l a0 a1 a2 a3 : Nat} {b : Nat → Nat} {Q : Int32 → zz_T → Prop} (T : zt_U τ n b) (hf : f ≤ e) (he : e ≤ n) (h8 : τ.1 0 8 = nI f) (h7 : τ.1 0 7 = nI e) (hl : 4 ≤ l) (hl2 : l ≤ 6) (hb : a0 < 128 ∧ a1 < 128 ∧ a2 < 128 ∧ a3 < 128) (hy : (e - f = l ∧ b f = a0 ∧ b (f + 1) = a1 ∧ b (f + 2) = a2 ∧ b (f + 3) = a3) → Q 1 τ) (hn : ¬ (e - f = l ∧ b f = a0 ∧ b (f + 1) = a1 ∧ b (f + 2) = a2 ∧ b (f + 3) = a3) → Q 0 τ) : pX6_is (nI l) (nI a0) (nI a1) (nI a2) (nI a3) τ Q := by
  have n160 := T.2.1
  unfold pX6_is
  rw [h8, h7, pk_sub hf]
  by_cases h : e - f = l
  · have t0 := T.2.2 f (by omega)
    have t1 := T.2.2 (f + 1) (by omega)
    have t2 := T.2.2 (f + 2) (by omega)
    have t3 := T.2.2 (f + 3) (by omega)
    refine br_t (by rw [h]) (m_byteAt T (by omega) (fun z => by omega) (fun _ => ?_))
    by_cases q0 : b f = a0
    · refine br_t (by rw [q0]) ?_
      rw [h8, nI_1]
      refine m_byteAt T (by omega) (fun z => by omega) (fun _ => ?_)
      by_cases q1 : b (f + 1) = a1
      · refine br_t (by rw [q1]) ?_
        rw [h8, show (2 : Int32) = nI 2 from rfl, nI_add]
        refine m_byteAt T (by omega) (fun z => by omega) (fun _ => ?_)
        by_cases q2 : b (f + 2) = a2
        · refine br_t (by rw [q2]) ?_
          rw [h8, show (3 : Int32) = nI 3 from rfl, nI_add]
          refine m_byteAt T (by omega) (fun z => by omega) (fun _ => ?_)
          by_cases q3 : b (f + 3) = a3
          · exact br_t (by rw [q3]) ⟨zz_bo1, hy ⟨h, q0, q1, q2, q3⟩⟩
          · exact br_f (fun z => q3 ((nI_eq (by omega) (by omega)).mp z)) ⟨zz_bo0, hn (fun z => q3 z.2.2.2.2)⟩
        · exact br_f (fun z => q2 ((nI_eq (by omega) (by omega)).mp z)) ⟨zz_bo0, hn (fun z => q2 z.2.2.2.1)⟩
      · exact br_f (fun z => q1 ((nI_eq (by omega) (by omega)).mp z)) ⟨zz_bo0, hn (fun z => q1 z.2.2.1)⟩
    · exact br_f (fun z => q0 ((nI_eq (by omega) (by omega)).mp z)) ⟨zz_bo0, hn (fun z => q0 z.2.1)⟩
  · exact br_f (fun z => h ((nI_eq (by omega) (by omega)).mp z)) ⟨zz_bo0, hn (fun z => h z.1)⟩
theorem m_ends {n f a4 a5 : Nat} {b : Nat → Nat} {Q : Int32 → zz_T → Prop} (T : zt_U τ n b) (h8 : τ.1 0 8 = nI f) (hb : a4 < 128 ∧ a5 < 128) (h4 : f + 4 < n) (h5 : a5 ≠ 0 → f + 5 < n) (hy : (b (f + 4) = a4 ∧ (a5 ≠ 0 → b (f + 5) = a5)) → Q 1 τ) (hn : ¬ (b (f + 4) = a4 ∧ (a5 ≠ 0 → b (f + 5) = a5)) → Q 0 τ) : pX6_endsIn (nI a4) (nI a5) τ Q := by
  have n160 := T.2.1
  unfold pX6_endsIn pX6_endsIn_32
  have t4 := T.2.2 (f + 4) h4
  rw [h8, show (4 : Int32) = nI 4 from rfl, nI_add]
  refine m_byteAt T (by omega) (fun z => by omega) (fun _ => ?_)
  by_cases q : b (f + 4) = a4
  · refine br_t (by rw [q]) ?_
    by_cases z : a5 = 0
    · exact br_t (by rw [z]; rfl) ⟨zz_bo1, hy ⟨q, fun y => absurd z y⟩⟩
    · refine br_f (fun y => z ((nI_z (by omega)).mp y)) ?_
      have t5 := T.2.2 (f + 5) (h5 z)
      rw [h8, show (5 : Int32) = nI 5 from rfl, nI_add]
      refine m_byteAt T (by omega) (fun y => by have := h5 z; omega) (fun _ => ?_)
      by_cases q2 : b (f + 5) = a5
      · exact br_t (by rw [q2]) ⟨zz_bo1, hy ⟨q, fun _ => q2⟩⟩
      · exact br_f (fun y => q2 ((nI_eq (by omega) (by omega)).mp y)) ⟨zz_bo0, hn (fun y => q2 (y.2 z))⟩
  · exact br_f (fun y => q ((nI_eq (by omega) (by omega)).mp y)) ⟨zz_bo0, hn (fun y => q y.1)⟩
end ZN
