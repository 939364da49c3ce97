/-! A DRAFT -/
def zd_ok (G : Nat → Nat) (M : Nat) : Prop := gAll G ∧ G 50 = 0 ∧ G 51 = 0 ∧ (∀ j, 11 * G 33 ≤ j → j < 33 → G j = 0) ∧ M < 256 ∧ (M.testBit 7 = false → G 49 = 0)
def zd_X (σ : zz_T) (G : Nat → Nat) (M : Nat) : Prop := xP σ 20 G ∧ σ.1 1 8 = nI M
def zd_M (τ : zz_T) (G : Nat → Nat) (M : Nat) : Prop := (∀ j, j < 70 → τ.1 4 j = nI (G j)) ∧ ∀ r, r < 4 → τ.1 5 r = if M.testBit (4 + r) then 1 else 0
/-- what the two may write meanwhile -/
def zd_KX (σ σ' : zz_T) : Prop := (∀ q, q ≠ 1 → ¬ (20 ≤ q ∧ q ≤ 36) → σ'.1 q = σ.1 q) ∧ σ'.1 1 1 = σ.1 1 1
def zd_KM (τ τ' : zz_T) : Prop := (∀ q, q ≠ 0 → q ≠ 4 → q ≠ 5 → τ'.1 q = τ.1 q) ∧ ∀ j, j = 6 ∨ 13 ≤ j → τ'.1 0 j = τ.1 0 j
section ZD
variable {σ σ' τ τ' : zz_T} {n p : Nat} {b : Nat → Nat} {G : Nat → Nat} {M : Nat}
theorem zd_KX.rf (σ : zz_T) : zd_KX σ σ := ⟨fun _ _ _ => rfl, rfl⟩
theorem zd_KX.tr {a b c : zz_T} (h : zd_KX a b) (h2 : zd_KX b c) : zd_KX a c := ⟨fun q h1 h3 => by rw [h2.1 q h1 h3, h.1 q h1 h3], by rw [h2.2, h.2]⟩
theorem zt_X.k {a b : zz_T} (h : zt_X a b) : zd_KX a b := ⟨fun q h1 _ => h.1 q h1, h.2 1 (by omega)⟩
theorem zd_KM.rf (τ : zz_T) : zd_KM τ τ := ⟨fun _ _ _ _ => rfl, fun _ _ => rfl⟩
theorem zd_KM.tr {a b c : zz_T} (h : zd_KM a b) (h2 : zd_KM b c) : zd_KM a c := ⟨fun q h1 h3 h4 => by rw [h2.1 q h1 h3 h4, h.1 q h1 h3 h4], fun j hj => by rw [h2.2 j hj, h.2 j hj]⟩
theorem zt_M.k {a b : zz_T} (h : zt_M a b) : zd_KM a b := ⟨fun q h1 _ _ => h.1 q h1, h.2⟩
theorem zd_KM.i {a b : zz_T} {q j : Nat} {v : Int32} (h : zd_KM a b) (hq : q = 4 ∨ q = 5) : zd_KM a (zz_i b q j v) := ⟨fun u h1 h3 h4 => by rw [zi_k (by omega)]; exact h.1 u h1 h3 h4, fun i hi => by rw [zi_k (by omega)]; exact h.2 i hi⟩
theorem zt_T.kk (h : zt_T σ n b) (x : zd_KX σ σ') : zt_T σ' n b := ⟨by rw [x.2]; exact h.1, h.2.1, fun i hi => by rw [x.1 2 (by omega) (by omega)]; exact h.2.2 i hi⟩
theorem zt_U.kk (h : zt_U τ n b) (x : zd_KM τ τ') : zt_U τ' n b := ⟨by rw [x.2 6 (by omega)]; exact h.1, h.2.1, fun i hi => by rw [x.1 6 (by omega) (by omega) (by omega)]; exact h.2.2 i hi⟩
theorem zd_X.kept (hG : G 33 ≤ 3) (h : zd_X σ G M) (h1 : ∀ q, q ≠ 1 → σ'.1 q = σ.1 q) (h8 : σ'.1 1 8 = σ.1 1 8) : zd_X σ' G M := ⟨h.1.kept hG (fun q x y => h1 q (by omega)), by rw [h8]; exact h.2⟩
theorem zd_M.kept (h : zd_M τ G M) (h4 : τ'.1 4 = τ.1 4) (h5 : τ'.1 5 = τ.1 5) : zd_M τ' G M := by
  unfold zd_M
  rw [h4, h5]
  exact h
/-- once there is a fault -/
theorem m_req_f {c : Nat} {x y : Int32} {Q : zz_T → Prop} (h11 : τ.1 0 11 = nI c) (h0 : 0 < c) (hc : c ≤ 5) (hq : Q τ) : pX6_requires x y τ Q := by
  have ne : ¬ τ.1 0 11 = 0 := by rw [h11]; exact fun z => by have := (nI_z (by omega)).mp z; omega
  exact ⟨fun _ => br_f ne hq, fun _ => hq⟩
theorem m_95_f {c : Nat} {x : Int32} {Q : zz_T → Prop} (h11 : τ.1 0 11 = nI c) (h0 : 0 < c) (hc : c ≤ 5) (hq : Q τ) : pX6_readLine_95 Q x τ := by
  unfold pX6_readLine_95
  refine m_reads_f h11 h0 hc ?_
  exact br_f (by rw [h11, fa_le, nI_i (by omega)]; show ¬ _ ≤ (0 : Int); omega) hq
/-- the stop behind a line: the reference -/
theorem m_stop {p2 : Nat} {Q : zz_T → Prop} (T : zt_U τ n b) (hp2 : p2 ≤ n) (h : zt_R τ n b p2 ∨ (zt_ok b n p2 = false ∧ zt_F τ 1 (zt_f b n p2))) (h1 : zt_ok b n p2 = false → zt_F τ 1 (zt_f b n p2) → Q τ) (h2 : zt_ok b n p2 = true → zt_s b n p2 ≠ 3 → ∀ τ' : zz_T, zt_M τ τ' → zt_F τ' 2 (zt_f b n p2) → Q τ') (hy : zt_ok b n p2 = true → zt_s b n p2 = 3 → ∀ τ' : zz_T, zt_M τ τ' → (zt_R τ' n b (zt_e b n p2) ∨ (zt_ok b n (zt_e b n p2) = false ∧ zt_F τ' 1 (zt_f b n (zt_e b n p2)))) → Q τ') : ((τ.1 0 11 = 0 → ((τ.1 0 9 = 3 → pX6_readLine_133 Q 1 τ) ∧ (¬ τ.1 0 9 = 3 → pX6_readLine_133 Q 0 τ))) ∧ (¬ τ.1 0 11 = 0 → pX6_readLine_137 Q τ)) := by
  unfold pX6_readLine_133 pX6_readLine_137
  rcases h with ⟨k, r11, r9, r8, r7, r10⟩ | ⟨k, F⟩
  · have he := zt_e_le (b := b) hp2
    have sl : zt_s b n p2 ≤ 4 := by
      unfold zt_s
      split
      · omega
      · exact (zt_sort_le _).2
    refine br_t r11 ?_
    by_cases e : zt_s b n p2 = 3
    · exact br_t (by rw [r9, e]; rfl) (m_req (ok := true) (e := 2) r11 r8 (fun _ => m_reads2 T he.2 r11 r7 (fun τ' x d => hy k e τ' x d)) (fun q => by cases q))
    · exact br_f (by rw [r9]; exact fun z => e ((nI_eq (b := 3) (by omega) (by omega)).mp z)) (m_req (ok := false) (e := 2) r11 r8 (fun q => by cases q) (fun _ τ1 x1 f1 f2 => m_reads_f f1 (by omega) (by omega) (h2 k e τ1 x1 ⟨f1, f2⟩)))
  · exact br_f (by rw [F.1]; decide) (m_reads_f F.1 (by omega) (by omega) (h1 k F))
/-- behind a name that may come: the next token is read -/
theorem m_95 {p1 : Nat} {x : Int32} {Q : zz_T → Prop} (T : zt_U τ n b) (hp1 : p1 ≤ n) (h11 : τ.1 0 11 = 0) (h7 : τ.1 0 7 = nI p1) (h1 : zt_ok b n p1 = false → ∀ τ' : zz_T, zt_M τ τ' → zt_F τ' 1 (zt_f b n p1) → Q τ') (hy : zt_ok b n p1 = true → ∀ τ' : zz_T, zt_M τ τ' → zt_R τ' n b p1 → pX6_readLineOf x τ' (fun s109 => ((s109.1 0 11 = 0 → ((s109.1 0 9 = 3 → pX6_readLine_133 Q 1 s109) ∧ (¬ s109.1 0 9 = 3 → pX6_readLine_133 Q 0 s109))) ∧ (¬ s109.1 0 11 = 0 → pX6_readLine_137 Q s109)))) : pX6_readLine_95 Q x τ := by
  unfold pX6_readLine_95
  refine m_reads2 T hp1 h11 h7 (fun τ' x' d => ?_)
  rcases d with R | ⟨k, F⟩
  · exact br_t (by rw [R.2.1]; decide) (hy R.1 τ' x' R)
  · exact br_f (by rw [F.1]; decide) (h1 k τ' x' F)
end ZD
