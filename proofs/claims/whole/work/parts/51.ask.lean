theorem zk_fr {a b : Int32} {τ : zz_T} {Q : zz_T → Prop} (h : pX6_judges a b τ (fun τ' => zz_but (fun q => q = 0) τ τ' → Q τ')) : pX6_judges a b τ Q := ⟨fun q => (h.1 q) (zz_but.rf _ _), fun q => (h.2 q) (((zz_but.rf (fun q => q = 0) τ).i rfl).i rfl)⟩
theorem zk_fs {a : Int32} {τ : zz_T} {Q : zz_T → Prop} (h : pX6_startsJudging a τ (fun τ' => zz_but (fun q => q = 0) τ τ' → Q τ')) : pX6_startsJudging a τ Q := h (((zz_but.rf (fun q => q = 0) τ).i rfl).i rfl)
/-- how many fit below v -/
def zk_c (f : Nat → Bool) (v : Nat) : Nat := fb_sm (fun v => if f v then 1 else 0) v
theorem zk_c_le (f : Nat → Bool) (v : Nat) : zk_c f v ≤ v := by
  have := fb_sm_bound (f := fun v => if f v then 1 else 0) (c := 1) (n := v) (fun k _ => by split <;> omega)
  unfold zk_c; omega
/-- which is the t-th -/
def zk_b (f : Nat → Bool) : Nat → Nat → Nat
  | 0 => fun _ => 0
  | v + 1 => if f v then (fun t => if t = zk_c f v then v else zk_b f v t) else zk_b f v
theorem zk_c_s (f : Nat → Bool) (v : Nat) : zk_c f (v + 1) = zk_c f v + (if f v then 1 else 0) := rfl
theorem zk_b_sum (f : Nat → Bool) (P : Nat → Nat) : ∀ v, fb_sm (fun t => P (zk_b f v t)) (zk_c f v) = fb_sm (fun v' => if f v' then P v' else 0) v
  | 0 => rfl
  | v + 1 => by
    have ih := zk_b_sum f P v
    rw [zk_c_s]
    show fb_sm (fun t => P ((if f v then (fun t => if t = zk_c f v then v else zk_b f v t) else zk_b f v) t)) _ = fb_sm (fun v' => if f v' then P v' else 0) v + (if f v then P v else 0)
    rw [← ih]
    cases f v
    · rfl
    · simp only [if_true]
      rw [fb_sm_succ, if_pos rfl]
      congr 1
      exact fb_sm_cong (fun t ht => by rw [if_neg (by omega)])
theorem zk_b_max (f : Nat → Bool) (P : Nat → Nat) : ∀ v, fmx (fun t => P (zk_b f v t)) (zk_c f v) = fmx (fun v' => if f v' then P v' else 0) v
  | 0 => rfl
  | v + 1 => by
    have ih := zk_b_max f P v
    rw [zk_c_s]
    show fmx (fun t => P ((if f v then (fun t => if t = zk_c f v then v else zk_b f v t) else zk_b f v) t)) _ = max (fmx (fun v' => if f v' then P v' else 0) v) (if f v then P v else 0)
    rw [← ih]
    cases f v
    · simp only [Bool.false_eq_true, if_false, Nat.add_zero, Nat.max_zero]
    · simp only [if_true]
      show max (fmx _ (zk_c f v)) (P (if zk_c f v = zk_c f v then v else zk_b f v (zk_c f v))) = _
      rw [if_pos rfl]
      congr 1
      exact fmx_cong (fun t ht => by rw [if_neg (by omega)])
/-- how many below v fit and look x -/
def zk_n (f : Nat → Bool) (l : Nat → Nat) (x v : Nat) : Nat := fb_sm (fun v' => if f v' then (if l v' = x then 1 else 0) else 0) v
theorem zk_n_le (f : Nat → Bool) (l : Nat → Nat) (x v : Nat) : zk_n f l x v ≤ v := by
  have := fb_sm_bound (f := fun v' => if f v' then (if l v' = x then 1 else 0) else 0) (c := 1) (n := v) (fun k _ => by split <;> (try split) <;> omega)
  unfold zk_n; omega
theorem zk_n_s (f : Nat → Bool) (l : Nat → Nat) (x v : Nat) : zk_n f l x (v + 1) = zk_n f l x v + (if f v then (if l v = x then 1 else 0) else 0) := rfl
def zk_w (f : Nat → Bool) (l : Nat → Nat) : Nat → Nat
  | 0 => 0
  | v + 1 => if f v then max (zk_w f l v) (zk_n f l (l v) (v + 1)) else zk_w f l v
theorem zk_ge {F : Nat → Nat} : ∀ {n i : Nat}, i < n → F i ≤ fmx F n
  | 0, i, h => by omega
  | n + 1, i, h => by
    show F i ≤ max (fmx F n) (F n)
    by_cases e : i = n
    · rw [e]; exact Nat.le_max_right _ _
    · exact Nat.le_trans (zk_ge (n := n) (by omega)) (Nat.le_max_left _ _)
theorem zk_w_eq (f : Nat → Bool) (l : Nat → Nat) : ∀ v, zk_w f l v = fmx (fun v' => if f v' then zk_n f l (l v') v else 0) v
  | 0 => rfl
  | v + 1 => by
    have ih := zk_w_eq f l v
    show (if f v then max (zk_w f l v) (zk_n f l (l v) (v + 1)) else zk_w f l v) = max (fmx (fun v' => if f v' then zk_n f l (l v') (v + 1) else 0) v) (if f v then zk_n f l (l v) (v + 1) else 0)
    cases hv : f v with
    | false =>
      simp only [Bool.false_eq_true, if_false, Nat.max_zero]
      rw [ih]
      exact fmx_cong (fun v' _ => by rw [zk_n_s, hv]; simp only [Bool.false_eq_true, if_false, Nat.add_zero])
    | true =>
      simp only [if_true]
      apply Nat.le_antisymm
      · refine Nat.max_le.mpr ⟨?_, Nat.le_max_right _ _⟩
        rw [ih]
        refine Nat.le_trans (fmx_le (fun v' h' => ?_)) (Nat.le_max_left _ _)
        refine Nat.le_trans ?_ (zk_ge (F := fun v' => if f v' then zk_n f l (l v') (v + 1) else 0) h')
        show (if f v' then zk_n f l (l v') v else 0) ≤ (if f v' then zk_n f l (l v') (v + 1) else 0)
        split
        · rw [zk_n_s]; omega
        · omega
      · refine Nat.max_le.mpr ⟨fmx_le (fun v' h' => ?_), Nat.le_max_right _ _⟩
        by_cases e : l v' = l v
        · rw [e]
          refine Nat.le_trans ?_ (Nat.le_max_right _ _)
          split <;> omega
        · refine Nat.le_trans ?_ (Nat.le_max_left _ _)
          rw [ih]
          refine Nat.le_trans ?_ (zk_ge (F := fun v' => if f v' then zk_n f l (l v') v else 0) h')
          show (if f v' then zk_n f l (l v') (v + 1) else 0) ≤ (if f v' then zk_n f l (l v') v else 0)
          have z : zk_n f l (l v') (v + 1) = zk_n f l (l v') v := by
            rw [zk_n_s, hv, if_pos rfl, if_neg (fun q : l v = l v' => e q.symm), Nat.add_zero]
          rw [z]
          exact Nat.le_refl _
theorem zk_w_le (f : Nat → Bool) (l : Nat → Nat) (v : Nat) : zk_w f l v ≤ v := by
  rw [zk_w_eq]
  exact fmx_le (fun v' _ => by have := zk_n_le f l (l v') v; split <;> omega)
/-- what the reference counts is the same -/
theorem zk_ref (f : Nat → Bool) (l : Nat → Nat) (v : Nat) : fmx (fun t => fb_sm (fun t' => if l (zk_b f v t) = l (zk_b f v t') then 1 else 0) (zk_c f v)) (zk_c f v) = zk_w f l v := by
  have a := zk_b_max f (fun v1 => zk_n f l (l v1) v) v
  rw [zk_w_eq, ← a]
  refine fmx_cong (fun t _ => ?_)
  have b := zk_b_sum f (fun v2 => if l v2 = l (zk_b f v t) then 1 else 0) v
  unfold zk_n
  rw [← b]
  refine fb_sm_cong (fun t' _ => ?_)
  by_cases e : l (zk_b f v t) = l (zk_b f v t')
  · rw [if_pos e, if_pos e.symm]
  · rw [if_neg e, if_neg (fun q => e q.symm)]
theorem zk_pos {f : Nat → Bool} {l : Nat → Nat} {v : Nat} (h : zk_w f l v = 0) : zk_c f v = 0 := by
  have none : ∀ v', v' < v → f v' = false := fun v' hv' => by
    cases hf : f v' with
    | false => rfl
    | true =>
      have g := zk_ge (F := fun v' => if f v' then zk_n f l (l v') v else 0) hv'
      rw [← zk_w_eq, h] at g
      have g : (if f v' then zk_n f l (l v') v else 0) ≤ 0 := g
      rw [hf, if_pos rfl] at g
      have p := fb_sm_part (fun v2 => if f v2 then (if l v2 = l v' then 1 else 0) else 0) hv'
      have p : fb_sm _ v' + (if f v' then (if l v' = l v' then 1 else 0) else 0) ≤ zk_n f l (l v') v := p
      rw [hf, if_pos rfl, if_pos rfl] at p
      omega
  unfold zk_c
  have : fb_sm (fun v => if f v then 1 else 0) v = fb_sm (fun _ => 0) v := fb_sm_cong (fun k hk => by rw [none k hk]; rfl)
  rw [this, fb_sm_const, Nat.mul_zero]
theorem zk_bit (f : Nat → Bool) : ∀ n i, (zq_m f n).testBit i = (decide (i < n) && f i)
  | 0, i => by simp [zq_m]
  | n + 1, i => by
    have lt := zq_m_lt f n
    have ih := zk_bit f n i
    show (zq_m f n + (if f n then 2 ^ n else 0)).testBit i = _
    cases hf : f n with
    | false =>
      simp only [Bool.false_eq_true, if_false, Nat.add_zero]
      rw [ih]
      by_cases e : i = n
      · rw [e, hf]; simp
      · rw [show decide (i < n + 1) = decide (i < n) by simp only [decide_eq_decide]; omega]
    | true =>
      simp only [if_true]
      rw [← zq_or1 lt, fb_bit_set, ih]
      by_cases e : i = n
      · subst e; simp [hf]
      · rw [show decide (i < n + 1) = decide (i < n) by simp only [decide_eq_decide]; omega, decide_eq_false e, Bool.or_false]
theorem zk_count (f : Nat → Bool) : zo_p (zq_m f 31) 32 = zk_c f 31 := by
  unfold zo_p zk_c
  rw [show (32 : Nat) = 31 + 1 from rfl, fb_sm_succ, zk_bit]
  simp only [Nat.lt_irrefl, decide_false, Bool.false_and, Bool.false_eq_true, if_false, Nat.add_zero]
  exact fb_sm_cong (fun k hk => by rw [zk_bit, decide_eq_true hk, Bool.true_and])
theorem zk_shr {a v : Nat} (ha : a < 2 ^ 31) (hv : v ≤ 30) : (nI a >>> (nI v &&& (31 : Int32))) &&& 1 = nI (if a.testBit v then 1 else 0) := by
  have e : nI a >>> (nI v &&& (31 : Int32)) = nI (a / 2 ^ v) := by
    have am : ∀ v, v ≤ 30 → ((nI v &&& (31 : Int32)).toBitVec.smod 32).toNat = v := by decide +kernel
    apply Int32.toBitVec_inj.1
    rw [Int32.toBitVec_shiftRight, BitVec.sshiftRight_eq', am v hv]
    have m : (nI a).toBitVec.msb = false := by
      show (BitVec.ofNat 32 a).msb = false
      rw [BitVec.msb_eq_decide, BitVec.toNat_ofNat, Nat.mod_eq_of_lt (by omega)]
      simp only [decide_eq_false_iff_not]
      omega
    rw [BitVec.sshiftRight_eq_of_msb_false m]
    apply BitVec.eq_of_toNat_eq
    rw [BitVec.toNat_ushiftRight, Nat.shiftRight_eq_div_pow]
    show (BitVec.ofNat 32 a).toNat / 2 ^ v = (BitVec.ofNat 32 (a / 2 ^ v)).toNat
    have l : a / 2 ^ v ≤ a := Nat.div_le_self _ _
    rw [BitVec.toNat_ofNat, BitVec.toNat_ofNat, Nat.mod_eq_of_lt (by omega), Nat.mod_eq_of_lt (by omega)]
  rw [e, show (1 : Int32) = nI (2 ^ 1 - 1) from rfl, fa_mask, Nat.testBit_eq_decide_div_mod_eq]
  congr 1
  by_cases h : a / 2 ^ v % 2 = 1
  · rw [decide_eq_true h]; simp only [if_true]; exact h
  · rw [decide_eq_false h]; simp only [Bool.false_eq_true, if_false]; omega
