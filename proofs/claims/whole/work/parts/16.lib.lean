/-! reads behind writes -/
theorem zi_at (σ : zz_T) (k j : Nat) (v : Int32) : (zz_i σ k j v).1 k j = v := by simp [zz_i, va_up, upd]
theorem zi_j {σ : zz_T} {k j i : Nat} {v : Int32} (h : i ≠ j) : (zz_i σ k j v).1 k i = σ.1 k i := by simp [zz_i, va_up, upd, h]
theorem zi_k {σ : zz_T} {k j c : Nat} {v : Int32} (h : c ≠ k) : (zz_i σ k j v).1 c = σ.1 c := by simp [zz_i, va_up, h]
theorem zr_at (σ : zz_T) (k : Nat) (f : Nat → Int32) : (zz_r σ k f).1 k = f := by simp [zz_r, va_up]
theorem zr_k {σ : zz_T} {k c : Nat} {f : Nat → Int32} (h : c ≠ k) : (zz_r σ k f).1 c = σ.1 c := by simp [zz_r, va_up, h]
theorem zi_2 (σ : zz_T) (k j : Nat) (v : Int32) : (zz_i σ k j v).2 = σ.2 := rfl
theorem zr_2 (σ : zz_T) (k : Nat) (f : Nat → Int32) : (zz_r σ k f).2 = σ.2 := rfl
theorem zi_r (σ : zz_T) (k j : Nat) (v : Int32) : zz_i σ k j v = zz_r σ k (upd (σ.1 k) j v) := rfl
theorem zr_r (σ : zz_T) (k : Nat) (f g : Nat → Int32) : zz_r (zz_r σ k f) k g = zz_r σ k g := by
  unfold zz_r; congr 1; funext c; simp only [va_up]; split <;> rfl
theorem zr_i (σ : zz_T) (k j : Nat) (v : Int32) (g : Nat → Int32) : zz_r (zz_i σ k j v) k g = zz_r σ k g := by rw [zi_r, zr_r]
theorem zi_of_r (σ : zz_T) (k j : Nat) (f : Nat → Int32) (v : Int32) : zz_i (zz_r σ k f) k j v = zz_r σ k (upd f j v) := by rw [zi_r, zr_r, zr_at]
theorem zr_self (σ : zz_T) (k : Nat) : zz_r σ k (σ.1 k) = σ := by
  obtain ⟨a, b⟩ := σ
  simp only [zz_r]
  congr 1
  funext c
  simp only [va_up]
  split
  · next h => rw [h]
  · rfl
theorem zl_1 (σ : zz_T) (j : Nat) (v : Int64) : (zz_l σ j v).1 = σ.1 := rfl
theorem zl_at (σ : zz_T) (j : Nat) (v : Int64) : (zz_l σ j v).2 j = v := by simp [zz_l, va_up]
theorem zl_j {σ : zz_T} {j i : Nat} {v : Int64} (h : i ≠ j) : (zz_l σ j v).2 i = σ.2 i := by simp [zz_l, va_up, h]
/-- two states alike, but for some cells -/
def zz_but (c : Nat → Prop) (σ σ' : zz_T) : Prop := (∀ k, ¬ c k → σ'.1 k = σ.1 k) ∧ σ'.2 = σ.2
theorem zz_but.rf (c : Nat → Prop) (σ : zz_T) : zz_but c σ σ := ⟨fun _ _ => rfl, rfl⟩
theorem zz_but.tr {c : Nat → Prop} {a b d : zz_T} (h : zz_but c a b) (h2 : zz_but c b d) : zz_but c a d := ⟨fun k hk => by rw [h2.1 k hk, h.1 k hk], h2.2.trans h.2⟩
theorem zz_but.mono {c d : Nat → Prop} {a b : zz_T} (h : zz_but c a b) (hcd : ∀ k, c k → d k) : zz_but d a b := ⟨fun k hk => h.1 k (fun q => hk (hcd k q)), h.2⟩
theorem zz_but.i {c : Nat → Prop} {σ σ' : zz_T} {k j : Nat} {v : Int32} (h : zz_but c σ σ') (hk : c k) : zz_but c σ (zz_i σ' k j v) := ⟨fun q hq => by rw [zi_k (fun e => hq (by rw [e]; exact hk)), h.1 q hq], h.2⟩
theorem zz_but.r {c : Nat → Prop} {σ σ' : zz_T} {k : Nat} {f : Nat → Int32} (h : zz_but c σ σ') (hk : c k) : zz_but c σ (zz_r σ' k f) := ⟨fun q hq => by rw [zr_k (fun e => hq (by rw [e]; exact hk)), h.1 q hq], h.2⟩
/-! signed numbers -/
def iI (z : Int) : Int32 := Int32.ofInt z
theorem iI_nI (n : Nat) : nI n = iI n := by
  show Int32.ofNat n = Int32.ofInt n
  apply Int32.toBitVec_inj.1
  show BitVec.ofNat 32 n = BitVec.ofInt 32 n
  simp
theorem iI_add (a b : Int) : iI a + iI b = iI (a + b) := (Int32.ofInt_add a b).symm
theorem iI_sub (a b : Int) : iI a - iI b = iI (a - b) := (Int32.ofInt_sub a b).symm
theorem iI_mul (a b : Int) : iI a * iI b = iI (a * b) := (Int32.ofInt_mul a b).symm
theorem iI_toInt {z : Int} (h1 : -2147483648 ≤ z) (h2 : z < 2147483648) : (iI z).toInt = z := fb_ofI h1 h2
theorem iI_lt {a b : Int} (a1 : -2147483648 ≤ a) (a2 : a < 2147483648) (b1 : -2147483648 ≤ b) (b2 : b < 2147483648) : iI a < iI b ↔ a < b := by rw [fa_lt, iI_toInt a1 a2, iI_toInt b1 b2]
theorem iI_le {a b : Int} (a1 : -2147483648 ≤ a) (a2 : a < 2147483648) (b1 : -2147483648 ≤ b) (b2 : b < 2147483648) : iI a ≤ iI b ↔ a ≤ b := by rw [fa_le, iI_toInt a1 a2, iI_toInt b1 b2]
theorem iI_eq {a b : Int} (a1 : -2147483648 ≤ a) (a2 : a < 2147483648) (b1 : -2147483648 ≤ b) (b2 : b < 2147483648) : iI a = iI b ↔ a = b := by rw [fa_eq, iI_toInt a1 a2, iI_toInt b1 b2]
theorem iI_div {a b : Int} (a1 : -1073741824 ≤ a) (a2 : a < 1073741824) (b1 : 0 < b) (b2 : b < 2147483648) : iI a / iI b = iI (a.tdiv b) := by
  have hle : (a.tdiv b).natAbs ≤ a.natAbs := Int.natAbs_tdiv_le_natAbs a b
  rw [fa_eq, Int32.toInt_div, iI_toInt (by omega) (by omega), iI_toInt (by omega) b2, iI_toInt (by omega) (by omega), fb_bmod (by omega) (by omega)]
/-! literals -/
theorem nI_lit_le {a b : Nat} (ha : a < 2147483648) (hb : b < 2147483648) : nI a ≤ nI b ↔ a ≤ b := nI_leI ha hb
theorem nI_z {n : Nat} (h : n < 2147483648) : nI n = 0 ↔ n = 0 := nI_eq (b := 0) h (by decide)
theorem nI_tn {n : Nat} (h : n < 2147483648) : Int32.toNatClampNeg (nI n) = n := nI_clamp h
theorem nI_i {n : Nat} (h : n < 2147483648) : (nI n).toInt = (n : Int) := nI_toInt h
