/-! THE SPECIFICATION of a head: kind kd, power po, heats f, a line w, the next nx; b: with power -/
def zs_both (w d : Nat) : Bool := decide (1 ≤ d) && decide (d ≤ 6) && w.testBit (d - 1) && w.testBit (d + 1)
def zs_gn (kd po : Nat) (f : Nat → Nat) (w nx d : Nat) : Nat :=
  if w.testBit d then (if kd = 1 then po - f d / 4 else if kd = 2 then (if zs_both w d then po - f d / 4 - 2 else po - f d / 4) else po)
  else if kd = 3 then (if nx.testBit d then po / 3 else 0) else 0
/-- heat when black is told -/
def zs_ht (kd po : Nat) (f : Nat → Nat) (w nx : Nat) (b : Bool) (d : Nat) : Nat := min (f d + if b then zs_gn kd po f w nx d else 0) 99
/-- what is black, by heats t -/
def zs_bk (mk : Nat) (t : Nat → Nat) (n : Nat) : Nat := fb_sm (fun d => if mk ≤ t d then 2 ^ d else 0) n
def zs_pc (w : Nat) : Nat := fb_sm (fun d => if w.testBit d then 1 else 0) 8
def zs_fl (sp : Nat) (t : Nat → Nat) (d : Nat) : Int := if d < 7 then (((t d : Int) - (t (d + 1) : Int)) * (sp : Int)).tdiv 8 else 0
def zs_lf (cl sp : Nat) (t : Nat → Nat) (d : Nat) : Int := (t d : Int) + (if d = 0 then 0 else zs_fl sp t (d - 1)) - zs_fl sp t d - (cl : Int)
/-- heat behind cooling -/
def zs_cl (cl sp : Nat) (t : Nat → Nat) (d : Nat) : Nat := min (zs_lf cl sp t d).toNat 99
/-! bits -/
theorem zb_1 : ∀ w, w < 256 → ∀ d, d < 8 → ((nI w >>> (nI d &&& (31 : Int32))) &&& 1) = nI (if w.testBit d then 1 else 0) := by decide +kernel
theorem zb_2 : ∀ w, w < 256 → ∀ d, d < 8 → ((((nI w <<< (1 &&& (31 : Int32))) &&& (nI w >>> (1 &&& (31 : Int32)))) >>> (nI d &&& (31 : Int32))) &&& 1) = nI (if zs_both w d then 1 else 0) := by decide +kernel
theorem zb_s : ∀ d, d < 8 → (1 : Int32) <<< (nI d &&& (31 : Int32)) = nI (2 ^ d) := by decide +kernel
theorem zb_0 : ∀ d, d < 8 → (0 : Int32) <<< (nI d &&& (31 : Int32)) = nI 0 := by decide +kernel
set_option maxRecDepth 100000 in
theorem zb_c : ∀ w, w < 256 → ∀ (σ : zz_T) (Q : Int32 → zz_T → Prop), Q (nI (zs_pc w)) σ → pJ6_bitCount_0f7a4 (nI w) σ Q := by
  have h : ∀ w, w < 256 → (((((((((nI w) - ((Int32.toUInt32 (nI w) >>> (Int32.toUInt32 1 &&& Int32.toUInt32 31)).toInt32 &&& 1431655765)) &&& 858993459) + ((Int32.toUInt32 ((nI w) - ((Int32.toUInt32 (nI w) >>> (Int32.toUInt32 1 &&& Int32.toUInt32 31)).toInt32 &&& 1431655765)) >>> (Int32.toUInt32 2 &&& Int32.toUInt32 31)).toInt32 &&& 858993459)) + (Int32.toUInt32 ((((nI w) - ((Int32.toUInt32 (nI w) >>> (Int32.toUInt32 1 &&& Int32.toUInt32 31)).toInt32 &&& 1431655765)) &&& 858993459) + ((Int32.toUInt32 ((nI w) - ((Int32.toUInt32 (nI w) >>> (Int32.toUInt32 1 &&& Int32.toUInt32 31)).toInt32 &&& 1431655765)) >>> (Int32.toUInt32 2 &&& Int32.toUInt32 31)).toInt32 &&& 858993459)) >>> (Int32.toUInt32 4 &&& Int32.toUInt32 31)).toInt32) &&& 252645135) + (Int32.toUInt32 ((((((nI w) - ((Int32.toUInt32 (nI w) >>> (Int32.toUInt32 1 &&& Int32.toUInt32 31)).toInt32 &&& 1431655765)) &&& 858993459) + ((Int32.toUInt32 ((nI w) - ((Int32.toUInt32 (nI w) >>> (Int32.toUInt32 1 &&& Int32.toUInt32 31)).toInt32 &&& 1431655765)) >>> (Int32.toUInt32 2 &&& Int32.toUInt32 31)).toInt32 &&& 858993459)) + (Int32.toUInt32 ((((nI w) - ((Int32.toUInt32 (nI w) >>> (Int32.toUInt32 1 &&& Int32.toUInt32 31)).toInt32 &&& 1431655765)) &&& 858993459) + ((Int32.toUInt32 ((nI w) - ((Int32.toUInt32 (nI w) >>> (Int32.toUInt32 1 &&& Int32.toUInt32 31)).toInt32 &&& 1431655765)) >>> (Int32.toUInt32 2 &&& Int32.toUInt32 31)).toInt32 &&& 858993459)) >>> (Int32.toUInt32 4 &&& Int32.toUInt32 31)).toInt32) &&& 252645135) >>> (Int32.toUInt32 8 &&& Int32.toUInt32 31)).toInt32) + (Int32.toUInt32 (((((((nI w) - ((Int32.toUInt32 (nI w) >>> (Int32.toUInt32 1 &&& Int32.toUInt32 31)).toInt32 &&& 1431655765)) &&& 858993459) + ((Int32.toUInt32 ((nI w) - ((Int32.toUInt32 (nI w) >>> (Int32.toUInt32 1 &&& Int32.toUInt32 31)).toInt32 &&& 1431655765)) >>> (Int32.toUInt32 2 &&& Int32.toUInt32 31)).toInt32 &&& 858993459)) + (Int32.toUInt32 ((((nI w) - ((Int32.toUInt32 (nI w) >>> (Int32.toUInt32 1 &&& Int32.toUInt32 31)).toInt32 &&& 1431655765)) &&& 858993459) + ((Int32.toUInt32 ((nI w) - ((Int32.toUInt32 (nI w) >>> (Int32.toUInt32 1 &&& Int32.toUInt32 31)).toInt32 &&& 1431655765)) >>> (Int32.toUInt32 2 &&& Int32.toUInt32 31)).toInt32 &&& 858993459)) >>> (Int32.toUInt32 4 &&& Int32.toUInt32 31)).toInt32) &&& 252645135) + (Int32.toUInt32 ((((((nI w) - ((Int32.toUInt32 (nI w) >>> (Int32.toUInt32 1 &&& Int32.toUInt32 31)).toInt32 &&& 1431655765)) &&& 858993459) + ((Int32.toUInt32 ((nI w) - ((Int32.toUInt32 (nI w) >>> (Int32.toUInt32 1 &&& Int32.toUInt32 31)).toInt32 &&& 1431655765)) >>> (Int32.toUInt32 2 &&& Int32.toUInt32 31)).toInt32 &&& 858993459)) + (Int32.toUInt32 ((((nI w) - ((Int32.toUInt32 (nI w) >>> (Int32.toUInt32 1 &&& Int32.toUInt32 31)).toInt32 &&& 1431655765)) &&& 858993459) + ((Int32.toUInt32 ((nI w) - ((Int32.toUInt32 (nI w) >>> (Int32.toUInt32 1 &&& Int32.toUInt32 31)).toInt32 &&& 1431655765)) >>> (Int32.toUInt32 2 &&& Int32.toUInt32 31)).toInt32 &&& 858993459)) >>> (Int32.toUInt32 4 &&& Int32.toUInt32 31)).toInt32) &&& 252645135) >>> (Int32.toUInt32 8 &&& Int32.toUInt32 31)).toInt32) >>> (Int32.toUInt32 16 &&& Int32.toUInt32 31)).toInt32) &&& 63) = nI (zs_pc w) := by decide +kernel
  intro w hw σ Q hQ
  unfold pJ6_bitCount_0f7a4
  rw [h w hw]
  exact hQ
theorem zs_pc_le (w : Nat) : zs_pc w ≤ 8 := by
  have := fb_sm_bound (f := fun d => if w.testBit d then 1 else 0) (c := 1) (n := 8) (fun k _ => by split <;> omega)
  simpa [zs_pc] using this
theorem zs_bk_lt (mk : Nat) (t : Nat → Nat) : ∀ n, zs_bk mk t n < 2 ^ n
  | 0 => by simp [zs_bk, fb_sm]
  | n + 1 => by
    have h := zs_bk_lt mk t n
    show zs_bk mk t n + (if mk ≤ t n then 2 ^ n else 0) < 2 ^ (n + 1)
    rw [Nat.pow_succ]
    split <;> omega
theorem zs_bk_succ (mk : Nat) (t : Nat → Nat) (n : Nat) : zs_bk mk t (n + 1) = zs_bk mk t n + (if mk ≤ t n then 2 ^ n else 0) := rfl
theorem zs_bk_or (mk : Nat) (t : Nat → Nat) (n : Nat) : nI (zs_bk mk t n) ||| nI (2 ^ n) = nI (zs_bk mk t n + 2 ^ n) := by
  have h := fa_or_sum (a := zs_bk mk t n) (k := n) 1 (zs_bk_lt mk t n)
  rw [Nat.mul_one] at h
  rw [Int32.or_comm, h, Nat.add_comm]
theorem zs_xor_lt {a b : Nat} (ha : a < 256) (hb : b < 256) : a ^^^ b < 256 := Nat.xor_lt_two_pow (n := 8) ha hb
theorem zs_ht_le (kd po : Nat) (f : Nat → Nat) (w nx : Nat) (b : Bool) (d : Nat) : zs_ht kd po f w nx b d ≤ 99 := Nat.min_le_right _ _
theorem zs_cl_le (cl sp : Nat) (t : Nat → Nat) (d : Nat) : zs_cl cl sp t d ≤ 99 := Nat.min_le_right _ _
theorem zs_gn_le {kd po : Nat} {f : Nat → Nat} {w nx d : Nat} : zs_gn kd po f w nx d ≤ po := by
  unfold zs_gn
  repeat' split
  all_goals omega
/-- cut off below 0 -/
theorem z_clip {P : Int32 → Prop} {z : Int} (h1 : -2147483648 ≤ z) (h2 : z < 2147483648) (h : P (nI z.toNat)) : (0 ≤ iI z → P (iI z)) ∧ (¬ 0 ≤ iI z → P 0) := by
  have e : (0 : Int32) ≤ iI z ↔ 0 ≤ z := iI_le (a := 0) (by omega) (by omega) h1 h2
  refine ⟨fun q => ?_, fun q => ?_⟩
  · have := e.mp q
    rw [iI_nI, Int.toNat_of_nonneg this] at h
    exact h
  · have : z < 0 := by
      rcases Int.lt_or_le z 0 with g | g
      · exact g
      · exact absurd (e.mpr g) q
    rw [Int.toNat_of_nonpos (by omega)] at h
    exact h
/-- cut off on both sides -/
theorem z_clip2 {P : Int32 → Prop} {z : Int} {m : Nat} (hm : m < 2147483648) (h1 : -2147483648 ≤ z) (h2 : z < 2147483648) (h : P (nI (min z.toNat m))) : (0 ≤ iI z → (iI z ≤ nI m → P (iI z)) ∧ (¬ iI z ≤ nI m → P (nI m))) ∧ (¬ 0 ≤ iI z → P 0) := by
  have e : (0 : Int32) ≤ iI z ↔ 0 ≤ z := iI_le (a := 0) (by omega) (by omega) h1 h2
  have e2 : iI z ≤ nI m ↔ z ≤ m := by rw [iI_nI]; exact iI_le h1 h2 (by omega) (by omega)
  refine ⟨fun q => ⟨fun g => ?_, fun g => ?_⟩, fun q => ?_⟩
  · have h3 := e.mp q
    have h4 := e2.mp g
    rw [Nat.min_eq_left (by omega), iI_nI, Int.toNat_of_nonneg h3] at h
    exact h
  · have h3 := e.mp q
    have h4 : (m : Int) < z := by
      rcases Int.lt_or_le m z with k | k
      · exact k
      · exact absurd (e2.mpr k) g
    rw [Nat.min_eq_right (by omega)] at h
    exact h
  · have : z < 0 := by
      rcases Int.lt_or_le z 0 with g | g
      · exact g
      · exact absurd (e.mpr g) q
    rw [Int.toNat_of_nonpos (by omega), Nat.zero_min] at h
    exact h
