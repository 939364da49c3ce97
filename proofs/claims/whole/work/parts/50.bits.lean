/-! HOW MANY BITS: the folded count, byte by byte -/
theorem zc_ush {a : Nat} (k : Nat) (K : Int32) (ha : a < 2 ^ 32) (hK : ((Int32.toUInt32 K &&& Int32.toUInt32 31).toBitVec % 32).toNat = k) : (Int32.toUInt32 (nI a) >>> (Int32.toUInt32 K &&& Int32.toUInt32 31)).toInt32 = nI (a / 2 ^ k) := by
  apply Int32.toBitVec_inj.1
  have e3 : ∀ u : UInt32, u.toInt32.toBitVec = u.toBitVec := fun _ => rfl
  rw [e3, UInt32.toBitVec_shiftRight, BitVec.ushiftRight_eq', hK]
  apply BitVec.eq_of_toNat_eq
  rw [BitVec.toNat_ushiftRight, Nat.shiftRight_eq_div_pow]
  show (BitVec.ofNat 32 a).toNat / 2 ^ k = (BitVec.ofNat 32 (a / 2 ^ k)).toNat
  have l : a / 2 ^ k ≤ a := Nat.div_le_self _ _
  rw [BitVec.toNat_ofNat, BitVec.toNat_ofNat, Nat.mod_eq_of_lt ha, Nat.mod_eq_of_lt (by omega)]
theorem zc_and {a b c d : Nat} (ha : a < 256) (hc : c < 256) : (a + 256 * b) &&& (c + 256 * d) = (a &&& c) + 256 * (b &&& d) := by
  have e1 : ((a + 256 * b) &&& (c + 256 * d)) % 2 ^ 8 = a &&& c := by
    rw [Nat.and_mod_two_pow, show (a + 256 * b) % 2 ^ 8 = a by omega, show (c + 256 * d) % 2 ^ 8 = c by omega]
  have e2 : ((a + 256 * b) &&& (c + 256 * d)) / 2 ^ 8 = b &&& d := by
    rw [Nat.and_div_two_pow, show (a + 256 * b) / 2 ^ 8 = b by omega, show (c + 256 * d) / 2 ^ 8 = d by omega]
  omega
def zc_M (m : Nat) : Nat → Nat
  | 0 => 0
  | k + 1 => m + 256 * zc_M m k
def zc_1 (k x : Nat) : Nat := x - (x / 2 &&& zc_M 85 k)
def zc_2 (k x : Nat) : Nat := (x &&& zc_M 51 k) + (x / 4 &&& zc_M 51 k)
def zc_3 (k x : Nat) : Nat := (x + x / 16) &&& zc_M 15 k
theorem zc_d1 : ∀ a, a < 256 → (∀ m, m < 2 → (a / 2 + 128 * m) &&& 85 = a / 2 &&& 85) ∧ (a / 2 &&& 85) ≤ a := by decide +kernel
theorem zc_d2 : ∀ a, a < 256 → ∀ m, m < 4 → (a / 4 + 64 * m) &&& 51 = a / 4 &&& 51 := by decide +kernel
theorem zc_s1 {a b k : Nat} (ha : a < 256) : zc_1 (k + 1) (a + 256 * b) = (a - (a / 2 &&& 85)) + 256 * zc_1 k b := by
  unfold zc_1
  show a + 256 * b - ((a + 256 * b) / 2 &&& (85 + 256 * zc_M 85 k)) = _
  have e : (a + 256 * b) / 2 = (a / 2 + 128 * (b % 2)) + 256 * (b / 2) := by omega
  obtain ⟨d1, d2⟩ := zc_d1 a ha
  rw [e, zc_and (by omega) (by omega), d1 (b % 2) (by omega)]
  have l : (b / 2 &&& zc_M 85 k) ≤ b / 2 := Nat.and_le_left
  omega
theorem zc_s2 {a b k : Nat} (ha : a < 256) : zc_2 (k + 1) (a + 256 * b) = ((a &&& 51) + (a / 4 &&& 51)) + 256 * zc_2 k b := by
  unfold zc_2
  show ((a + 256 * b) &&& (51 + 256 * zc_M 51 k)) + ((a + 256 * b) / 4 &&& (51 + 256 * zc_M 51 k)) = _
  have e : (a + 256 * b) / 4 = (a / 4 + 64 * (b % 4)) + 256 * (b / 4) := by omega
  rw [e, zc_and (by omega) (by omega), zc_and (by omega) (by omega), zc_d2 a ha (b % 4) (by omega)]
  omega
theorem zc_s3 {a b k : Nat} (ha : a ≤ 68) (hb : b % 16 ≤ 4) : zc_3 (k + 1) (a + 256 * b) = ((a + a / 16 + 16 * (b % 16)) &&& 15) + 256 * zc_3 k b := by
  unfold zc_3
  show ((a + 256 * b) + (a + 256 * b) / 16) &&& (15 + 256 * zc_M 15 k) = _
  have e : (a + 256 * b) + (a + 256 * b) / 16 = (a + a / 16 + 16 * (b % 16)) + 256 * (b + b / 16) := by omega
  rw [e, zc_and (by omega) (by omega)]
def zc_y (a : Nat) : Nat := a - (a / 2 &&& 85)
def zc_z (a : Nat) : Nat := (zc_y a &&& 51) + (zc_y a / 4 &&& 51)
theorem zc_byte : ∀ a, a < 256 → zc_y a < 256 ∧ zc_z a ≤ 68 ∧ zc_z a % 16 ≤ 4 ∧ ∀ m, m ≤ 4 → (zc_z a + zc_z a / 16 + 16 * m) &&& 15 = zs_pc a := by decide +kernel
theorem zc_all {a0 a1 a2 a3 : Nat} (h0 : a0 < 256) (h1 : a1 < 256) (h2 : a2 < 256) (h3 : a3 < 256) : zc_3 4 (zc_2 4 (zc_1 4 (a0 + 256 * (a1 + 256 * (a2 + 256 * (a3 + 256 * 0)))))) = zs_pc a0 + 256 * (zs_pc a1 + 256 * (zs_pc a2 + 256 * (zs_pc a3 + 256 * 0))) := by
  obtain ⟨y0, z0, m0, p0⟩ := zc_byte a0 h0
  obtain ⟨y1, z1, m1, p1⟩ := zc_byte a1 h1
  obtain ⟨y2, z2, m2, p2⟩ := zc_byte a2 h2
  obtain ⟨y3, z3, m3, p3⟩ := zc_byte a3 h3
  have e1 : zc_1 4 (a0 + 256 * (a1 + 256 * (a2 + 256 * (a3 + 256 * 0)))) = zc_y a0 + 256 * (zc_y a1 + 256 * (zc_y a2 + 256 * (zc_y a3 + 256 * 0))) := by
    rw [zc_s1 h0, zc_s1 h1, zc_s1 h2, zc_s1 h3]
    rfl
  have e2 : zc_2 4 (zc_y a0 + 256 * (zc_y a1 + 256 * (zc_y a2 + 256 * (zc_y a3 + 256 * 0)))) = zc_z a0 + 256 * (zc_z a1 + 256 * (zc_z a2 + 256 * (zc_z a3 + 256 * 0))) := by
    rw [zc_s2 y0, zc_s2 y1, zc_s2 y2, zc_s2 y3]
    rfl
  rw [e1, e2, zc_s3 z0 (by omega), zc_s3 z1 (by omega), zc_s3 z2 (by omega), zc_s3 z3 (by omega), p0 _ (by omega), p1 _ (by omega), p2 _ (by omega), p3 _ (by omega)]
  rfl
theorem zc_lt {k x : Nat} (h : x < 2 ^ 32) : zc_1 k x < 2 ^ 32 := by unfold zc_1; omega
/-- how many bits of the lowest 32 -/
theorem zc_bits {w : Nat} (hw : w < 2 ^ 32) : zo_p w 32 = zs_pc (w % 256) + (zs_pc (w / 256 % 256) + (zs_pc (w / 65536 % 256) + zs_pc (w / 16777216 % 256))) := by
  have one : ∀ x, fb_sm (fun d => if x.testBit d then 1 else 0) 8 = zs_pc (x % 256) := fun x => by
    unfold zs_pc
    refine fb_sm_cong (fun d hd => ?_)
    have : (x % 2 ^ 8).testBit d = (decide (d < 8) && x.testBit d) := Nat.testBit_mod_two_pow x 8 d
    rw [show (256 : Nat) = 2 ^ 8 from rfl, this, decide_eq_true hd, Bool.true_and]
  have sh : ∀ x k d, x.testBit (k + d) = (x / 2 ^ k).testBit d := fun x k d => by
    rw [Nat.testBit_div_two_pow, Nat.add_comm]
  unfold zo_p
  rw [show (32 : Nat) = 8 + 24 from rfl, fb_sm_split, one, show (24 : Nat) = 8 + 16 from rfl, fb_sm_split, show (16 : Nat) = 8 + 8 from rfl, fb_sm_split]
  have s1 : fb_sm (fun k => if w.testBit (8 + k) then 1 else 0) 8 = zs_pc (w / 256 % 256) := by
    rw [← one]
    exact fb_sm_cong (fun d _ => by rw [sh])
  have s2 : fb_sm (fun k => if w.testBit (8 + (8 + k)) then 1 else 0) 8 = zs_pc (w / 65536 % 256) := by
    rw [← one]
    exact fb_sm_cong (fun d _ => by rw [show 8 + (8 + d) = 16 + d by omega, sh])
  have s3 : fb_sm (fun k => if w.testBit (8 + (8 + (8 + k))) then 1 else 0) 8 = zs_pc (w / 16777216 % 256) := by
    rw [← one]
    exact fb_sm_cong (fun d _ => by rw [show 8 + (8 + (8 + d)) = 24 + d by omega, sh])
  rw [s1, s2, s3]
theorem zc_count {w : Nat} (hw : w < 2 ^ 32) {σ : zz_T} {Q : Int32 → zz_T → Prop} (hq : Q (nI (zo_p w 32)) σ) : pJ6_bitCount_0f7a4 (nI w) σ Q := by
  have u1 : ∀ a, a < 2 ^ 32 → (Int32.toUInt32 (nI a) >>> (Int32.toUInt32 1 &&& Int32.toUInt32 31)).toInt32 = nI (a / 2) := fun a ha => zc_ush 1 1 ha (by decide)
  have u2 : ∀ a, a < 2 ^ 32 → (Int32.toUInt32 (nI a) >>> (Int32.toUInt32 2 &&& Int32.toUInt32 31)).toInt32 = nI (a / 4) := fun a ha => zc_ush 2 2 ha (by decide)
  have u4 : ∀ a, a < 2 ^ 32 → (Int32.toUInt32 (nI a) >>> (Int32.toUInt32 4 &&& Int32.toUInt32 31)).toInt32 = nI (a / 16) := fun a ha => zc_ush 4 4 ha (by decide)
  have u8 : ∀ a, a < 2 ^ 32 → (Int32.toUInt32 (nI a) >>> (Int32.toUInt32 8 &&& Int32.toUInt32 31)).toInt32 = nI (a / 256) := fun a ha => zc_ush 8 8 ha (by decide)
  have u16 : ∀ a, a < 2 ^ 32 → (Int32.toUInt32 (nI a) >>> (Int32.toUInt32 16 &&& Int32.toUInt32 31)).toInt32 = nI (a / 65536) := fun a ha => zc_ush 16 16 ha (by decide)
  have k1 : w / 2 &&& 1431655765 ≤ w / 2 := Nat.and_le_left
  have s1 : nI w - (nI (w / 2) &&& 1431655765) = nI (zc_1 4 w) := by
    rw [show (1431655765 : Int32) = nI 1431655765 from rfl, fa_and, pk_sub (by omega)]
    rfl
  have l1 : zc_1 4 w < 2 ^ 32 := zc_lt hw
  have s2 : ∀ x, (nI x &&& 858993459) + (nI (x / 4) &&& 858993459) = nI (zc_2 4 x) := fun x => by
    rw [show (858993459 : Int32) = nI 858993459 from rfl, fa_and, fa_and, nI_add]
    rfl
  have l2 : zc_2 4 (zc_1 4 w) < 2 ^ 32 := by
    have a1 : zc_1 4 w &&& 858993459 ≤ 858993459 := Nat.and_le_right
    have a2 : zc_1 4 w / 4 &&& 858993459 ≤ 858993459 := Nat.and_le_right
    show (zc_1 4 w &&& 858993459) + (zc_1 4 w / 4 &&& 858993459) < 2 ^ 32
    omega
  have s3 : ∀ x, (nI x + nI (x / 16)) &&& 252645135 = nI (zc_3 4 x) := fun x => by
    rw [show (252645135 : Int32) = nI 252645135 from rfl, nI_add, fa_and]
    rfl
  have all := zc_all (a0 := w % 256) (a1 := w / 256 % 256) (a2 := w / 65536 % 256) (a3 := w / 16777216 % 256) (by omega) (by omega) (by omega) (by omega)
  rw [show w % 256 + 256 * (w / 256 % 256 + 256 * (w / 65536 % 256 + 256 * (w / 16777216 % 256 + 256 * 0))) = w by omega] at all
  rw [zc_bits hw] at hq
  have q0 := zs_pc_le (w % 256)
  have q1 := zs_pc_le (w / 256 % 256)
  have q2 := zs_pc_le (w / 65536 % 256)
  have q3 := zs_pc_le (w / 16777216 % 256)
  unfold pJ6_bitCount_0f7a4
  rw [u1 w hw, s1, u2 _ l1, s2, u4 _ l2, s3, all]
  generalize zs_pc (w % 256) = p0 at *
  generalize zs_pc (w / 256 % 256) = p1 at *
  generalize zs_pc (w / 65536 % 256) = p2 at *
  generalize zs_pc (w / 16777216 % 256) = p3 at *
  have d1 : (p0 + 256 * (p1 + 256 * (p2 + 256 * (p3 + 256 * 0)))) / 256 = p1 + 256 * (p2 + 256 * p3) := by omega
  have d2 : (p0 + 256 * (p1 + 256 * (p2 + 256 * (p3 + 256 * 0))) + (p1 + 256 * (p2 + 256 * p3))) / 65536 = p2 + p3 + 256 * p3 := by omega
  have d3 : (p0 + 256 * (p1 + 256 * (p2 + 256 * (p3 + 256 * 0))) + (p1 + 256 * (p2 + 256 * p3)) + (p2 + p3 + 256 * p3)) % 2 ^ 6 = p0 + (p1 + (p2 + p3)) := by omega
  rw [u8 _ (by omega), d1, nI_add, u16 _ (by omega), d2, nI_add, show (63 : Int32) = nI (2 ^ 6 - 1) from rfl, fa_mask, d3]
  exact hq
