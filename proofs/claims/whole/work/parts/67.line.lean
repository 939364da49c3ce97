section ZD
variable {σ σ' σ2 τ τ' τ2 : zz_T} {n p : Nat} {b : Nat → Nat} {G : Nat → Nat} {M : Nat}
theorem zd_C.to {Q : Int32 → zz_T → Prop} {o : zd_O} (x : zd_KX σ σ2) (e : σ2.1 1 2 = σ.1 1 2) (h : zd_C σ Q o) : zd_C σ2 Q o := by
  cases o with
  | inl a => exact fun σ' y h1 h2 => h σ' (x.tr y) h1 h2
  | inr a => exact fun σ' y h1 h2 h3 => h σ' (x.tr y) (by rw [h1, e]) h2 h3
theorem zd_D.to {Q : zz_T → Prop} {o : zd_O} (x : zd_KM τ τ2) (h : zd_D τ n b Q o) : zd_D τ2 n b Q o := by
  cases o with
  | inl a => exact fun τ' y h1 => h τ' (x.tr y) h1
  | inr a => exact fun τ' y h1 h2 => h τ' (x.tr y) h1 h2
theorem zd_C.bo {Q : Int32 → zz_T → Prop} {o : zd_O} (h : zd_C σ Q o) : zd_C σ (fun r s => zz_bo r ∧ Q r s) o := by
  cases o with
  | inl a => exact fun σ' y h1 h2 => ⟨zz_bo0, h σ' y h1 h2⟩
  | inr a => exact fun σ' y h1 h2 h3 => ⟨zz_bo1, h σ' y h1 h2 h3⟩
/-- a line that begins with the name c -/
def zd_ln (b : Nat → Nat) (n p : Nat) (G : Nat → Nat) (M c : Nat) : zd_O := if c < 4 then (if G 33 < 3 then zd_sp b n (zt_e b n p) 0 30 (zd_h G c) M else .inl (5, zt_f b n p)) else if M.testBit c = true then .inl (4, zt_f b n p) else if c = 7 then zd_ns b n (zt_e b n p) G (M ||| 2 ^ c) else zd_sp b n (zt_e b n p) (zd_lo (c - 4)) (zd_hi (c - 4)) (gu G (34 + (c - 4))) (M ||| 2 ^ c)
theorem zd_met_ok {c : Nat} (hG : zd_ok G M) (hc : c < 8) : zd_ok G (M ||| 2 ^ c) := by
  refine ⟨hG.1, hG.2.1, hG.2.2.1, hG.2.2.2.1, ?_, fun z => hG.2.2.2.2.2 ?_⟩
  · have a : M < 2 ^ 8 := hG.2.2.2.2.1
    have b : 2 ^ c < 2 ^ 8 := Nat.pow_lt_pow_right (by omega) hc
    exact Nat.or_lt_two_pow a b
  · rw [fb_bit_set] at z
    cases h : M.testBit 7 with
    | false => rfl
    | true => rw [h] at z; cases z
end ZD
