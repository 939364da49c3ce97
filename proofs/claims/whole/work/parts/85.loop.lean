section ZL
variable {p : Program} {l : Launch} {e : Env} {s : State} {m : MethodId} {below : List Frame} {meth : Method} {c : Code} {b L : Nat} {xs : Nat → Int32} {G : zc_G} {fx fm : Nat → Nat} {σ τ : zz_T} {S : zSt} {i : Nat}
theorem zl_sw (C : zl_C p s m c b L xs G) (hs : sOK S) (X : RX σ S) (M : RM τ S) (hi : i + 5 ≤ L) (K : ∀ (σ2 τ2 : zz_T) (S2 : zSt), sOK S2 → RX σ2 S2 → RM τ2 S2 → zl_V p l e s m below meth c b G fx fm σ2 τ2 i 1453 []) : zl_V p l e s m below meth c b G fx fm σ τ i 32 [.int (xs i &&& 63)] := by
  obtain ⟨n, hn, en⟩ := zl_and (xs i)
  rcases (show n = 0 ∨ n = 1 ∨ n = 2 ∨ n = 3 ∨ n = 4 ∨ n = 5 ∨ n = 6 ∨ n = 7 ∨ n = 8 ∨ n = 9 ∨ n = 10 ∨ n = 11 ∨ n = 12 ∨ n = 13 ∨ n = 14 ∨ n = 15 ∨ n = 16 ∨ n = 17 ∨ n = 18 ∨ n = 19 ∨ n = 20 ∨ n = 21 ∨ n = 22 ∨ n = 23 ∨ n = 24 ∨ n = 25 ∨ n = 26 ∨ n = 27 ∨ n = 28 ∨ n = 29 ∨ n = 30 ∨ n = 31 ∨ n = 32 ∨ n = 33 ∨ n = 34 ∨ n = 35 ∨ n = 36 ∨ n = 37 ∨ n = 38 ∨ 38 < n by omega) with rfl | rfl | rfl | rfl | rfl | rfl | rfl | rfl | rfl | rfl | rfl | rfl | rfl | rfl | rfl | rfl | rfl | rfl | rfl | rfl | rfl | rfl | rfl | rfl | rfl | rfl | rfl | rfl | rfl | rfl | rfl | rfl | rfl | rfl | rfl | rfl | rfl | rfl | rfl | h38
  · exact zc_tableIn (off := 172) (tgt := 204) C.1 0 dL_law_32 en (by decide) (by decide) (zlw_feed C hs X M hi K)
  · exact zc_tableIn (off := 195) (tgt := 227) C.1 1 dL_law_32 en (by decide) (by decide) (zlw_end C hs X M hi K)
  · exact zc_tableIn (off := 218) (tgt := 250) C.1 2 dL_law_32 en (by decide) (by decide) (zlw_text C hs X M hi K)
  · exact zc_tableIn (off := 231) (tgt := 263) C.1 3 dL_law_32 en (by decide) (by decide) (zlw_fault C hs X M hi K)
  · exact zc_tableIn (off := 244) (tgt := 276) C.1 4 dL_law_32 en (by decide) (by decide) (zlw_rule C hs X M hi K)
  · exact zc_tableIn (off := 267) (tgt := 299) C.1 5 dL_law_32 en (by decide) (by decide) (zlw_head C hs X M hi K)
  · exact zc_tableIn (off := 300) (tgt := 332) C.1 6 dL_law_32 en (by decide) (by decide) (zlw_dot C hs X M hi K)
  · exact zc_tableIn (off := 343) (tgt := 375) C.1 7 dL_law_32 en (by decide) (by decide) (zlw_line C hs X M hi K)
  · exact zc_tableIn (off := 366) (tgt := 398) C.1 8 dL_law_32 en (by decide) (by decide) (zlw_alter C hs X M hi K)
  · exact zc_tableIn (off := 409) (tgt := 441) C.1 9 dL_law_32 en (by decide) (by decide) (zlw_tell C hs X M hi K)
  · exact zc_tableIn (off := 442) (tgt := 474) C.1 10 dL_law_32 en (by decide) (by decide) (zlw_warm C hs X M hi K)
  · exact zc_tableIn (off := 485) (tgt := 517) C.1 11 dL_law_32 en (by decide) (by decide) (zlw_set C hs X M hi K)
  · exact zc_tableIn (off := 518) (tgt := 550) C.1 12 dL_law_32 en (by decide) (by decide) (zlw_add C hs X M hi K)
  · exact zc_tableIn (off := 541) (tgt := 573) C.1 13 dL_law_32 en (by decide) (by decide) (zlw_cut C hs X M hi K)
  · exact zc_tableIn (off := 564) (tgt := 596) C.1 14 dL_law_32 en (by decide) (by decide) (zlw_burn C hs X M hi K)
  · exact zc_tableIn (off := 587) (tgt := 619) C.1 15 dL_law_32 en (by decide) (by decide) (zlw_runs C hs X M hi K)
  · exact zc_tableIn (off := 620) (tgt := 652) C.1 16 dL_law_32 en (by decide) (by decide) (zlw_black C hs X M hi K)
  · exact zc_tableIn (off := 653) (tgt := 685) C.1 17 dL_law_32 en (by decide) (by decide) (zlw_ahead C hs X M hi K)
  · exact zc_tableIn (off := 696) (tgt := 728) C.1 18 dL_law_32 en (by decide) (by decide) (zlw_when C hs X M hi K)
  · exact zc_tableIn (off := 719) (tgt := 751) C.1 19 dL_law_32 en (by decide) (by decide) (zlw_power C hs X M hi K)
  · exact zc_tableIn (off := 762) (tgt := 794) C.1 20 dL_law_32 en (by decide) (by decide) (zlw_kind C hs X M hi K)
  · exact zc_tableIn (off := 805) (tgt := 837) C.1 21 dL_law_32 en (by decide) (by decide) (zlw_best C hs X M hi K)
  · exact zc_tableIn (off := 848) (tgt := 880) C.1 22 dL_law_32 en (by decide) (by decide) (zlw_swap C hs X M hi K)
  · exact zc_tableIn (off := 881) (tgt := 913) C.1 23 dL_law_32 en (by decide) (by decide) (zlw_rest C hs X M hi K)
  · exact zc_tableIn (off := 914) (tgt := 946) C.1 24 dL_law_32 en (by decide) (by decide) (zlw_luck C hs X M hi K)
  · exact zc_tableIn (off := 968) (tgt := 1000) C.1 25 dL_law_32 en (by decide) (by decide) (zlw_mean C hs X M hi K)
  · exact zc_tableIn (off := 1012) (tgt := 1044) C.1 26 dL_law_32 en (by decide) (by decide) (zlw_see C hs X M hi K)
  · exact zc_tableIn (off := 1055) (tgt := 1087) C.1 27 dL_law_32 en (by decide) (by decide) (zlw_forget C hs X M hi K)
  · exact zc_tableIn (off := 1078) (tgt := 1110) C.1 28 dL_law_32 en (by decide) (by decide) (zlw_kinds C hs X M hi K)
  · exact zc_tableIn (off := 1101) (tgt := 1133) C.1 29 dL_law_32 en (by decide) (by decide) (zlw_powers C hs X M hi K)
  · exact zc_tableIn (off := 1124) (tgt := 1156) C.1 30 dL_law_32 en (by decide) (by decide) (zlw_ask C hs X M hi K)
  · exact zc_tableIn (off := 1157) (tgt := 1189) C.1 31 dL_law_32 en (by decide) (by decide) (zlw_drift C hs X M hi K)
  · exact zc_tableIn (off := 1200) (tgt := 1232) C.1 32 dL_law_32 en (by decide) (by decide) (zlw_keep C hs X M hi K)
  · exact zc_tableIn (off := 1223) (tgt := 1255) C.1 33 dL_law_32 en (by decide) (by decide) (zlw_back C hs X M hi K)
  · exact zc_tableIn (off := 1246) (tgt := 1278) C.1 34 dL_law_32 en (by decide) (by decide) (zlw_sheet C hs X M hi K)
  · exact zc_tableIn (off := 1289) (tgt := 1321) C.1 35 dL_law_32 en (by decide) (by decide) (zlw_lay C hs X M hi K)
  · exact zc_tableIn (off := 1332) (tgt := 1364) C.1 36 dL_law_32 en (by decide) (by decide) (zlw_read C hs X M hi K)
  · exact zc_tableIn (off := 1385) (tgt := 1417) C.1 37 dL_law_32 en (by decide) (by decide) (zlw_torn C hs X M hi K)
  · exact zc_tableIn (off := 1398) (tgt := 1430) C.1 38 dL_law_32 en (by decide) (by decide) (zlw_count C hs X M hi K)
  · rw [en]
    exact zc_tableOut (tgt := 1453) C.1 dL_law_32 (Or.inr (by rw [nI_i (by omega)]; omega)) (by decide) (K σ τ S hs X M)
theorem zl_loop (C : zl_C p s m c b L xs G) (hr : meth.sig.returnType = ret) (hlk : meth.locks = false) : ∀ (j i : Nat) (σ τ : zz_T) (S : zSt), sOK S → RX σ S → RM τ S → L - i ≤ j → i ≤ 5000 → zl_V p l e s m below meth c b G fx fm σ τ i 18 [] := by
  have hL := C.2.2.2.2
  intro j
  induction j using Nat.strongRecOn with
  | ind j ih =>
    intro i σ τ S hs X M hj hi
    refine zc_iload_n C.1 dL_law_18 0 rfl rfl rfl ?_
    refine zc_aload_n C.1 dL_law_19 3 rfl rfl rfl ?_
    refine zl_len C dL_law_20 ?_
    refine zc_iconst (v := nI 5) C.1 dL_law_21 rfl rfl ?_
    refine zc_isub C.1 dL_law_22 rfl ?_
    refine zc_icmp_gt (tgt := 1459) C.1 dL_law_23 (by decide) rfl (fun _ => zl_end C hr hlk) (fun h => ?_)
    have h5 : i + 5 ≤ L := by
      rw [fa_lt, pk_sub_toInt (by omega) (by omega), nI_i (by omega)] at h
      omega
    refine zc_aload_n C.1 dL_law_26 3 rfl rfl rfl ?_
    refine zc_iload_n C.1 dL_law_27 0 rfl rfl rfl ?_
    refine zl_ld C (by omega) dL_law_28 ?_
    refine zc_bipush (v := 63) C.1 dL_law_29 (by decide) rfl ?_
    refine zc_iand C.1 dL_law_31 rfl ?_
    refine zl_sw C hs X M h5 (fun σ2 τ2 S2 hs2 X2 M2 => ?_)
    refine zc_iinc (v := nI (i + 5)) (lv2 := [(3, .int (nI (i + 5))), (2, .ref (fm 0)), (1, .ref (fx 0)), (0, .ref b)]) C.1 dL_law_1453 0 rfl (by rw [← nI_add]; rfl) (by decide) rfl rfl ?_
    refine zc_goto (tgt := 18) C.1 dL_law_1456 (by decide) ?_
    exact ih (L - (i + 5)) (by omega) (i + 5) σ2 τ2 S2 hs2 X2 M2 (by omega) (by omega)
end ZL
