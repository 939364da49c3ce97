section ZC
variable {p : Program} {l : Launch} {e : Env} {R : Room} {s : State} {m : MethodId} {args : Array Value} {below : List Frame} {meth : Method} {c : Code} {Q : State → Prop} {nL : Nat} {cc : ByteArray} {own : String} {pc n : Nat} {lv : List (Nat × Value)} {st : List Value} {A : Nat → Prop} {G : zc_G} {ws ws2 : va_W} {cells slots N0 : Nat}
theorem zq_arr {cA : ClassId} {n : Nat} {f g : Nat → Option Nat} (h : ∀ j, j < n → f j = g j) : vp_cell cA (n, .inr (.inr (.inr (.inr f)))) = vp_cell cA (n, .inr (.inr (.inr (.inr g)))) := by
  rw [vp_cell_q, vp_cell_q]
  unfold arrV
  congr 2
  funext j
  show va_rf (f j.val) = va_rf (g j.val)
  rw [h j.val j.isLt]
/-- an array of references is what it holds -/
theorem zq_set {D : va_G} {cl : List vw_C} {H : Heap} {q n : Nat} {cA : ClassId} {f : Nat → Option Nat} (i : Nat) (g : Nat → Option Nat) (h : va_P D cl ws H ∧ va_D A ws) (hi : ws[i]? = some (q, .inl (cA, n, .inr (.inr (.inr (.inr f)))))) (hfg : ∀ j, j < n → f j = g j) : va_P D cl (ws.set i (q, .inl (cA, n, .inr (.inr (.inr (.inr g)))))) H ∧ va_D A (ws.set i (q, .inl (cA, n, .inr (.inr (.inr (.inr g)))))) := by
  obtain ⟨hP, hD⟩ := h
  have key : ∀ (k : Nat) (x : Nat × va_E), (ws.set i (q, .inl (cA, n, .inr (.inr (.inr (.inr g))))))[k]? = some x → ∃ y, ws[k]? = some y ∧ y.1 = x.1 ∧ (va_at D cl y H → va_at D cl x H) := by
    intro k x hk
    rw [List.getElem?_set] at hk
    by_cases e : i = k
    · subst e
      have hl := (List.getElem?_eq_some_iff.mp hi).1
      rw [if_pos rfl, if_pos hl] at hk
      obtain rfl := Option.some.inj hk
      refine ⟨_, hi, rfl, fun z => ?_⟩
      have z : H[q]? = some (vp_cell cA (n, .inr (.inr (.inr (.inr f))))) := z
      show H[q]? = some (vp_cell cA (n, .inr (.inr (.inr (.inr g)))))
      rw [z, zq_arr hfg]
    · rw [if_neg e] at hk
      exact ⟨x, hk, rfl, id⟩
  refine ⟨fun k x hk => ?_, fun a b x y ha hb exy => ?_, fun k x hk => ?_⟩
  · obtain ⟨y, h1, h2, h3⟩ := key k x hk
    exact h3 (hP k y h1)
  · obtain ⟨x', h1, h2, _⟩ := key a x ha
    obtain ⟨y', h4, h5, _⟩ := key b y hb
    exact hD.1 a b x' y' h1 h4 (by rw [h2, h5, exy])
  · obtain ⟨y, h1, h2, _⟩ := key k x hk
    rw [← h2]
    exact hD.2 k y h1
theorem zc_ws (h : ws = ws2) (K : zc_V p l e R s m args below meth c Q nL A G ws2 cells slots pc lv st) : zc_V p l e R s m args below meth c Q nL A G ws cells slots pc lv st := by rw [h]; exact K
theorem zc_conv (hw : ∀ H : Heap, va_P G.1.1 vwCl ws H ∧ va_D A ws → va_P G.1.1 vwCl ws2 H ∧ va_D A ws2) (K : zc_V p l e R s m args below meth c Q nL A G ws2 cells slots pc lv st) : zc_V p l e R s m args below meth c Q nL A G ws cells slots pc lv st := by
  intro H locs ls hP hD hS hl
  obtain ⟨h1, h2⟩ := hw H ⟨hP, hD⟩
  exact K H locs ls h1 h2 hS hl
/-- a world of one object among the cells -/
theorem zc_mid {Y : zz_Y} {σ : zz_T} {P1 P2 : va_W} {k : Nat} (hk : k < Y.1.1) : (P1 ++ (zz_w Y σ ++ P2))[P1.length + k]? = some (Y.2.1 k, zz_e Y (Y.1.2 k) (σ.1 k) σ.2) := by
  rw [List.getElem?_append_right (by omega), Nat.add_sub_cancel_left, List.getElem?_append_left (by rw [zz_w_len]; exact hk), zz_w_at hk]
theorem zc_J {Y : zz_Y} {σ : zz_T} {P1 P2 : va_W} (hD : va_D A (P1 ++ (zz_w Y σ ++ P2))) : zz_J Y := by
  intro i j hi hj e
  have := hD.1 _ _ _ _ (zc_mid (P1 := P1) (P2 := P2) (σ := σ) hi) (zc_mid (P1 := P1) (P2 := P2) (σ := σ) hj) e
  omega
theorem zc_inA {Y : zz_Y} {σ : zz_T} {P1 P2 : va_W} (hD : va_D A (P1 ++ (zz_w Y σ ++ P2))) : ∀ q, zz_A Y q → A q := by
  rintro q ⟨k, hk, rfl⟩
  exact hD.2 _ _ (zc_mid (P1 := P1) (P2 := P2) (σ := σ) hk)
theorem zc_midP {Y : zz_Y} {σ : zz_T} {P1 P2 : va_W} {D : va_G} {cl : List vw_C} {H : Heap} (hP : va_P D cl (P1 ++ (zz_w Y σ ++ P2)) H) : va_P D cl (zz_w Y σ) H := by
  intro k q hk
  obtain ⟨h1, rfl⟩ := zz_w_of hk
  exact hP _ _ (zc_mid h1)
theorem zc_post {Y : zz_Y} {σ σ2 : zz_T} {P1 P2 : va_W} {D : va_G} {cl : List vw_C} {H H1 : Heap} (hP : va_P D cl (P1 ++ (zz_w Y σ ++ P2)) H) (hD : va_D A (P1 ++ (zz_w Y σ ++ P2))) (hk : ∀ q : Nat, q < H.size → ¬ zz_A Y q → H1[q]? = H[q]?) (hP1 : va_P D cl (zz_w Y σ2) H1) : va_P D cl (P1 ++ (zz_w Y σ2 ++ P2)) H1 ∧ va_D A (P1 ++ (zz_w Y σ2 ++ P2)) := by
  have cut : ∀ (k : Nat) (x : Nat × va_E), (P1 ++ (zz_w Y σ2 ++ P2))[k]? = some x → (∃ y, (P1 ++ (zz_w Y σ ++ P2))[k]? = some y ∧ y.1 = x.1) ∧ va_at D cl x H1 := by
    intro k x hx
    by_cases h1 : k < P1.length
    · rw [List.getElem?_append_left h1] at hx
      have hy : (P1 ++ (zz_w Y σ ++ P2))[k]? = some x := by rw [List.getElem?_append_left h1]; exact hx
      refine ⟨⟨x, hy, rfl⟩, (hP k x hy).kept (hk x.1 (hP k x hy).lt ?_)⟩
      rintro ⟨j, hj, ej⟩
      have := hD.1 _ _ _ _ hy (zc_mid (P1 := P1) (P2 := P2) (σ := σ) hj) ej
      omega
    · rw [List.getElem?_append_right (by omega)] at hx
      by_cases h2 : k - P1.length < Y.1.1
      · rw [List.getElem?_append_left (by rw [zz_w_len]; exact h2)] at hx
        obtain ⟨h3, rfl⟩ := zz_w_of hx
        refine ⟨⟨(Y.2.1 (k - P1.length), zz_e Y (Y.1.2 (k - P1.length)) (σ.1 (k - P1.length)) σ.2), ?_, rfl⟩, hP1 _ _ hx⟩
        · rw [List.getElem?_append_right (by omega), List.getElem?_append_left (by rw [zz_w_len]; exact h2), zz_w_at h2]
      · rw [List.getElem?_append_right (by rw [zz_w_len]; omega), zz_w_len] at hx
        have hy : (P1 ++ (zz_w Y σ ++ P2))[k]? = some x := by rw [List.getElem?_append_right (by omega), List.getElem?_append_right (by rw [zz_w_len]; omega), zz_w_len]; exact hx
        refine ⟨⟨x, hy, rfl⟩, (hP k x hy).kept (hk x.1 (hP k x hy).lt ?_)⟩
        rintro ⟨j, hj, ej⟩
        have := hD.1 _ _ _ _ hy (zc_mid (P1 := P1) (P2 := P2) (σ := σ) hj) ej
        omega
  refine ⟨fun k x hx => (cut k x hx).2, fun i j x y hi hj exy => ?_, fun k x hx => ?_⟩
  · obtain ⟨⟨x', h1, h2⟩, _⟩ := cut i x hi
    obtain ⟨⟨y', h3, h4⟩, _⟩ := cut j y hj
    exact hD.1 i j x' y' h1 h3 (by rw [h2, h4, exy])
  · obtain ⟨⟨x', h1, h2⟩, _⟩ := cut k x hx
    rw [← h2]
    exact hD.2 k x' h1
theorem zc_pre {nn : Nat} {lay : Nat → zz_C} {f : Nat → Nat} {σ : zz_T} {P1 P2 : va_W} {H : Heap} {locs : List Loc} (F : zc_F G N0 s s.heap) (hAN : ∀ q, A q → N0 ≤ q) (hP : va_P G.1.1 vwCl (P1 ++ (zz_w (zc_Y nn lay f G) σ ++ P2)) H) (hD : va_D A (P1 ++ (zz_w (zc_Y nn lay f G) σ ++ P2))) (hS : va_S A s.heap H locs) {U : State} (hU : U.heap = H) (hW : s.WarmedH U.vm) : zz_B (zc_Y nn lay f G) σ U := by
  have F2 := (F.kept (fun a ha hn => hS.2.1 a ha (fun z => hn (hAN a z)))).warm hW
  refine ⟨by rw [hU]; exact zc_midP hP, F2.1, ?_, F2.2.2.1⟩
  rw [hU]
  exact F2.2.1.narrow (fun q hq => hAN q (zc_inA hD q hq))
theorem zc_cVi (X : zz_X p m c cc nL s args own) (F : zc_F G N0 s s.heap) (hAN : ∀ q, A q → N0 ≤ q) {nn : Nat} {lay : Nat → zz_C} {fa : Nat → Nat} (P1 P2 : va_W) {σ : zz_T} {y : MethodName} {bytes : ByteArray} {maxL nA idx k ci : Nat} {ret : Option FieldType} {rm : Room} {f : Nat → Nat} {post : Int32 → zz_T → Prop} (As : List Value) {st0 : List Value} (hM : zz_J (zc_Y nn lay fa G) → zz_Mi l y bytes maxL ret rm (zc_Y nn lay fa G) (.ref (fa k) :: As) σ post) (h : zz_KV own idx y bytes maxL ret nA) (hrc : rm.cells = 0 ∧ rm.slots = 0) (hR : rm.frames + 1 ≤ R.frames ∧ 8 + (maxL + 11) + rm.locals ≤ R.locals) (hk : k < nn) (hci : ci < 7) (ht : lay k = (10 + ci, 0, f)) (hC : [RX0, RX1, RX2, RX3, RX4, RX5, RX6].getD ci "" = y.cls) (hl2 : As.length = nA) (hst : st0 = As.reverse ++ .ref (fa k) :: st) (hW : (st.map fun v => v.category).sum ≤ 8) (hcs : cells ≤ R.cells ∧ slots ≤ R.slots) (hd : decode cc pc = .ok (.invokevirtual idx, 3)) (hn : pc + 3 = n) (kk : ∀ (r : Int32) (σ2 : zz_T), post r σ2 → zc_V p l e R s m args below meth c Q nL A G (P1 ++ (zz_w (zc_Y nn lay fa G) σ2 ++ P2)) cells slots n lv (.int r :: st)) : zc_V p l e R s m args below meth c Q nL A G (P1 ++ (zz_w (zc_Y nn lay fa G) σ ++ P2)) cells slots pc lv st0 := by
  subst hn hst; intro H locs ls hP hD hS hl
  have hi := zc_inA hD
  have hrec : ∃ cell : Cell, H[fa k]? = some cell ∧ cell.vm.isStatics = false ∧ s.vm.findClass y.cls = some cell.cls := by
    obtain ⟨fs, q, h1, h2, h3⟩ := zz_tag (zc_Y nn lay fa G) hci f (σ.1 k) σ.2
    have h := va_recv F.1 (zc_midP hP) h2 (show (zz_w (zc_Y nn lay fa G) σ)[k]? = some (fa k, .inr (ci, fs)) by rw [zz_w_at hk]; show some (fa k, zz_e _ (lay k) _ _) = _; rw [ht, h1])
    rw [h3, hC] at h
    exact h
  refine va_calli (va_runV (As := As) (rest := st) X (hM (zc_J hD)) (zz_cV X.2.2.2.2 h hrc hR) ⟨zz_blind _ _ σ, hrec, fun U hU hW => ⟨rfl, zc_pre F hAN hP hD hS hU hW⟩⟩ rfl hl2 hl.1 rfl (lv_room hW) hd ⟨by rw [Nat.add_zero]; exact hcs.1, by rw [Nat.add_zero]; exact hcs.2⟩) hS (fun q _ h => hi q h) hi (fun r u t H1 locs1 ht hvm hw hB hz1 hk1 hS1 => ?_)
  obtain ⟨h1, h2⟩ := zc_post (σ2 := u) hP hD hk1 (by rw [← ht]; exact hB)
  exact kk r u hw H1 locs1 ls h1 h2 hS1 hl
theorem zc_cVv (X : zz_X p m c cc nL s args own) (F : zc_F G N0 s s.heap) (hAN : ∀ q, A q → N0 ≤ q) {nn : Nat} {lay : Nat → zz_C} {fa : Nat → Nat} (P1 P2 : va_W) {σ : zz_T} {y : MethodName} {bytes : ByteArray} {maxL nA idx k ci : Nat} {ret : Option FieldType} {rm : Room} {f : Nat → Nat} {post : zz_T → Prop} (As : List Value) {st0 : List Value} (hM : zz_J (zc_Y nn lay fa G) → zz_Mv l y bytes maxL ret rm (zc_Y nn lay fa G) (.ref (fa k) :: As) σ post) (h : zz_KV own idx y bytes maxL ret nA) (hrc : rm.cells = 0 ∧ rm.slots = 0) (hR : rm.frames + 1 ≤ R.frames ∧ 8 + (maxL + 11) + rm.locals ≤ R.locals) (hk : k < nn) (hci : ci < 7) (ht : lay k = (10 + ci, 0, f)) (hC : [RX0, RX1, RX2, RX3, RX4, RX5, RX6].getD ci "" = y.cls) (hl2 : As.length = nA) (hst : st0 = As.reverse ++ .ref (fa k) :: st) (hW : (st.map fun v => v.category).sum ≤ 8) (hcs : cells ≤ R.cells ∧ slots ≤ R.slots) (hd : decode cc pc = .ok (.invokevirtual idx, 3)) (hn : pc + 3 = n) (kk : ∀ σ2 : zz_T, post σ2 → zc_V p l e R s m args below meth c Q nL A G (P1 ++ (zz_w (zc_Y nn lay fa G) σ2 ++ P2)) cells slots n lv st) : zc_V p l e R s m args below meth c Q nL A G (P1 ++ (zz_w (zc_Y nn lay fa G) σ ++ P2)) cells slots pc lv st0 := by
  subst hn hst; intro H locs ls hP hD hS hl
  have hi := zc_inA hD
  have hrec : ∃ cell : Cell, H[fa k]? = some cell ∧ cell.vm.isStatics = false ∧ s.vm.findClass y.cls = some cell.cls := by
    obtain ⟨fs, q, h1, h2, h3⟩ := zz_tag (zc_Y nn lay fa G) hci f (σ.1 k) σ.2
    have h := va_recv F.1 (zc_midP hP) h2 (show (zz_w (zc_Y nn lay fa G) σ)[k]? = some (fa k, .inr (ci, fs)) by rw [zz_w_at hk]; show some (fa k, zz_e _ (lay k) _ _) = _; rw [ht, h1])
    rw [h3, hC] at h
    exact h
  refine va_callv (va_runV (As := As) (rest := st) X (hM (zc_J hD)) (zz_cV X.2.2.2.2 h hrc hR) ⟨zz_blind _ _ σ, hrec, fun U hU hW => ⟨rfl, zc_pre F hAN hP hD hS hU hW⟩⟩ rfl hl2 hl.1 rfl (lv_room hW) hd ⟨by rw [Nat.add_zero]; exact hcs.1, by rw [Nat.add_zero]; exact hcs.2⟩) hS (fun q _ h => hi q h) hi (fun u t H1 locs1 ht hvm hw hB hz1 hk1 hS1 => ?_)
  obtain ⟨h1, h2⟩ := zc_post (σ2 := u) hP hD hk1 (by rw [← ht]; exact hB)
  exact kk u hw H1 locs1 ls h1 h2 hS1 hl
end ZC
