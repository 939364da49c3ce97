theorem zq_set0 {α : Type} (P1 P2 : List α) (x y : α) : (P1 ++ x :: P2).set P1.length y = P1 ++ y :: P2 := by
  induction P1 with
  | nil => rfl
  | cons a t ih => show a :: (t ++ x :: P2).set t.length y = a :: (t ++ y :: P2); rw [ih]
section ZC
variable {p : Program} {l : Launch} {e : Env} {R : Room} {s : State} {m : MethodId} {args : Array Value} {below : List Frame} {meth : Method} {c : Code} {Q : State → Prop} {nL : Nat} {cc : ByteArray} {own : String} {pc n : Nat} {lv : List (Nat × Value)} {st : List Value} {A : Nat → Prop} {G : zc_G} {ws ws2 : va_W} {cells slots N0 : Nat}
/-- a store into an array of references, by the pieces of the world -/
theorem zc_astq2 (X : zz_X p m c cc nL s args own) (hK : va_K G.1.1 vwCl (zc_ty G) s) (P1 P2 Wv : va_W) (t0 ci : Nat) {a N' v : Nat} {r : vw_C} {vs : List Value} {f : Nat → Option Nat} (hws : ws = P1 ++ ((a, .inl (G.1.2 t0, N', .inr (.inr (.inr (.inr f))))) :: (P2 ++ Wv))) (ht : (zc_ty G)[t0]? = some (G.1.2 t0, .object r.1)) (hv : Wv[0]? = some (v, .inr (ci, vs))) (hc : vwCl[ci]? = some r) {i : Int32} (hin : vp_in i N') (hw : P1 ++ ((a, .inl (G.1.2 t0, N', .inr (.inr (.inr (.inr (va_up f i.toNatClampNeg (some v))))))) :: (P2 ++ Wv)) = ws2) (hd : decode cc pc = .ok (.aastore, 1)) (hn : pc + 1 = n) (K : zc_V p l e R s m args below meth c Q nL A G ws2 cells slots n lv st) : zc_V p l e R s m args below meth c Q nL A G ws cells slots pc lv (.ref v :: .int i :: .ref a :: st) := by
  subst hws
  refine zc_astq X hK P1.length t0 (P1.length + (1 + P2.length)) ci (r := r) (vs := vs) (f := f) (by simp) ht ?_ hc hin ?_ hd hn K
  · rw [List.getElem?_append_right (by omega), Nat.add_sub_cancel_left, Nat.add_comm 1, List.getElem?_cons_succ, List.getElem?_append_right (by omega), Nat.sub_self]
    exact hv
  · exact (zq_set0 _ _ _ _).trans hw
theorem zq_Dc {ws ws2 : va_W} (h : va_D A ws) (e : ws.map Prod.fst = ws2.map Prod.fst) : va_D A ws2 := by
  have key : ∀ (k : Nat) (x : Nat × va_E), ws2[k]? = some x → ∃ y, ws[k]? = some y ∧ y.1 = x.1 := by
    intro k x hk
    have h1 : (ws.map Prod.fst)[k]? = some x.1 := by rw [e, List.getElem?_map, hk]; rfl
    rw [List.getElem?_map] at h1
    cases hy : ws[k]? with
    | none => rw [hy] at h1; cases h1
    | some y => rw [hy] at h1; exact ⟨y, rfl, Option.some.inj h1⟩
  refine ⟨fun a b x y ha hb exy => ?_, fun k x hk => ?_⟩
  · obtain ⟨x', h1, h2⟩ := key a x ha
    obtain ⟨y', h4, h5⟩ := key b y hb
    exact h.1 a b x' y' h1 h4 (by rw [h2, h5, exy])
  · obtain ⟨y, h1, h2⟩ := key k x hk
    rw [← h2]
    exact h.2 k y h1
theorem zq_Pm {D : va_G} {cl : List vw_C} {ws : va_W} {H : Heap} : va_P D cl ws H ↔ ∀ x ∈ ws, va_at D cl x H := by
  constructor
  · intro h x hx
    obtain ⟨i, hi⟩ := List.getElem?_of_mem hx
    exact h i x hi
  · intro h k x hk
    exact h x (List.mem_of_getElem? hk)
theorem zq_Pc {D : va_G} {cl : List vw_C} {x : Nat × va_E} {ws : va_W} {H : Heap} : va_P D cl (x :: ws) H ↔ va_at D cl x H ∧ va_P D cl ws H := by
  rw [zq_Pm, zq_Pm]; simp
theorem zq_Pa {D : va_G} {cl : List vw_C} {w1 w2 : va_W} {H : Heap} : va_P D cl (w1 ++ w2) H ↔ va_P D cl w1 H ∧ va_P D cl w2 H := by
  rw [zq_Pm, zq_Pm, zq_Pm]
  constructor
  · intro h; exact ⟨fun x hx => h x (List.mem_append_left _ hx), fun x hx => h x (List.mem_append_right _ hx)⟩
  · intro h x hx
    rcases List.mem_append.mp hx with h1 | h1
    · exact h.1 x h1
    · exact h.2 x h1
theorem zq_Ca {D : va_G} {cl : List vw_C} {H : Heap} {q n : Nat} {cA : ClassId} {f g : Nat → Option Nat} (h : va_at D cl (q, .inl (cA, n, .inr (.inr (.inr (.inr f))))) H) (hfg : ∀ j, j < n → f j = g j) : va_at D cl (q, .inl (cA, n, .inr (.inr (.inr (.inr g))))) H := by
  have z : H[q]? = some (vp_cell cA (n, .inr (.inr (.inr (.inr f))))) := h
  show H[q]? = some (vp_cell cA (n, .inr (.inr (.inr (.inr g)))))
  rw [z, zq_arr hfg]
theorem zq_setP {D : va_G} {cl : List vw_C} {H : Heap} {q n : Nat} {cA : ClassId} {f : Nat → Option Nat} (i : Nat) (g : Nat → Option Nat) (hP : va_P D cl ws H) (hi : ws[i]? = some (q, .inl (cA, n, .inr (.inr (.inr (.inr f)))))) (hfg : ∀ j, j < n → f j = g j) : va_P D cl (ws.set i (q, .inl (cA, n, .inr (.inr (.inr (.inr g)))))) H := by
  intro k x hk
  rw [List.getElem?_set] at hk
  by_cases e : i = k
  · subst e
    have hl := (List.getElem?_eq_some_iff.mp hi).1
    rw [if_pos rfl, if_pos hl] at hk
    obtain rfl := Option.some.inj hk
    exact zq_Ca (hP i _ hi) hfg
  · rw [if_neg e] at hk
    exact hP k x hk
end ZC
theorem wq_P_c {G : zc_G} {u v : Nat → Nat} (h : ∀ i, i < 17 → u i = v i) : wq_P G u = wq_P G v := by
  unfold wq_P
  rw [h 0 (by omega), h 1 (by omega), h 2 (by omega), h 3 (by omega), h 4 (by omega), h 5 (by omega), h 6 (by omega), h 7 (by omega), h 8 (by omega), h 9 (by omega), h 10 (by omega), h 11 (by omega), h 12 (by omega), h 13 (by omega), h 14 (by omega), h 15 (by omega), h 16 (by omega)]
theorem wq_H_c {G : zc_G} {u v : Nat → Nat} (h : ∀ i, i < 3 → u i = v i) : wq_H G u = wq_H G v := by
  unfold wq_H
  rw [h 0 (by omega), h 1 (by omega), h 2 (by omega)]
theorem wq_T_c {G : zc_G} {u v : Nat → Nat} (h : ∀ i, i < 2 → u i = v i) : wq_T G u = wq_T G v := by
  unfold wq_T
  rw [h 0 (by omega), h 1 (by omega)]
theorem wq_A_c {G : zc_G} {u v : Nat → Nat} (h : ∀ i, i < 2 → u i = v i) : wq_A G u = wq_A G v := by
  unfold wq_A
  rw [h 0 (by omega), h 1 (by omega)]
def zq_s : zz_T := (fun k => match k with | 6 => zq_ru | 23 => zq_ru | 49 => zq_ru | 66 => zq_ru | _ => fun _ => 0, fun _ => 0)
/-- a cell of the new object -/
def zq_g (G : zc_G) (f : Nat → Nat) (k : Nat) : Nat × va_E := (f k, zz_e (zc_Y 88 zz_lay f G) (zz_lay k) (zq_s.1 k) zq_s.2)
section ZG
variable {G : zc_G} {f : Nat → Nat} {H : Heap}
theorem zq_gP3 (h : va_P G.1.1 vwCl (wq_P G (fun i => f (3 + i))) H) : va_P G.1.1 vwCl ((List.range' 3 17).map (zq_g G f)) H := zq_setP 1 (fun j => some (f (3 + 8 + 3 * j))) h rfl (fun j hj => match j, hj with | 0, _ => rfl | 1, _ => rfl | 2, _ => rfl)
theorem zq_gP20 (h : va_P G.1.1 vwCl (wq_P G (fun i => f (20 + i))) H) : va_P G.1.1 vwCl ((List.range' 20 17).map (zq_g G f)) H := zq_setP 1 (fun j => some (f (20 + 8 + 3 * j))) h rfl (fun j hj => match j, hj with | 0, _ => rfl | 1, _ => rfl | 2, _ => rfl)
theorem zq_gP46 (h : va_P G.1.1 vwCl (wq_P G (fun i => f (46 + i))) H) : va_P G.1.1 vwCl ((List.range' 46 17).map (zq_g G f)) H := zq_setP 1 (fun j => some (f (46 + 8 + 3 * j))) h rfl (fun j hj => match j, hj with | 0, _ => rfl | 1, _ => rfl | 2, _ => rfl)
theorem zq_gP63 (h : va_P G.1.1 vwCl (wq_P G (fun i => f (63 + i))) H) : va_P G.1.1 vwCl ((List.range' 63 17).map (zq_g G f)) H := zq_setP 1 (fun j => some (f (63 + 8 + 3 * j))) h rfl (fun j hj => match j, hj with | 0, _ => rfl | 1, _ => rfl | 2, _ => rfl)
theorem zq_gT (h : va_P G.1.1 vwCl (wq_T G (fun i => f (1 + i))) H) : va_P G.1.1 vwCl ((List.range' 1 2).map (zq_g G f)) H := h
theorem zq_gH (h : va_P G.1.1 vwCl (wq_H G (fun i => f (37 + i))) H) : va_P G.1.1 vwCl ((List.range' 37 3).map (zq_g G f)) H := h
theorem zq_gA80 (h : va_P G.1.1 vwCl (wq_A G (fun i => f (80 + i))) H) : va_P G.1.1 vwCl ((List.range' 80 2).map (zq_g G f)) H := h
theorem zq_gA82 (h : va_P G.1.1 vwCl (wq_A G (fun i => f (82 + i))) H) : va_P G.1.1 vwCl ((List.range' 82 2).map (zq_g G f)) H := h
theorem zq_gA84 (h : va_P G.1.1 vwCl (wq_A G (fun i => f (84 + i))) H) : va_P G.1.1 vwCl ((List.range' 84 2).map (zq_g G f)) H := h
theorem zq_gA86 (h : va_P G.1.1 vwCl (wq_A G (fun i => f (86 + i))) H) : va_P G.1.1 vwCl ((List.range' 86 2).map (zq_g G f)) H := h
theorem zq_gO (h : va_at G.1.1 vwCl (f 0, .inr (5, [.ref (f 1), .ref (f 3), .ref (f 20), .ref (f 37), .ref (f 40), .ref (f 41), .ref (f 42), .ref (f 43), .ref (f 44), .ref (f 45), .int 0])) H) : va_at G.1.1 vwCl (zq_g G f 0) H := h
theorem zq_g40 {F : Nat → Option Nat} (h : va_at G.1.1 vwCl (f 40, .inl (G.1.2 4, 2, .inr (.inr (.inr (.inr F))))) H) (h0 : F 0 = some (f 46)) (h1 : F 1 = some (f 63)) : va_at G.1.1 vwCl (zq_g G f 40) H := zq_Ca (g := fun j => some (f (46 + 17 * j))) h (fun j hj => match j, hj with | 0, _ => h0 | 1, _ => h1)
theorem zq_g42 {F : Nat → Option Nat} (h : va_at G.1.1 vwCl (f 42, .inl (G.1.2 5, 4, .inr (.inr (.inr (.inr F))))) H) (h0 : F 0 = some (f 80)) (h1 : F 1 = some (f 82)) (h2 : F 2 = some (f 84)) (h3 : F 3 = some (f 86)) : va_at G.1.1 vwCl (zq_g G f 42) H := zq_Ca (g := fun j => some (f (80 + 2 * j))) h (fun j hj => match j, hj with | 0, _ => h0 | 1, _ => h1 | 2, _ => h2 | 3, _ => h3)
theorem zq_g41 (h : va_at G.1.1 vwCl (f 41, .inl (G.1.2 2, 2, .inl (fun _ => 0))) H) : va_at G.1.1 vwCl (zq_g G f 41) H := h
theorem zq_g43 (h : va_at G.1.1 vwCl (f 43, .inl (G.1.2 0, 62, .inl (fun _ => 0))) H) : va_at G.1.1 vwCl (zq_g G f 43) H := h
theorem zq_g44 (h : va_at G.1.1 vwCl (f 44, .inl (G.1.2 0, 1271, .inl (fun _ => 0))) H) : va_at G.1.1 vwCl (zq_g G f 44) H := h
theorem zq_g45 (h : va_at G.1.1 vwCl (f 45, .inl (G.1.2 0, 256, .inl (fun _ => 0))) H) : va_at G.1.1 vwCl (zq_g G f 45) H := h
theorem zq_r88 : List.range 88 = 0 :: (List.range' 1 2 ++ (List.range' 3 17 ++ (List.range' 20 17 ++ (List.range' 37 3 ++ (40 :: 41 :: 42 :: 43 :: 44 :: 45 :: (List.range' 46 17 ++ (List.range' 63 17 ++ (List.range' 80 2 ++ (List.range' 82 2 ++ (List.range' 84 2 ++ List.range' 86 2)))))))))) := by decide +kernel
theorem zq_w88 : zz_w (zc_Y 88 zz_lay f G) zq_s = (List.range 88).map (zq_g G f) := rfl
end ZG
