def zz_hp (j : Nat) : Nat := match j with | 0 => 1 | 1 => 3 | 2 => 20 | 3 => 37 | 4 => 40 | 5 => 41 | 6 => 42 | 7 => 43 | 8 => 44 | 9 => 45 | _ => 0
def zz_mp (j : Nat) : Nat := match j with | 0 => 1 | 1 => 2 | 2 => 3 | 3 => 4 | 4 => 5 | 5 => 6 | 18 => 7 | 19 => 8 | 20 => 9 | 21 => 10 | 27 => 11 | 28 => 12 | 29 => 13 | 30 => 14 | 31 => 15 | 33 => 16 | _ => 0
def zz_lay (k : Nat) : zz_C := match k with
  | 0 => (15, 0, zz_hp)
  | 1 => (14, 0, fun j => 1 + 1 + j)
  | 2 => (1, 160, fun _ => 0)
  | 3 => (11, 0, fun j => 3 + 1 + j)
  | 4 => (3, 3, fun h => 3 + 8 + 3 * h)
  | 5 => (0, 12, fun _ => 0)
  | 6 => (0, 3, fun _ => 0)
  | 7 => (12, 0, fun j => 3 + 4 + 1 + j)
  | 8 => (0, 6, fun _ => 0)
  | 9 => (0, 6, fun _ => 0)
  | 10 => (0, 6, fun _ => 0)
  | 11 => (10, 0, fun j => 11 + 1 + j)
  | 12 => (0, 8, fun _ => 0)
  | 13 => (0, 8, fun _ => 0)
  | 14 => (10, 0, fun j => 14 + 1 + j)
  | 15 => (0, 8, fun _ => 0)
  | 16 => (0, 8, fun _ => 0)
  | 17 => (10, 0, fun j => 17 + 1 + j)
  | 18 => (0, 8, fun _ => 0)
  | 19 => (0, 8, fun _ => 0)
  | 20 => (11, 0, fun j => 20 + 1 + j)
  | 21 => (3, 3, fun h => 20 + 8 + 3 * h)
  | 22 => (0, 12, fun _ => 0)
  | 23 => (0, 3, fun _ => 0)
  | 24 => (12, 0, fun j => 20 + 4 + 1 + j)
  | 25 => (0, 6, fun _ => 0)
  | 26 => (0, 6, fun _ => 0)
  | 27 => (0, 6, fun _ => 0)
  | 28 => (10, 0, fun j => 28 + 1 + j)
  | 29 => (0, 8, fun _ => 0)
  | 30 => (0, 8, fun _ => 0)
  | 31 => (10, 0, fun j => 31 + 1 + j)
  | 32 => (0, 8, fun _ => 0)
  | 33 => (0, 8, fun _ => 0)
  | 34 => (10, 0, fun j => 34 + 1 + j)
  | 35 => (0, 8, fun _ => 0)
  | 36 => (0, 8, fun _ => 0)
  | 37 => (10, 0, fun j => 37 + 1 + j)
  | 38 => (0, 8, fun _ => 0)
  | 39 => (0, 8, fun _ => 0)
  | 40 => (4, 2, fun j => 46 + 17 * j)
  | 41 => (2, 2, fun _ => 0)
  | 42 => (5, 4, fun j => 80 + 2 * j)
  | 43 => (0, 62, fun _ => 0)
  | 44 => (0, 1271, fun _ => 0)
  | 45 => (0, 256, fun _ => 0)
  | 46 => (11, 0, fun j => 46 + 1 + j)
  | 47 => (3, 3, fun h => 46 + 8 + 3 * h)
  | 48 => (0, 12, fun _ => 0)
  | 49 => (0, 3, fun _ => 0)
  | 50 => (12, 0, fun j => 46 + 4 + 1 + j)
  | 51 => (0, 6, fun _ => 0)
  | 52 => (0, 6, fun _ => 0)
  | 53 => (0, 6, fun _ => 0)
  | 54 => (10, 0, fun j => 54 + 1 + j)
  | 55 => (0, 8, fun _ => 0)
  | 56 => (0, 8, fun _ => 0)
  | 57 => (10, 0, fun j => 57 + 1 + j)
  | 58 => (0, 8, fun _ => 0)
  | 59 => (0, 8, fun _ => 0)
  | 60 => (10, 0, fun j => 60 + 1 + j)
  | 61 => (0, 8, fun _ => 0)
  | 62 => (0, 8, fun _ => 0)
  | 63 => (11, 0, fun j => 63 + 1 + j)
  | 64 => (3, 3, fun h => 63 + 8 + 3 * h)
  | 65 => (0, 12, fun _ => 0)
  | 66 => (0, 3, fun _ => 0)
  | 67 => (12, 0, fun j => 63 + 4 + 1 + j)
  | 68 => (0, 6, fun _ => 0)
  | 69 => (0, 6, fun _ => 0)
  | 70 => (0, 6, fun _ => 0)
  | 71 => (10, 0, fun j => 71 + 1 + j)
  | 72 => (0, 8, fun _ => 0)
  | 73 => (0, 8, fun _ => 0)
  | 74 => (10, 0, fun j => 74 + 1 + j)
  | 75 => (0, 8, fun _ => 0)
  | 76 => (0, 8, fun _ => 0)
  | 77 => (10, 0, fun j => 77 + 1 + j)
  | 78 => (0, 8, fun _ => 0)
  | 79 => (0, 8, fun _ => 0)
  | 80 => (13, 0, fun j => 80 + 1 + j)
  | 81 => (0, 40, fun _ => 0)
  | 82 => (13, 0, fun j => 82 + 1 + j)
  | 83 => (0, 40, fun _ => 0)
  | 84 => (13, 0, fun j => 84 + 1 + j)
  | 85 => (0, 40, fun _ => 0)
  | 86 => (13, 0, fun j => 86 + 1 + j)
  | 87 => (0, 40, fun _ => 0)
  | _ => (0, 0, fun _ => 0)
def zz_mlay (k : Nat) : zz_C := match k with
  | 0 => (16, 0, zz_mp)
  | 1 => (0, 210, fun _ => 0)
  | 2 => (0, 70, fun _ => 0)
  | 3 => (2, 2, fun _ => 0)
  | 4 => (0, 70, fun _ => 0)
  | 5 => (2, 4, fun _ => 0)
  | 6 => (0, 160, fun _ => 0)
  | 7 => (0, 3, fun _ => 0)
  | 8 => (0, 3, fun _ => 0)
  | 9 => (0, 8, fun _ => 0)
  | 10 => (0, 8, fun _ => 0)
  | 11 => (0, 123, fun _ => 0)
  | 12 => (0, 1271, fun _ => 0)
  | 13 => (0, 4, fun _ => 0)
  | 14 => (0, 4, fun _ => 0)
  | 15 => (0, 160, fun _ => 0)
  | 16 => (0, 70, fun _ => 0)
  | _ => (0, 0, fun _ => 0)
def zz_ho (Y : zz_Y) : Prop := Y.1 = (88, zz_lay)
def zz_mo (Y : zz_Y) : Prop := Y.1 = (17, zz_mlay)
def zz_ar (Y : zz_Y) (k t n : Nat) : Prop := k < Y.1.1 ∧ Y.1.2 k = (t, n, fun _ => 0)
def zz_hd (Y : zz_Y) (k : Nat) : Prop := (k < Y.1.1 ∧ Y.1.2 k = (10, 0, fun j => k + 1 + j)) ∧ zz_ar Y (k + 1) 0 8 ∧ zz_ar Y (k + 2) 0 8
def zz_se (Y : zz_Y) (k : Nat) : Prop := (k < Y.1.1 ∧ Y.1.2 k = (12, 0, fun j => k + 1 + j)) ∧ zz_ar Y (k + 1) 0 6 ∧ zz_ar Y (k + 2) 0 6 ∧ zz_ar Y (k + 3) 0 6
def zz_pr (Y : zz_Y) (k : Nat) : Prop := (k < Y.1.1 ∧ Y.1.2 k = (11, 0, fun j => k + 1 + j)) ∧ (k + 1 < Y.1.1 ∧ Y.1.2 (k + 1) = (3, 3, fun h => k + 8 + 3 * h)) ∧ zz_ar Y (k + 2) 0 12 ∧ zz_ar Y (k + 3) 0 3 ∧ zz_se Y (k + 4) ∧ ∀ h, h < 3 → zz_hd Y (k + 8 + 3 * h)
def zz_sh (Y : zz_Y) (k : Nat) : Prop := (k < Y.1.1 ∧ Y.1.2 k = (13, 0, fun j => k + 1 + j)) ∧ zz_ar Y (k + 1) 0 40
def zz_tp (Y : zz_Y) (k : Nat) : Prop := (k < Y.1.1 ∧ Y.1.2 k = (14, 0, fun j => k + 1 + j)) ∧ zz_ar Y (k + 1) 1 160
theorem zz_lt {i : Int32} {n : Nat} (h : vp_in i n) : i.toNatClampNeg < n := by
  unfold vp_in at h; omega
theorem zz_nt {x v : Int32} {z : Int} (e : ¬ x = v) (hv : v.toInt = z) : x.toInt ≠ z := fun q => e (Int32.toInt_inj.mp (q.trans hv.symm))
section ZL
variable {Y : zz_Y}
theorem zz_at (h : zz_ho Y) (k : Nat) (hk : k < 88) : k < Y.1.1 ∧ Y.1.2 k = zz_lay k := by rw [h]; exact ⟨hk, rfl⟩
theorem zz_mat (h : zz_mo Y) (k : Nat) (hk : k < 17) : k < Y.1.1 ∧ Y.1.2 k = zz_mlay k := by rw [h]; exact ⟨hk, rfl⟩
theorem zz_ho_o (h : zz_ho Y) : 0 < Y.1.1 ∧ Y.1.2 0 = (15, 0, zz_hp) := zz_at h 0 (by decide)
theorem zz_ho_tape (h : zz_ho Y) : zz_tp Y 1 := ⟨zz_at h 1 (by decide), zz_at h 2 (by decide)⟩
theorem zz_ho_now (h : zz_ho Y) : zz_pr Y 3 := ⟨zz_at h 3 (by decide), zz_at h 4 (by decide), zz_at h 5 (by decide), zz_at h 6 (by decide), ⟨zz_at h 7 (by decide), zz_at h 8 (by decide), zz_at h 9 (by decide), zz_at h 10 (by decide)⟩, fun q hq => by match q, hq with | 0, _ => exact ⟨zz_at h 11 (by decide), zz_at h 12 (by decide), zz_at h 13 (by decide)⟩ | 1, _ => exact ⟨zz_at h 14 (by decide), zz_at h 15 (by decide), zz_at h 16 (by decide)⟩ | 2, _ => exact ⟨zz_at h 17 (by decide), zz_at h 18 (by decide), zz_at h 19 (by decide)⟩⟩
theorem zz_ho_trial (h : zz_ho Y) : zz_pr Y 20 := ⟨zz_at h 20 (by decide), zz_at h 21 (by decide), zz_at h 22 (by decide), zz_at h 23 (by decide), ⟨zz_at h 24 (by decide), zz_at h 25 (by decide), zz_at h 26 (by decide), zz_at h 27 (by decide)⟩, fun q hq => by match q, hq with | 0, _ => exact ⟨zz_at h 28 (by decide), zz_at h 29 (by decide), zz_at h 30 (by decide)⟩ | 1, _ => exact ⟨zz_at h 31 (by decide), zz_at h 32 (by decide), zz_at h 33 (by decide)⟩ | 2, _ => exact ⟨zz_at h 34 (by decide), zz_at h 35 (by decide), zz_at h 36 (by decide)⟩⟩
theorem zz_ho_lone (h : zz_ho Y) : zz_hd Y 37 := ⟨zz_at h 37 (by decide), zz_at h 38 (by decide), zz_at h 39 (by decide)⟩
theorem zz_ho_im (h : zz_ho Y) : ∀ j, j < 2 → zz_pr Y (46 + 17 * j) := fun j hj => by
  match j, hj with
  | 0, _ => exact ⟨zz_at h 46 (by decide), zz_at h 47 (by decide), zz_at h 48 (by decide), zz_at h 49 (by decide), ⟨zz_at h 50 (by decide), zz_at h 51 (by decide), zz_at h 52 (by decide), zz_at h 53 (by decide)⟩, fun q hq => by match q, hq with | 0, _ => exact ⟨zz_at h 54 (by decide), zz_at h 55 (by decide), zz_at h 56 (by decide)⟩ | 1, _ => exact ⟨zz_at h 57 (by decide), zz_at h 58 (by decide), zz_at h 59 (by decide)⟩ | 2, _ => exact ⟨zz_at h 60 (by decide), zz_at h 61 (by decide), zz_at h 62 (by decide)⟩⟩
  | 1, _ => exact ⟨zz_at h 63 (by decide), zz_at h 64 (by decide), zz_at h 65 (by decide), zz_at h 66 (by decide), ⟨zz_at h 67 (by decide), zz_at h 68 (by decide), zz_at h 69 (by decide), zz_at h 70 (by decide)⟩, fun q hq => by match q, hq with | 0, _ => exact ⟨zz_at h 71 (by decide), zz_at h 72 (by decide), zz_at h 73 (by decide)⟩ | 1, _ => exact ⟨zz_at h 74 (by decide), zz_at h 75 (by decide), zz_at h 76 (by decide)⟩ | 2, _ => exact ⟨zz_at h 77 (by decide), zz_at h 78 (by decide), zz_at h 79 (by decide)⟩⟩
theorem zz_ho_images (h : zz_ho Y) : 40 < Y.1.1 ∧ Y.1.2 40 = (4, 2, fun j => 46 + 17 * j) := zz_at h 40 (by decide)
theorem zz_ho_sheets (h : zz_ho Y) : 42 < Y.1.1 ∧ Y.1.2 42 = (5, 4, fun j => 80 + 2 * j) := zz_at h 42 (by decide)
theorem zz_ho_sh (h : zz_ho Y) : ∀ j, j < 4 → zz_sh Y (80 + 2 * j) := fun j hj => by
  match j, hj with
  | 0 , _ => exact ⟨zz_at h 80 (by decide), zz_at h 81 (by decide)⟩
  | 1 , _ => exact ⟨zz_at h 82 (by decide), zz_at h 83 (by decide)⟩
  | 2 , _ => exact ⟨zz_at h 84 (by decide), zz_at h 85 (by decide)⟩
  | 3 , _ => exact ⟨zz_at h 86 (by decide), zz_at h 87 (by decide)⟩
theorem zz_ho_kept (h : zz_ho Y) : zz_ar Y 41 2 2 := zz_at h 41 (by decide)
theorem zz_ho_markSteps (h : zz_ho Y) : zz_ar Y 43 0 62 := zz_at h 43 (by decide)
theorem zz_ho_looks (h : zz_ho Y) : zz_ar Y 44 0 1271 := zz_at h 44 (by decide)
theorem zz_ho_alike (h : zz_ho Y) : zz_ar Y 45 0 256 := zz_at h 45 (by decide)
theorem zz_mo_o (h : zz_mo Y) : 0 < Y.1.1 ∧ Y.1.2 0 = (16, 0, zz_mp) := zz_mat h 0 (by decide)
theorem zz_mo_st (h : zz_mo Y) : zz_ar Y 1 0 210 := zz_mat h 1 (by decide)
theorem zz_mo_now (h : zz_mo Y) : zz_ar Y 2 0 70 := zz_mat h 2 (by decide)
theorem zz_mo_isKept (h : zz_mo Y) : zz_ar Y 3 2 2 := zz_mat h 3 (by decide)
theorem zz_mo_draft (h : zz_mo Y) : zz_ar Y 4 0 70 := zz_mat h 4 (by decide)
theorem zz_mo_hasTold (h : zz_mo Y) : zz_ar Y 5 2 4 := zz_mat h 5 (by decide)
theorem zz_mo_tape (h : zz_mo Y) : zz_ar Y 6 0 160 := zz_mat h 6 (by decide)
theorem zz_mo_wrongBy (h : zz_mo Y) : zz_ar Y 7 0 3 := zz_mat h 7 (by decide)
theorem zz_mo_blackNow (h : zz_mo Y) : zz_ar Y 8 0 3 := zz_mat h 8 (by decide)
theorem zz_mo_got (h : zz_mo Y) : zz_ar Y 9 0 8 := zz_mat h 9 (by decide)
theorem zz_mo_to (h : zz_mo Y) : zz_ar Y 10 0 8 := zz_mat h 10 (by decide)
theorem zz_mo_blacks (h : zz_mo Y) : zz_ar Y 11 0 123 := zz_mat h 11 (by decide)
theorem zz_mo_byPower (h : zz_mo Y) : zz_ar Y 12 0 1271 := zz_mat h 12 (by decide)
theorem zz_mo_lanes (h : zz_mo Y) : zz_ar Y 13 0 4 := zz_mat h 13 (by decide)
theorem zz_mo_sizes (h : zz_mo Y) : zz_ar Y 14 0 4 := zz_mat h 14 (by decide)
theorem zz_mo_cells (h : zz_mo Y) : zz_ar Y 15 0 160 := zz_mat h 15 (by decide)
theorem zz_mo_before (h : zz_mo Y) : zz_ar Y 16 0 70 := zz_mat h 16 (by decide)
theorem zz_mo_l (h : zz_mo Y) : ∀ i, i ≠ 0 → (Y.1.2 i).1 < 6 := by
  intro i hi
  rw [h]
  show (zz_mlay i).1 < 6
  unfold zz_mlay
  split <;> first | (exact absurd rfl hi) | decide
end ZL
