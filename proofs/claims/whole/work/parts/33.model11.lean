/-! THE MODEL, eleventh part: a step of the reference -/
theorem fm_RL_0 {kd wd : Nat → Int32} {D : List (Nat × Int32)} {x : Nat} {T : List Nat} (h : fm_RL kd wd (D ++ fm_c0 (x :: T))) : kd D.length = nI x :=
  (h D.length (x, 0) (by rw [List.getElem?_append_right (Nat.le_refl _), Nat.sub_self]; rfl)).1
theorem fm_RL_1 {kd wd : Nat → Int32} {D : List (Nat × Int32)} {x r : Nat} {T : List Nat} (h : fm_RL kd wd (D ++ fm_c0 (x :: r :: T))) : kd (D.length + 1) = nI r :=
  (h (D.length + 1) (r, 0) (by rw [List.getElem?_append_right (Nat.le_succ _), show D.length + 1 - D.length = 1 by omega]; rfl)).1
theorem fm_RL_i1 {kd wd : Nat → Int32} {D : List (Nat × Int32)} {x cn : Nat} {T : List Nat} (h : fm_RL kd wd (D ++ fm_c0 (x :: T))) (hcn : cn = D.length + (T.length + 1)) (a : Nat) (w : Int32) : fm_RL (fm_ins kd cn (D.length + 1) (nI a)) (fm_ins wd cn (D.length + 1) w) ((D ++ [(x, 0)]) ++ (a, w) :: fm_c0 T) := by
  have h1 : fm_RL kd wd ((D ++ [(x, 0)]) ++ fm_c0 T) := by rw [List.append_assoc]; exact h
  have h2 := fm_RL_ins h1 a w
  have e1 : ((D ++ [((x, 0) : Nat × Int32)]) ++ fm_c0 T).length = cn := by simp [fm_c0]; omega
  have e2 : (D ++ [((x, 0) : Nat × Int32)]).length = D.length + 1 := by simp
  rw [e1, e2] at h2
  exact h2
theorem fm_RL_11 {kd wd : Nat → Int32} {D : List (Nat × Int32)} {x r z cn op : Nat} {R : List Nat} (h : fm_RL kd wd (D ++ fm_c0 (x :: r :: R))) (hcn : cn = D.length + (R.length + 2)) (h1 : ¬ op % 2 = 0) (h2 : ¬ op / 2 % 2 = 0) : fm_RL (fm_ins kd cn (D.length + 1) (nI z)) (fm_ins wd cn (D.length + 1) (nI 0)) (D ++ fm_c0 (fm_new op z x r R)) := by
  have h3 := fm_RL_i1 (cn := cn) h (by rw [hcn]; rfl) z (nI 0)
  rw [show D ++ fm_c0 (fm_new op z x r R) = (D ++ [(x, 0)]) ++ (z, nI 0) :: fm_c0 (r :: R) by unfold fm_new; rw [if_pos (show op / 2 % 2 = 1 by omega), if_pos (show op % 2 = 1 by omega)]; simp [fm_c0]; rfl]
  exact h3
theorem fm_RL_10 {kd wd : Nat → Int32} {D : List (Nat × Int32)} {x r z cn op : Nat} {R : List Nat} (h : fm_RL kd wd (D ++ fm_c0 (x :: r :: R))) (hcn : cn = D.length + (R.length + 2)) (h1 : op % 2 = 0) (h2 : ¬ op / 2 % 2 = 0) : fm_RL (fm_rm (fm_ins kd cn (D.length + 1) (nI z)) (D.length + 2) (cn + 1 - 1)) (fm_rm (fm_ins wd cn (D.length + 1) (nI 0)) (D.length + 2) (cn + 1 - 1)) (D ++ fm_c0 (fm_new op z x r R)) := by
  have h3 := fm_RL_i1 (cn := cn) h (by rw [hcn]; rfl) z (nI 0)
  have h4 : fm_RL (fm_ins kd cn (D.length + 1) (nI z)) (fm_ins wd cn (D.length + 1) (nI 0)) ((D ++ [(x, 0), (z, nI 0)]) ++ (r, 0) :: fm_c0 R) := by
    rw [show (D ++ [((x, 0) : Nat × Int32), (z, nI 0)]) ++ (r, 0) :: fm_c0 R = (D ++ [(x, 0)]) ++ (z, nI 0) :: fm_c0 (r :: R) by simp [fm_c0]]
    exact h3
  have h5 := fm_RL_rm h4
  have e1 : ((D ++ [((x, 0) : Nat × Int32), (z, nI 0)]) ++ (r, 0) :: fm_c0 R).length = cn + 1 := by simp [fm_c0]; omega
  have e2 : (D ++ [((x, 0) : Nat × Int32), (z, nI 0)]).length = D.length + 2 := by simp
  rw [e1, e2] at h5
  rw [show D ++ fm_c0 (fm_new op z x r R) = (D ++ [(x, 0), (z, nI 0)]) ++ fm_c0 R by unfold fm_new; rw [if_pos (show op / 2 % 2 = 1 by omega), if_neg (show ¬ op % 2 = 1 by omega)]; simp [fm_c0]; rfl]
  exact h5
theorem fm_RL_01 {kd wd : Nat → Int32} {D : List (Nat × Int32)} {x r z cn op : Nat} {R : List Nat} (h : fm_RL kd wd (D ++ fm_c0 (x :: r :: R))) (hcn : cn = D.length + (R.length + 2)) (h1 : ¬ op % 2 = 0) (h2 : op / 2 % 2 = 0) : fm_RL (fm_rm (fm_ins kd cn (D.length + 1) (nI z)) D.length (cn + 1 - 1)) (fm_rm (fm_ins wd cn (D.length + 1) (nI 0)) D.length (cn + 1 - 1)) (D ++ fm_c0 (fm_new op z x r R)) := by
  have h3 := fm_RL_i1 (cn := cn) h (by rw [hcn]; rfl) z (nI 0)
  have h4 : fm_RL (fm_ins kd cn (D.length + 1) (nI z)) (fm_ins wd cn (D.length + 1) (nI 0)) (D ++ (x, 0) :: ((z, nI 0) :: fm_c0 (r :: R))) := by
    rw [show D ++ ((x, 0) : Nat × Int32) :: ((z, nI 0) :: fm_c0 (r :: R)) = (D ++ [(x, 0)]) ++ (z, nI 0) :: fm_c0 (r :: R) by simp]
    exact h3
  have h5 := fm_RL_rm h4
  have e1 : (D ++ ((x, 0) : Nat × Int32) :: ((z, nI 0) :: fm_c0 (r :: R))).length = cn + 1 := by simp [fm_c0]; omega
  rw [e1] at h5
  rw [show D ++ fm_c0 (fm_new op z x r R) = D ++ ((z, nI 0) :: fm_c0 (r :: R)) by unfold fm_new; rw [if_neg (show ¬ op / 2 % 2 = 1 by omega), if_pos (show op % 2 = 1 by omega)]; simp [fm_c0]; rfl]
  exact h5
theorem fm_RL_00 {kd wd : Nat → Int32} {D : List (Nat × Int32)} {x r z cn op : Nat} {R : List Nat} (h : fm_RL kd wd (D ++ fm_c0 (x :: r :: R))) (hcn : cn = D.length + (R.length + 2)) (h1 : op % 2 = 0) (h2 : op / 2 % 2 = 0) : fm_RL (fm_rm (fm_rm (fm_ins kd cn (D.length + 1) (nI z)) (D.length + 2) (cn + 1 - 1)) D.length (cn + 1 - 1 - 1)) (fm_rm (fm_rm (fm_ins wd cn (D.length + 1) (nI 0)) (D.length + 2) (cn + 1 - 1)) D.length (cn + 1 - 1 - 1)) (D ++ fm_c0 (fm_new op z x r R)) := by
  have h3 := fm_RL_i1 (cn := cn) h (by rw [hcn]; rfl) z (nI 0)
  have h4 : fm_RL (fm_ins kd cn (D.length + 1) (nI z)) (fm_ins wd cn (D.length + 1) (nI 0)) ((D ++ [(x, 0), (z, nI 0)]) ++ (r, 0) :: fm_c0 R) := by
    rw [show (D ++ [((x, 0) : Nat × Int32), (z, nI 0)]) ++ (r, 0) :: fm_c0 R = (D ++ [(x, 0)]) ++ (z, nI 0) :: fm_c0 (r :: R) by simp [fm_c0]]
    exact h3
  have h5 := fm_RL_rm h4
  have e1 : ((D ++ [((x, 0) : Nat × Int32), (z, nI 0)]) ++ (r, 0) :: fm_c0 R).length = cn + 1 := by simp [fm_c0]; omega
  have e2 : (D ++ [((x, 0) : Nat × Int32), (z, nI 0)]).length = D.length + 2 := by simp
  rw [e1, e2] at h5
  rw [show (D ++ [((x, 0) : Nat × Int32), (z, nI 0)]) ++ fm_c0 R = D ++ (x, 0) :: ((z, nI 0) :: fm_c0 R) by simp] at h5
  have h6 := fm_RL_rm h5
  have e3 : (D ++ ((x, 0) : Nat × Int32) :: ((z, nI 0) :: fm_c0 R)).length = cn + 1 - 1 := by simp [fm_c0]; omega
  rw [e3] at h6
  rw [show D ++ fm_c0 (fm_new op z x r R) = D ++ ((z, nI 0) :: fm_c0 R) by unfold fm_new; rw [if_neg (show ¬ op / 2 % 2 = 1 by omega), if_neg (show ¬ op % 2 = 1 by omega)]; simp [fm_c0]; rfl]
  exact h6
theorem fm_new_11 {op z x r : Nat} {R : List Nat} (h1 : ¬ op % 2 = 0) (h2 : ¬ op / 2 % 2 = 0) : (fm_new op z x r R).length = R.length + 3 := by
  unfold fm_new; rw [if_pos (show op / 2 % 2 = 1 by omega), if_pos (show op % 2 = 1 by omega)]; simp
theorem fm_new_10 {op z x r : Nat} {R : List Nat} (h1 : op % 2 = 0) (h2 : ¬ op / 2 % 2 = 0) : (fm_new op z x r R).length = R.length + 2 := by
  unfold fm_new; rw [if_pos (show op / 2 % 2 = 1 by omega), if_neg (show ¬ op % 2 = 1 by omega)]; simp
theorem fm_new_01 {op z x r : Nat} {R : List Nat} (h1 : ¬ op % 2 = 0) (h2 : op / 2 % 2 = 0) : (fm_new op z x r R).length = R.length + 2 := by
  unfold fm_new; rw [if_neg (show ¬ op / 2 % 2 = 1 by omega), if_pos (show op % 2 = 1 by omega)]; simp
theorem fm_new_00 {op z x r : Nat} {R : List Nat} (h1 : op % 2 = 0) (h2 : op / 2 % 2 = 0) : (fm_new op z x r R).length = R.length + 1 := by
  unfold fm_new; rw [if_neg (show ¬ op / 2 % 2 = 1 by omega), if_neg (show ¬ op % 2 = 1 by omega)]; simp
