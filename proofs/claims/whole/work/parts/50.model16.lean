/-! THE MODEL, sixteenth part: how the class's state and the reference's belong together -/
/-- the items as both keep them -/
def fm_IL (B : Nat → Nat) (vl kn kd wd : Nat → Int32) (cn : Nat) : Prop := ∃ L : List (Nat × Int32), L.length = cn ∧ fm_CL vl kn L ∧ fm_RL kd wd L ∧ ∀ q ∈ L, q.1 = 257 ∨ fm_th B q.1 = true
theorem fm_IL_0 (B : Nat → Nat) (vl kn kd wd : Nat → Int32) : fm_IL B vl kn kd wd 0 := ⟨[], rfl, fm_CL_nil _ _, fm_RL_nil _ _, fun q h => by cases h⟩
theorem fm_IL_at {B : Nat → Nat} (hL : fm_Len B) {vl kn kd wd : Nat → Int32} {cn i : Nat} (h : fm_IL B vl kn kd wd cn) (hi : i < cn) : (kn i ≠ 0 ∧ kd i = nI 257 ∧ vl i = wd i) ∨ (kn i = 0 ∧ ∃ c, c ≠ 257 ∧ fm_th B c = true ∧ kd i = nI c ∧ kd i ≠ nI 257 ∧ vl i = nI c) := by
  obtain ⟨L, rfl, hC, hR, ho⟩ := h
  obtain ⟨q, hq⟩ : ∃ q, L[i]? = some q := ⟨L[i], List.getElem?_eq_getElem hi⟩
  obtain ⟨c1, c2⟩ := hC i q hq
  obtain ⟨r1, r2⟩ := hR i q hq
  by_cases e : q.1 = 257
  · left
    rw [decide_eq_true e] at c2
    rw [if_pos e] at c1
    exact ⟨by rw [c2]; decide, by rw [r1, e], by rw [c1, r2]⟩
  · right
    rw [decide_eq_false e] at c2
    rw [if_neg e] at c1
    have h1 := (ho q (List.mem_of_getElem? hq)).resolve_left e
    have h2 := fm_le256 hL (Or.inr h1)
    exact ⟨by rw [c2]; rfl, q.1, e, h1, r1, by rw [r1]; exact fun z => e ((nI_eq (by omega) (by decide)).mp z), c1⟩
theorem fm_IL_tot {B : Nat → Nat} (hL : fm_Len B) {vl kn kd wd : Nat → Int32} {cn : Nat} (h : fm_IL B vl kn kd wd cn) (s : Nat) : ∀ k, k ≤ cn → fm_totC B s vl kn k = fm_tot B s kd wd k := by
  intro k
  induction k with
  | zero => intro _; rfl
  | succ k ih =>
    intro hk
    unfold fm_totC fm_tot
    rw [ih (by omega)]
    rcases fm_IL_at hL h (show k < cn by omega) with ⟨h1, h2, h3⟩ | ⟨h1, c, -, -, h2, h3, h4⟩
    · rw [if_pos h1, if_pos h2, h3]
    · rw [if_neg (fun z => z h1), if_neg h3, h4, h2]
theorem fm_IL_C {B : Nat → Nat} (hL : fm_Len B) {vl kn kd wd : Nat → Int32} {cn : Nat} (h : fm_IL B vl kn kd wd cn) : ∀ i, i < cn → kn i ≠ 0 ∨ ∃ c, vl i = nI c ∧ fm_th B c = true := fun i hi => by
  rcases fm_IL_at hL h hi with ⟨h1, -, -⟩ | ⟨-, c, -, h1, -, -, h4⟩
  · exact Or.inl h1
  · exact Or.inr ⟨c, h4, h1⟩
theorem fm_IL_R {B : Nat → Nat} (hL : fm_Len B) {vl kn kd wd : Nat → Int32} {cn : Nat} (h : fm_IL B vl kn kd wd cn) : ∀ i, i < cn → kd i = nI 257 ∨ ∃ c, kd i = nI c ∧ fm_th B c = true := fun i hi => by
  rcases fm_IL_at hL h hi with ⟨-, h1, -⟩ | ⟨-, c, -, h1, h2, -, -⟩
  · exact Or.inl h1
  · exact Or.inr ⟨c, h2, h1⟩
theorem fm_set_L {B : Nat → Nat} (hV : fm_V B) {r : Nat → Nat} {rn : Nat} (hrn : rn ≤ 64) (hy : fm_all rn (fun i => fm_th B (r i)) = true) (s : Nat) : ∃ L : List (Nat × Int32), fm_sN (fm_set B s (fm_T0 B r rn)) = L.length ∧ L.length ≤ 1066 ∧ (∀ q ∈ L, q.1 = 257 ∨ fm_th B q.1 = true) ∧ (fm_set B s (fm_T0 B r rn) = some L ∨ L = []) := by
  cases hs : fm_set B s (fm_T0 B r rn) with
  | none => exact ⟨[], rfl, by decide, (fun q h => nomatch h), Or.inr rfl⟩
  | some L =>
    refine ⟨L, rfl, ?_, ?_, Or.inl rfl⟩
    all_goals
      unfold fm_set at hs
      cases hr : fm_run B s 1000 [] (fm_T0 B r rn) with
      | none => rw [hr] at hs; cases hs
      | some L0 =>
        rw [hr] at hs
        have hs' : fm_its L0 = L := Option.some.inj hs
        obtain ⟨h1, h2⟩ := fm_run_okI hV 1000 [] (fm_T0 B r rn) L0 (fun q h => by cases h) (fm_T0_ok hy) hr
        subst hs'
        first
          | (have h3 := fm_its_len L0
             have h4 : (fm_T0 B r rn).length ≤ 66 := by
               have h5 := fm_E1_len B
               have h6 := fm_E2_len B
               unfold fm_T0
               rw [List.length_append, List.length_append, fm_row_len]
               omega
             simp only [List.length_nil] at h2
             omega)
          | (intro q hq
             unfold fm_its at hq
             obtain ⟨h3, h4⟩ := List.mem_filter.mp hq
             have h5 : q.1 ≠ 256 := of_decide_eq_true h4
             exact (h1 q h3).resolve_left h5)
theorem fm_IL_set {B : Nat → Nat} (hV : fm_V B) {r : Nat → Nat} {rn : Nat} (hrn : rn ≤ 64) (hy : fm_all rn (fun i => fm_th B (r i)) = true) {s : Nat} {vl kn kd wd : Nat → Int32} (h1 : ∀ L, fm_set B s (fm_T0 B r rn) = some L → fm_CL vl kn L) (h2 : ∀ L, fm_set B s (fm_T0 B r rn) = some L → fm_RL kd wd L) : fm_IL B vl kn kd wd (fm_sN (fm_set B s (fm_T0 B r rn))) ∧ fm_sN (fm_set B s (fm_T0 B r rn)) ≤ 1066 := by
  obtain ⟨L, e, hl, ho, hx⟩ := fm_set_L hV hrn hy s
  rw [e]
  refine ⟨⟨L, rfl, ?_, ?_, ho⟩, hl⟩
  · rcases hx with hx | hx
    · exact h1 L hx
    · subst hx; exact fm_CL_nil _ _
  · rcases hx with hx | hx
    · exact h2 L hx
    · subst hx; exact fm_RL_nil _ _
/-- the row as both keep it -/
def fm_Rw (rn : Nat) (rw rb : Nat → Int32) : Prop := ∀ i, i < rn → rw i = nI (fm_RB rb i)
theorem fm_Rw_r {rn : Nat} {rw rb : Nat → Int32} (h : fm_Rw rn rw rb) : ∀ i, i < rn → rw i = nI (fm_RB rb i) ∧ fm_RB rb i ≤ 255 := fun i hi => ⟨h i hi, Nat.le_of_lt_succ (fm_RB_lt rb i)⟩
theorem fm_Rw_add {rn c : Nat} {rw rb : Nat → Int32} (h : fm_Rw rn rw rb) (hc : c ≤ 255) : fm_Rw (rn + 1) (upd rw rn (nI c)) (upd rb rn ((nI c).toInt8.toInt32)) := by
  intro i hi
  by_cases e : i = rn
  · subst e
    rw [← fm_RB_and, upd, if_pos rfl, upd, if_pos rfl]
    rw [show (nI 255 : Int32) = 255 from rfl, bp_b, show (nI c &&& 255 : Int32) = nI ((nI c).toBitVec.toNat % 2 ^ 8) from pk_and (nI c) 8 (by decide), pk_tn (by omega), Nat.mod_eq_of_lt (by omega)]
  · have h1 : fm_RB (upd rb rn ((nI c).toInt8.toInt32)) i = fm_RB rb i := by unfold fm_RB upd; rw [if_neg e]
    rw [h1, upd, if_neg e]
    exact h i (by omega)
/-- class and reference belong together -/
def fm_J (n : Nat) (b f : Nat → Int32) (rn : Nat) (rw rb : Nat → Int32) (ld cn : Nat) (vl kn kd wd g : Nat → Int32) (s0 : Nat) (bc ec sz sc hv : Int32) (w st ln : Nat → Int32) : Prop :=
  n ≤ 8192 ∧ fm_Fl b (fm_RB f) n ∧ fm_Byt f ∧ rn ≤ 64 ∧ fm_Rw rn rw rb ∧ ld ≤ 1 ∧ cn ≤ 1066 ∧ fm_IL (fm_RB g) vl kn kd wd cn ∧ (0 < cn → ld = 1) ∧
  (ld = 1 → fm_FO (fm_RB g) w st ln ∧ fm_V (fm_RB g) ∧ s0 < 134217728 ∧ bc = nI (fm_HF (fm_RB g) 2) ∧ ec = nI (fm_HF (fm_RB g) 3) ∧ sz = nI s0 ∧ sc = nI (fm_z s0) ∧ hv = nI (fm_h s0))
theorem fm_J_load {n : Nat} {b f : Nat → Int32} {rn : Nat} {rw rb : Nat → Int32} {ld cn : Nat} {vl kn kd wd g : Nat → Int32} {s0 : Nat} {bc ec sz sc hv : Int32} {w st ln : Nat → Int32} (hJ : fm_J n b f rn rw rb ld cn vl kn kd wd g s0 bc ec sz sc hv w st ln) (hft : fm_fault (fm_RB f) n = 0) {a : Nat} (ha : a ≤ 134217727) (w2 st2 ln2 : Nat → Int32) :
    fm_Len (fm_RB (fm_cp f g n)) ∧ (if 0 < a then nI a else nI (fm_WO (fm_RB (fm_cp f g n)) 7) >>> (nI 4 &&& 31)) = nI (fm_s1 (fm_RB f) a) ∧
    fm_J n b f rn rw rb 1 0 vl kn kd wd (fm_cp f g n) (fm_s1 (fm_RB f) a) (nI (fm_nb (fm_tk b w2) 2)) (nI (fm_nb (fm_tk b w2) 3)) (nI (fm_s1 (fm_RB f) a)) (nI (fm_z (fm_s1 (fm_RB f) a))) (nI (fm_h (fm_s1 (fm_RB f) a))) (fm_tk b w2) (fm_cp (fm_sI (fm_tk b w2)) st2 10) (fm_cp (fm_ln (fm_tk b w2)) ln2 10) := by
  obtain ⟨h1, h2, h3, h4, h5, h6, h7, h8, h9, h10⟩ := hJ
  have hB := fm_RB_lt f
  rw [fm_fault_eq] at hft
  have hf4 : fm_f4 (fm_RB f) n = 0 := Decidable.byContradiction fun z => by rw [if_neg z] at hft; exact z hft
  rw [if_pos hf4] at hft
  obtain ⟨hL, hfew, hn4⟩ := fm_f4_0 hB h1 hf4
  have hV := fm_parts_0 hL hfew hft
  have hcg : ∀ i, i < 4 * fm_ST (fm_RB f) 10 → fm_RB (fm_cp f g n) i = fm_RB f i := fun i hi => fm_RB_byt (by omega) g
  have hC := fm_RB_lt (fm_cp f g n)
  have hL' := cg_Len hcg hC hL
  have hV' := cg_V hcg hC hV
  obtain ⟨hF, e2, e3⟩ := fm_tk_FO (w := w2) (st := st2) (ln := ln2) h1 hL hn4 h2
  have h8' := cg_ST8 hfew
  refine ⟨hL', ?_, h1, h2, h3, h4, h5, by decide, by decide, fm_IL_0 _ _ _ _ _, fun z => rfl, fun _ => ⟨cg_FO hcg hC hF, hV', fm_s1_lt hB hV.2.2.1 ha, ?_, ?_, rfl, rfl, rfl⟩⟩
  · rw [cg_WO hcg (by omega)]
    exact fm_s1_I hB hV.2.2.1 a
  · rw [e2, cg_HF hcg (by decide)]
  · rw [e3, cg_HF hcg (by decide)]
theorem fm_lcmp0 (x : Int64) : lg_cmp x x = 0 := by
  unfold lg_cmp
  simp
theorem fm_updL0 (f : Nat → Int64) (x : Int64) : vp_updL f 0 x 0 = x := by
  unfold vp_updL
  simp
