/-! THE MODEL, fifteenth part: a file's bytes beyond its end say nothing -/
section CG
variable {B C : Nat → Nat} (h : ∀ i, i < 4 * fm_ST B 10 → C i = B i)
theorem fm_ST6 (B : Nat → Nat) (p : Nat) : 6 ≤ fm_ST B p := fm_ST_mono (B := B) (p := 0) (Nat.zero_le p)
theorem cg_HF (h : ∀ i, i < 4 * fm_ST B 10 → C i = B i) {k : Nat} (hk : k < 12) : fm_HF C k = fm_HF B k := by
  have h6 := fm_ST6 B 10
  unfold fm_HF
  rw [h (2 * k) (by omega), h (2 * k + 1) (by omega)]
theorem cg_WD (h : ∀ i, i < 4 * fm_ST B 10 → C i = B i) {p : Nat} (hp : p < 10) : fm_WD C p = fm_WD B p := by
  unfold fm_WD
  rw [cg_HF h (show 1 < 12 by decide), cg_HF h (show 2 < 12 by decide), cg_HF h (show 3 < 12 by decide), cg_HF h (show p + 2 < 12 by omega)]
theorem cg_ST (h : ∀ i, i < 4 * fm_ST B 10 → C i = B i) : ∀ {p : Nat}, p ≤ 10 → fm_ST C p = fm_ST B p := by
  intro p
  induction p with
  | zero => intro _; rfl
  | succ p ih => intro hp; unfold fm_ST; rw [ih (by omega), cg_WD h (by omega)]
theorem cg_AT (h : ∀ i, i < 4 * fm_ST B 10 → C i = B i) {p k b : Nat} (hp : p < 10) (hk : k < fm_WD B p) (hb : b < 4) : fm_AT C p k b = fm_AT B p k b := by
  have h1 : fm_ST B p + k < fm_ST B 10 := fm_in hk hp
  unfold fm_AT
  rw [cg_ST h (show p ≤ 10 by omega)]
  exact h _ (by omega)
theorem cg_WO (h : ∀ i, i < 4 * fm_ST B 10 → C i = B i) {i : Nat} (hi : i < fm_ST B 10) : fm_WO C i = fm_WO B i := by
  unfold fm_WO
  rw [h _ (show 4 * i < 4 * fm_ST B 10 by omega), h _ (show 4 * i + 1 < 4 * fm_ST B 10 by omega), h _ (show 4 * i + 2 < 4 * fm_ST B 10 by omega), h _ (show 4 * i + 3 < 4 * fm_ST B 10 by omega)]
theorem cg_cAT (h : ∀ i, i < 4 * fm_ST B 10 → C i = B i) {c b : Nat} (h1 : fm_HF B 2 ≤ c) (h2 : c ≤ fm_HF B 3) (hb : b < 4) : fm_AT C 1 (c - fm_HF C 2) b = fm_AT B 1 (c - fm_HF B 2) b := by
  rw [cg_HF h (show 2 < 12 by decide)]
  exact cg_AT h (by decide) (by rw [fm_WD1]; omega) hb
theorem cg_th (h : ∀ i, i < 4 * fm_ST B 10 → C i = B i) (c : Nat) : fm_th C c = fm_th B c := by
  by_cases h1 : fm_HF B 2 ≤ c
  · by_cases h2 : c ≤ fm_HF B 3
    · unfold fm_th
      rw [cg_cAT h h1 h2 (by decide), cg_HF h (show 2 < 12 by decide), cg_HF h (show 3 < 12 by decide)]
    · unfold fm_th
      rw [cg_HF h (show 2 < 12 by decide), cg_HF h (show 3 < 12 by decide), decide_eq_false h2]
      simp
  · unfold fm_th
    rw [cg_HF h (show 2 < 12 by decide), cg_HF h (show 3 < 12 by decide), decide_eq_false h1]
    simp
theorem cg_tag (h : ∀ i, i < 4 * fm_ST B 10 → C i = B i) {c : Nat} (h1 : fm_HF B 2 ≤ c) (h2 : c ≤ fm_HF B 3) : fm_tag C c = fm_tag B c := by
  unfold fm_tag; rw [cg_cAT h h1 h2 (by decide)]
theorem cg_rest (h : ∀ i, i < 4 * fm_ST B 10 → C i = B i) {c : Nat} (h1 : fm_HF B 2 ≤ c) (h2 : c ≤ fm_HF B 3) : fm_rest C c = fm_rest B c := by
  unfold fm_rest; rw [cg_cAT h h1 h2 (by decide)]
theorem cg_lead (h : ∀ i, i < 4 * fm_ST B 10 → C i = B i) (c : Nat) : ∀ (n x : Nat), fm_lead C c n x = fm_lead B c n x := by
  intro n
  induction n with
  | zero => intro x; rfl
  | succ n ih =>
    intro x
    unfold fm_lead
    rw [cg_th h x]
    cases hx : fm_th B x with
    | false => simp
    | true =>
      obtain ⟨h1, h2, -⟩ := fm_th_in hx
      rw [cg_tag h h1 h2, cg_rest h h1 h2, ih]
theorem cg_tag1 (h : ∀ i, i < 4 * fm_ST B 10 → C i = B i) {c : Nat} (h1 : fm_HF B 2 ≤ c) (h2 : c ≤ fm_HF B 3) : fm_tag1 C c = fm_tag1 B c := by
  unfold fm_tag1 fm_larger
  rw [cg_th h, cg_th h, cg_tag h h1 h2, cg_rest h h1 h2, cg_lead h, cg_WD h (show 6 < 10 by decide), cg_WD h (show 8 < 10 by decide)]
theorem cg_size1 (h : ∀ i, i < 4 * fm_ST B 10 → C i = B i) {k : Nat} (hk : k < fm_WD B 1) : fm_size1 C k = fm_size1 B k := by
  unfold fm_size1
  rw [cg_AT h (by decide) hk (show 0 < 4 by decide), cg_AT h (by decide) hk (show 1 < 4 by decide), cg_AT h (by decide) hk (show 2 < 4 by decide), cg_WD h (show 2 < 10 by decide), cg_WD h (show 3 < 10 by decide), cg_WD h (show 4 < 10 by decide), cg_WD h (show 5 < 10 by decide)]
theorem cg_fracs (h : ∀ i, i < 4 * fm_ST B 10 → C i = B i) {p first : Nat} (hp : p < 10) : fm_fracs C p first = fm_fracs B p first := by
  unfold fm_fracs
  rw [cg_WD h hp]
  refine fm_all_congr (fun k hk => ?_)
  unfold fm_fr fm_frac
  rw [cg_AT h hp hk (show 0 < 4 by decide)]
theorem cg_few (h : ∀ i, i < 4 * fm_ST B 10 → C i = B i) : fm_few C = fm_few B := by
  unfold fm_few
  rw [cg_WD h (show 0 < 10 by decide), cg_WD h (show 8 < 10 by decide)]
  rw [fm_all_congr (n := 4) (p := fm_nz C) (q := fm_nz B) (fun k hk => by unfold fm_nz; rw [cg_WD h (by omega)])]
theorem cg_tables (h : ∀ i, i < 4 * fm_ST B 10 → C i = B i) (hf : fm_few B = false) : fm_tables C = fm_tables B := by
  have hne := fm_few_ne hf
  unfold fm_tables
  rw [cg_fracs h (by decide)]
  rw [fm_all_congr (n := 4) (p := fm_tab1 C) (q := fm_tab1 B) (fun j hj => ?_)]
  unfold fm_tab1
  rw [cg_fracs h (by omega)]
  rw [fm_all_congr (n := 4) (p := fm_zb C (j + 2)) (q := fm_zb B (j + 2)) (fun b hb => by unfold fm_zb; rw [cg_AT h (by omega) (hne (j + 2) (by omega) (by omega)) hb])]
theorem cg_eg (h : ∀ i, i < 4 * fm_ST B 10 → C i = B i) : fm_eg C = fm_eg B := by
  unfold fm_eg
  rw [cg_WD h (show 6 < 10 by decide)]
  by_cases h0 : 0 < fm_WD B 6
  · rw [cg_AT h (by decide) h0 (show 0 < 4 by decide), cg_AT h (by decide) h0 (show 1 < 4 by decide)]
  · rw [if_neg (fun z => h0 z.1), if_neg (fun z => h0 z.1)]
theorem cg_word1 (h : ∀ i, i < 4 * fm_ST B 10 → C i = B i) {k : Nat} (hk : k < fm_WD B 6) : fm_word1 C k = fm_word1 B k := by
  unfold fm_word1 fm_w1 fm_w2 fm_w3 fm_FAR
  rw [cg_AT h (by decide) hk (show 0 < 4 by decide), cg_AT h (by decide) hk (show 1 < 4 by decide), cg_AT h (by decide) hk (show 2 < 4 by decide), cg_AT h (by decide) hk (show 3 < 4 by decide), cg_th h, cg_th h, cg_eg h, cg_WD h (show 6 < 10 by decide), cg_WD h (show 7 < 10 by decide)]
theorem cg_recipe1 (h : ∀ i, i < 4 * fm_ST B 10 → C i = B i) {k : Nat} (hk : k < fm_WD B 8) : fm_recipe1 C k = fm_recipe1 B k := by
  unfold fm_recipe1
  rw [cg_AT h (by decide) hk (show 3 < 4 by decide), cg_th h]
  rw [fm_all_congr (n := 3) (p := fm_rec C k) (q := fm_rec B k) (fun b hb => by unfold fm_rec; rw [cg_AT h (by decide) hk (show b < 4 by omega), cg_th h])]
theorem cg_Len (h : ∀ i, i < 4 * fm_ST B 10 → C i = B i) (hC : ∀ i, C i < 256) (hL : fm_Len B) : fm_Len C := by
  obtain ⟨-, h1, h2, h3⟩ := hL
  exact ⟨hC, by rw [cg_HF h (show 2 < 12 by decide), cg_HF h (show 3 < 12 by decide)]; exact h1, by rw [cg_HF h (show 3 < 12 by decide)]; exact h2, by rw [cg_ST h (Nat.le_refl 10)]; exact h3⟩
theorem cg_ST8 (hf : fm_few B = false) : 8 ≤ fm_ST B 10 := by
  have h2 : ¬ fm_WD B 0 < 2 := fun z => by rw [fm_few_t (Or.inl z)] at hf; cases hf
  have h3 : fm_ST B 1 ≤ fm_ST B 10 := fm_ST_mono (by decide)
  have h4 : fm_ST B 1 = 6 + fm_WD B 0 := rfl
  omega
theorem cg_V (h : ∀ i, i < 4 * fm_ST B 10 → C i = B i) (hC : ∀ i, C i < 256) (hV : fm_V B) : fm_V C := by
  obtain ⟨hL, hf, h5, h6, h7, h8, h9, h10, h11⟩ := hV
  have h8' := cg_ST8 hf
  refine ⟨cg_Len h hC hL, by rw [cg_few h]; exact hf, by rw [cg_WO h (by omega)]; exact h5, ?_, ?_, by rw [cg_tables h hf]; exact h8, ?_, ?_, by rw [cg_fracs h (by decide)]; exact h11⟩
  · rw [cg_WD h (by decide), fm_all_congr (fun k hk => cg_size1 h hk)]; exact h6
  · rw [cg_WD h (by decide), fm_all_congr (q := fun k => fm_tag1 B (fm_HF B 2 + k)) (fun k hk => ?_)]
    · exact h7
    · rw [fm_WD1] at hk
      show fm_tag1 C (fm_HF C 2 + k) = fm_tag1 B (fm_HF B 2 + k)
      rw [cg_HF h (show 2 < 12 by decide)]
      exact cg_tag1 h (by omega) (by omega)
  · rw [cg_WD h (by decide), fm_all_congr (fun k hk => cg_word1 h hk)]; exact h9
  · rw [cg_WD h (by decide), fm_all_congr (fun k hk => cg_recipe1 h hk)]; exact h10
theorem cg_FO (h : ∀ i, i < 4 * fm_ST B 10 → C i = B i) (hC : ∀ i, C i < 256) {w st ln : Nat → Int32} (hF : fm_FO B w st ln) : fm_FO C w st ln := by
  obtain ⟨hL, h1, h2, h3⟩ := hF
  refine ⟨cg_Len h hC hL, fun i hi => ?_, fun p hp => ?_, fun p hp => ?_⟩
  · rw [cg_ST h (Nat.le_refl 10)] at hi
    rw [cg_WO h hi]; exact h1 i hi
  · rw [cg_ST h (by omega)]; exact h2 p hp
  · rw [cg_WD h hp]; exact h3 p hp
end CG
/-! .. and the file as both keep it -/
theorem fm_RB_byt {f : Nat → Int32} {i n : Nat} (hi : i < n) (g : Nat → Int32) : fm_RB (fm_cp f g n) i = fm_RB f i := by
  unfold fm_RB; rw [fm_cp_in hi]
theorem fm_Fl_pu {b f : Nat → Int32} {n k : Nat} (X : Int64) (hk : k < 8) (h : fm_Fl b (fm_RB f) n) : fm_Fl (fm_pu b n (fm_lb X k)) (fm_RB (upd f n (fm_sb X k))) (n + 1) := by
  intro i hi
  unfold fm_pu fm_RB
  by_cases e : i = n
  · subst e
    rw [upd, if_pos rfl, upd, if_pos rfl, fm_pw_by _ (fm_lb_lt X k) (Nat.mod_lt _ (by decide)), if_pos rfl, fm_sbR X hk]
  · rw [upd, upd, if_neg e]
    by_cases e2 : i / 4 = n / 4
    · rw [if_pos e2, fm_pw_by _ (fm_lb_lt X k) (Nat.mod_lt _ (by decide)), if_neg (by omega), ← e2]
      exact h i (by omega)
    · rw [if_neg e2]
      exact h i (by omega)
theorem fm_Fl_app (X : Int64) : ∀ (k : Nat) {b f : Nat → Int32} {n : Nat}, k ≤ 8 → fm_Fl b (fm_RB f) n → fm_Fl (fm_app b n X k) (fm_RB (fm_apr f n X k)) (n + k) := by
  intro k
  induction k with
  | zero => intro b f n _ h; exact h
  | succ k ih =>
    intro b f n hk h
    have h1 := ih (n := n + 1) (by omega) (fm_Fl_pu (k := k) X (by omega) h)
    rw [show n + (k + 1) = n + 1 + k by omega]
    exact h1
theorem fm_sb_byt (X : Int64) (k : Nat) : vp_nar .byte (fm_sb X k) = fm_sb X k := pk_vb _
theorem fm_Byt_apr (X : Int64) : ∀ (k : Nat) {f : Nat → Int32} {n : Nat}, fm_Byt f → fm_Byt (fm_apr f n X k) := by
  intro k
  induction k with
  | zero => intro f n h; exact h
  | succ k ih =>
    intro f n h
    refine ih (fun j => ?_)
    unfold upd
    split
    · exact fm_sb_byt X k
    · exact h j
theorem fm_Fl_le {b : Nat → Int32} {B : Nat → Nat} {n k : Nat} (h : fm_Fl b B n) (hk : k ≤ n) : fm_Fl b B k := fun i hi => h i (by omega)
theorem fm_s1_lt {B : Nat → Nat} (hB : ∀ i, B i < 256) (h : ¬ nI (fm_WO B 7) < nI 1048576) {a : Nat} (ha : a ≤ 134217727) : fm_s1 B a < 134217728 := by
  have h1 := (fm_design hB h).1
  unfold fm_s1
  split <;> omega
theorem fm_s1_I {B : Nat → Nat} (hB : ∀ i, B i < 256) (h : ¬ nI (fm_WO B 7) < nI 1048576) (a : Nat) : (if 0 < a then nI a else nI (fm_WO B 7) >>> (nI 4 &&& 31)) = nI (fm_s1 B a) := by
  unfold fm_s1
  by_cases e : a = 0
  · subst e; rw [if_neg (by decide), if_pos rfl]; exact (fm_design hB h).2.2
  · rw [if_pos (by omega), if_neg e]
