/-! SHAPES OF THE FACTS -/
abbrev zI9 (a : Nat) (y : zY) (me : zP) (env : List (Nat × Nat)) (x : zJ) (n : Nat) : Prop := zIok zX y.1.cls y.1.name y.2.1 y.2.2.1 (zW a) zcl zft (zGv env) me x n
abbrev zR9 (a : Nat) (env : List (Nat × Nat)) (x : zJ) : Prop := zRok zX (z_QF zEX zcl zft) zYf zW zET zcl zft (zGv env) a x
abbrev zC9 (a : Nat) (me : zP) (env : List (Nat × Nat)) (x : zJ) : Prop := zCok zX (z_QF zEX zcl zft) (z_zm zEX zX zWL zcl zft zYf) zYf zW zET zcl zft (zGv env) a me x
abbrev zL9 (a : Nat) (env : List (Nat × Nat)) (x : zJ) (n : Nat) : Prop := zLok zX zYf zW zET zcl zft (zGv env) a x n
theorem zft_all {env : List (Nat × Nat)} : zft_ok (zGv env) zcl zft := by
  intro w ci h
  have h : z_at zgc w = some (ci + 1) := h
  match w, h with
  | 0, h => cases h
  | 1, h => cases h
  | 2, h => cases h
  | 3, h => cases h
  | 4, h => cases h; exact ⟨_, rfl, rfl⟩
  | 5, h => cases h; exact ⟨_, rfl, rfl⟩
  | 6, h => cases h; exact ⟨_, rfl, rfl⟩
  | 7, h => cases h; exact ⟨_, rfl, rfl⟩
  | 8, h => cases h
  | 9, h => cases h; exact ⟨_, rfl, rfl⟩
  | 10, h => cases h; exact ⟨_, rfl, rfl⟩
  | 11, h => cases h
  | 12, h => cases h
  | 13, h => cases h; exact ⟨_, rfl, rfl⟩
  | 14, h => cases h; exact ⟨_, rfl, rfl⟩
  | w + 15, h => exact absurd (show (none : Option Nat) = some (ci + 1) from h) (by simp)
def znames : List String := ["java/lang/RuntimeException", "java/lang/Exception"]
theorem zfit_0 : Bundle.fit (zEX 0) = true := by decide +kernel
theorem zfit_1 : Bundle.fit (zEX 1) = true := by decide +kernel
theorem zfit_2 : Bundle.fit (zEX 2) = true := by decide +kernel
theorem znf : ∀ n ∈ znames, Bundle.fit n = true := by decide +kernel
/-- what a throw's words are beside the constructor's link -/
def zrest (x : Nat) : List Cond := (Bundle.throwableAtoms ++ Bundle.chain0Atoms (zEX x) znames ++ (Bundle.ownAtoms0 "" 0 (zEX x) znames).drop ((Bundle.throwableAtoms ++ Bundle.chain0Atoms (zEX x) znames).length + 1)).filter vx_no
theorem zrest_in {own : String} {ic x : Nat} {w : Cond} (h : w ∈ vx_at0 own ic (zEX x) znames) : w = .methodLink own ic (Bundle.init0 (zEX x)) ∨ w ∈ zrest x := by
  obtain ⟨h1, h2⟩ := List.mem_filter.mp h
  have h1 : w ∈ (Bundle.throwableAtoms ++ Bundle.chain0Atoms (zEX x) znames) ++ _ := h1
  rcases List.mem_append.mp h1 with h1 | h1
  · exact Or.inr (List.mem_filter.mpr ⟨List.mem_append_left _ h1, h2⟩)
  · rcases List.mem_cons.mp h1 with h1 | h1
    · exact Or.inl h1
    · refine Or.inr (List.mem_filter.mpr ⟨List.mem_append_right _ ?_, h2⟩)
      have e1 : Bundle.ownAtoms0 "" 0 (zEX x) znames = (Bundle.throwableAtoms ++ Bundle.chain0Atoms (zEX x) znames) ++ _ := rfl
      rw [e1, List.drop_append, List.drop_eq_nil_of_le (by omega), show (Bundle.throwableAtoms ++ Bundle.chain0Atoms (zEX x) znames).length + 1 - (Bundle.throwableAtoms ++ Bundle.chain0Atoms (zEX x) znames).length = 1 by omega]
      exact h1
theorem zrest_0 : (zrest 0).all (fun w => (goodWord w && ztabs.any (fun l => decide (w ∈ l))) || (z_nw w && (w.onTables && ztabs.any (fun l => decide (w ∈ l))))) = true := by decide +kernel
theorem zrest_1 : (zrest 1).all (fun w => (goodWord w && ztabs.any (fun l => decide (w ∈ l))) || (z_nw w && (w.onTables && ztabs.any (fun l => decide (w ∈ l))))) = true := by decide +kernel
theorem zrest_2 : (zrest 2).all (fun w => (goodWord w && ztabs.any (fun l => decide (w ∈ l))) || (z_nw w && (w.onTables && ztabs.any (fun l => decide (w ∈ l))))) = true := by decide +kernel
theorem zrest_T {x : Nat} (h : (zrest x).all (fun w => (goodWord w && ztabs.any (fun l => decide (w ∈ l))) || (z_nw w && (w.onTables && ztabs.any (fun l => decide (w ∈ l))))) = true) {a : Nat} {w : Cond} (hw : w ∈ zrest x) : w ∈ zW a ∧ vx_ot w = true := by
  have h := List.all_eq_true.mp h w hw
  have key : ztabs.any (fun l => decide (w ∈ l)) = true → w ∈ tables_1 := by
    intro h
    obtain ⟨l, h1, h2⟩ := List.any_eq_true.mp h
    exact ztabs_in l h1 w (of_decide_eq_true h2)
  simp only [Bool.or_eq_true, Bool.and_eq_true] at h
  rcases h with ⟨h1, h2⟩ | ⟨h1, h3, h2⟩
  · exact ⟨zw_T (zt_in (key h2) h1), by unfold vx_ot; rw [h1]; simp⟩
  · exact ⟨zw_N (zn_in (key h2) h1), by unfold vx_ot; rw [h3]; rfl⟩
theorem zat_of {x : Nat} (h : (zrest x).all (fun w => (goodWord w && ztabs.any (fun l => decide (w ∈ l))) || (z_nw w && (w.onTables && ztabs.any (fun l => decide (w ∈ l))))) = true) {a ic : Nat} {own : String} (hl : Cond.methodLink own ic (Bundle.init0 (zEX x)) ∈ zT0) : ∀ w ∈ vx_at0 own ic (zEX x) znames, w ∈ zW a := by
  intro w hw
  rcases zrest_in hw with rfl | hw
  · exact zw_T hl
  · exact (zrest_T h hw).1
theorem zgd_of {x : Nat} (h : (zrest x).all (fun w => (goodWord w && ztabs.any (fun l => decide (w ∈ l))) || (z_nw w && (w.onTables && ztabs.any (fun l => decide (w ∈ l))))) = true) {ik ic : Nat} {own : String} : ∀ w ∈ Cond.classLink own ik (zEX x) :: Cond.initialized (zEX x) :: vx_at0 own ic (zEX x) znames, vx_ot w = true := by
  intro w hw
  rcases List.mem_cons.mp hw with rfl | hw
  · rfl
  · rcases List.mem_cons.mp hw with rfl | hw
    · rfl
    · rcases zrest_in hw with rfl | hw
      · rfl
      · exact (zrest_T (a := 0) h hw).2

