/-! THE LISTS OF WORDS -/
theorem zq_1 : ∀ w ∈ tables_1_1, w ∈ tables_1 := fun w h => (List.mem_append_left _ h)
theorem zq_2 : ∀ w ∈ tables_1_2, w ∈ tables_1 := fun w h => (List.mem_append_right _ (List.mem_append_left _ h))
theorem zq_3 : ∀ w ∈ tables_1_3, w ∈ tables_1 := fun w h => (List.mem_append_right _ (List.mem_append_right _ (List.mem_append_left _ h)))
theorem zq_4 : ∀ w ∈ tables_1_4, w ∈ tables_1 := fun w h => (List.mem_append_right _ (List.mem_append_right _ (List.mem_append_right _ (List.mem_append_left _ h))))
theorem zq_5 : ∀ w ∈ tables_1_5, w ∈ tables_1 := fun w h => (List.mem_append_right _ (List.mem_append_right _ (List.mem_append_right _ (List.mem_append_right _ (List.mem_append_left _ h)))))
theorem zq_6 : ∀ w ∈ tables_1_6, w ∈ tables_1 := fun w h => (List.mem_append_right _ (List.mem_append_right _ (List.mem_append_right _ (List.mem_append_right _ (List.mem_append_right _ (List.mem_append_left _ h))))))
theorem zq_7 : ∀ w ∈ tables_1_7, w ∈ tables_1 := fun w h => (List.mem_append_right _ (List.mem_append_right _ (List.mem_append_right _ (List.mem_append_right _ (List.mem_append_right _ (List.mem_append_right _ (List.mem_append_left _ h)))))))
theorem zq_8 : ∀ w ∈ tables_1_8, w ∈ tables_1 := fun w h => (List.mem_append_right _ (List.mem_append_right _ (List.mem_append_right _ (List.mem_append_right _ (List.mem_append_right _ (List.mem_append_right _ (List.mem_append_right _ (List.mem_append_left _ h))))))))
theorem zq_9 : ∀ w ∈ tables_1_9, w ∈ tables_1 := fun w h => (List.mem_append_right _ (List.mem_append_right _ (List.mem_append_right _ (List.mem_append_right _ (List.mem_append_right _ (List.mem_append_right _ (List.mem_append_right _ (List.mem_append_right _ (List.mem_append_left _ h)))))))))
theorem zq_10 : ∀ w ∈ tables_1_10, w ∈ tables_1 := fun w h => (List.mem_append_right _ (List.mem_append_right _ (List.mem_append_right _ (List.mem_append_right _ (List.mem_append_right _ (List.mem_append_right _ (List.mem_append_right _ (List.mem_append_right _ (List.mem_append_right _ (List.mem_append_left _ h))))))))))
theorem zq_11 : ∀ w ∈ tables_1_11, w ∈ tables_1 := fun w h => (List.mem_append_right _ (List.mem_append_right _ (List.mem_append_right _ (List.mem_append_right _ (List.mem_append_right _ (List.mem_append_right _ (List.mem_append_right _ (List.mem_append_right _ (List.mem_append_right _ (List.mem_append_right _ (List.mem_append_left _ h)))))))))))
theorem zq_12 : ∀ w ∈ tables_1_12, w ∈ tables_1 := fun w h => (List.mem_append_right _ (List.mem_append_right _ (List.mem_append_right _ (List.mem_append_right _ (List.mem_append_right _ (List.mem_append_right _ (List.mem_append_right _ (List.mem_append_right _ (List.mem_append_right _ (List.mem_append_right _ (List.mem_append_right _ (List.mem_append_left _ h))))))))))))
theorem zq_13 : ∀ w ∈ tables_1_13, w ∈ tables_1 := fun w h => (List.mem_append_right _ (List.mem_append_right _ (List.mem_append_right _ (List.mem_append_right _ (List.mem_append_right _ (List.mem_append_right _ (List.mem_append_right _ (List.mem_append_right _ (List.mem_append_right _ (List.mem_append_right _ (List.mem_append_right _ (List.mem_append_right _ (List.mem_append_left _ h)))))))))))))
theorem zq_14 : ∀ w ∈ tables_1_14, w ∈ tables_1 := fun w h => (List.mem_append_right _ (List.mem_append_right _ (List.mem_append_right _ (List.mem_append_right _ (List.mem_append_right _ (List.mem_append_right _ (List.mem_append_right _ (List.mem_append_right _ (List.mem_append_right _ (List.mem_append_right _ (List.mem_append_right _ (List.mem_append_right _ (List.mem_append_right _ (List.mem_append_left _ h))))))))))))))
theorem zq_15 : ∀ w ∈ tables_1_15, w ∈ tables_1 := fun w h => (List.mem_append_right _ (List.mem_append_right _ (List.mem_append_right _ (List.mem_append_right _ (List.mem_append_right _ (List.mem_append_right _ (List.mem_append_right _ (List.mem_append_right _ (List.mem_append_right _ (List.mem_append_right _ (List.mem_append_right _ (List.mem_append_right _ (List.mem_append_right _ (List.mem_append_right _ (List.mem_append_left _ h)))))))))))))))
theorem zq_16 : ∀ w ∈ tables_1_16, w ∈ tables_1 := fun w h => (List.mem_append_right _ (List.mem_append_right _ (List.mem_append_right _ (List.mem_append_right _ (List.mem_append_right _ (List.mem_append_right _ (List.mem_append_right _ (List.mem_append_right _ (List.mem_append_right _ (List.mem_append_right _ (List.mem_append_right _ (List.mem_append_right _ (List.mem_append_right _ (List.mem_append_right _ (List.mem_append_right _ (List.mem_append_left _ h))))))))))))))))
theorem zq_17 : ∀ w ∈ tables_1_17, w ∈ tables_1 := fun w h => (List.mem_append_right _ (List.mem_append_right _ (List.mem_append_right _ (List.mem_append_right _ (List.mem_append_right _ (List.mem_append_right _ (List.mem_append_right _ (List.mem_append_right _ (List.mem_append_right _ (List.mem_append_right _ (List.mem_append_right _ (List.mem_append_right _ (List.mem_append_right _ (List.mem_append_right _ (List.mem_append_right _ (List.mem_append_right _ (List.mem_append_left _ h)))))))))))))))))
theorem zq_18 : ∀ w ∈ tables_1_18, w ∈ tables_1 := fun w h => (List.mem_append_right _ (List.mem_append_right _ (List.mem_append_right _ (List.mem_append_right _ (List.mem_append_right _ (List.mem_append_right _ (List.mem_append_right _ (List.mem_append_right _ (List.mem_append_right _ (List.mem_append_right _ (List.mem_append_right _ (List.mem_append_right _ (List.mem_append_right _ (List.mem_append_right _ (List.mem_append_right _ (List.mem_append_right _ (List.mem_append_right _ h)))))))))))))))))
theorem zt_in {w : Cond} (h : w ∈ tables_1) (hg : goodWord w = true) : w ∈ zT0 := List.mem_filter.mpr ⟨List.mem_append_right _ h, hg⟩
theorem zn_in {w : Cond} (h : w ∈ tables_1) (hg : z_nw w = true) : w ∈ zN0 := List.mem_filter.mpr ⟨List.mem_append_right _ h, hg⟩
def ztabs : List (List Cond) := [tables_1_1, tables_1_2, tables_1_3, tables_1_4, tables_1_5, tables_1_6, tables_1_7, tables_1_8, tables_1_9, tables_1_10, tables_1_11, tables_1_12, tables_1_13, tables_1_14, tables_1_15, tables_1_16, tables_1_17, tables_1_18]
theorem ztabs_in : ∀ l ∈ ztabs, ∀ w ∈ l, w ∈ tables_1 := by
  intro l hl
  unfold ztabs at hl
  rcases List.mem_cons.mp hl with rfl | hl
  · exact zq_1
  rcases List.mem_cons.mp hl with rfl | hl
  · exact zq_2
  rcases List.mem_cons.mp hl with rfl | hl
  · exact zq_3
  rcases List.mem_cons.mp hl with rfl | hl
  · exact zq_4
  rcases List.mem_cons.mp hl with rfl | hl
  · exact zq_5
  rcases List.mem_cons.mp hl with rfl | hl
  · exact zq_6
  rcases List.mem_cons.mp hl with rfl | hl
  · exact zq_7
  rcases List.mem_cons.mp hl with rfl | hl
  · exact zq_8
  rcases List.mem_cons.mp hl with rfl | hl
  · exact zq_9
  rcases List.mem_cons.mp hl with rfl | hl
  · exact zq_10
  rcases List.mem_cons.mp hl with rfl | hl
  · exact zq_11
  rcases List.mem_cons.mp hl with rfl | hl
  · exact zq_12
  rcases List.mem_cons.mp hl with rfl | hl
  · exact zq_13
  rcases List.mem_cons.mp hl with rfl | hl
  · exact zq_14
  rcases List.mem_cons.mp hl with rfl | hl
  · exact zq_15
  rcases List.mem_cons.mp hl with rfl | hl
  · exact zq_16
  rcases List.mem_cons.mp hl with rfl | hl
  · exact zq_17
  rcases List.mem_cons.mp hl with rfl | hl
  · exact zq_18
  cases hl
theorem zu_of2 {ws : List Cond} (ps : List (Nat × Nat)) (h : ws = ps.filterMap (fun q => (ztabs.getD q.1 [])[q.2]?)) (hg : ws.all goodWord = true) : ∀ w ∈ ws, w ∈ zT0 := by
  intro w hw
  have hg := List.all_eq_true.mp hg w hw
  rw [h] at hw
  obtain ⟨q, -, hq⟩ := List.mem_filterMap.mp hw
  have hm := List.mem_of_getElem? hq
  refine zt_in ?_ hg
  rw [List.getD_eq_getElem?_getD] at hm
  cases hz : ztabs[q.1]? with
  | none => rw [hz] at hm; cases hm
  | some l =>
    rw [hz] at hm
    exact ztabs_in l (List.mem_of_getElem? hz) w hm
