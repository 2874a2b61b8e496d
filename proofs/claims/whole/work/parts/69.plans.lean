/-! plans: both orders of the halves come to the same -/
section PLK
variable {W : Nat → Int} {s : PS}
theorem mc_12 : mcF W 1 2 s = meF W 1 3 0 2 s := by
  have e : (rwS 1 2 11).1 = 3 := by decide +kernel
  have q : (rwS 1 2 3).1 = 3 ∧ (rwS 1 2 3).2.1 0 = 0 ∧ (rwS 1 2 3).2.2 0 = 2 ∧ (rwS 1 2 3).2.1 1 = 0 ∧ (rwS 1 2 3).2.2 1 = 1 ∧ (rwS 1 2 3).2.1 2 = 1 ∧ (rwS 1 2 3).2.2 2 = 1 := by decide +kernel
  unfold mcF
  rw [e]
  generalize (rwS 1 2 3) = t at q ⊢
  simp (disch := decide) only [itn, hlI, opF, q, meF, inF_1, Nat.reduceSub, Nat.reduceAdd, Nat.reduceLT, Nat.reduceDiv, Nat.reduceLeDiff, if_true, if_false]
theorem mc_13 : mcF W 1 3 s = meF W 1 3 0 3 s := by
  have e : (rwS 1 3 11).1 = 5 := by decide +kernel
  have q : (rwS 1 3 5).1 = 5 ∧ (rwS 1 3 5).2.1 0 = 0 ∧ (rwS 1 3 5).2.2 0 = 3 ∧ (rwS 1 3 5).2.1 1 = 0 ∧ (rwS 1 3 5).2.2 1 = 1 ∧ (rwS 1 3 5).2.1 2 = 1 ∧ (rwS 1 3 5).2.2 2 = 2 ∧ (rwS 1 3 5).2.1 3 = 1 ∧ (rwS 1 3 5).2.2 3 = 1 ∧ (rwS 1 3 5).2.1 4 = 2 ∧ (rwS 1 3 5).2.2 4 = 1 := by decide +kernel
  unfold mcF
  rw [e]
  generalize (rwS 1 3 5) = t at q ⊢
  simp (disch := decide) only [itn, hlI, opF, q, meF, inF_1, Nat.reduceSub, Nat.reduceAdd, Nat.reduceLT, Nat.reduceDiv, Nat.reduceLeDiff, if_true, if_false]
theorem mc_14 : mcF W 1 4 s = meF W 1 3 0 4 s := by
  have e : (rwS 1 4 11).1 = 7 := by decide +kernel
  have q : (rwS 1 4 7).1 = 7 ∧ (rwS 1 4 7).2.1 0 = 0 ∧ (rwS 1 4 7).2.2 0 = 4 ∧ (rwS 1 4 7).2.1 1 = 0 ∧ (rwS 1 4 7).2.2 1 = 2 ∧ (rwS 1 4 7).2.1 2 = 2 ∧ (rwS 1 4 7).2.2 2 = 2 ∧ (rwS 1 4 7).2.1 3 = 0 ∧ (rwS 1 4 7).2.2 3 = 1 ∧ (rwS 1 4 7).2.1 4 = 1 ∧ (rwS 1 4 7).2.2 4 = 1 ∧ (rwS 1 4 7).2.1 5 = 2 ∧ (rwS 1 4 7).2.2 5 = 1 ∧ (rwS 1 4 7).2.1 6 = 3 ∧ (rwS 1 4 7).2.2 6 = 1 := by decide +kernel
  unfold mcF
  rw [e]
  generalize (rwS 1 4 7) = t at q ⊢
  simp (disch := decide) only [itn, hlI, opF, q, meF, inF_1, Nat.reduceSub, Nat.reduceAdd, Nat.reduceLT, Nat.reduceDiv, Nat.reduceLeDiff, if_true, if_false]
  have x0 := fun s => cm_jj (W := W) (s := s) (a := 0) (m := 1) (b := 2) (a' := 2) (m' := 3) (b' := 4) (by decide)
  simp only [x0]
theorem mc_15 : mcF W 1 5 s = meF W 1 3 0 5 s := by
  have e : (rwS 1 5 11).1 = 9 := by decide +kernel
  have q : (rwS 1 5 9).1 = 9 ∧ (rwS 1 5 9).2.1 0 = 0 ∧ (rwS 1 5 9).2.2 0 = 5 ∧ (rwS 1 5 9).2.1 1 = 0 ∧ (rwS 1 5 9).2.2 1 = 2 ∧ (rwS 1 5 9).2.1 2 = 2 ∧ (rwS 1 5 9).2.2 2 = 3 ∧ (rwS 1 5 9).2.1 3 = 0 ∧ (rwS 1 5 9).2.2 3 = 1 ∧ (rwS 1 5 9).2.1 4 = 1 ∧ (rwS 1 5 9).2.2 4 = 1 ∧ (rwS 1 5 9).2.1 5 = 2 ∧ (rwS 1 5 9).2.2 5 = 1 ∧ (rwS 1 5 9).2.1 6 = 3 ∧ (rwS 1 5 9).2.2 6 = 2 ∧ (rwS 1 5 9).2.1 7 = 3 ∧ (rwS 1 5 9).2.2 7 = 1 ∧ (rwS 1 5 9).2.1 8 = 4 ∧ (rwS 1 5 9).2.2 8 = 1 := by decide +kernel
  unfold mcF
  rw [e]
  generalize (rwS 1 5 9) = t at q ⊢
  simp (disch := decide) only [itn, hlI, opF, q, meF, inF_1, Nat.reduceSub, Nat.reduceAdd, Nat.reduceLT, Nat.reduceDiv, Nat.reduceLeDiff, if_true, if_false]
  have x0 := fun s => cm_jj (W := W) (s := s) (a := 0) (m := 1) (b := 2) (a' := 2) (m' := 3) (b' := 5) (by decide)
  have x1 := fun s => cm_jj (W := W) (s := s) (a := 0) (m := 1) (b := 2) (a' := 3) (m' := 4) (b' := 5) (by decide)
  simp only [x0, x1]
theorem mc_16 : mcF W 1 6 s = meF W 1 3 0 6 s := by
  have e : (rwS 1 6 11).1 = 11 := by decide +kernel
  have q : (rwS 1 6 11).1 = 11 ∧ (rwS 1 6 11).2.1 0 = 0 ∧ (rwS 1 6 11).2.2 0 = 6 ∧ (rwS 1 6 11).2.1 1 = 0 ∧ (rwS 1 6 11).2.2 1 = 3 ∧ (rwS 1 6 11).2.1 2 = 3 ∧ (rwS 1 6 11).2.2 2 = 3 ∧ (rwS 1 6 11).2.1 3 = 0 ∧ (rwS 1 6 11).2.2 3 = 1 ∧ (rwS 1 6 11).2.1 4 = 1 ∧ (rwS 1 6 11).2.2 4 = 2 ∧ (rwS 1 6 11).2.1 5 = 3 ∧ (rwS 1 6 11).2.2 5 = 1 ∧ (rwS 1 6 11).2.1 6 = 4 ∧ (rwS 1 6 11).2.2 6 = 2 ∧ (rwS 1 6 11).2.1 7 = 1 ∧ (rwS 1 6 11).2.2 7 = 1 ∧ (rwS 1 6 11).2.1 8 = 2 ∧ (rwS 1 6 11).2.2 8 = 1 ∧ (rwS 1 6 11).2.1 9 = 4 ∧ (rwS 1 6 11).2.2 9 = 1 ∧ (rwS 1 6 11).2.1 10 = 5 ∧ (rwS 1 6 11).2.2 10 = 1 := by decide +kernel
  unfold mcF
  rw [e]
  generalize (rwS 1 6 11) = t at q ⊢
  simp only [itn, Nat.reduceAdd]
  simp only [hlI, q, Nat.reduceSub]
  simp (disch := decide) only [opF, inF_1, Nat.reduceSub, Nat.reduceAdd, Nat.reduceLT, Nat.reduceDiv, Nat.reduceLeDiff, if_true, if_false]
  clear q e
  simp (disch := decide) only [meF, inF_1, Nat.reduceSub, Nat.reduceAdd, Nat.reduceLT, Nat.reduceDiv, Nat.reduceLeDiff, if_true, if_false]
  have x0 := fun s => cm_jj (W := W) (s := s) (a := 0) (m := 1) (b := 3) (a' := 3) (m' := 4) (b' := 6) (by decide)
  have x1 := fun s => cm_jj (W := W) (s := s) (a := 0) (m := 1) (b := 3) (a' := 4) (m' := 5) (b' := 6) (by decide)
  have x2 := fun s => cm_jj (W := W) (s := s) (a := 1) (m := 2) (b := 3) (a' := 3) (m' := 4) (b' := 6) (by decide)
  have x3 := fun s => cm_jj (W := W) (s := s) (a := 1) (m := 2) (b := 3) (a' := 4) (m' := 5) (b' := 6) (by decide)
  simp only [x0, x1, x2, x3]
theorem mc_32 : mcF W 3 2 s = meF W 3 3 0 2 s := by
  have e : (rwS 3 2 11).1 = 1 := by decide +kernel
  have q : (rwS 3 2 1).1 = 1 ∧ (rwS 3 2 1).2.1 0 = 0 ∧ (rwS 3 2 1).2.2 0 = 2 := by decide +kernel
  unfold mcF
  rw [e]
  generalize (rwS 3 2 1) = t at q ⊢
  simp (disch := decide) only [itn, hlI, opF, q, meF, inF_1, Nat.reduceSub, Nat.reduceAdd, Nat.reduceLT, Nat.reduceDiv, Nat.reduceLeDiff, if_true, if_false]
theorem mc_33 : mcF W 3 3 s = meF W 3 3 0 3 s := by
  have e : (rwS 3 3 11).1 = 1 := by decide +kernel
  have q : (rwS 3 3 1).1 = 1 ∧ (rwS 3 3 1).2.1 0 = 0 ∧ (rwS 3 3 1).2.2 0 = 3 := by decide +kernel
  unfold mcF
  rw [e]
  generalize (rwS 3 3 1) = t at q ⊢
  simp (disch := decide) only [itn, hlI, opF, q, meF, inF_1, Nat.reduceSub, Nat.reduceAdd, Nat.reduceLT, Nat.reduceDiv, Nat.reduceLeDiff, if_true, if_false]
theorem mc_34 : mcF W 3 4 s = meF W 3 3 0 4 s := by
  have e : (rwS 3 4 11).1 = 3 := by decide +kernel
  have q : (rwS 3 4 3).1 = 3 ∧ (rwS 3 4 3).2.1 0 = 0 ∧ (rwS 3 4 3).2.2 0 = 4 ∧ (rwS 3 4 3).2.1 1 = 0 ∧ (rwS 3 4 3).2.2 1 = 2 ∧ (rwS 3 4 3).2.1 2 = 2 ∧ (rwS 3 4 3).2.2 2 = 2 := by decide +kernel
  unfold mcF
  rw [e]
  generalize (rwS 3 4 3) = t at q ⊢
  simp (disch := decide) only [itn, hlI, opF, q, meF, inF_1, Nat.reduceSub, Nat.reduceAdd, Nat.reduceLT, Nat.reduceDiv, Nat.reduceLeDiff, if_true, if_false]
  have x0 := fun s => cm_ii (W := W) (s := s) (a := 0) (b := 2) (a' := 2) (b' := 4) (by decide)
  simp only [x0]
theorem mc_35 : mcF W 3 5 s = meF W 3 3 0 5 s := by
  have e : (rwS 3 5 11).1 = 3 := by decide +kernel
  have q : (rwS 3 5 3).1 = 3 ∧ (rwS 3 5 3).2.1 0 = 0 ∧ (rwS 3 5 3).2.2 0 = 5 ∧ (rwS 3 5 3).2.1 1 = 0 ∧ (rwS 3 5 3).2.2 1 = 2 ∧ (rwS 3 5 3).2.1 2 = 2 ∧ (rwS 3 5 3).2.2 2 = 3 := by decide +kernel
  unfold mcF
  rw [e]
  generalize (rwS 3 5 3) = t at q ⊢
  simp (disch := decide) only [itn, hlI, opF, q, meF, inF_1, Nat.reduceSub, Nat.reduceAdd, Nat.reduceLT, Nat.reduceDiv, Nat.reduceLeDiff, if_true, if_false]
  have x0 := fun s => cm_ii (W := W) (s := s) (a := 0) (b := 2) (a' := 2) (b' := 5) (by decide)
  simp only [x0]
theorem mc_36 : mcF W 3 6 s = meF W 3 3 0 6 s := by
  have e : (rwS 3 6 11).1 = 3 := by decide +kernel
  have q : (rwS 3 6 3).1 = 3 ∧ (rwS 3 6 3).2.1 0 = 0 ∧ (rwS 3 6 3).2.2 0 = 6 ∧ (rwS 3 6 3).2.1 1 = 0 ∧ (rwS 3 6 3).2.2 1 = 3 ∧ (rwS 3 6 3).2.1 2 = 3 ∧ (rwS 3 6 3).2.2 2 = 3 := by decide +kernel
  unfold mcF
  rw [e]
  generalize (rwS 3 6 3) = t at q ⊢
  simp (disch := decide) only [itn, hlI, opF, q, meF, inF_1, Nat.reduceSub, Nat.reduceAdd, Nat.reduceLT, Nat.reduceDiv, Nat.reduceLeDiff, if_true, if_false]
  have x0 := fun s => cm_ii (W := W) (s := s) (a := 0) (b := 3) (a' := 3) (b' := 6) (by decide)
  simp only [x0]
end PLK
theorem mc_all {W : Nat → Int} {s : PS} {l n : Nat} (hl : l = 1 ∨ l = 3) (h2 : 2 ≤ n) (h6 : n ≤ 6) : mcF W l n s = meF W l 3 0 n s := by
  have hn : n = 2 ∨ n = 3 ∨ n = 4 ∨ n = 5 ∨ n = 6 := by omega
  rcases hl with rfl | rfl <;> rcases hn with rfl | rfl | rfl | rfl | rfl
  · exact mc_12
  · exact mc_13
  · exact mc_14
  · exact mc_15
  · exact mc_16
  · exact mc_32
  · exact mc_33
  · exact mc_34
  · exact mc_35
  · exact mc_36
