/-! what the methods of a barn do -/
section BRN
variable {K : KK} {d : Nat} {h : HH} {Q : Option AV → HH → Prop} {x y z : Int} {b : Nat}
theorem hput_same {h : HH} {a k : Nat} {v : Int} : hput h a k v a k = v := by simp [hput, hset, rput]
theorem hput_ne {h : HH} {a k i j : Nat} {v : Int} (hn : i ≠ a ∨ j ≠ k) : hput h a k v i j = h i j := by
  unfold hput hset rput
  split
  · next e1 =>
    subst e1
    show (if j = k then v else h i j) = h i j
    rw [if_neg (hn.resolve_left (fun z => z rfl))]
  · rfl
theorem hput_row {h : HH} {a k i : Nat} {v : Int} (hn : i ≠ a) : hput h a k v i = h i := by
  unfold hput hset
  rw [if_neg hn]
theorem isStone_eq (hb : isO K b 0) : wp K d 3 0 [vR b, vI x] [] h Q = Q (some (vI (if 0 ≤ x ∧ x < h b 0 then 1 else 0))) h := by
  simp only [s3_0, s3_1, s3_4, s3_5, s3_6, s3_9, s3_12, s3_13, s3_16, s3_17, hb]
  by_cases h1 : 0 ≤ x <;> by_cases h2 : x < h b 0 <;> simp [h1, h2] <;> omega
theorem areTwo_eq (hb : isO K b 0) : wp K (d + 1) 4 0 [vR b, vI x, vI y] [] h Q = Q (some (vI (if (0 ≤ x ∧ x < h b 0) ∧ (0 ≤ y ∧ y < h b 0) ∧ x ≠ y then 1 else 0))) h := by
  simp only [s4_0, s4_1, s4_2, s4_5, s4_8, s4_9, s4_10, s4_13, s4_16, s4_17, s4_18, s4_21, s4_22, s4_25, s4_26, hb, isStone_eq hb]
  by_cases h1 : 0 ≤ x ∧ x < h b 0 <;> by_cases h2 : 0 ≤ y ∧ y < h b 0 <;> by_cases h3 : x = y <;> simp [h1, h2, h3]
end BRN
