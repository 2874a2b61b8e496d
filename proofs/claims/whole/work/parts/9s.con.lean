/-! all that is made, as the small machine's heap -/
def fM (r0 : Nat → Int) (r : HH) : HH := fun i => if i = 0 then (fun k => if k = 27 then -1 else r0 k) else r i
def fK (g1 g2 : HH) (ys : Nat → Int32) (L : Nat) : HH := fun i => if i < 54 then g1 i else if i < 83 then g2 (i - 54) else if i = 10000 then (fun j => (ys j).toInt) else if i = 10001 then (fun _ => (L : Int)) else zH i
def adW9 (a1 a2 : Nat → Nat) (b : Nat) : Nat → Nat := fun i => if i < 54 then a1 i else if i < 83 then a2 (i - 54) else b
def hI (ys : Nat → Int32) (L : Nat) : HH := fK cxhH cxhM ys L
set_option maxHeartbeats 4000000 in
set_option maxRecDepth 100000 in
theorem cvK (cA : ClassId) (a1 a2 : Nat → Nat) (b : Nat) (g1 : HH) (r0 : Nat → Int) (r : HH) (ys : Nat → Int32) (L : Nat) : wld2 cKH a1 cA g1 ++ wld2 cKM a2 cA (fM r0 r) = wld2 K0 (adW9 a1 a2 b) cA (fK g1 (fM r0 r) ys L) := rfl
theorem fM_eq : fM (cxhM 0) cxhM = cxhM := by
  funext i k
  by_cases hi : i = 0
  · subst hi
    by_cases hk : k = 27
    · subst hk
      rfl
    · show (if k = 27 then (-1 : Int) else cxhM 0 k) = cxhM 0 k
      rw [if_neg hk]
  · unfold fM
    rw [if_neg hi]
theorem cvI (cA : ClassId) (a1 a2 : Nat → Nat) (b : Nat) (ys : Nat → Int32) (L : Nat) : wld2 cKH a1 cA cxhH ++ wld2 cKM a2 cA cxhM = wld2 K0 (adW9 a1 a2 b) cA (hI ys L) := by
  have h := cvK cA a1 a2 b cxhH (cxhM 0) cxhM ys L
  rw [fM_eq] at h
  exact h
theorem six9 {P : Nat → Prop} (h0 : P 0) (h1 : P 1) (h2 : P 2) (h3 : P 3) (h4 : P 4) (h5 : P 5) : ∀ j, j < 6 → P j := by
  intro j hj
  match j, hj with
  | 0, _ => exact h0
  | 1, _ => exact h1
  | 2, _ => exact h2
  | 3, _ => exact h3
  | 4, _ => exact h4
  | 5, _ => exact h5
set_option maxRecDepth 100000 in
theorem RE_I (ys : Nat → Int32) (L : Nat) : RE (hI ys L) := by
  have a0 : hI ys L 1 0 = 3 := rfl
  have a2 : hI ys L 1 2 = 0 := rfl
  have a3 : hI ys L 1 3 = 0 := rfl
  have a4 : hI ys L 1 4 = 0 := rfl
  have a8 : hI ys L 1 8 = 0 := rfl
  have r2 : ∀ j, j < 6 → hI ys L 2 j = 10 := six9 rfl rfl rfl rfl rfl rfl
  have r8 : ∀ j, j < 6 → hI ys L 8 j = 0 := six9 rfl rfl rfl rfl rfl rfl
  have r55 : ∀ j, j < 6 → hI ys L 55 j = hI ys L 2 j := six9 rfl rfl rfl rfl rfl rfl
  have r59 : ∀ j, j < 6 → hI ys L 59 j = hI ys L 8 j := six9 rfl rfl rfl rfl rfl rfl
  have s17 : hI ys L 17 1 = 0 := rfl
  have s0 : hI ys L 0 11 = 0 := rfl
  have r18 : ∀ j, hI ys L 18 j = 0 := fun _ => rfl
  have r52 : ∀ j, hI ys L 52 j = 0 := fun _ => rfl
  refine ⟨⟨by rw [a0]; decide, by rw [a2]; decide, by rw [a3]; decide, by rw [a4]; decide, by rw [a8]; decide, fun j hj => ?_, fun i hi => ?_, fun i hi => ?_, fun a ha => ?_, fun a ha _ => r8 a ha⟩, ⟨rfl, rfl, rfl, rfl, rfl, r55, fun j _ => ⟨rfl, rfl, rfl⟩, fun j _ => ⟨rfl, rfl⟩, r59⟩, ⟨rfl, Or.inl rfl, rfl, by rw [s17]; decide, fun j _ => ?_, rfl, by rw [s0]; decide, fun j _ => ?_, fun j _ => rfl⟩⟩
  · show 0 ≤ hI ys L 2 j ∧ hI ys L 2 j ≤ 99
    rw [r2 j hj]
    decide
  · rw [a4] at hi
    omega
  · rw [a8] at hi
    omega
  · show 0 ≤ hI ys L 8 a ∧ hI ys L 8 a < 2 ^ (hI ys L 1 0).toNat ∧ (hI ys L 8 a).toNat.testBit a = false
    rw [r8 a ha, a0]
    refine ⟨by decide, by decide, ?_⟩
    exact Nat.zero_testBit a
  · refine ⟨rfl, ?_⟩
    rw [r18]
    decide
  · refine ⟨rfl, ?_⟩
    rw [r52]
    decide
theorem LI_I (ys : Nat → Int32) (L : Nat) : LI (hI ys L) := Or.inl rfl
theorem MI_I (ys : Nat → Int32) (L : Nat) : MI (hI ys L) := fun _ _ _ _ _ _ => Or.inl rfl
theorem sm (x : Int) (h : -2147483648 ≤ x ∧ x ≤ 2147483647 := by decide) : wfI x := h
theorem wf_B : wfH cxhB := by
  unfold cxhB
  repeat (refine wfH_put ?_ _ _ (sm _))
  exact wf_zH
theorem wf_M : wfH cxhM := by
  unfold cxhM zM
  repeat (refine wfH_put ?_ _ _ (sm _))
  exact wf_zH
theorem wf_z2 : wfH (fun _ _ => 0) := wf_zH
theorem wf_N : wfH cxhN := by
  unfold cxhN
  repeat (refine wfH_put ?_ _ _ (sm _))
  exact wf_z2
theorem wf_L : wfH cxhL := by
  unfold cxhL
  repeat (refine wfH_put ?_ _ _ (sm _))
  exact wf_z2
theorem wf_E : wfH cxhE := by
  unfold cxhE
  repeat (refine wfH_put ?_ _ _ (sm _))
  exact wf_z2
theorem wf_P : wfH cxhP := by
  unfold cxhP
  repeat (refine wfH_put ?_ _ _ (sm _))
  exact wf_z2
theorem wf_S : wfH cxhS := by
  unfold cxhS
  repeat (refine wfH_put ?_ _ _ (sm _))
  exact wf_z2
theorem wf_W : wfH cxhW := by
  unfold cxhW
  repeat (refine wfH_put ?_ _ _ (sm _))
  exact wf_z2
theorem wf_ite {c : Prop} {i : Decidable c} {f g : Nat → Int} (h1 : ∀ k, wfI (f k)) (h2 : ∀ k, wfI (g k)) : ∀ k, wfI ((@ite _ c i f g) k) := by
  intro k
  by_cases hc : c
  · rw [if_pos hc]; exact h1 k
  · rw [if_neg hc]; exact h2 k
theorem wf_R : wfH cxhR := by
  intro a
  unfold cxhR fcKR
  exact wf_ite (wf_zH _) (wf_ite (wf_zH _) (wf_ite (wf_B _) (wf_zH _)))
theorem wf_H : wfH cxhH := by
  intro a
  unfold cxhH fcKH
  exact wf_ite (wf_zH _) (wf_ite (wf_B _) (wf_ite (wf_B _) (wf_ite (wf_R _) (wf_ite (wf_N _) (wf_ite (wf_W _) (wf_ite (wf_P _) (wf_ite (wf_E _) (wf_ite (wf_L _) (wf_ite (wf_S _) (wf_ite (wf_zH _) (wf_ite (wf_zH _) (wf_zH _))))))))))))
theorem wf_I {ys : Nat → Int32} {L : Nat} (hL : L ≤ 2048) : wfH (hI ys L) := by
  intro a
  unfold hI fK
  refine wf_ite (wf_H _) (wf_ite (wf_M _) (wf_ite (fun _ => o_wf _) (wf_ite (fun _ => ?_) (wf_zH _))))
  unfold wfI
  omega
