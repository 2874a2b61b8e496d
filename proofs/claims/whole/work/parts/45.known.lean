/-! what is known: models of a book learnt, and all that follows -/
def nput (f : Nat → Nat) (k v : Nat) : Nat → Nat := fun j => if j = k then v else f j
theorem nput_same {f : Nat → Nat} {k v : Nat} : nput f k v k = v := if_pos rfl
theorem nput_ne {f : Nat → Nat} {k v j : Nat} (h : ¬ j = k) : nput f k v j = f j := if_neg h
def lnI (A B T : Nat → Nat) (i : Nat) (f : Nat → Nat) : Nat → Nat := if T i = 2 then nput f (A i) (f (A i) ||| 2 ^ B i) else if T i = 0 then nput f (B i) (f (B i) ||| 2 ^ A i) else f
def lnF (A B T : Nat → Nat) (m : Nat) : Nat → Nat := itn (lnI A B T) m 0 (fun _ => 0)
def clI (by1 a : Nat) (f : Nat → Nat) : Nat → Nat := if (f a).testBit by1 then nput f a (f a ||| f by1) else f
def clF (n : Nat) (f : Nat → Nat) : Nat → Nat := itn (fun b f => itn (clI b) n 0 f) n 0 f
def unI (f : Nat → Nat) (a b : Nat) (u : Nat → Nat) : Nat → Nat := if (f a).testBit b then nput u b (u b ||| 2 ^ a) else u
def unF (n : Nat) (f : Nat → Nat) : Nat → Nat := itn (fun a u => itn (unI f a) n 0 u) n 0 (fun _ => 0)
def ovF (A B T : Nat → Nat) (n m : Nat) : Nat → Nat := clF n (lnF A B T m)
/-- masks of n stones, nothing of others -/
def MS (n : Nat) (f : Nat → Nat) : Prop := ∀ j, f j < 2 ^ n ∧ (n ≤ j → f j = 0)
theorem MS.z {n : Nat} : MS n (fun _ => 0) := fun _ => ⟨Nat.two_pow_pos n, fun _ => rfl⟩
theorem MS.put {n k v : Nat} {f : Nat → Nat} (h : MS n f) (hk : k < n) (hv : v < 2 ^ n) : MS n (nput f k v) := by
  intro j
  unfold nput
  split
  · next e => subst e; exact ⟨hv, fun z => by omega⟩
  · exact h j
theorem pow_lt {k n : Nat} (h : k < n) : 2 ^ k < 2 ^ n := Nat.pow_lt_pow_right (by decide) h
/-- a book of m weighings of n stones -/
def BO (A B T : Nat → Nat) (n m : Nat) : Prop := ∀ i, i < m → A i < n ∧ B i < n ∧ ¬ A i = B i ∧ T i ≤ 2
theorem lnI_MS {A B T : Nat → Nat} {n m i : Nat} {f : Nat → Nat} (hb : BO A B T n m) (hi : i < m) (h : MS n f) : MS n (lnI A B T i f) := by
  obtain ⟨b1, b2, b3, b4⟩ := hb i hi
  unfold lnI
  split
  · exact h.put b1 (Nat.or_lt_two_pow (h _).1 (pow_lt b2))
  · split
    · exact h.put b2 (Nat.or_lt_two_pow (h _).1 (pow_lt b1))
    · exact h
theorem lnF_MS {A B T : Nat → Nat} {n m : Nat} (hb : BO A B T n m) : MS n (lnF A B T m) := itn_inv (lnI A B T) (fun _ f => MS n f) m (fun i f hf hi => lnI_MS hb hi hf) m 0 _ (by omega) MS.z
theorem clI_MS {n b a : Nat} {f : Nat → Nat} (h : MS n f) : MS n (clI b a f) := by
  unfold clI
  split
  · next hz =>
    by_cases ha : a < n
    · exact h.put ha (Nat.or_lt_two_pow (h a).1 (h b).1)
    · rw [(h a).2 (by omega), Nat.zero_testBit] at hz
      cases hz
  · exact h
theorem clR_MS {n b : Nat} {f : Nat → Nat} (k : Nat) (h : MS n f) : MS n (itn (clI b) k 0 f) := itn_inv (clI b) (fun _ f => MS n f) k (fun _ _ hf _ => clI_MS hf) k 0 _ (by omega) h
theorem clF_MS {n : Nat} {f : Nat → Nat} (k : Nat) (h : MS n f) : MS n (clF k f) := itn_inv (fun b f => itn (clI b) k 0 f) (fun _ f => MS n f) k (fun _ _ hf _ => clR_MS k hf) k 0 _ (by omega) h
theorem ovF_MS {A B T : Nat → Nat} {n m : Nat} (hb : BO A B T n m) : MS n (ovF A B T n m) := clF_MS n (lnF_MS hb)
theorem itn_add {S : Type} (f : Nat → S → S) : ∀ (k l i : Nat) (s : S), itn f (k + l) i s = itn f l (i + k) (itn f k i s)
  | 0, l, i, s => by rw [Nat.zero_add]; rfl
  | k + 1, l, i, s => by
    have e : k + 1 + l = (k + l) + 1 := by omega
    rw [e, itn, itn_add f k l (i + 1) (f i s), itn]
    have e2 : i + 1 + k = i + (k + 1) := by omega
    rw [e2]
theorem itn_fix {S : Type} (f : Nat → S → S) (s : S) : ∀ (k i : Nat), (∀ j, i ≤ j → j < i + k → f j s = s) → itn f k i s = s
  | 0, _, _ => rfl
  | k + 1, i, h => by
    rw [itn, h i (by omega) (by omega), itn_fix f s k (i + 1) (fun j h1 h2 => h j (by omega) (by omega))]
theorem MS.bit {n j b : Nat} {f : Nat → Nat} (h : MS n f) (hb : n ≤ j ∨ n ≤ b) : (f j).testBit b = false := by
  rcases hb with hb | hb
  · rw [(h j).2 hb, Nat.zero_testBit]
  · exact Nat.testBit_lt_two_pow (Nat.lt_of_lt_of_le (h j).1 (Nat.pow_le_pow_right (by decide) hb))
theorem clR_six {n b : Nat} {f : Nat → Nat} (hn : n ≤ 6) (h : MS n f) : itn (clI b) 6 0 f = itn (clI b) n 0 f := by
  have e : 6 = n + (6 - n) := by omega
  rw [e, itn_add]
  refine itn_fix _ _ _ _ (fun j h1 h2 => ?_)
  have hm := clR_MS (b := b) n h
  unfold clI
  rw [if_neg]
  have hz := hm.bit (j := j) (b := b) (Or.inl (by omega))
  unfold clI at hz
  rw [hz]
  exact Bool.false_ne_true
theorem clF_six {n : Nat} {f : Nat → Nat} (hn : n ≤ 6) (h : MS n f) : clF 6 f = clF n f := by
  unfold clF
  have e : 6 = n + (6 - n) := by omega
  have e1 : itn (fun b f => itn (clI b) 6 0 f) 6 0 f = itn (fun b f => itn (clI b) 6 0 f) (n + (6 - n)) 0 f := by rw [← e]
  rw [e1, itn_add]
  have q : ∀ k i (f : Nat → Nat), MS n f → itn (fun b f => itn (clI b) 6 0 f) k i f = itn (fun b f => itn (clI b) n 0 f) k i f := by
    intro k
    induction k with
    | zero => intro i f _; rfl
    | succ k ih =>
      intro i f hf
      show itn (fun b f => itn (clI b) 6 0 f) k (i + 1) (itn (clI i) 6 0 f) = itn (fun b f => itn (clI b) n 0 f) k (i + 1) (itn (clI i) n 0 f)
      rw [clR_six hn hf]
      exact ih (i + 1) _ (clR_MS n hf)
  rw [q n 0 f h]
  have hm : MS n (itn (fun b f => itn (clI b) n 0 f) n 0 f) := clF_MS n h
  refine itn_fix _ _ _ _ (fun j h1 h2 => ?_)
  try dsimp only
  refine itn_fix _ _ _ _ (fun a h3 h4 => ?_)
  unfold clI
  rw [if_neg]
  have hz := hm.bit (j := a) (b := j) (Or.inr (by omega))
  unfold clI at hz
  rw [hz]
  exact Bool.false_ne_true
/-- who is under whom -/
theorem unI_in {f : Nat → Nat} {a c k : Nat} : ∀ (n : Nat) (u : Nat → Nat), ((itn (unI f a) n 0 u) c).testBit k = ((u c).testBit k || (decide (c < n) && decide (k = a) && (f a).testBit c))
  | 0, u => by simp [itn]
  | n + 1, u => by
    rw [itn_e, Nat.zero_add]
    have ih := unI_in (f := f) (a := a) (c := c) (k := k) n u
    have ih2 := unI_in (f := f) (a := a) (c := n) (k := k) n u
    generalize itn (unI f a) n 0 u = v at ih ih2
    unfold unI
    by_cases hc : c = n
    · subst hc
      by_cases hf : (f a).testBit c = true
      · rw [if_pos hf, nput_same, Nat.testBit_or, ih, bit_pow, hf]
        by_cases hk : a = k
        · subst hk; simp
        · have hk' : ¬ k = a := fun z => hk z.symm
          simp [hk, hk']
      · rw [if_neg hf, ih]
        simp only [Bool.not_eq_true] at hf
        simp [hf]
    · by_cases hf : (f a).testBit n = true
      · rw [if_pos hf, nput_ne hc, ih]
        have : decide (c < n + 1) = decide (c < n) := by
          by_cases hz : c < n
          · simp [hz]; omega
          · have : ¬ c < n + 1 := by omega
            simp [hz, this]
        rw [this]
      · rw [if_neg hf, ih]
        have : decide (c < n + 1) = decide (c < n) := by
          by_cases hz : c < n
          · simp [hz]; omega
          · have : ¬ c < n + 1 := by omega
            simp [hz, this]
        rw [this]
theorem unF_out {f : Nat → Nat} {c k n : Nat} : ∀ (l : Nat), ((itn (fun a u => itn (unI f a) n 0 u) l 0 (fun _ => 0)) c).testBit k = (decide (k < l) && decide (c < n) && (f k).testBit c)
  | 0 => by simp [itn]
  | l + 1 => by
    rw [itn_e, Nat.zero_add]
    try dsimp only
    rw [unI_in, unF_out l]
    by_cases hk : k = l
    · subst hk
      simp
    · have : decide (k < l + 1) = decide (k < l) := by
        by_cases hz : k < l
        · simp [hz]; omega
        · have : ¬ k < l + 1 := by omega
          simp [hz, this]
      rw [this]
      simp [hk]
theorem unF_bit {f : Nat → Nat} {n c k : Nat} (h : MS n f) : ((unF n f) c).testBit k = (f k).testBit c := by
  unfold unF
  rw [unF_out]
  by_cases h1 : k < n
  · by_cases h2 : c < n
    · simp [h1, h2]
    · rw [h.bit (Or.inr (by omega))]
      simp
  · rw [h.bit (Or.inl (by omega))]
    simp
theorem unF_MS {f : Nat → Nat} {n : Nat} (h : MS n f) : MS n (unF n f) := by
  intro j
  refine ⟨lt_bits (fun i hi => ?_), fun hj => ?_⟩
  · rw [unF_bit h]
    exact h.bit (Or.inl hi)
  · apply Nat.eq_of_testBit_eq
    intro i
    rw [unF_bit h, Nat.zero_testBit]
    exact h.bit (Or.inr hj)
