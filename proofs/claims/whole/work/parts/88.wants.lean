/-! wanted: what is known, one more told -/
def bef (n c a b : Nat) : Prop := ∃ p q, p < q ∧ q < n ∧ po n c p = a ∧ po n c q = b
/-- known: masks, all that follows, nobody above itself -/
def PO (n : Nat) (f : Nat → Nat) : Prop := MS n f ∧ TR f ∧ ∀ a, (f a).testBit a = false
def ab (f : Nat → Nat) (n a b : Nat) : Nat → Nat := clF n (nput f a (f a ||| 2 ^ b))
theorem vl_char {f : Nat → Nat} {n c : Nat} (hn : 0 < n) (hf : MS n f) : vl f n c = true ↔ px n c n = 2 ^ n - 1 ∧ ∀ a b, (f a).testBit b = true → bef n c a b := by
  unfold vl
  rw [Bool.and_eq_true, pv_full hn, beq_iff_eq, ct_zero]
  constructor
  · rintro ⟨h1, h2⟩
    refine ⟨h1, fun a b hb => ?_⟩
    have hbn : b < n := by
      rcases Nat.lt_or_ge b n with q | q
      · exact q
      · rw [hf.bit (Or.inr q)] at hb
        cases hb
    obtain ⟨q, hq, eq⟩ := px_all h1 hbn
    have h3 := h2 q hq a (by rw [unF_bit hf, eq]; exact hb)
    obtain ⟨p, hp, ep⟩ := (px_bit q).mp h3
    exact ⟨p, q, hp, hq, ep, eq⟩
  · rintro ⟨h1, h2⟩
    refine ⟨h1, fun j hj i hi => ?_⟩
    rw [unF_bit hf] at hi
    obtain ⟨p, q, hpq, hq, ep, eq⟩ := h2 i _ hi
    have e := po_ne hn h1 hq hj eq
    subst e
    exact (px_bit q).mpr ⟨p, hpq, ep⟩
theorem bef_tr {n c x y z : Nat} (hn : 0 < n) (h : px n c n = 2 ^ n - 1) (h1 : bef n c x y) (h2 : bef n c y z) : bef n c x z := by
  obtain ⟨p, q, a1, a2, a3, a4⟩ := h1
  obtain ⟨p2, q2, b1, b2, b3, b4⟩ := h2
  have e := po_ne hn h a2 (by omega) (a4.trans b3.symm)
  exact ⟨p, q2, by omega, b2, a3, b4⟩
theorem bef_tot {n c a b : Nat} (hn : 0 < n) (h : px n c n = 2 ^ n - 1) (ha : a < n) (hb : b < n) (hab : ¬ a = b) : bef n c a b ↔ ¬ bef n c b a := by
  obtain ⟨p, hp, ep⟩ := px_all h ha
  obtain ⟨q, hq, eq⟩ := px_all h hb
  have hne : ¬ p = q := fun z => hab (by rw [← ep, ← eq, z])
  constructor
  · rintro ⟨p1, q1, a1, a2, a3, a4⟩ ⟨p2, q2, b1, b2, b3, b4⟩
    have e1 := po_ne hn h (by omega) b2 (a3.trans b4.symm)
    have e2 := po_ne hn h a2 (by omega) (a4.trans b3.symm)
    omega
  · intro z
    rcases Nat.lt_or_ge p q with w | w
    · exact ⟨p, q, w, hq, ep, eq⟩
    · exact absurd ⟨q, p, by omega, hp, eq, ep⟩ z
theorem clI_min {R : Nat → Nat → Prop} {k a : Nat} {f : Nat → Nat} (tr : ∀ a b c, R a b → R b c → R a c) (h : ∀ a b, (f a).testBit b = true → R a b) : ∀ x y, (clI k a f x).testBit y = true → R x y := by
  intro x y hy
  unfold clI at hy
  split at hy
  · next hz =>
    by_cases e : x = a
    · subst e
      rw [nput_same, Nat.testBit_or, Bool.or_eq_true] at hy
      rcases hy with w | w
      · exact h _ _ w
      · exact tr _ _ _ (h _ _ hz) (h _ _ w)
    · rw [nput_ne e] at hy
      exact h _ _ hy
  · exact h _ _ hy
theorem clF_min {R : Nat → Nat → Prop} {n : Nat} {f : Nat → Nat} (tr : ∀ a b c, R a b → R b c → R a c) (h : ∀ a b, (f a).testBit b = true → R a b) : ∀ x y, (clF n f x).testBit y = true → R x y := itn_inv (fun b f => itn (clI b) n 0 f) (fun _ f => ∀ x y, (f x).testBit y = true → R x y) n (fun i f hf _ => itn_inv (clI i) (fun _ f => ∀ x y, (f x).testBit y = true → R x y) n (fun j f hf _ => clI_min tr hf) n 0 f (by omega) hf) n 0 f (by omega) h
theorem clI_up {k a : Nat} {f : Nat → Nat} : ∀ x y, (f x).testBit y = true → (clI k a f x).testBit y = true := by
  intro x y hy
  unfold clI
  split
  · by_cases e : x = a
    · subst e
      rw [nput_same, Nat.testBit_or, hy]
      rfl
    · rw [nput_ne e]
      exact hy
  · exact hy
theorem clF_up {n : Nat} {f : Nat → Nat} : ∀ x y, (f x).testBit y = true → (clF n f x).testBit y = true := fun x y hy => itn_inv (fun b f => itn (clI b) n 0 f) (fun _ g => (g x).testBit y = true) n (fun i g hg _ => itn_inv (clI i) (fun _ g => (g x).testBit y = true) n (fun j g hg _ => clI_up x y hg) n 0 g (by omega) hg) n 0 f (by omega) hy
section WN1
variable {f : Nat → Nat} {n a b c : Nat}
theorem nput_bit {x y : Nat} : ((nput f a (f a ||| 2 ^ b)) x).testBit y = true ↔ (f x).testBit y = true ∨ (x = a ∧ y = b) := by
  by_cases e : x = a
  · subst e
    rw [nput_same, Nat.testBit_or, Bool.or_eq_true, bit_pow, decide_eq_true_eq]
    constructor
    · rintro (w | w)
      · exact Or.inl w
      · exact Or.inr ⟨rfl, w.symm⟩
    · rintro (w | w)
      · exact Or.inl w
      · exact Or.inr w.2.symm
  · rw [nput_ne e]
    exact ⟨Or.inl, fun w => w.elim id (fun z => absurd z.1 e)⟩
theorem put_MS (hf : MS n f) (ha : a < n) (hb : b < n) : MS n (nput f a (f a ||| 2 ^ b)) := hf.put ha (or_lt (hf a).1 hb)
theorem ab_MS (hf : MS n f) (ha : a < n) (hb : b < n) : MS n (ab f n a b) := clF_MS n (put_MS hf ha hb)
theorem ab_TR (hf : MS n f) (ha : a < n) (hb : b < n) : TR (ab f n a b) := clF_TR (put_MS hf ha hb)
theorem ab_up {x y : Nat} (h : (f x).testBit y = true) : (ab f n a b x).testBit y = true := clF_up x y (nput_bit.mpr (Or.inl h))
theorem ab_new : (ab f n a b a).testBit b = true := clF_up a b (nput_bit.mpr (Or.inr ⟨rfl, rfl⟩))
theorem ab_PO (hf : PO n f) (ha : a < n) (hb : b < n) (hab : ¬ a = b) (hba : (f b).testBit a = false) : PO n (ab f n a b) := by
  obtain ⟨h1, tr, ir⟩ := hf
  refine ⟨ab_MS h1 ha hb, ab_TR h1 ha hb, fun x => ?_⟩
  have no : ∀ x y, (f x).testBit y = true → ¬ x = y := fun x y h e => by
    rw [e, ir y] at h
    cases h
  have nb : ∀ y, (y = b ∨ (f b).testBit y = true) → (y = a ∨ (f y).testBit a = true) → False := by
    intro y q1 q2
    rcases q1 with q1 | q1
    · rcases q2 with q2 | q2
      · exact hab (by rw [← q2, q1])
      · rw [q1, hba] at q2
        cases q2
    · rcases q2 with q2 | q2
      · rw [q2, hba] at q1
        cases q1
      · have := tr b y a q1 q2
        rw [hba] at this
        cases this
  have key := clF_min (n := n) (f := nput f a (f a ||| 2 ^ b)) (R := fun x y => (f x).testBit y = true ∨ ((x = a ∨ (f x).testBit a = true) ∧ (y = b ∨ (f b).testBit y = true))) (by
    rintro x y z (q | ⟨q1, q2⟩) (r | ⟨r1, r2⟩)
    · exact Or.inl (tr x y z q r)
    · refine Or.inr ⟨Or.inr ?_, r2⟩
      rcases r1 with r1 | r1
      · rw [← r1]
        exact q
      · exact tr x y a q r1
    · refine Or.inr ⟨q1, Or.inr ?_⟩
      rcases q2 with q2 | q2
      · rw [← q2]
        exact r
      · exact tr b y z q2 r
    · exact (nb y q2 r1).elim) (by
    intro x y h
    rcases nput_bit.mp h with w | w
    · exact Or.inl w
    · exact Or.inr ⟨Or.inl w.1, Or.inl w.2⟩)
  cases hx : (ab f n a b x).testBit x
  · rfl
  · rcases key x x hx with w | ⟨w1, w2⟩
    · exact absurd rfl (no x x w)
    · exact (nb x w2 w1).elim
theorem vl_ab (hn : 0 < n) (hf : MS n f) (ha : a < n) (hb : b < n) : vl (ab f n a b) n c = true ↔ vl f n c = true ∧ bef n c a b := by
  rw [vl_char hn (ab_MS hf ha hb), vl_char hn hf]
  constructor
  · rintro ⟨h1, h2⟩
    exact ⟨⟨h1, fun x y hy => h2 x y (ab_up hy)⟩, h2 a b ab_new⟩
  · rintro ⟨⟨h1, h2⟩, h3⟩
    refine ⟨h1, clF_min (fun x y z q r => bef_tr hn h1 q r) (fun x y hy => ?_)⟩
    rcases nput_bit.mp hy with w | w
    · exact h2 x y w
    · rw [w.1, w.2]
      exact h3
theorem PO.ex (hn : 0 < n) (hn6 : n ≤ 6) (hf : PO n f) : ∃ c, c < n ^ n ∧ vl f n c = true := by
  have v := vl_gc hn hn6 hf.1 hf.2.1 ((rbF_zero hf.1).mpr hf.2.2)
  exact ⟨_, v.2.1, v.1⟩
theorem PO.asym (hf : PO n f) (h : (f a).testBit b = true) : (f b).testBit a = false := by
  cases hb : (f b).testBit a
  · rfl
  · have := hf.2.1 a b a h hb
    rw [hf.2.2 a] at this
    cases this
theorem PO.lt (hf : PO n f) (h : (f a).testBit b = true) : a < n ∧ b < n := by
  constructor
  · rcases Nat.lt_or_ge a n with q | q
    · exact q
    · rw [hf.1.bit (Or.inl q)] at h
      cases h
  · rcases Nat.lt_or_ge b n with q | q
    · exact q
    · rw [hf.1.bit (Or.inr q)] at h
      cases h
end WN1
