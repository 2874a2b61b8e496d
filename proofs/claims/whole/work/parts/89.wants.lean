/-! wanted: the orders by numbers, as the class counts them -/
def fc (n : Nat) : Nat := if n = 2 then 2 else if n = 3 then 6 else 24
def CC (n : Nat) : List Nat := if n = 2 then [1, 4] else if n = 3 then [6, 9, 18, 24, 33, 36] else [27, 30, 39, 45, 54, 57, 75, 78, 99, 108, 114, 120, 135, 141, 147, 156, 177, 180, 198, 201, 210, 216, 225, 228]
def AHL (n : Nat) : List Nat := if n = 2 then [0, 2, 0, 0, 1, 0, 0, 0, 0, 0, 0, 0, 0, 0, 0, 0] else if n = 3 then [0, 44, 56, 0, 19, 0, 50, 0, 7, 13, 0, 0, 0, 0, 0, 0] else [0, 11718592, 14940928, 16748032, 5058623, 0, 13365292, 16719928, 1836287, 3411923, 0, 16518322, 29183, 57287, 258893, 0]
def ah (n x : Nat) : Nat := (AHL n).getD x 0
def cc (n o : Nat) : Nat := (CC n).getD o 0
def cs (c p : Nat) : Nat := c / 4 ^ p % 4
def rc (n o : Nat) : Nat := itn (fun p acc => n * acc + cs (cc n o) p) n 0 0
/-- what is wanted of an order: the class's number, the reference's -/
def an (n w c : Nat) : Nat := if w = 0 then cs c 0 else if w = 1 then cs c (n - 1) else if w = 2 then 10 * cs c 0 + cs c (n - 1) else if w = 3 then 10 * cs c 0 + cs c 1 else if w = 4 then cs c (n / 2) else c
def wn (n w c : Nat) : Nat := if w = 0 then po n c 0 else if w = 1 then po n c (n - 1) else if w = 2 then 10 * po n c 0 + po n c (n - 1) else if w = 3 then 10 * po n c 0 + po n c 1 else if w = 4 then po n c (n / 2) else itn (fun k s => 10 * s + po n c k) n 0 0
def befB (n c a b : Nat) : Bool := (List.range n).any (fun p => (List.range n).any (fun q => decide (p < q) && po n c p == a && po n c q == b))
theorem befB_iff {n c a b : Nat} : befB n c a b = true ↔ bef n c a b := by
  unfold befB bef
  simp only [List.any_eq_true, List.mem_range, Bool.and_eq_true, decide_eq_true_eq, beq_iff_eq]
  constructor
  · rintro ⟨p, hp, q, hq, ⟨h1, h2⟩, h3⟩
    exact ⟨p, q, h1, hq, h2, h3⟩
  · rintro ⟨p, q, h1, hq, h2, h3⟩
    exact ⟨p, by omega, q, hq, ⟨h1, h2⟩, h3⟩
theorem all_r {p : Nat → Bool} {N i : Nat} (h : (List.range N).all p = true) (hi : i < N) : p i = true := List.all_eq_true.mp h i (List.mem_range.mpr hi)
def wkA (n : Nat) : Bool := (List.range (fc n)).all (fun o => decide (rc n o < n ^ n) && (px n (rc n o) n == 2 ^ n - 1))
def wkB (n : Nat) : Bool := (List.range (n ^ n)).all (fun c => !(px n c n == 2 ^ n - 1) || (sN (fun o => if rc n o = c then 1 else 0) (fc n) == 1))
def wkC (n : Nat) : Bool := (List.range 16).all (fun x => decide (ah n x < 2 ^ fc n) && (List.range (fc n)).all (fun o => (ah n x).testBit o == befB n (rc n o) (x / 4) (x % 4)))
def wkD (n : Nat) : Bool := (List.range 6).all (fun w => (List.range (fc n)).all (fun o => (List.range (fc n)).all (fun q => (an n w (cc n o) == an n w (cc n q)) == (wn n w (rc n o) == wn n w (rc n q)))))
def wkE (n : Nat) : Bool := (List.range (fc n)).all (fun o => (List.range (fc n)).all (fun q => (o == q) || (List.range 16).any (fun x => (ah n x).testBit o != (ah n x).testBit q)))
def N3 (n : Nat) : Prop := n = 2 ∨ n = 3 ∨ n = 4
theorem N3.le {n : Nat} (h : N3 n) : 2 ≤ n ∧ n ≤ 4 := by
  unfold N3 at h
  omega
theorem wkA_ok {n : Nat} (h : N3 n) : wkA n = true := by
  rcases h with rfl | rfl | rfl <;> decide +kernel
theorem wkB_ok {n : Nat} (h : N3 n) : wkB n = true := by
  rcases h with rfl | rfl | rfl <;> decide +kernel
theorem wkC_ok {n : Nat} (h : N3 n) : wkC n = true := by
  rcases h with rfl | rfl | rfl <;> decide +kernel
theorem wkD_ok {n : Nat} (h : N3 n) : wkD n = true := by
  rcases h with rfl | rfl | rfl <;> decide +kernel
theorem wkE_ok {n : Nat} (h : N3 n) : wkE n = true := by
  rcases h with rfl | rfl | rfl <;> decide +kernel
section WN2
variable {f : Nat → Nat} {n a b c o q w : Nat}
theorem rc_lt (h : N3 n) (ho : o < fc n) : rc n o < n ^ n ∧ px n (rc n o) n = 2 ^ n - 1 := by
  have := all_r (wkA_ok h) ho
  rw [Bool.and_eq_true, decide_eq_true_eq, beq_iff_eq] at this
  exact this
theorem rc_one (h : N3 n) (hc : c < n ^ n) (hp : px n c n = 2 ^ n - 1) : sN (fun o => if rc n o = c then 1 else 0) (fc n) = 1 := by
  have := all_r (wkB_ok h) hc
  rw [Bool.or_eq_true, beq_iff_eq, Bool.not_eq_true', beq_eq_false_iff_ne] at this
  exact this.resolve_left (fun z => z hp)
theorem rc_ex (h : N3 n) (hc : c < n ^ n) (hp : px n c n = 2 ^ n - 1) : ∃ o, o < fc n ∧ rc n o = c := by
  have e := rc_one h hc hp
  by_cases hx : ∃ o, o < fc n ∧ rc n o = c
  · exact hx
  · have z := sN_z (f := fun o => if rc n o = c then 1 else 0) (fc n) (fun o ho => if_neg (fun y => hx ⟨o, ho, y⟩))
    omega
theorem ah_lt (h : N3 n) {x : Nat} (hx : x < 16) : ah n x < 2 ^ fc n := by
  have := all_r (wkC_ok h) hx
  rw [Bool.and_eq_true, decide_eq_true_eq] at this
  exact this.1
theorem ah_bit (h : N3 n) (ha : a < n) (hb : b < n) (ho : o < fc n) : (ah n (4 * a + b)).testBit o = true ↔ bef n (rc n o) a b := by
  have h4 := h.le
  have := all_r (wkC_ok h) (i := 4 * a + b) (by omega)
  rw [Bool.and_eq_true] at this
  have t := all_r this.2 ho
  rw [beq_iff_eq, show (4 * a + b) / 4 = a by omega, show (4 * a + b) % 4 = b by omega] at t
  rw [t]
  exact befB_iff
theorem an_iff (h : N3 n) (hw : w < 6) (ho : o < fc n) (hq : q < fc n) : an n w (cc n o) = an n w (cc n q) ↔ wn n w (rc n o) = wn n w (rc n q) := by
  have t := all_r (all_r (all_r (wkD_ok h) hw) ho) hq
  rw [beq_iff_eq] at t
  rw [← beq_iff_eq, t, beq_iff_eq]
theorem rc_key (h : N3 n) (ho : o < fc n) (hq : q < fc n) (hk : ∀ x, x < 16 → (ah n x).testBit o = (ah n x).testBit q) : o = q := by
  have t := all_r (all_r (wkE_ok h) ho) hq
  rw [Bool.or_eq_true, beq_iff_eq, List.any_eq_true] at t
  rcases t with t | ⟨x, hx, t⟩
  · exact t
  · rw [List.mem_range] at hx
    rw [hk x hx] at t
    simp at t
/-- the orders that fit, as bits -/
def wsI (f : Nat → Nat) (n a b s : Nat) : Nat := if (f a).testBit b then s &&& ah n (4 * a + b) else s
def wsF (f : Nat → Nat) (n : Nat) : Nat := itn (fun a s => itn (wsI f n a) n 0 s) n 0 (2 ^ fc n - 1)
theorem wsI_bit (k s : Nat) : (itn (wsI f n a) k 0 s).testBit o = true ↔ s.testBit o = true ∧ ∀ b, b < k → (f a).testBit b = true → (ah n (4 * a + b)).testBit o = true := by
  induction k with
  | zero => exact ⟨fun z => ⟨z, fun b hb => absurd hb (Nat.not_lt_zero b)⟩, fun z => z.1⟩
  | succ k ih =>
    rw [itn_e, Nat.zero_add]
    generalize itn (wsI f n a) k 0 s = t at ih
    unfold wsI
    constructor
    · intro z
      split at z
      · rw [Nat.testBit_and, Bool.and_eq_true] at z
        obtain ⟨i1, i2⟩ := ih.mp z.1
        refine ⟨i1, fun b hb hf => ?_⟩
        by_cases e : b = k
        · rw [e]
          exact z.2
        · exact i2 b (by omega) hf
      · next hk =>
        obtain ⟨i1, i2⟩ := ih.mp z
        refine ⟨i1, fun b hb hf => ?_⟩
        by_cases e : b = k
        · rw [e] at hf
          exact absurd hf hk
        · exact i2 b (by omega) hf
    · rintro ⟨i1, i2⟩
      have i3 := ih.mpr ⟨i1, fun b hb => i2 b (by omega)⟩
      split
      · next hk =>
        rw [Nat.testBit_and, Bool.and_eq_true]
        exact ⟨i3, i2 k (by omega) hk⟩
      · exact i3
theorem wsF_in (k : Nat) : (itn (fun a s => itn (wsI f n a) n 0 s) k 0 (2 ^ fc n - 1)).testBit o = true ↔ o < fc n ∧ ∀ a, a < k → ∀ b, b < n → (f a).testBit b = true → (ah n (4 * a + b)).testBit o = true := by
  induction k with
  | zero =>
    rw [itn, full_bit, decide_eq_true_eq]
    exact ⟨fun z => ⟨z, fun a ha => absurd ha (Nat.not_lt_zero a)⟩, fun z => z.1⟩
  | succ k ih =>
    rw [itn_e, Nat.zero_add, wsI_bit, ih]
    constructor
    · rintro ⟨⟨h1, h2⟩, h3⟩
      refine ⟨h1, fun a ha b hb hf => ?_⟩
      by_cases e : a = k
      · subst e
        exact h3 b hb hf
      · exact h2 a (by omega) b hb hf
    · rintro ⟨h1, h2⟩
      exact ⟨⟨h1, fun a ha => h2 a (by omega)⟩, h2 k (by omega)⟩
theorem st_bit (h : N3 n) (hf : PO n f) : (wsF f n).testBit o = true ↔ o < fc n ∧ vl f n (rc n o) = true := by
  have h4 := h.le
  unfold wsF
  rw [wsF_in]
  constructor
  · rintro ⟨h1, h2⟩
    refine ⟨h1, (vl_char (by omega) hf.1).mpr ⟨(rc_lt h h1).2, fun a b hb => ?_⟩⟩
    have l := hf.lt hb
    exact (ah_bit h l.1 l.2 h1).mp (h2 a l.1 b l.2 hb)
  · rintro ⟨h1, h2⟩
    have v := (vl_char (by omega) hf.1).mp h2
    exact ⟨h1, fun a ha b hb hb2 => (ah_bit h ha hb h1).mpr (v.2 a b hb2)⟩
theorem st_lt : wsF f n < 2 ^ fc n := lt_bits (fun i hi => by
  cases hb : (wsF f n).testBit i
  · rfl
  · have := (wsF_in n).mp hb
    omega)
theorem fc_le : fc n ≤ 24 := by
  unfold fc
  split
  · omega
  · split <;> omega
theorem st_with (h : N3 n) (hf : PO n f) (ha : a < n) (hb : b < n) (hab : ¬ a = b) (hba : (f b).testBit a = false) : wsF f n &&& ah n (4 * a + b) = wsF (ab f n a b) n := by
  have h4 := h.le
  apply Nat.eq_of_testBit_eq
  intro o
  rw [Bool.eq_iff_iff, Nat.testBit_and, Bool.and_eq_true, st_bit h hf, st_bit h (ab_PO hf ha hb hab hba), vl_ab (by omega) hf.1 ha hb]
  constructor
  · rintro ⟨⟨h1, h2⟩, h3⟩
    exact ⟨h1, h2, (ah_bit h ha hb h1).mp h3⟩
  · rintro ⟨h1, h2, h3⟩
    exact ⟨⟨h1, h2⟩, (ah_bit h ha hb h1).mpr h3⟩
theorem st_wout (h : N3 n) (hf : PO n f) (ha : a < n) (hb : b < n) (hab : ¬ a = b) (hab2 : (f a).testBit b = false) : anot (wsF f n) (wsF f n &&& ah n (4 * a + b)) = wsF (ab f n b a) n := by
  have h4 := h.le
  apply Nat.eq_of_testBit_eq
  intro o
  have hba : ¬ b = a := fun z => hab z.symm
  rw [Bool.eq_iff_iff, anot_bit, Nat.testBit_and, Bool.and_eq_true, Bool.not_eq_true', Bool.and_eq_false_iff, st_bit h hf, st_bit h (ab_PO hf hb ha hba hab2), vl_ab (by omega) hf.1 hb ha]
  constructor
  · rintro ⟨⟨h1, h2⟩, h3⟩
    refine ⟨h1, h2, (bef_tot (by omega) (rc_lt h h1).2 hb ha hba).mpr (fun z => ?_)⟩
    rcases h3 with h3 | h3
    · rw [(st_bit h hf).mpr ⟨h1, h2⟩] at h3
      cases h3
    · rw [(ah_bit h ha hb h1).mpr z] at h3
      cases h3
  · rintro ⟨h1, h2, h3⟩
    refine ⟨⟨h1, h2⟩, Or.inr ?_⟩
    cases hx : (ah n (4 * a + b)).testBit o
    · rfl
    · exact absurd ((ah_bit h ha hb h1).mp hx) ((bef_tot (by omega) (rc_lt h h1).2 hb ha hba).mp h3)
theorem st_ne (h : N3 n) (hf : PO n f) : ¬ wsF f n = 0 := by
  have h4 := h.le
  obtain ⟨c, hc, hv⟩ := hf.ex (by omega) (by omega)
  obtain ⟨o, ho, e⟩ := rc_ex h hc ((vl_char (by omega) hf.1).mp hv).1
  intro z
  have := (st_bit (o := o) h hf).mpr ⟨ho, by rw [e]; exact hv⟩
  rw [z, Nat.zero_testBit] at this
  cases this
theorem st_all (h : N3 n) (hf : PO n f) (hab : (f a).testBit b = true) : wsF f n &&& ah n (4 * a + b) = wsF f n := by
  have h4 := h.le
  apply Nat.eq_of_testBit_eq
  intro o
  have l := hf.lt hab
  rw [Bool.eq_iff_iff, Nat.testBit_and, Bool.and_eq_true]
  refine ⟨fun z => z.1, fun z => ⟨z, ?_⟩⟩
  obtain ⟨h1, h2⟩ := (st_bit h hf).mp z
  exact (ah_bit h l.1 l.2 h1).mpr (((vl_char (by omega) hf.1).mp h2).2 a b hab)
theorem st_none (h : N3 n) (hf : PO n f) (hab : (f b).testBit a = true) : wsF f n &&& ah n (4 * a + b) = 0 := by
  have h4 := h.le
  apply Nat.eq_of_testBit_eq
  intro o
  have l := hf.lt hab
  rw [Nat.zero_testBit]
  cases hx : (wsF f n &&& ah n (4 * a + b)).testBit o
  · rfl
  · rw [Nat.testBit_and, Bool.and_eq_true] at hx
    obtain ⟨h1, h2⟩ := (st_bit h hf).mp hx.1
    have h3 := (ah_bit h l.2 l.1 h1).mp hx.2
    have h5 := ((vl_char (by omega) hf.1).mp h2).2 b a hab
    have hne : ¬ a = b := fun z => by
      rw [z, hf.2.2 b] at hab
      cases hab
    exact absurd h5 ((bef_tot (by omega) (rc_lt h h1).2 l.2 l.1 hne).mp h3)
theorem st_cnt (h : N3 n) (hf : PO n f) : (fdF f n (n ^ n)).1 = pc 24 (wsF f n) := by
  have h4 := h.le
  have f24 := fc_le (n := n)
  rw [fdF_1]
  have e1 : sN (fun c => if vl f n c then 1 else 0) (n ^ n) = sN (fun c => sN (fun o => if rc n o = c then (if vl f n c then 1 else 0) else 0) (fc n)) (n ^ n) := by
    refine sN_cong _ (fun c hc => ?_)
    cases hv : vl f n c
    · simp only [Bool.false_eq_true, if_false]
      exact (sN_z _ (fun o _ => by split <;> rfl)).symm
    · simp only [if_true]
      exact (rc_one h hc ((vl_char (by omega) hf.1).mp hv).1).symm
  rw [e1, sN_swap]
  have e2 : pc 24 (wsF f n) = sN (fun i => if (wsF f n).testBit i then 1 else 0) (fc n + (24 - fc n)) := by
    rw [show fc n + (24 - fc n) = 24 by omega]
    rfl
  rw [e2, sN_split, sN_z (f := fun i => if (wsF f n).testBit (fc n + i) then 1 else 0) (24 - fc n) (fun i _ => by
    rw [if_neg]
    intro z
    have := ((st_bit h hf).mp z).1
    omega), Nat.add_zero]
  refine sN_cong _ (fun o ho => ?_)
  rw [sN_one (p := rc n o) (rc_lt h ho).1 (fun c hc hne => if_neg (fun z => hne z.symm)), if_pos rfl]
  cases hv : vl f n (rc n o)
  · rw [if_neg (by decide), if_neg (fun z => by rw [((st_bit h hf).mp z).2] at hv; cases hv)]
  · rw [if_pos rfl, if_pos ((st_bit h hf).mpr ⟨ho, hv⟩)]
end WN2
