/-! wanted: the fewest weighings as a number of what is known; where the class keeps it -/
def wvS (W : (Nat → Nat) → Nat × Nat) (f : Nat → Nat) (n a b : Nat) (s : Nat × Nat) : Nat × Nat := if (f a).testBit b || (f b).testBit a then s else (min s.1 (max (W (ab f n a b)).1 (W (ab f n b a)).1 + 1), min s.2 ((W (ab f n a b)).2 + (W (ab f n b a)).2 + cntV f n))
def wvL (W : (Nat → Nat) → Nat × Nat) (f : Nat → Nat) (n : Nat) (s : Nat × Nat) : Nat × Nat := itn (fun a s => itn (wvS W f n a) (n - (a + 1)) (a + 1) s) n 0 s
def wv (n w : Nat) : Nat → (Nat → Nat) → Nat × Nat
  | 0, _ => (0, 0)
  | k + 1, f => if agB f n w then (0, 0) else wvL (wv n w k) f n (999, 99999)
def wW (n w : Nat) (f : Nat → Nat) : Nat × Nat := wv n w 7 f
section WN4
variable {f f' : Nat → Nat} {n m a b c o q w : Nat} {W W' : (Nat → Nat) → Nat × Nat} {s : Nat × Nat}
theorem wvL_cong (h : ∀ a b, a < b → b < n → (f a).testBit b = false → (f b).testBit a = false → W (ab f n a b) = W' (ab f n a b) ∧ W (ab f n b a) = W' (ab f n b a)) : wvL W f n s = wvL W' f n s := by
  unfold wvL
  refine itn_cong n 0 s (fun a _ ha t => itn_cong _ _ t (fun b hb1 hb2 u => ?_))
  unfold wvS
  cases h1 : (f a).testBit b
  · cases h2 : (f b).testBit a
    · obtain ⟨e1, e2⟩ := h a b (by omega) (by omega) h1 h2
      rw [e1, e2]
    · rfl
  · rfl
theorem wv_stab (h : N3 n) : ∀ k f, PO n f → n * (n - 1) / 2 ≤ k + nb f → wv n w (k + 1) f = wv n w k f
  | 0, f, hf, hk => by
    rw [wv, wv]
    cases ha : agB f n w
    · obtain ⟨a, b, h1, h2, h3, h4⟩ := op_ex h hf ha
      have := nb_open h hf h1 h2 h3 h4
      omega
    · rfl
  | k + 1, f, hf, hk => by
    rw [wv, wv]
    cases ha : agB f n w
    · rw [if_neg Bool.false_ne_true, if_neg Bool.false_ne_true]
      refine wvL_cong (fun a b h1 h2 h3 h4 => ?_)
      have n1 := nb_ab h (show a < n by omega) h2 (show ¬ a = b by omega) h3
      have n2 := nb_ab h h2 (show a < n by omega) (show ¬ b = a by omega) h4
      exact ⟨wv_stab h k _ (ab_PO hf (by omega) h2 (by omega) h4) (by omega), wv_stab h k _ (ab_PO hf h2 (by omega) (by omega) h3) (by omega)⟩
    · rfl
theorem tri_le (h : N3 n) : n * (n - 1) / 2 ≤ 6 := by
  rcases h with rfl | rfl | rfl <;> decide
theorem wW_eq (h : N3 n) (hf : PO n f) : wW n w f = if agB f n w then (0, 0) else wvL (wW n w) f n (999, 99999) := by
  have t := tri_le h
  unfold wW
  rw [wv]
  cases ha : agB f n w
  · rw [if_neg Bool.false_ne_true, if_neg Bool.false_ne_true]
    refine wvL_cong (fun a b h1 h2 h3 h4 => ?_)
    exact ⟨(wv_stab h 6 _ (ab_PO hf (by omega) h2 (by omega) h4) (by omega)).symm, (wv_stab h 6 _ (ab_PO hf h2 (by omega) (by omega) h3) (by omega)).symm⟩
  · rw [if_pos rfl, if_pos rfl]
/-- pairs one behind the other, as one row of 16 -/
theorem pair_fold {S : Type} (h : N3 n) (g : Nat → Nat → S → S) (s : S) : itn (fun a s => itn (g a) (n - (a + 1)) (a + 1) s) n 0 s = itn (fun p s => if p / 4 < p % 4 ∧ p % 4 < n then g (p / 4) (p % 4) s else s) 16 0 s := by
  rcases h with rfl | rfl | rfl <;> rfl
def skp (f : Nat → Nat) (n p : Nat) : Bool := !(decide (p / 4 < p % 4) && decide (p % 4 < n)) || ((f (p / 4)).testBit (p % 4) || (f (p % 4)).testBit (p / 4))
def c1F (W : (Nat → Nat) → Nat × Nat) (f : Nat → Nat) (n p : Nat) : Nat := max (W (ab f n (p / 4) (p % 4))).1 (W (ab f n (p % 4) (p / 4))).1 + 1
def c2F (W : (Nat → Nat) → Nat × Nat) (f : Nat → Nat) (n p : Nat) : Nat := (W (ab f n (p / 4) (p % 4))).2 + (W (ab f n (p % 4) (p / 4))).2 + cntV f n
def wpS (W : (Nat → Nat) → Nat × Nat) (f : Nat → Nat) (n p : Nat) (s : Nat × Nat) : Nat × Nat := if skp f n p then s else (min s.1 (c1F W f n p), min s.2 (c2F W f n p))
theorem wvL_row (h : N3 n) : wvL W f n s = itn (wpS W f n) 16 0 s := by
  unfold wvL
  rw [pair_fold h]
  refine itn_cong _ _ _ (fun p _ _ t => ?_)
  unfold wpS skp wvS c1F c2F
  by_cases hp : p / 4 < p % 4 ∧ p % 4 < n
  · rw [if_pos hp, decide_eq_true hp.1, decide_eq_true hp.2]
    simp only [Bool.and_self, Bool.not_true, Bool.false_or]
  · rw [if_neg hp]
    have : (decide (p / 4 < p % 4) && decide (p % 4 < n)) = false := by
      rw [Bool.and_eq_false_iff, decide_eq_false_iff_not, decide_eq_false_iff_not]
      omega
    rw [this]
    simp only [Bool.not_false, Bool.true_or, if_true]
theorem wpS_1 : ∀ k i s, (itn (wpS W f n) k i s).1 = itn (fun p a => if skp f n p then a else min a (c1F W f n p)) k i s.1 := itn_hom (fun s => s.1) (wpS W f n) (fun p a => if skp f n p then a else min a (c1F W f n p)) (fun i s => by
  unfold wpS
  cases skp f n i <;> rfl)
theorem wpS_2 : ∀ k i s, (itn (wpS W f n) k i s).2 = itn (fun p a => if skp f n p then a else min a (c2F W f n p)) k i s.2 := itn_hom (fun s => s.2) (wpS W f n) (fun p a => if skp f n p then a else min a (c2F W f n p)) (fun i s => by
  unfold wpS
  cases skp f n i <;> rfl)
theorem mn_start {p : Nat → Bool} {g : Nat → Nat} {k x y t : Nat} (ht : t < k) (hp : p t = false) (hx : g t ≤ x) (hy : g t ≤ y) : itn (fun s acc => if p s then acc else min acc (g s)) k 0 x = itn (fun s acc => if p s then acc else min acc (g s)) k 0 y := by
  have lx := mn_le (p := p) (g := g) k x ht hp
  have ly := mn_le (p := p) (g := g) k y ht hp
  rcases mn_is (p := p) (g := g) k x with e1 | ⟨s1, h1, h2, e1⟩
  · rcases mn_is (p := p) (g := g) k y with e2 | ⟨s2, h3, h4, e2⟩
    · omega
    · have := mn_le (p := p) (g := g) k x h3 h4
      omega
  · have l1 := mn_le (p := p) (g := g) k y h1 h2
    rcases mn_is (p := p) (g := g) k y with e2 | ⟨s2, h3, h4, e2⟩
    · omega
    · have := mn_le (p := p) (g := g) k x h3 h4
      omega
theorem skp_open (h : N3 n) (hab : a < b) (hb : b < n) (h1 : (f a).testBit b = false) (h2 : (f b).testBit a = false) : 4 * a + b < 16 ∧ skp f n (4 * a + b) = false ∧ (4 * a + b) / 4 = a ∧ (4 * a + b) % 4 = b := by
  have h4 := h.le
  have e1 : (4 * a + b) / 4 = a := by omega
  have e2 : (4 * a + b) % 4 = b := by omega
  refine ⟨by omega, ?_, e1, e2⟩
  unfold skp
  rw [e1, e2, h1, h2, decide_eq_true hab, decide_eq_true hb]
  rfl
theorem cnt_le (h : N3 n) (hf : PO n f) : cntV f n ≤ 24 := by
  unfold cntV
  rw [st_cnt h hf]
  exact pc_le
theorem cnt_pos (h : N3 n) (hf : PO n f) : 1 ≤ cntV f n := by
  have h4 := h.le
  unfold cntV
  exact Nat.pos_of_ne_zero (fun z => (many_zero (f := f) (n := n) (by omega) (by omega) hf.1 hf.2.1).mp z ((rbF_zero hf.1).mpr hf.2.2))
theorem wv_b (h : N3 n) : ∀ k f, PO n f → n * (n - 1) / 2 ≤ k + nb f → (wv n w k f).1 ≤ k ∧ (wv n w k f).2 + 24 ≤ 24 * 2 ^ k
  | 0, f, hf, hk => ⟨Nat.le_refl 0, Nat.le_refl 24⟩
  | k + 1, f, hf, hk => by
    rw [wv]
    have p1 : 1 ≤ 2 ^ k := Nat.one_le_two_pow
    have p2 : 2 ^ (k + 1) = 2 * 2 ^ k := by rw [Nat.pow_succ, Nat.mul_comm]
    cases ha : agB f n w
    · rw [if_neg Bool.false_ne_true]
      obtain ⟨a, b, h1, h2, h3, h4⟩ := op_ex h hf ha
      have n1 := nb_ab h (show a < n by omega) h2 (show ¬ a = b by omega) h3
      have n2 := nb_ab h h2 (show a < n by omega) (show ¬ b = a by omega) h4
      have b1 := wv_b h k _ (ab_PO hf (show a < n by omega) h2 (show ¬ a = b by omega) h4) (by omega)
      have b2 := wv_b h k _ (ab_PO hf h2 (show a < n by omega) (show ¬ b = a by omega) h3) (by omega)
      obtain ⟨s1, s2, s3, s4⟩ := skp_open h h1 h2 h3 h4
      have cl := cnt_le h hf
      rw [wvL_row h]
      constructor
      · rw [wpS_1]
        have e : c1F (wv n w k) f n (4 * a + b) ≤ k + 1 := by
          unfold c1F
          rw [s3, s4]
          omega
        exact Nat.le_trans (mn_le (p := skp f n) (g := c1F (wv n w k) f n) 16 999 s1 s2) e
      · rw [wpS_2]
        have e : c2F (wv n w k) f n (4 * a + b) + 24 ≤ 24 * 2 ^ (k + 1) := by
          unfold c2F
          rw [s3, s4, p2]
          omega
        exact Nat.le_trans (Nat.add_le_add_right (mn_le (p := skp f n) (g := c2F (wv n w k) f n) 16 99999 s1 s2) 24) e
    · rw [if_pos rfl]
      dsimp only
      omega
theorem wW_b (h : N3 n) (hf : PO n f) : (wW n w f).1 ≤ 7 ∧ (wW n w f).2 ≤ 3048 := by
  have t := tri_le h
  have := wv_b (w := w) h 7 f hf (by omega)
  unfold wW
  omega
/-- from another beginning, if they do not agree -/
theorem wvL_any (h : N3 n) (hf : PO n f) (hag : agB f n w = false) {x y : Nat} (hx : 999 ≤ x) (hy : 99999 ≤ y) : itn (wpS (wW n w) f n) 16 0 (x, y) = wvL (wW n w) f n (999, 99999) := by
  obtain ⟨a, b, h1, h2, h3, h4⟩ := op_ex h hf hag
  obtain ⟨s1, s2, s3, s4⟩ := skp_open h h1 h2 h3 h4
  have b1 := wW_b (w := w) h (ab_PO hf (show a < n by omega) h2 (show ¬ a = b by omega) h4)
  have b2 := wW_b (w := w) h (ab_PO hf h2 (show a < n by omega) (show ¬ b = a by omega) h3)
  have cl := cnt_le h hf
  rw [wvL_row h]
  refine Prod.ext ?_ ?_
  · rw [wpS_1, wpS_1]
    have e : c1F (wW n w) f n (4 * a + b) ≤ 999 := by
      unfold c1F
      rw [s3, s4]
      omega
    exact mn_start s1 s2 (by dsimp only; omega) e
  · rw [wpS_2, wpS_2]
    have e : c2F (wW n w) f n (4 * a + b) ≤ 99999 := by
      unfold c2F
      rw [s3, s4]
      omega
    exact mn_start s1 s2 (by dsimp only; omega) e
/-- digits of what is known -/
def dg3 (f : Nat → Nat) (a b : Nat) : Nat := if (f a).testBit b then 1 else if (f b).testBit a then 2 else 0
def ixI (f : Nat → Nat) (a b s : Nat) : Nat := 3 * s + dg3 f a b
def ixC (f : Nat → Nat) (n : Nat) : Nat := itn (fun a s => itn (ixI f a) (n - (a + 1)) (a + 1) s) n 0 0
def ixO (n : Nat) : Nat := if n < 3 then 0 else if n < 4 then 3 else 30
def ix (n w : Nat) (f : Nat → Nat) : Nat := 759 * w + ixO n + ixC f n
theorem dg3_le (a b : Nat) : dg3 f a b ≤ 2 := by
  unfold dg3
  split
  · omega
  · split <;> omega
theorem ixC_2 : ixC f 2 = 3 * 0 + dg3 f 0 1 := rfl
theorem ixC_3 : ixC f 3 = 3 * (3 * (3 * 0 + dg3 f 0 1) + dg3 f 0 2) + dg3 f 1 2 := rfl
theorem ixC_4 : ixC f 4 = 3 * (3 * (3 * (3 * (3 * (3 * 0 + dg3 f 0 1) + dg3 f 0 2) + dg3 f 0 3) + dg3 f 1 2) + dg3 f 1 3) + dg3 f 2 3 := rfl
theorem PO.of_dg (hf : PO n f) (hf' : PO n f') (h : ∀ a b, a < b → b < n → dg3 f a b = dg3 f' a b) : f = f' := by
  have key : ∀ a b, a < b → b < n → (f a).testBit b = (f' a).testBit b ∧ (f b).testBit a = (f' b).testBit a := by
    intro a b hab hb
    have e := h a b hab hb
    unfold dg3 at e
    have s1 := fun z => hf.asym (a := a) (b := b) z
    have s2 := fun z => hf'.asym (a := a) (b := b) z
    cases x1 : (f a).testBit b <;> cases x2 : (f b).testBit a <;> cases y1 : (f' a).testBit b <;> cases y2 : (f' b).testBit a <;> rw [x1, x2, y1, y2] at e <;> rw [x1, x2] at s1 <;> rw [y1, y2] at s2 <;> simp_all
  funext a
  apply Nat.eq_of_testBit_eq
  intro b
  by_cases hab : a < n ∧ b < n
  · rcases Nat.lt_trichotomy a b with c | c | c
    · exact (key a b c hab.2).1
    · rw [c, hf.2.2, hf'.2.2]
    · exact (key b a c hab.1).2
  · rw [hf.1.bit (by omega), hf'.1.bit (by omega)]
theorem ixC_lt (h : N3 n) : ixO n + ixC f n < 759 ∧ ixO n ≤ ixO n + ixC f n := by
  have d01 := dg3_le (f := f) 0 1
  have d02 := dg3_le (f := f) 0 2
  have d03 := dg3_le (f := f) 0 3
  have d12 := dg3_le (f := f) 1 2
  have d13 := dg3_le (f := f) 1 3
  have d23 := dg3_le (f := f) 2 3
  rcases h with rfl | rfl | rfl
  · have e : ixO 2 = 0 := rfl
    rw [ixC_2, e]
    omega
  · have e : ixO 3 = 3 := rfl
    rw [ixC_3, e]
    omega
  · have e : ixO 4 = 30 := rfl
    rw [ixC_4, e]
    omega
theorem ix_lt (h : N3 n) (hw : w < 6) : ix n w f < 4554 := by
  have := ixC_lt (f := f) h
  unfold ix
  omega
theorem ix_inj {n' w' : Nat} (h : N3 n) (h' : N3 n') (hf : PO n f) (hf' : PO n' f') (e : ix n w f = ix n' w' f') : n = n' ∧ w = w' ∧ f = f' := by
  have l1 := ixC_lt (f := f) h
  have l2 := ixC_lt (f := f') h'
  unfold ix at e
  have ew : w = w' := by omega
  subst ew
  have e2 : ixO n + ixC f n = ixO n' + ixC f' n' := by omega
  clear e l1 l2
  have d := fun a b => dg3_le (f := f) a b
  have d' := fun a b => dg3_le (f := f') a b
  have d01 := d 0 1
  have d02 := d 0 2
  have d03 := d 0 3
  have d12 := d 1 2
  have d13 := d 1 3
  have d23 := d 2 3
  have x01 := d' 0 1
  have x02 := d' 0 2
  have x03 := d' 0 3
  have x12 := d' 1 2
  have x13 := d' 1 3
  have x23 := d' 2 3
  have o2 : ixO 2 = 0 := rfl
  have o3 : ixO 3 = 3 := rfl
  have o4 : ixO 4 = 30 := rfl
  rcases h with rfl | rfl | rfl <;> rcases h' with rfl | rfl | rfl <;> simp only [ixC_2, ixC_3, ixC_4, o2, o3, o4] at e2
  · refine ⟨rfl, rfl, hf.of_dg hf' (fun a b h1 h2 => ?_)⟩
    have z : a = 0 ∧ b = 1 := by omega
    obtain ⟨rfl, rfl⟩ := z
    omega
  · omega
  · omega
  · omega
  · refine ⟨rfl, rfl, hf.of_dg hf' (fun a b h1 h2 => ?_)⟩
    have z : (a = 0 ∧ b = 1) ∨ (a = 0 ∧ b = 2) ∨ (a = 1 ∧ b = 2) := by omega
    rcases z with ⟨rfl, rfl⟩ | ⟨rfl, rfl⟩ | ⟨rfl, rfl⟩ <;> omega
  · omega
  · omega
  · omega
  · refine ⟨rfl, rfl, hf.of_dg hf' (fun a b h1 h2 => ?_)⟩
    have z : (a = 0 ∧ b = 1) ∨ (a = 0 ∧ b = 2) ∨ (a = 0 ∧ b = 3) ∨ (a = 1 ∧ b = 2) ∨ (a = 1 ∧ b = 3) ∨ (a = 2 ∧ b = 3) := by omega
    rcases z with ⟨rfl, rfl⟩ | ⟨rfl, rfl⟩ | ⟨rfl, rfl⟩ | ⟨rfl, rfl⟩ | ⟨rfl, rfl⟩ | ⟨rfl, rfl⟩ <;> omega
end WN4
