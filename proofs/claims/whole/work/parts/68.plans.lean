/-! plans: the order of the halves makes no difference -/
def Loc (a b : Nat) (f : PS → PS) : Prop := (∀ s j, ¬ (a ≤ j ∧ j < b) → (f s).2 j = s.2 j) ∧ ∀ s s' : PS, (∀ j, a ≤ j → j < b → s.2 j = s'.2 j) → (f s).1 + s'.1 = (f s').1 + s.1 ∧ ∀ j, a ≤ j → j < b → (f s).2 j = (f s').2 j
theorem Loc_mono {a b c : Nat} {f : PS → PS} (h : Loc a b f) (hbc : b ≤ c) : Loc a c f := by
  obtain ⟨h1, h2⟩ := h
  refine ⟨fun s j hj => h1 s j (by omega), fun s s' hs => ?_⟩
  obtain ⟨q1, q2⟩ := h2 s s' (fun j j1 j2 => hs j j1 (by omega))
  refine ⟨q1, fun j j1 j2 => ?_⟩
  by_cases hj : j < b
  · exact q2 j j1 hj
  · rw [h1 s j (by omega), h1 s' j (by omega)]
    exact hs j j1 j2
theorem Loc_itn {a b : Nat} {f : Nat → PS → PS} : ∀ (k i : Nat), (∀ c, i ≤ c → c < i + k → Loc a b (f c)) → Loc a b (itn f k i)
  | 0, i, _ => ⟨fun s j hj => rfl, fun s s' hs => ⟨Nat.add_comm _ _, hs⟩⟩
  | k + 1, i, h => by
    obtain ⟨h1, h2⟩ := h i (Nat.le_refl i) (by omega)
    obtain ⟨q1, q2⟩ := Loc_itn k (i + 1) (fun c c1 c2 => h c (by omega) (by omega))
    refine ⟨fun s j hj => ?_, fun s s' hs => ?_⟩
    · rw [itn, q1 _ j hj, h1 s j hj]
    · obtain ⟨u1, u2⟩ := h2 s s' hs
      obtain ⟨v1, v2⟩ := q2 (f i s) (f i s') u2
      rw [itn, itn]
      exact ⟨by omega, v2⟩
theorem Loc_comm {a b a' b' : Nat} {f g : PS → PS} {s : PS} (hf : Loc a b f) (hg : Loc a' b' g) (h : b ≤ a') : f (g s) = g (f s) := by
  obtain ⟨f1, f2⟩ := hf
  obtain ⟨g1, g2⟩ := hg
  obtain ⟨u1, u2⟩ := f2 (g s) s (fun j j1 j2 => g1 s j (by omega))
  obtain ⟨v1, v2⟩ := g2 (f s) s (fun j j1 j2 => f1 s j (by omega))
  refine Prod.ext (by omega) (funext fun j => ?_)
  by_cases c1 : a ≤ j ∧ j < b
  · rw [u2 j c1.1 c1.2, g1 (f s) j (by omega)]
  · rw [f1 (g s) j c1]
    by_cases c2 : a' ≤ j ∧ j < b'
    · rw [v2 j c2.1 c2.2]
    · rw [g1 s j c2, g1 (f s) j c2, f1 s j c1]
theorem bsF_c {W : Nat → Int} {T T' : Nat → Nat} {st a i : Nat} (h : ∀ j, a ≤ j → j < i → T j = T' j) : ∀ f lo hi, a ≤ lo → hi ≤ i → bsF W T st f lo hi = bsF W T' st f lo hi
  | 0, lo, hi, _, _ => rfl
  | f + 1, lo, hi, h1, h2 => by
    unfold bsF
    by_cases c : lo < hi
    · rw [if_pos c, if_pos c, h (lo + (hi - lo) / 2) (by omega) (by omega), bsF_c h f lo (lo + (hi - lo) / 2) h1 (by omega), bsF_c h f (lo + (hi - lo) / 2 + 1) hi (by omega) h2]
    · rw [if_neg c, if_neg c]
theorem inI_L {W : Nat → Int} {a i : Nat} (h1 : a ≤ i) (h2 : i ≤ a + 6) : Loc a (i + 1) (inI W a i) := by
  refine ⟨fun s j hj => ?_, fun s s' hs => ?_⟩
  · have bP := bsF_P (W := W) (T := s.2) (st := s.2 i) 6 a i h1 (by omega)
    unfold inI
    generalize bsF W s.2 (s.2 i) 6 a i = z at *
    have := itn_inv (shI i) (fun _ T => T j = s.2 j) (i - z.2) (fun c T hT hc => by
      unfold shI
      rw [nput_ne (by omega)]
      exact hT) (i - z.2) 0 s.2 (by omega) rfl
    try dsimp only
    rw [nput_ne (by omega)]
    exact this
  · have e := bsF_c (W := W) (T := s.2) (T' := s'.2) (st := s.2 i) (a := a) (i := i) (fun j j1 j2 => hs j j1 (by omega)) 6 a i (Nat.le_refl a) (Nat.le_refl i)
    have bP := bsF_P (W := W) (T := s.2) (st := s.2 i) 6 a i h1 (by omega)
    unfold inI
    rw [← hs i h1 (by omega), ← e]
    generalize bsF W s.2 (s.2 i) 6 a i = z at *
    have := itn_rel (fun T T' : Nat → Nat => ∀ j, a ≤ j → j < i + 1 → T j = T' j) (shI i) (shI i) (i - z.2) (fun c T T' hc hT j j1 j2 => by
      unfold shI
      by_cases e : j = i - c
      · subst e
        rw [nput_same, nput_same]
        exact hT _ (by omega) (by omega)
      · rw [nput_ne e, nput_ne e]
        exact hT j j1 j2) (i - z.2) 0 s.2 s'.2 (by omega) hs
    refine ⟨by dsimp only; omega, fun j j1 j2 => ?_⟩
    try dsimp only
    by_cases e : j = z.2
    · subst e
      rw [nput_same, nput_same]
    · rw [nput_ne e, nput_ne e]
      exact this j j1 j2
theorem inF_L {W : Nat → Int} {a b : Nat} (h2 : b ≤ a + 6) : Loc a b (inF W a b) := Loc_itn (b - (a + 1)) (a + 1) (fun c c1 c2 => Loc_mono (inI_L (by omega) (by omega)) (by omega))
theorem inF_1 {W : Nat → Int} {a b : Nat} {s : PS} (h : b ≤ a + 1) : inF W a b s = s := by
  unfold inF
  rw [show b - (a + 1) = 0 by omega]
  rfl
theorem mgI_L {W : Nat → Int} {R R' : Nat → Nat} {a m b k k' : Nat} (hR : ∀ j, a ≤ j → j < b → R j = R' j) : ∀ (c i : Nat) (t t' : GS), i + c = b → a ≤ i → a ≤ t.2.1 → t.2.1 ≤ m → m ≤ t.2.2.1 → t.2.2.1 ≤ b → t.2.1 + t.2.2.1 = i + m → t'.2.1 = t.2.1 → t'.2.2.1 = t.2.2.1 → t.1 + k' = t'.1 + k → (∀ j, a ≤ j → j < i → t.2.2.2 j = t'.2.2.2 j) → (itn (mgI W R m b) c i t).1 + k' = (itn (mgI W R' m b) c i t').1 + k ∧ ∀ j, a ≤ j → j < b → (itn (mgI W R m b) c i t).2.2.2 j = (itn (mgI W R' m b) c i t').2.2.2 j
  | 0, i, t, t', h0, _, _, _, _, _, _, _, _, hk, hT => by
    have e : i = b := by omega
    subst e
    exact ⟨hk, hT⟩
  | c + 1, i, t, t', h0, hi, h1, h2, h3, h4, h5, ea, eb, hk, hT => by
    have hp : ∀ (v v' : Nat), v = v' → ∀ j, a ≤ j → j < i + 1 → nput t.2.2.2 i v j = nput t'.2.2.2 i v' j := fun v v' hv j j1 j2 => by
      by_cases e : j = i
      · subst e
        rw [nput_same, nput_same, hv]
      · rw [nput_ne e, nput_ne e]
        exact hT j j1 (by omega)
    rw [itn, itn]
    by_cases c1 : b ≤ t.2.2.1
    · have e1 : mgI W R m b i t = (t.1, t.2.1 + 1, t.2.2.1, nput t.2.2.2 i (R t.2.1)) := if_pos c1
      have e2 : mgI W R' m b i t' = (t'.1, t.2.1 + 1, t.2.2.1, nput t'.2.2.2 i (R' t.2.1)) := by
        unfold mgI
        rw [ea, eb]
        exact if_pos c1
      rw [e1, e2]
      exact mgI_L hR c (i + 1) _ _ (by omega) (by omega) (by dsimp only; omega) (by dsimp only; omega) h3 h4 (by dsimp only; omega) rfl rfl hk (hp _ _ (hR _ h1 (by omega)))
    · have r2 := hR t.2.2.1 (by omega) (by omega)
      by_cases c2 : t.2.1 < m
      · have r1 := hR t.2.1 (by omega) (by omega)
        cases hv : hvB W (R t.2.1) (R t.2.2.1)
        · have e1 : mgI W R m b i t = (t.1 + 1, t.2.1, t.2.2.1 + 1, nput t.2.2.2 i (R t.2.2.1)) := by
            unfold mgI
            rw [if_neg c1, if_pos c2, hv]
            rfl
          have e2 : mgI W R' m b i t' = (t'.1 + 1, t.2.1, t.2.2.1 + 1, nput t'.2.2.2 i (R' t.2.2.1)) := by
            unfold mgI
            rw [ea, eb, if_neg c1, if_pos c2, ← r1, ← r2, hv]
            rfl
          rw [e1, e2]
          exact mgI_L hR c (i + 1) _ _ (by omega) (by omega) h1 h2 (by dsimp only; omega) (by dsimp only; omega) (by dsimp only; omega) rfl rfl (by dsimp only; omega) (hp _ _ r2)
        · have e1 : mgI W R m b i t = (t.1 + 1, t.2.1 + 1, t.2.2.1, nput t.2.2.2 i (R t.2.1)) := by
            unfold mgI
            rw [if_neg c1, if_pos c2, hv]
            rfl
          have e2 : mgI W R' m b i t' = (t'.1 + 1, t.2.1 + 1, t.2.2.1, nput t'.2.2.2 i (R' t.2.1)) := by
            unfold mgI
            rw [ea, eb, if_neg c1, if_pos c2, ← r1, ← r2, hv]
            rfl
          rw [e1, e2]
          exact mgI_L hR c (i + 1) _ _ (by omega) (by omega) (by dsimp only; omega) (by dsimp only; omega) h3 h4 (by dsimp only; omega) rfl rfl (by dsimp only; omega) (hp _ _ r1)
      · have e1 : mgI W R m b i t = (t.1, t.2.1, t.2.2.1 + 1, nput t.2.2.2 i (R t.2.2.1)) := by
          unfold mgI
          rw [if_neg c1, if_neg c2]
        have e2 : mgI W R' m b i t' = (t'.1, t.2.1, t.2.2.1 + 1, nput t'.2.2.2 i (R' t.2.2.1)) := by
          unfold mgI
          rw [ea, eb, if_neg c1, if_neg c2]
        rw [e1, e2]
        exact mgI_L hR c (i + 1) _ _ (by omega) (by omega) h1 h2 (by dsimp only; omega) (by dsimp only; omega) (by dsimp only; omega) rfl rfl hk (hp _ _ r2)
theorem mgI_T {W : Nat → Int} {R : Nat → Nat} {m b i : Nat} {t : GS} : ∃ v, (mgI W R m b i t).2.2.2 = nput t.2.2.2 i v := by
  unfold mgI
  split
  · exact ⟨_, rfl⟩
  · split
    · split
      · exact ⟨_, rfl⟩
      · exact ⟨_, rfl⟩
    · exact ⟨_, rfl⟩
theorem joF_L {W : Nat → Int} {a m b : Nat} (h1 : a ≤ m) (h2 : m ≤ b) : Loc a b (joF W a m b) := by
  refine ⟨fun s j hj => ?_, fun s s' hs => ?_⟩
  · have := itn_inv (mgI W s.2 m b) (fun i t => a ≤ i ∧ t.2.2.2 j = s.2 j) b (fun i t hP hi => by
      obtain ⟨v, e⟩ := mgI_T (W := W) (R := s.2) (m := m) (b := b) (i := i) (t := t)
      rw [e, nput_ne (by omega)]
      exact ⟨by omega, hP.2⟩) (b - a) a (s.1, a, m, s.2) (by omega) ⟨Nat.le_refl a, rfl⟩
    exact this.2
  · exact mgI_L hs (b - a) a (s.1, a, m, s.2) (s'.1, a, m, s'.2) (by omega) (Nat.le_refl a) (Nat.le_refl a) h1 (Nat.le_refl m) h2 rfl rfl rfl (Nat.add_comm _ _) (fun j j1 j2 => by omega)
section PLJ
variable {W : Nat → Int} {s : PS} {a m b a' m' b' : Nat}
theorem cm_jj (h : a ≤ m ∧ m ≤ b ∧ b ≤ a' ∧ a' ≤ m' ∧ m' ≤ b') : joF W a m b (joF W a' m' b' s) = joF W a' m' b' (joF W a m b s) := Loc_comm (joF_L (by omega) (by omega)) (joF_L (by omega) (by omega)) (by omega)
theorem cm_ii (h : b ≤ a' ∧ b ≤ a + 6 ∧ b' ≤ a' + 6) : inF W a b (inF W a' b' s) = inF W a' b' (inF W a b s) := Loc_comm (inF_L (by omega)) (inF_L (by omega)) (by omega)
theorem cm_ij (h : b ≤ a' ∧ b ≤ a + 6 ∧ a' ≤ m' ∧ m' ≤ b') : inF W a b (joF W a' m' b' s) = joF W a' m' b' (inF W a b s) := Loc_comm (inF_L (by omega)) (joF_L (by omega) (by omega)) (by omega)
theorem cm_ji (h : a ≤ m ∧ m ≤ b ∧ b ≤ a' ∧ b' ≤ a' + 6) : joF W a m b (inF W a' b' s) = inF W a' b' (joF W a m b s) := Loc_comm (joF_L (by omega) (by omega)) (inF_L (by omega)) (by omega)
end PLJ
