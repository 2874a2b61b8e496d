/-! rows behind the cells are never written -/
def KP (K : KK) (h : HH) (R : RES) : Prop := ∀ pc' L' st' h', R = .inl (pc', L', st', h') → ∀ a, K.length ≤ a → h' a = h a
section KPS
variable {K : KK} {q : ME} {d mi pc n : Nat} {L st : List AV} {h : HH} {Q : Option AV → HH → Prop} {R : RES}
theorem isO_len {a ci : Nat} (hh : isO K a ci) : a < K.length := by
  obtain ⟨rs, h1, _⟩ := isO_at hh
  exact (List.getElem?_eq_some_iff.mp h1).1
theorem aln_len {a : Nat} (hh : 0 < aln K a) : a < K.length := by
  unfold aln at hh
  split at hh
  · next n hn => exact (List.getElem?_eq_some_iff.mp hn).1
  · omega
theorem KP.inr {r : (Option AV × HH) ⊕ (Nat × List AV × List AV)} : KP K h (.inr r) := by
  intro pc' L' st' h' e
  cases e
theorem nx_kp0 {pc0 : Nat} {L0 st0 : List AV} {h0 : HH} (hs : nx pc0 L0 st0 h0 = some R) (hh : ∀ a, K.length ≤ a → h0 a = h a) : KP K h R := by
  intro pc' L' st' h' e a ha
  rw [e] at hs
  obtain ⟨_, _, _, rfl⟩ := nx_some hs
  exact hh a ha
theorem nx_kp {pc0 : Nat} {L0 st0 : List AV} (hs : nx pc0 L0 st0 h = some R) : KP K h R := nx_kp0 hs (fun _ _ => rfl)
theorem gd_kp {P : Prop} {inst : Decidable P} {x : Option RES} (f : x = some R → KP K h R) (hs : @gd P inst x = some R) : KP K h R := f (gd_some hs).2
theorem ld_kp {w i : Nat} {ok : AV → Bool} (hs : ld w pc i L st h ok = some R) : KP K h R := by
  unfold ld at hs
  split at hs
  · exact gd_kp nx_kp hs
  · cases hs
theorem sto_kp {w i : Nat} {g : Bool} {ok : AV → Bool} (hs : sto g w pc i L st h ok = some R) : KP K h R := by
  unfold sto at hs
  split at hs
  · exact gd_kp nx_kp hs
  · cases hs
theorem stoL_kp {w i : Nat} {g : Bool} (hs : stoL g w pc i L st h = some R) : KP K h R := by
  unfold stoL at hs
  split at hs
  · exact gd_kp nx_kp hs
  · cases hs
theorem bin_kp {f : Int → Int → Int} (hs : bin pc L st h f = some R) : KP K h R := by
  unfold bin at hs
  split at hs
  · exact nx_kp hs
  · cases hs
theorem binG_kp {g : Int → Int → Bool} {f : Int → Int → Int} (hs : binG pc L st h g f = some R) : KP K h R := by
  unfold binG at hs
  split at hs
  · exact gd_kp nx_kp hs
  · cases hs
theorem binL_kp {f : Int → Int → Int} (hs : binL pc L st h f = some R) : KP K h R := by
  unfold binL at hs
  split at hs
  · exact nx_kp hs
  · cases hs
theorem jmp_kp {off : Int} {C : Prop} {inst : Decidable C} (hs : @jmp pc off C inst L st h = some R) : KP K h R := by
  unfold jmp at hs
  refine gd_kp (fun hs => ?_) hs
  split at hs
  · exact nx_kp hs
  · exact nx_kp hs
theorem jif_kp {off : Int} {P : Int → Bool} (hs : jif pc L st h off P = some R) : KP K h R := by
  unfold jif at hs
  split at hs
  · exact jmp_kp hs
  · cases hs
theorem jcm_kp {off : Int} {P : Int → Int → Bool} (hs : jcm pc L st h off P = some R) : KP K h R := by
  unfold jcm at hs
  split at hs
  · exact jmp_kp hs
  · cases hs
theorem getF_kp {cn i : Nat} (hs : getF K cn pc i L st h = some R) : KP K h R := by
  unfold getF at hs
  split at hs
  · split at hs
    · refine gd_kp (fun hs => ?_) hs
      split at hs
      · exact nx_kp hs
      · split at hs
        · exact gd_kp nx_kp hs
        · exact nx_kp hs
    · cases hs
  · cases hs
theorem putF_kp {cn i : Nat} (hs : putF K cn pc i L st h = some R) : KP K h R := by
  unfold putF at hs
  split at hs
  · split at hs
    · obtain ⟨g1, hs⟩ := gd_some hs
      have lt := isO_len g1.1
      exact nx_kp0 hs (fun a ha => hput_row (by omega))
    · cases hs
  · split at hs
    · obtain ⟨g1, hs⟩ := gd_some hs
      have lt := isO_len g1.1
      exact nx_kp0 hs (fun a ha => hput_row (by omega))
    · cases hs
  · cases hs
theorem aLd_kp (hs : aLd K pc L st h = some R) : KP K h R := by
  unfold aLd at hs
  split at hs
  · exact gd_kp nx_kp hs
  · cases hs
theorem aSt_kp (hs : aSt K pc L st h = some R) : KP K h R := by
  unfold aSt at hs
  split at hs
  · obtain ⟨g1, hs⟩ := gd_some hs
    have lt := aln_len (Int.lt_of_le_of_lt g1.1 g1.2)
    exact nx_kp0 hs (fun a ha => hput_row (by omega))
  · cases hs
theorem aLn_kp (hs : aLn K pc L st h = some R) : KP K h R := by
  unfold aLn at hs
  split at hs
  · exact gd_kp nx_kp hs
  · cases hs
theorem kcA_kp {cn i : Nat} (hs : kcA K cn pc i L st h = some R) : KP K h R := by
  unfold kcA at hs
  split at hs
  · obtain ⟨g1, hs⟩ := gd_some hs
    have lt := aln_len g1.2.2.2.2.2.2
    exact nx_kp0 hs (fun a ha => hset_row (by omega))
  · cases hs
theorem kcS_kp {cn i : Nat} (hs : kcS cn pc i L st h = some R) : KP K h R := by
  unfold kcS at hs
  split at hs
  · split at hs <;> first | exact nx_kp hs | cases hs
  · split at hs <;> first | exact nx_kp hs | cases hs
  · split at hs <;> first | exact nx_kp hs | cases hs
  · split at hs
    · obtain ⟨_, hs⟩ := gd_some hs
      cases hs
      exact KP.inr
    · cases hs
  · cases hs
theorem kcV_kp {cn i : Nat} (hs : kcV K cn i st = some R) : KP K h R := by
  unfold kcV at hs
  split at hs
  · split at hs
    · split at hs
      · obtain ⟨_, hs⟩ := gd_some hs
        cases hs
        exact KP.inr
      · cases hs
    · cases hs
  · cases hs
set_option maxHeartbeats 4000000 in
theorem stepI_kp {i : Instr} (hs : stepI K q pc n L st h i = some R) : KP K h R := by
  cases i
  case ireturn =>
    obtain ⟨h1, h2⟩ := gd_some hs
    unfold rets at h2
    split at h2
    · obtain ⟨_, h2⟩ := gd_some h2
      cases h2
      exact KP.inr
    · cases h2
  case lreturn =>
    obtain ⟨h1, h2⟩ := gd_some hs
    unfold retL at h2
    split at h2
    · obtain ⟨_, h2⟩ := gd_some h2
      cases h2
      exact KP.inr
    · cases h2
  case return_ =>
    simp only [stepI] at hs
    split at hs
    · obtain ⟨_, h3⟩ := gd_some hs
      cases h3
      exact KP.inr
    · cases hs
  case invokestatic j =>
    obtain ⟨h1, h2⟩ := gd_some hs
    split at h2
    · next r hr =>
      cases h2
      exact kcA_kp hr
    · exact kcS_kp h2
  case invokevirtual j =>
    obtain ⟨h1, h2⟩ := gd_some hs
    exact kcV_kp h2
  case iinc j z =>
    simp only [stepI] at hs
    split at hs
    · exact gd_kp (fun hs => nx_kp hs) hs
    · cases hs
  case ldc j =>
    simp only [stepI] at hs
    split at hs
    · exact gd_kp (fun hs => nx_kp hs) hs
    · cases hs
  case ldc_w j =>
    simp only [stepI] at hs
    split at hs
    · exact gd_kp (fun hs => nx_kp hs) hs
    · cases hs
  case ldc2_w j =>
    simp only [stepI] at hs
    split at hs
    · exact gd_kp (fun hs => nx_kp hs) hs
    · cases hs
  case ifCond cc off => exact gd_kp (fun hs => jif_kp hs) hs
  case if_icmp cc off => exact gd_kp (fun hs => jcm_kp hs) hs
  case goto off => exact gd_kp (fun hs => nx_kp hs) hs
  case getfield j => exact gd_kp (fun hs => getF_kp hs) hs
  case putfield j => exact gd_kp (fun hs => putF_kp hs) hs
  case iaload => exact gd_kp (fun hs => aLd_kp hs) hs
  case iastore => exact gd_kp (fun hs => aSt_kp hs) hs
  case arraylength => exact gd_kp (fun hs => aLn_kp hs) hs
  case iload_n j => exact gd_kp (fun hs => ld_kp hs) hs
  case iload j => exact gd_kp (fun hs => ld_kp hs) hs
  case lload_n j => exact gd_kp (fun hs => ld_kp hs) hs
  case lload j => exact gd_kp (fun hs => ld_kp hs) hs
  case aload_n j => exact gd_kp (fun hs => ld_kp hs) hs
  case aload j => exact gd_kp (fun hs => ld_kp hs) hs
  case istore_n j => exact gd_kp (fun hs => sto_kp hs) hs
  case istore j => exact gd_kp (fun hs => sto_kp hs) hs
  case astore_n j => exact gd_kp (fun hs => sto_kp hs) hs
  case astore j => exact gd_kp (fun hs => sto_kp hs) hs
  case lstore_n j => exact gd_kp (fun hs => stoL_kp hs) hs
  case lstore j => exact gd_kp (fun hs => stoL_kp hs) hs
  case iconst j => exact gd_kp (fun hs => nx_kp hs) hs
  case bipush j => exact gd_kp (fun hs => nx_kp hs) hs
  case sipush j => exact gd_kp (fun hs => nx_kp hs) hs
  case lconst j => exact gd_kp (fun hs => nx_kp hs) hs
  case iadd => exact gd_kp (fun hs => bin_kp hs) hs
  case isub => exact gd_kp (fun hs => bin_kp hs) hs
  case imul => exact gd_kp (fun hs => bin_kp hs) hs
  case iand => exact gd_kp (fun hs => bin_kp hs) hs
  case ior => exact gd_kp (fun hs => bin_kp hs) hs
  case ixor => exact gd_kp (fun hs => bin_kp hs) hs
  case idiv => exact gd_kp (fun hs => binG_kp hs) hs
  case irem => exact gd_kp (fun hs => binG_kp hs) hs
  case ishl => exact gd_kp (fun hs => binG_kp hs) hs
  case ishr => exact gd_kp (fun hs => binG_kp hs) hs
  case iushr => exact gd_kp (fun hs => binG_kp hs) hs
  case lsub => exact gd_kp (fun hs => binL_kp hs) hs
  case lmul => exact gd_kp (fun hs => binL_kp hs) hs
  case ineg =>
    simp only [stepI] at hs
    split at hs
    · exact gd_kp (fun hs => nx_kp hs) hs
    · cases hs
  case i2l =>
    simp only [stepI] at hs
    split at hs
    · exact gd_kp (fun hs => nx_kp hs) hs
    · cases hs
  case lshl =>
    simp only [stepI] at hs
    split at hs
    · exact gd_kp (fun hs => nx_kp hs) hs
    · cases hs
  case lcmp =>
    simp only [stepI] at hs
    split at hs
    · exact gd_kp (fun hs => nx_kp hs) hs
    · cases hs
  case dup =>
    simp only [stepI] at hs
    split at hs
    · exact gd_kp (fun hs => nx_kp hs) hs
    · cases hs
  case dup2 =>
    simp only [stepI] at hs
    split at hs
    · exact gd_kp (fun hs => nx_kp hs) hs
    · cases hs
  case pop =>
    simp only [stepI] at hs
    split at hs
    · exact gd_kp (fun hs => nx_kp hs) hs
    · cases hs
  case tableswitch a1 a2 a3 a4 =>
    simp only [stepI] at hs
    split at hs
    · exact gd_kp (fun hs => nx_kp hs) hs
    · cases hs
  case lookupswitch a1 a2 =>
    simp only [stepI] at hs
    split at hs
    · exact gd_kp (fun hs => nx_kp hs) hs
    · cases hs
  all_goals (cases hs)
theorem run_kp : ∀ (n d mi pc : Nat) (L st : List AV) (h : HH) (r : Option AV × HH), run K d n mi pc L st h = some r → ∀ a, K.length ≤ a → r.2 a = h a := by
  intro n
  induction n with
  | zero => intro d mi pc L st h r hr; cases hr
  | succ n ih =>
    intro d mi pc L st h r hr a ha
    unfold run at hr
    cases hS : stepS K mi pc L st h with
    | none => rw [hS] at hr; cases hr
    | some R0 =>
      rw [hS] at hr
      have hk : KP K h R0 ∧ ∀ r', R0 = .inr (.inl r') → r'.2 = h := by
        cases hq : PT[mi]? with
        | none =>
          unfold stepS at hS
          rw [hq] at hS
          cases hS
        | some q =>
          obtain ⟨i, n', _, hs⟩ := stepS_at hq hS
          refine ⟨stepI_kp hs, fun r' e => ?_⟩
          subst e
          rcases stepI_cls hs with ⟨σ, z⟩ | ⟨rfl, rfl, hz⟩ | ⟨rfl, rfl, hz⟩ | ⟨rfl, rfl, rfl, hz, hz2⟩ | ⟨j, rfl, rfl, hz⟩ | ⟨j, rfl, rfl, hz⟩
          · cases z
          · unfold rets at hz
            split at hz
            · obtain ⟨_, hz⟩ := gd_some hz
              cases hz
              rfl
            · cases hz
          · unfold retL at hz
            split at hz
            · obtain ⟨_, hz⟩ := gd_some hz
              cases hz
              rfl
            · cases hz
          · cases hz2
            rfl
          · exfalso
            unfold kcS at hz
            split at hz
            · split at hz <;> cases hz
            · split at hz <;> cases hz
            · split at hz <;> cases hz
            · split at hz
              · obtain ⟨-, hz⟩ := gd_some hz
                cases hz
              · cases hz
            · cases hz
          · exfalso
            unfold kcV at hz
            split at hz
            · split at hz
              · split at hz
                · obtain ⟨-, hz⟩ := gd_some hz
                  cases hz
                · cases hz
              · cases hz
            · cases hz
      match R0, hr, hk with
      | .inl (pc', L', st', h'), hr, hk =>
        rw [ih _ _ _ _ _ _ _ hr a ha]
        exact hk.1 pc' L' st' h' rfl a ha
      | .inr (.inl r0), hr, hk =>
        cases hr
        rw [hk.2 _ rfl]
      | .inr (.inr (m2, L2, rest)), hr, hk =>
        cases d with
        | zero => cases hr
        | succ d =>
          dsimp only at hr
          cases hc : run K d n m2 0 L2 [] h with
          | none => rw [hc] at hr; cases hr
          | some rc =>
            rw [hc] at hr
            dsimp only at hr
            rw [ih _ _ _ _ _ _ _ hr a ha]
            exact ih _ _ _ _ _ _ _ hc a ha
theorem wp_keep (hw : wp K d mi pc L st h Q) : wp K d mi pc L st h (fun r h' => Q r h' ∧ ∀ a, K.length ≤ a → h' a = h a) := by
  obtain ⟨n, r, hr, hq⟩ := hw
  exact ⟨n, r, hr, hq, run_kp n d mi pc L st h r hr⟩
end KPS
