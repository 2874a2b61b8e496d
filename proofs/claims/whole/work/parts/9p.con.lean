/-! the barn's and the reference's constructors (mk9p.py) -/
def kLen (K : KK) : Bool := K.all (fun x => match x with
  | .inl n => decide (n < 2147483648)
  | .inr _ => true)
theorem kLen_ok {K : KK} (h : kLen K = true) : ∀ (a n : Nat), K[a]? = some (.inl n) → n < 2147483648 := by
  intro a n hk
  have h1 := List.all_eq_true.mp h _ (List.mem_of_getElem? hk)
  exact of_decide_eq_true h1
def mI {α β : Type} (f : Nat → α → β) : Nat → List α → List β
  | _, [] => []
  | i, a :: r => f i a :: mI f (i + 1) r
theorem mI_eq {α β : Type} : ∀ (l : List α) (i : Nat) (f : Nat → α → β), mI f i l = l.mapIdx (fun j a => f (i + j) a)
  | [], _, _ => rfl
  | a :: r, i, f => by
    rw [List.mapIdx_cons, mI, mI_eq r (i + 1) f]
    congr 1
    refine congrArg (fun g => List.mapIdx g r) (funext fun j => funext fun b => ?_)
    rw [show i + 1 + j = i + (j + 1) by omega]
def cell2 (ad : Nat → Nat) (cA : ClassId) : (Nat ⊕ (Nat × List Nat)) → (Nat → Int) → va_E
  | .inl n, f => .inl (cA, n, .inl (fun j => Int32.ofInt (f j)))
  | .inr ci, f => .inr (ci.1, mI (fun k t => fV ad t (ci.2.getD k 0) (f k)) 0 (FKL ci.1))
def wld2 (K : KK) (ad : Nat → Nat) (cA : ClassId) (h : HH) : va_W := mI (fun i kd => (ad i, cell2 ad cA kd (h i))) 0 K
theorem wld2_eq {K : KK} {ad : Nat → Nat} {cA : ClassId} {h : HH} : wld2 K ad cA h = wld K ad cA h := by
  unfold wld2 wld
  rw [mI_eq]
  refine congrArg (fun g => List.mapIdx g K) (funext fun i => funext fun kd => ?_)
  rw [Nat.zero_add]
  cases kd with
  | inl n => rfl
  | inr ci =>
    show ((ad i, .inr (ci.1, mI (fun k t => fV ad t (ci.2.getD k 0) (h i k)) 0 (FKL ci.1))) : Nat × va_E) = (ad i, .inr (ci.1, (FKL ci.1).mapIdx (fun k t => fV ad t (ci.2.getD k 0) (h i k))))
    rw [mI_eq]
    simp only [Nat.zero_add]
theorem CW2 {D : va_G} {A : Nat → Prop} {H0 H : Heap} {locs : List Jvm.Loc} {K : KK} {ad : Nat → Nat} {cA : ClassId} {h : HH} (C : CW D A H0 H locs (wld2 K ad cA h)) : CW D A H0 H locs (wld K ad cA h) := by
  rw [← wld2_eq]
  exact C
def zH : HH := fun _ _ => 0
theorem wf_zH : wfH zH := fun _ _ => by unfold zH wfI; decide
def cKB : KK := [.inr (0, [0, 1, 0, 0, 0, 2, 3, 4, 0, 5, 6, 7]), .inl 6, .inl 24, .inl 24, .inl 24, .inl 12, .inl 12, .inl 6]
def cxhB : HH := (hput (hput (hput (hput (hput (hput (hput (hput (hput (hput (hput (hput (hput (hput (hput zH 0 0 3) 0 4 0) 0 8 0) 1 0 10) 7 0 0) 1 1 10) 7 1 0) 1 2 10) 7 2 0) 1 3 10) 7 3 0) 1 4 10) 7 4 0) 1 5 10) 7 5 0)
theorem o_cKB : isO cKB 0 0 = True := eq_true (by decide +kernel)
theorem r_cKB_1 : rT cKB 0 1 = 1 := by decide +kernel
theorem n_cKB_1 : aln cKB 1 = 6 := by decide +kernel
theorem r_cKB_11 : rT cKB 0 11 = 7 := by decide +kernel
theorem n_cKB_7 : aln cKB 7 = 6 := by decide +kernel
theorem b_cKB {d : Nat} {Q : Option AV → HH → Prop} {h : HH} : wp cKB d 1 0 [vR 0, vI 3, vU] [] h Q = Q none (hput (hput (hput (hput (hput (hput (hput (hput (hput (hput (hput (hput (hput (hput (hput h 0 0 3) 0 4 0) 0 8 0) 1 0 10) 7 0 0) 1 1 10) 7 1 0) 1 2 10) 7 2 0) 1 3 10) 7 3 0) 1 4 10) 7 4 0) 1 5 10) 7 5 0) := by
  simp (disch := omega) only [s1_0, s1_1, s1_2, s1_5, s1_6, s1_7, s1_10, s1_11, s1_12, s1_15, s1_16, s1_17, s1_18, s1_20, s1_23, s1_24, s1_27, s1_28, s1_30, s1_31, s1_32, s1_35, s1_36, s1_37, s1_38, s1_41, s1_44, o_cKB, r_cKB_1, n_cKB_1, r_cKB_11, n_cKB_7, Option.toList_some, Option.toList_none, List.cons_append, List.nil_append, ite10, ite10n, ite01, ite11, nem, and_true, true_and, eq_self, true_or, or_true, not_true_eq_false, not_false_eq_true, ne_eq, false_and, and_false, Int.reduceEq, Int.reduceNe, Int.reduceLT, Int.reduceLE, Int.reduceToNat, Int.reduceNeg, Nat.reduceEqDiff, Nat.reduceAdd, ↓reduceIte, w32_id, Int.reduceAdd]
set_option maxHeartbeats 4000000 in
set_option maxRecDepth 100000 in
theorem m0 (l : Launch) : MetC l e0 cKB cxhB 2 7 108 := by
  refine metC_of pt0 (by decide +kernel) rfl rfl rfl (by decide) (o0 := 116) (oix := 3) (by decide +kernel) (by decide +kernel) (by decide +kernel) (fun p e s m args below meth c Q D cA A h0 ls F hin hl C0 fin => ?_)
  have C0 : CW D A s.heap _ _ ((h0, .inr (0, [.int 0, .null, .int 0, .int 0, .int 0, .null, .null, .null, .int 0, .null, .null, .null])) :: []) := C0
  refine o_arr F hin hl C0 (Cn := RX0) (T := TX0) (N := 12) rfl 1 2 6 (z := 6) (by decide +kernel : FR 0 9 = some (0, 1, false, 126)) (by decide +kernel) (by decide +kernel) rfl (Nat.le_of_ble_eq_true rfl) (by decide +kernel) (by decide +kernel) (by decide +kernel) (Nat.le_of_ble_eq_true rfl) (Nat.le_of_ble_eq_true rfl) (fun _ _ _ _ _ k => lv_bipush (n := 6) (v := 6) F.1 F.2.1 (by decide +kernel) (by decide +kernel) k) (by decide +kernel) (by decide +kernel) (by decide +kernel) (fun x1 H1 l1 C1 => ?_)
  have C1 : CW D A s.heap _ _ ((h0, .inr (0, [.int 0, .ref x1, .int 0, .int 0, .int 0, .null, .null, .null, .int 0, .null, .null, .null])) :: [(x1, .inl (cA, 6, .inl (fun _ => Int32.ofInt 0)))]) := C1
  refine W.eq (g2 := F0 m 12 ls []) rfl ?_
  refine o_arr F hin hl C1 (Cn := RX0) (T := TX0) (N := 12) rfl 5 2 24 (z := 24) (by decide +kernel : FR 0 15 = some (0, 5, false, 134)) (by decide +kernel) (by decide +kernel) rfl (Nat.le_of_ble_eq_true rfl) (by decide +kernel) (by decide +kernel) (by decide +kernel) (Nat.le_of_ble_eq_true rfl) (Nat.le_of_ble_eq_true rfl) (fun _ _ _ _ _ k => lv_bipush (n := 24) (v := 24) F.1 F.2.1 (by decide +kernel) (by decide +kernel) k) (by decide +kernel) (by decide +kernel) (by decide +kernel) (fun x2 H2 l2 C2 => ?_)
  have C2 : CW D A s.heap _ _ ((h0, .inr (0, [.int 0, .ref x1, .int 0, .int 0, .int 0, .ref x2, .null, .null, .int 0, .null, .null, .null])) :: [(x1, .inl (cA, 6, .inl (fun _ => Int32.ofInt 0))), (x2, .inl (cA, 24, .inl (fun _ => Int32.ofInt 0)))]) := C2
  refine W.eq (g2 := F0 m 20 ls []) rfl ?_
  refine o_arr F hin hl C2 (Cn := RX0) (T := TX0) (N := 12) rfl 6 2 24 (z := 24) (by decide +kernel : FR 0 18 = some (0, 6, false, 137)) (by decide +kernel) (by decide +kernel) rfl (Nat.le_of_ble_eq_true rfl) (by decide +kernel) (by decide +kernel) (by decide +kernel) (Nat.le_of_ble_eq_true rfl) (Nat.le_of_ble_eq_true rfl) (fun _ _ _ _ _ k => lv_bipush (n := 24) (v := 24) F.1 F.2.1 (by decide +kernel) (by decide +kernel) k) (by decide +kernel) (by decide +kernel) (by decide +kernel) (fun x3 H3 l3 C3 => ?_)
  have C3 : CW D A s.heap _ _ ((h0, .inr (0, [.int 0, .ref x1, .int 0, .int 0, .int 0, .ref x2, .ref x3, .null, .int 0, .null, .null, .null])) :: [(x1, .inl (cA, 6, .inl (fun _ => Int32.ofInt 0))), (x2, .inl (cA, 24, .inl (fun _ => Int32.ofInt 0))), (x3, .inl (cA, 24, .inl (fun _ => Int32.ofInt 0)))]) := C3
  refine W.eq (g2 := F0 m 28 ls []) rfl ?_
  refine o_arr F hin hl C3 (Cn := RX0) (T := TX0) (N := 12) rfl 7 2 24 (z := 24) (by decide +kernel : FR 0 21 = some (0, 7, false, 140)) (by decide +kernel) (by decide +kernel) rfl (Nat.le_of_ble_eq_true rfl) (by decide +kernel) (by decide +kernel) (by decide +kernel) (Nat.le_of_ble_eq_true rfl) (Nat.le_of_ble_eq_true rfl) (fun _ _ _ _ _ k => lv_bipush (n := 24) (v := 24) F.1 F.2.1 (by decide +kernel) (by decide +kernel) k) (by decide +kernel) (by decide +kernel) (by decide +kernel) (fun x4 H4 l4 C4 => ?_)
  have C4 : CW D A s.heap _ _ ((h0, .inr (0, [.int 0, .ref x1, .int 0, .int 0, .int 0, .ref x2, .ref x3, .ref x4, .int 0, .null, .null, .null])) :: [(x1, .inl (cA, 6, .inl (fun _ => Int32.ofInt 0))), (x2, .inl (cA, 24, .inl (fun _ => Int32.ofInt 0))), (x3, .inl (cA, 24, .inl (fun _ => Int32.ofInt 0))), (x4, .inl (cA, 24, .inl (fun _ => Int32.ofInt 0)))]) := C4
  refine W.eq (g2 := F0 m 36 ls []) rfl ?_
  refine o_arr F hin hl C4 (Cn := RX0) (T := TX0) (N := 12) rfl 9 2 12 (z := 12) (by decide +kernel : FR 0 24 = some (0, 9, false, 146)) (by decide +kernel) (by decide +kernel) rfl (Nat.le_of_ble_eq_true rfl) (by decide +kernel) (by decide +kernel) (by decide +kernel) (Nat.le_of_ble_eq_true rfl) (Nat.le_of_ble_eq_true rfl) (fun _ _ _ _ _ k => lv_bipush (n := 12) (v := 12) F.1 F.2.1 (by decide +kernel) (by decide +kernel) k) (by decide +kernel) (by decide +kernel) (by decide +kernel) (fun x5 H5 l5 C5 => ?_)
  have C5 : CW D A s.heap _ _ ((h0, .inr (0, [.int 0, .ref x1, .int 0, .int 0, .int 0, .ref x2, .ref x3, .ref x4, .int 0, .ref x5, .null, .null])) :: [(x1, .inl (cA, 6, .inl (fun _ => Int32.ofInt 0))), (x2, .inl (cA, 24, .inl (fun _ => Int32.ofInt 0))), (x3, .inl (cA, 24, .inl (fun _ => Int32.ofInt 0))), (x4, .inl (cA, 24, .inl (fun _ => Int32.ofInt 0))), (x5, .inl (cA, 12, .inl (fun _ => Int32.ofInt 0)))]) := C5
  refine W.eq (g2 := F0 m 44 ls []) rfl ?_
  refine o_arr F hin hl C5 (Cn := RX0) (T := TX0) (N := 12) rfl 10 2 12 (z := 12) (by decide +kernel : FR 0 27 = some (0, 10, false, 148)) (by decide +kernel) (by decide +kernel) rfl (Nat.le_of_ble_eq_true rfl) (by decide +kernel) (by decide +kernel) (by decide +kernel) (Nat.le_of_ble_eq_true rfl) (Nat.le_of_ble_eq_true rfl) (fun _ _ _ _ _ k => lv_bipush (n := 12) (v := 12) F.1 F.2.1 (by decide +kernel) (by decide +kernel) k) (by decide +kernel) (by decide +kernel) (by decide +kernel) (fun x6 H6 l6 C6 => ?_)
  have C6 : CW D A s.heap _ _ ((h0, .inr (0, [.int 0, .ref x1, .int 0, .int 0, .int 0, .ref x2, .ref x3, .ref x4, .int 0, .ref x5, .ref x6, .null])) :: [(x1, .inl (cA, 6, .inl (fun _ => Int32.ofInt 0))), (x2, .inl (cA, 24, .inl (fun _ => Int32.ofInt 0))), (x3, .inl (cA, 24, .inl (fun _ => Int32.ofInt 0))), (x4, .inl (cA, 24, .inl (fun _ => Int32.ofInt 0))), (x5, .inl (cA, 12, .inl (fun _ => Int32.ofInt 0))), (x6, .inl (cA, 12, .inl (fun _ => Int32.ofInt 0)))]) := C6
  refine W.eq (g2 := F0 m 52 ls []) rfl ?_
  refine o_arr F hin hl C6 (Cn := RX0) (T := TX0) (N := 12) rfl 11 2 6 (z := 6) (by decide +kernel : FR 0 30 = some (0, 11, false, 150)) (by decide +kernel) (by decide +kernel) rfl (Nat.le_of_ble_eq_true rfl) (by decide +kernel) (by decide +kernel) (by decide +kernel) (Nat.le_of_ble_eq_true rfl) (Nat.le_of_ble_eq_true rfl) (fun _ _ _ _ _ k => lv_bipush (n := 6) (v := 6) F.1 F.2.1 (by decide +kernel) (by decide +kernel) k) (by decide +kernel) (by decide +kernel) (by decide +kernel) (fun x7 H7 l7 C7 => ?_)
  have C7 : CW D A s.heap _ _ ((h0, .inr (0, [.int 0, .ref x1, .int 0, .int 0, .int 0, .ref x2, .ref x3, .ref x4, .int 0, .ref x5, .ref x6, .ref x7])) :: [(x1, .inl (cA, 6, .inl (fun _ => Int32.ofInt 0))), (x2, .inl (cA, 24, .inl (fun _ => Int32.ofInt 0))), (x3, .inl (cA, 24, .inl (fun _ => Int32.ofInt 0))), (x4, .inl (cA, 24, .inl (fun _ => Int32.ofInt 0))), (x5, .inl (cA, 12, .inl (fun _ => Int32.ofInt 0))), (x6, .inl (cA, 12, .inl (fun _ => Int32.ofInt 0))), (x7, .inl (cA, 6, .inl (fun _ => Int32.ofInt 0)))]) := C7
  refine W.eq (g2 := F0 m 60 ls []) rfl ?_
  refine o_int F hl C7 (Cn := RX0) (T := TX0) (N := 12) rfl 2 1 (z := 0) (by decide +kernel : FR 0 33 = some (0, 2, false, 129)) (by decide +kernel) .int rfl (by decide +kernel) (by decide +kernel) (Nat.le_of_ble_eq_true rfl) (fun _ _ _ _ _ k => lv_iconst (n := 0) (v := 0) F.1 F.2.1 (by decide +kernel) (by decide +kernel) k) (by decide +kernel) (by decide +kernel) (fun H8 l8 C8 => ?_)
  have C8 : CW D A s.heap _ _ ((h0, .inr (0, [.int 0, .ref x1, .int 0, .int 0, .int 0, .ref x2, .ref x3, .ref x4, .int 0, .ref x5, .ref x6, .ref x7])) :: [(x1, .inl (cA, 6, .inl (fun _ => Int32.ofInt 0))), (x2, .inl (cA, 24, .inl (fun _ => Int32.ofInt 0))), (x3, .inl (cA, 24, .inl (fun _ => Int32.ofInt 0))), (x4, .inl (cA, 24, .inl (fun _ => Int32.ofInt 0))), (x5, .inl (cA, 12, .inl (fun _ => Int32.ofInt 0))), (x6, .inl (cA, 12, .inl (fun _ => Int32.ofInt 0))), (x7, .inl (cA, 6, .inl (fun _ => Int32.ofInt 0)))]) := C8
  refine W.eq (g2 := F0 m 65 ls []) rfl ?_
  refine o_int F hl C8 (Cn := RX0) (T := TX0) (N := 12) rfl 3 1 (z := 0) (by decide +kernel : FR 0 37 = some (0, 3, false, 130)) (by decide +kernel) .int rfl (by decide +kernel) (by decide +kernel) (Nat.le_of_ble_eq_true rfl) (fun _ _ _ _ _ k => lv_iconst (n := 0) (v := 0) F.1 F.2.1 (by decide +kernel) (by decide +kernel) k) (by decide +kernel) (by decide +kernel) (fun H9 l9 C9 => ?_)
  have C9 : CW D A s.heap _ _ ((h0, .inr (0, [.int 0, .ref x1, .int 0, .int 0, .int 0, .ref x2, .ref x3, .ref x4, .int 0, .ref x5, .ref x6, .ref x7])) :: [(x1, .inl (cA, 6, .inl (fun _ => Int32.ofInt 0))), (x2, .inl (cA, 24, .inl (fun _ => Int32.ofInt 0))), (x3, .inl (cA, 24, .inl (fun _ => Int32.ofInt 0))), (x4, .inl (cA, 24, .inl (fun _ => Int32.ofInt 0))), (x5, .inl (cA, 12, .inl (fun _ => Int32.ofInt 0))), (x6, .inl (cA, 12, .inl (fun _ => Int32.ofInt 0))), (x7, .inl (cA, 6, .inl (fun _ => Int32.ofInt 0)))]) := C9
  refine W.eq (g2 := F0 m 70 ls []) rfl ?_
  have hw : CW D A s.heap _ _ (wld2 cKB (adL [h0, x1, x2, x3, x4, x5, x6, x7]) cA zH) := C9
  refine lv_aload_n (k := 0) F.1 F.2.1 (by decide +kernel) rfl (lv_at hl 0 rfl) ?_
  refine lv_iconst (n := 3) (v := Int32.ofInt 3) F.1 F.2.1 (by decide +kernel) rfl ?_
  refine W.eq (g2 := F0 m 72 ls [.int (Int32.ofInt 3), .ref ((adL [h0, x1, x2, x3, x4, x5, x6, x7]) 0)]) rfl ?_
  refine W.widen (k := 7) (n := 108) (Nat.le_of_ble_eq_true rfl) (Nat.le_of_ble_eq_true rfl) ?_
  refine o_beg (K := cKB) (h' := cxhB) (by decide) (kLen_ok (by decide +kernel)) pt1 (by decide +kernel) rfl rfl rfl (by decide) (d := 0) F (CW2 hw) (by decide +kernel) (z := 3) (by unfold wfI; decide) (by rw [show padL (ME.ml e1) (lay [vR 0, vI 3]) = [vR 0, vI 3, vU] from rfl, b_cKB]; exact ⟨rfl, rfl⟩) wf_zH (by decide +kernel) (fun _ => rfl) (by decide +kernel : MR 0 40 = some (1, false, 117)) (by decide +kernel) hl.1 (Nat.le_of_ble_eq_true rfl) (Nat.le_of_ble_eq_true rfl) (Nat.le_of_ble_eq_true rfl) (Nat.le_of_ble_eq_true rfl) (fun H9 l9 C9 => ?_)
  exact fin _ _ _ _ _ (by decide +kernel) rfl C9
