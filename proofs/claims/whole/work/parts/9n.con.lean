/-! the plain constructors: arrays and ints (mk9n.py) -/
def cKE : KK := [.inr (3, [1, 2]), .inl 6, .inl 64]
def cxhE : HH := (fun _ _ => 0)
set_option maxHeartbeats 4000000 in
set_option maxRecDepth 100000 in
theorem m45 (l : Launch) : MetC l e45 cKE cxhE 1 2 70 := by
  refine metC_of pt45 (by decide +kernel) rfl rfl rfl (by decide) (o0 := 289) (oix := 3) (by decide +kernel) (by decide +kernel) (by decide +kernel) (fun p e s m args below meth c Q D cA A h0 ls F hin hl C0 fin => ?_)
  refine o_arr F hin hl C0 (Cn := RX4) (T := TX4) (N := 2) rfl 0 2 6 (z := 6) (by decide +kernel : FR 4 9 = some (3, 0, false, 290)) (by decide +kernel) (by decide +kernel) rfl (Nat.le_of_ble_eq_true rfl) (by decide +kernel) (by decide +kernel) (by decide +kernel) (Nat.le_of_ble_eq_true rfl) (Nat.le_of_ble_eq_true rfl) (fun _ _ _ _ _ k => lv_bipush (n := 6) (v := 6) F.1 F.2.1 (by decide +kernel) (by decide +kernel) k) (by decide +kernel) (by decide +kernel) (by decide +kernel) (fun x1 H1 l1 C1 => ?_)
  refine W.eq (g2 := F0 m 12 ls []) rfl ?_
  refine o_arr F hin hl C1 (Cn := RX4) (T := TX4) (N := 2) rfl 1 2 64 (z := 64) (by decide +kernel : FR 4 15 = some (3, 1, false, 291)) (by decide +kernel) (by decide +kernel) rfl (Nat.le_of_ble_eq_true rfl) (by decide +kernel) (by decide +kernel) (by decide +kernel) (Nat.le_of_ble_eq_true rfl) (Nat.le_of_ble_eq_true rfl) (fun _ _ _ _ _ k => lv_bipush (n := 64) (v := 64) F.1 F.2.1 (by decide +kernel) (by decide +kernel) k) (by decide +kernel) (by decide +kernel) (by decide +kernel) (fun x2 H2 l2 C2 => ?_)
  refine W.eq (g2 := F0 m 20 ls []) rfl ?_
  refine W.widen (k := 2) (n := 70) (Nat.le_of_ble_eq_true rfl) (Nat.le_of_ble_eq_true rfl) ?_
  have hw : CW D A s.heap _ _ (wld cKE (adL [h0, x1, x2]) cA cxhE) := C2
  exact fin _ _ _ _ _ (by decide +kernel) rfl hw
def cKL : KK := [.inr (2, [0, 1, 2]), .inl 6, .inl 64]
def cxhL : HH := (hput (fun _ _ => 0) 0 0 2)
set_option maxHeartbeats 4000000 in
set_option maxRecDepth 100000 in
theorem m37 (l : Launch) : MetC l e37 cKL cxhL 1 2 70 := by
  refine metC_of pt37 (by decide +kernel) rfl rfl rfl (by decide) (o0 := 302) (oix := 3) (by decide +kernel) (by decide +kernel) (by decide +kernel) (fun p e s m args below meth c Q D cA A h0 ls F hin hl C0 fin => ?_)
  refine o_int F hl C0 (Cn := RX3) (T := TX3) (N := 3) rfl 0 1 (z := 2) (by decide +kernel : FR 3 9 = some (2, 0, false, 303)) (by decide +kernel) .int rfl (by decide +kernel) (by decide +kernel) (Nat.le_of_ble_eq_true rfl) (fun _ _ _ _ _ k => lv_iconst (n := 2) (v := 2) F.1 F.2.1 (by decide +kernel) (by decide +kernel) k) (by decide +kernel) (by decide +kernel) (fun H1 l1 C1 => ?_)
  refine W.eq (g2 := F0 m 9 ls []) rfl ?_
  refine o_arr F hin hl C1 (Cn := RX3) (T := TX3) (N := 3) rfl 1 2 6 (z := 6) (by decide +kernel : FR 3 15 = some (2, 1, false, 304)) (by decide +kernel) (by decide +kernel) rfl (Nat.le_of_ble_eq_true rfl) (by decide +kernel) (by decide +kernel) (by decide +kernel) (Nat.le_of_ble_eq_true rfl) (Nat.le_of_ble_eq_true rfl) (fun _ _ _ _ _ k => lv_bipush (n := 6) (v := 6) F.1 F.2.1 (by decide +kernel) (by decide +kernel) k) (by decide +kernel) (by decide +kernel) (by decide +kernel) (fun x2 H2 l2 C2 => ?_)
  refine W.eq (g2 := F0 m 17 ls []) rfl ?_
  refine o_arr F hin hl C2 (Cn := RX3) (T := TX3) (N := 3) rfl 2 2 64 (z := 64) (by decide +kernel : FR 3 19 = some (2, 2, false, 305)) (by decide +kernel) (by decide +kernel) rfl (Nat.le_of_ble_eq_true rfl) (by decide +kernel) (by decide +kernel) (by decide +kernel) (Nat.le_of_ble_eq_true rfl) (Nat.le_of_ble_eq_true rfl) (fun _ _ _ _ _ k => lv_bipush (n := 64) (v := 64) F.1 F.2.1 (by decide +kernel) (by decide +kernel) k) (by decide +kernel) (by decide +kernel) (by decide +kernel) (fun x3 H3 l3 C3 => ?_)
  refine W.eq (g2 := F0 m 25 ls []) rfl ?_
  refine W.widen (k := 2) (n := 70) (Nat.le_of_ble_eq_true rfl) (Nat.le_of_ble_eq_true rfl) ?_
  have hw : CW D A s.heap _ _ (wld cKL (adL [h0, x2, x3]) cA cxhL) := C3
  exact fin _ _ _ _ _ (by decide +kernel) rfl hw
def cKN : KK := [.inr (1, [0, 1, 2, 3]), .inl 6, .inl 6, .inl 64]
def cxhN : HH := (hput (fun _ _ => 0) 0 0 2)
set_option maxHeartbeats 4000000 in
set_option maxRecDepth 100000 in
theorem m20 (l : Launch) : MetC l e20 cKN cxhN 1 3 76 := by
  refine metC_of pt20 (by decide +kernel) rfl rfl rfl (by decide) (o0 := 202) (oix := 3) (by decide +kernel) (by decide +kernel) (by decide +kernel) (fun p e s m args below meth c Q D cA A h0 ls F hin hl C0 fin => ?_)
  refine o_int F hl C0 (Cn := RX1) (T := TX1) (N := 4) rfl 0 1 (z := 2) (by decide +kernel : FR 1 9 = some (1, 0, false, 203)) (by decide +kernel) .int rfl (by decide +kernel) (by decide +kernel) (Nat.le_of_ble_eq_true rfl) (fun _ _ _ _ _ k => lv_iconst (n := 2) (v := 2) F.1 F.2.1 (by decide +kernel) (by decide +kernel) k) (by decide +kernel) (by decide +kernel) (fun H1 l1 C1 => ?_)
  refine W.eq (g2 := F0 m 9 ls []) rfl ?_
  refine o_arr F hin hl C1 (Cn := RX1) (T := TX1) (N := 4) rfl 1 2 6 (z := 6) (by decide +kernel : FR 1 15 = some (1, 1, false, 205)) (by decide +kernel) (by decide +kernel) rfl (Nat.le_of_ble_eq_true rfl) (by decide +kernel) (by decide +kernel) (by decide +kernel) (Nat.le_of_ble_eq_true rfl) (Nat.le_of_ble_eq_true rfl) (fun _ _ _ _ _ k => lv_bipush (n := 6) (v := 6) F.1 F.2.1 (by decide +kernel) (by decide +kernel) k) (by decide +kernel) (by decide +kernel) (by decide +kernel) (fun x2 H2 l2 C2 => ?_)
  refine W.eq (g2 := F0 m 17 ls []) rfl ?_
  refine o_arr F hin hl C2 (Cn := RX1) (T := TX1) (N := 4) rfl 2 2 6 (z := 6) (by decide +kernel : FR 1 19 = some (1, 2, false, 208)) (by decide +kernel) (by decide +kernel) rfl (Nat.le_of_ble_eq_true rfl) (by decide +kernel) (by decide +kernel) (by decide +kernel) (Nat.le_of_ble_eq_true rfl) (Nat.le_of_ble_eq_true rfl) (fun _ _ _ _ _ k => lv_bipush (n := 6) (v := 6) F.1 F.2.1 (by decide +kernel) (by decide +kernel) k) (by decide +kernel) (by decide +kernel) (by decide +kernel) (fun x3 H3 l3 C3 => ?_)
  refine W.eq (g2 := F0 m 25 ls []) rfl ?_
  refine o_arr F hin hl C3 (Cn := RX1) (T := TX1) (N := 4) rfl 3 2 64 (z := 64) (by decide +kernel : FR 1 22 = some (1, 3, false, 209)) (by decide +kernel) (by decide +kernel) rfl (Nat.le_of_ble_eq_true rfl) (by decide +kernel) (by decide +kernel) (by decide +kernel) (Nat.le_of_ble_eq_true rfl) (Nat.le_of_ble_eq_true rfl) (fun _ _ _ _ _ k => lv_bipush (n := 64) (v := 64) F.1 F.2.1 (by decide +kernel) (by decide +kernel) k) (by decide +kernel) (by decide +kernel) (by decide +kernel) (fun x4 H4 l4 C4 => ?_)
  refine W.eq (g2 := F0 m 33 ls []) rfl ?_
  refine W.widen (k := 3) (n := 76) (Nat.le_of_ble_eq_true rfl) (Nat.le_of_ble_eq_true rfl) ?_
  have hw : CW D A s.heap _ _ (wld cKN (adL [h0, x2, x3, x4]) cA cxhN) := C4
  exact fin _ _ _ _ _ (by decide +kernel) rfl hw
def cKS : KK := [.inr (6, [1, 0]), .inl 6]
def cxhS : HH := (hput (fun _ _ => 0) 0 1 0)
set_option maxHeartbeats 4000000 in
set_option maxRecDepth 100000 in
theorem m84 (l : Launch) : MetC l e84 cKS cxhS 1 1 6 := by
  refine metC_of pt84 (by decide +kernel) rfl rfl rfl (by decide) (o0 := 318) (oix := 3) (by decide +kernel) (by decide +kernel) (by decide +kernel) (fun p e s m args below meth c Q D cA A h0 ls F hin hl C0 fin => ?_)
  refine o_arr F hin hl C0 (Cn := RX7) (T := TX7) (N := 2) rfl 0 2 6 (z := 6) (by decide +kernel : FR 7 9 = some (6, 0, false, 319)) (by decide +kernel) (by decide +kernel) rfl (Nat.le_of_ble_eq_true rfl) (by decide +kernel) (by decide +kernel) (by decide +kernel) (Nat.le_of_ble_eq_true rfl) (Nat.le_of_ble_eq_true rfl) (fun _ _ _ _ _ k => lv_bipush (n := 6) (v := 6) F.1 F.2.1 (by decide +kernel) (by decide +kernel) k) (by decide +kernel) (by decide +kernel) (by decide +kernel) (fun x1 H1 l1 C1 => ?_)
  refine W.eq (g2 := F0 m 12 ls []) rfl ?_
  refine o_int F hl C1 (Cn := RX7) (T := TX7) (N := 2) rfl 1 1 (z := 0) (by decide +kernel : FR 7 15 = some (6, 1, false, 320)) (by decide +kernel) .int rfl (by decide +kernel) (by decide +kernel) (Nat.le_of_ble_eq_true rfl) (fun _ _ _ _ _ k => lv_iconst (n := 0) (v := 0) F.1 F.2.1 (by decide +kernel) (by decide +kernel) k) (by decide +kernel) (by decide +kernel) (fun H2 l2 C2 => ?_)
  refine W.eq (g2 := F0 m 17 ls []) rfl ?_
  refine W.widen (k := 1) (n := 6) (Nat.le_of_ble_eq_true rfl) (Nat.le_of_ble_eq_true rfl) ?_
  have hw : CW D A s.heap _ _ (wld cKS (adL [h0, x1]) cA cxhS) := C2
  exact fin _ _ _ _ _ (by decide +kernel) rfl hw
def cKW : KK := [.inr (7, [0, 0, 1, 2, 3, 4, 5]), .inl 4, .inl 16, .inl 144, .inl 4554, .inl 4554]
def cxhW : HH := (hput (hput (fun _ _ => 0) 0 0 0) 0 1 0)
set_option maxHeartbeats 4000000 in
set_option maxRecDepth 100000 in
theorem m87 (l : Launch) : MetC l e87 cKW cxhW 1 5 9272 := by
  refine metC_of pt87 (by decide +kernel) rfl rfl rfl (by decide) (o0 := 224) (oix := 3) (by decide +kernel) (by decide +kernel) (by decide +kernel) (fun p e s m args below meth c Q D cA A h0 ls F hin hl C0 fin => ?_)
  refine o_int F hl C0 (Cn := RX8) (T := TX8) (N := 7) rfl 0 1 (z := 0) (by decide +kernel : FR 8 9 = some (7, 0, false, 225)) (by decide +kernel) .int rfl (by decide +kernel) (by decide +kernel) (Nat.le_of_ble_eq_true rfl) (fun _ _ _ _ _ k => lv_iconst (n := 0) (v := 0) F.1 F.2.1 (by decide +kernel) (by decide +kernel) k) (by decide +kernel) (by decide +kernel) (fun H1 l1 C1 => ?_)
  refine W.eq (g2 := F0 m 9 ls []) rfl ?_
  refine o_int F hl C1 (Cn := RX8) (T := TX8) (N := 7) rfl 1 1 (z := 0) (by decide +kernel : FR 8 15 = some (7, 1, false, 226)) (by decide +kernel) .int rfl (by decide +kernel) (by decide +kernel) (Nat.le_of_ble_eq_true rfl) (fun _ _ _ _ _ k => lv_iconst (n := 0) (v := 0) F.1 F.2.1 (by decide +kernel) (by decide +kernel) k) (by decide +kernel) (by decide +kernel) (fun H2 l2 C2 => ?_)
  refine W.eq (g2 := F0 m 14 ls []) rfl ?_
  refine o_arr F hin hl C2 (Cn := RX8) (T := TX8) (N := 7) rfl 2 1 4 (z := 4) (by decide +kernel : FR 8 18 = some (7, 2, false, 227)) (by decide +kernel) (by decide +kernel) rfl (Nat.le_of_ble_eq_true rfl) (by decide +kernel) (by decide +kernel) (by decide +kernel) (Nat.le_of_ble_eq_true rfl) (Nat.le_of_ble_eq_true rfl) (fun _ _ _ _ _ k => lv_iconst (n := 4) (v := 4) F.1 F.2.1 (by decide +kernel) (by decide +kernel) k) (by decide +kernel) (by decide +kernel) (by decide +kernel) (fun x3 H3 l3 C3 => ?_)
  refine W.eq (g2 := F0 m 21 ls []) rfl ?_
  refine o_arr F hin hl C3 (Cn := RX8) (T := TX8) (N := 7) rfl 3 2 16 (z := 16) (by decide +kernel : FR 8 22 = some (7, 3, false, 228)) (by decide +kernel) (by decide +kernel) rfl (Nat.le_of_ble_eq_true rfl) (by decide +kernel) (by decide +kernel) (by decide +kernel) (Nat.le_of_ble_eq_true rfl) (Nat.le_of_ble_eq_true rfl) (fun _ _ _ _ _ k => lv_bipush (n := 16) (v := 16) F.1 F.2.1 (by decide +kernel) (by decide +kernel) k) (by decide +kernel) (by decide +kernel) (by decide +kernel) (fun x4 H4 l4 C4 => ?_)
  refine W.eq (g2 := F0 m 29 ls []) rfl ?_
  refine o_arr F hin hl C4 (Cn := RX8) (T := TX8) (N := 7) rfl 4 3 144 (z := 144) (by decide +kernel : FR 8 25 = some (7, 4, false, 229)) (by decide +kernel) (by decide +kernel) rfl (Nat.le_of_ble_eq_true rfl) (by decide +kernel) (by decide +kernel) (by decide +kernel) (Nat.le_of_ble_eq_true rfl) (Nat.le_of_ble_eq_true rfl) (fun _ _ _ _ _ k => lv_sipush (n := 144) (v := 144) F.1 F.2.1 (by decide +kernel) (by decide +kernel) k) (by decide +kernel) (by decide +kernel) (by decide +kernel) (fun x5 H5 l5 C5 => ?_)
  refine W.eq (g2 := F0 m 38 ls []) rfl ?_
  refine o_arr F hin hl C5 (Cn := RX8) (T := TX8) (N := 7) rfl 5 3 4554 (z := 4554) (by decide +kernel : FR 8 28 = some (7, 5, false, 230)) (by decide +kernel) (by decide +kernel) rfl (Nat.le_of_ble_eq_true rfl) (by decide +kernel) (by decide +kernel) (by decide +kernel) (Nat.le_of_ble_eq_true rfl) (Nat.le_of_ble_eq_true rfl) (fun _ _ _ _ _ k => lv_sipush (n := 4554) (v := 4554) F.1 F.2.1 (by decide +kernel) (by decide +kernel) k) (by decide +kernel) (by decide +kernel) (by decide +kernel) (fun x6 H6 l6 C6 => ?_)
  refine W.eq (g2 := F0 m 47 ls []) rfl ?_
  refine o_arr F hin hl C6 (Cn := RX8) (T := TX8) (N := 7) rfl 6 3 4554 (z := 4554) (by decide +kernel : FR 8 31 = some (7, 6, false, 231)) (by decide +kernel) (by decide +kernel) rfl (Nat.le_of_ble_eq_true rfl) (by decide +kernel) (by decide +kernel) (by decide +kernel) (Nat.le_of_ble_eq_true rfl) (Nat.le_of_ble_eq_true rfl) (fun _ _ _ _ _ k => lv_sipush (n := 4554) (v := 4554) F.1 F.2.1 (by decide +kernel) (by decide +kernel) k) (by decide +kernel) (by decide +kernel) (by decide +kernel) (fun x7 H7 l7 C7 => ?_)
  refine W.eq (g2 := F0 m 56 ls []) rfl ?_
  refine W.widen (k := 5) (n := 9272) (Nat.le_of_ble_eq_true rfl) (Nat.le_of_ble_eq_true rfl) ?_
  have hw : CW D A s.heap _ _ (wld cKW (adL [h0, x3, x4, x5, x6, x7]) cA cxhW) := C7
  exact fin _ _ _ _ _ (by decide +kernel) rfl hw
def cKP : KK := [.inr (4, [1, 0, 0, 2, 0, 3, 4, 5, 6, 0]), .inl 6, .inl 6, .inl 6, .inl 6, .inl 6, .inl 6]
def cxhP : HH := (hput (hput (hput (hput (fun _ _ => 0) 0 1 2) 0 2 0) 0 4 0) 0 9 0)
set_option maxHeartbeats 4000000 in
set_option maxRecDepth 100000 in
theorem m54 (l : Launch) : MetC l e54 cKP cxhP 1 6 36 := by
  refine metC_of pt54 (by decide +kernel) rfl rfl rfl (by decide) (o0 := 252) (oix := 3) (by decide +kernel) (by decide +kernel) (by decide +kernel) (fun p e s m args below meth c Q D cA A h0 ls F hin hl C0 fin => ?_)
  refine o_arr F hin hl C0 (Cn := RX5) (T := TX5) (N := 10) rfl 0 2 6 (z := 6) (by decide +kernel : FR 5 9 = some (4, 0, false, 253)) (by decide +kernel) (by decide +kernel) rfl (Nat.le_of_ble_eq_true rfl) (by decide +kernel) (by decide +kernel) (by decide +kernel) (Nat.le_of_ble_eq_true rfl) (Nat.le_of_ble_eq_true rfl) (fun _ _ _ _ _ k => lv_bipush (n := 6) (v := 6) F.1 F.2.1 (by decide +kernel) (by decide +kernel) k) (by decide +kernel) (by decide +kernel) (by decide +kernel) (fun x1 H1 l1 C1 => ?_)
  refine W.eq (g2 := F0 m 12 ls []) rfl ?_
  refine o_int F hl C1 (Cn := RX5) (T := TX5) (N := 10) rfl 1 1 (z := 2) (by decide +kernel : FR 5 15 = some (4, 1, false, 254)) (by decide +kernel) .int rfl (by decide +kernel) (by decide +kernel) (Nat.le_of_ble_eq_true rfl) (fun _ _ _ _ _ k => lv_iconst (n := 2) (v := 2) F.1 F.2.1 (by decide +kernel) (by decide +kernel) k) (by decide +kernel) (by decide +kernel) (fun H2 l2 C2 => ?_)
  refine W.eq (g2 := F0 m 17 ls []) rfl ?_
  refine o_int F hl C2 (Cn := RX5) (T := TX5) (N := 10) rfl 2 1 (z := 0) (by decide +kernel : FR 5 19 = some (4, 2, false, 255)) (by decide +kernel) .int rfl (by decide +kernel) (by decide +kernel) (Nat.le_of_ble_eq_true rfl) (fun _ _ _ _ _ k => lv_iconst (n := 0) (v := 0) F.1 F.2.1 (by decide +kernel) (by decide +kernel) k) (by decide +kernel) (by decide +kernel) (fun H3 l3 C3 => ?_)
  refine W.eq (g2 := F0 m 22 ls []) rfl ?_
  refine o_arr F hin hl C3 (Cn := RX5) (T := TX5) (N := 10) rfl 3 2 6 (z := 6) (by decide +kernel : FR 5 22 = some (4, 3, false, 256)) (by decide +kernel) (by decide +kernel) rfl (Nat.le_of_ble_eq_true rfl) (by decide +kernel) (by decide +kernel) (by decide +kernel) (Nat.le_of_ble_eq_true rfl) (Nat.le_of_ble_eq_true rfl) (fun _ _ _ _ _ k => lv_bipush (n := 6) (v := 6) F.1 F.2.1 (by decide +kernel) (by decide +kernel) k) (by decide +kernel) (by decide +kernel) (by decide +kernel) (fun x4 H4 l4 C4 => ?_)
  refine W.eq (g2 := F0 m 30 ls []) rfl ?_
  refine o_int F hl C4 (Cn := RX5) (T := TX5) (N := 10) rfl 4 1 (z := 0) (by decide +kernel : FR 5 25 = some (4, 4, false, 257)) (by decide +kernel) .int rfl (by decide +kernel) (by decide +kernel) (Nat.le_of_ble_eq_true rfl) (fun _ _ _ _ _ k => lv_iconst (n := 0) (v := 0) F.1 F.2.1 (by decide +kernel) (by decide +kernel) k) (by decide +kernel) (by decide +kernel) (fun H5 l5 C5 => ?_)
  refine W.eq (g2 := F0 m 35 ls []) rfl ?_
  refine o_arr F hin hl C5 (Cn := RX5) (T := TX5) (N := 10) rfl 5 2 6 (z := 6) (by decide +kernel : FR 5 28 = some (4, 5, false, 258)) (by decide +kernel) (by decide +kernel) rfl (Nat.le_of_ble_eq_true rfl) (by decide +kernel) (by decide +kernel) (by decide +kernel) (Nat.le_of_ble_eq_true rfl) (Nat.le_of_ble_eq_true rfl) (fun _ _ _ _ _ k => lv_bipush (n := 6) (v := 6) F.1 F.2.1 (by decide +kernel) (by decide +kernel) k) (by decide +kernel) (by decide +kernel) (by decide +kernel) (fun x6 H6 l6 C6 => ?_)
  refine W.eq (g2 := F0 m 43 ls []) rfl ?_
  refine o_arr F hin hl C6 (Cn := RX5) (T := TX5) (N := 10) rfl 6 2 6 (z := 6) (by decide +kernel : FR 5 31 = some (4, 6, false, 259)) (by decide +kernel) (by decide +kernel) rfl (Nat.le_of_ble_eq_true rfl) (by decide +kernel) (by decide +kernel) (by decide +kernel) (Nat.le_of_ble_eq_true rfl) (Nat.le_of_ble_eq_true rfl) (fun _ _ _ _ _ k => lv_bipush (n := 6) (v := 6) F.1 F.2.1 (by decide +kernel) (by decide +kernel) k) (by decide +kernel) (by decide +kernel) (by decide +kernel) (fun x7 H7 l7 C7 => ?_)
  refine W.eq (g2 := F0 m 51 ls []) rfl ?_
  refine o_arr F hin hl C7 (Cn := RX5) (T := TX5) (N := 10) rfl 7 2 6 (z := 6) (by decide +kernel : FR 5 34 = some (4, 7, false, 260)) (by decide +kernel) (by decide +kernel) rfl (Nat.le_of_ble_eq_true rfl) (by decide +kernel) (by decide +kernel) (by decide +kernel) (Nat.le_of_ble_eq_true rfl) (Nat.le_of_ble_eq_true rfl) (fun _ _ _ _ _ k => lv_bipush (n := 6) (v := 6) F.1 F.2.1 (by decide +kernel) (by decide +kernel) k) (by decide +kernel) (by decide +kernel) (by decide +kernel) (fun x8 H8 l8 C8 => ?_)
  refine W.eq (g2 := F0 m 59 ls []) rfl ?_
  refine o_arr F hin hl C8 (Cn := RX5) (T := TX5) (N := 10) rfl 8 2 6 (z := 6) (by decide +kernel : FR 5 37 = some (4, 8, false, 261)) (by decide +kernel) (by decide +kernel) rfl (Nat.le_of_ble_eq_true rfl) (by decide +kernel) (by decide +kernel) (by decide +kernel) (Nat.le_of_ble_eq_true rfl) (Nat.le_of_ble_eq_true rfl) (fun _ _ _ _ _ k => lv_bipush (n := 6) (v := 6) F.1 F.2.1 (by decide +kernel) (by decide +kernel) k) (by decide +kernel) (by decide +kernel) (by decide +kernel) (fun x9 H9 l9 C9 => ?_)
  refine W.eq (g2 := F0 m 67 ls []) rfl ?_
  refine o_int F hl C9 (Cn := RX5) (T := TX5) (N := 10) rfl 9 1 (z := 0) (by decide +kernel : FR 5 40 = some (4, 9, false, 262)) (by decide +kernel) .int rfl (by decide +kernel) (by decide +kernel) (Nat.le_of_ble_eq_true rfl) (fun _ _ _ _ _ k => lv_iconst (n := 0) (v := 0) F.1 F.2.1 (by decide +kernel) (by decide +kernel) k) (by decide +kernel) (by decide +kernel) (fun H10 l10 C10 => ?_)
  refine W.eq (g2 := F0 m 72 ls []) rfl ?_
  refine W.widen (k := 6) (n := 36) (Nat.le_of_ble_eq_true rfl) (Nat.le_of_ble_eq_true rfl) ?_
  have hw : CW D A s.heap _ _ (wld cKP (adL [h0, x1, x4, x6, x7, x8, x9]) cA cxhP) := C10
  exact fin _ _ _ _ _ (by decide +kernel) rfl hw
